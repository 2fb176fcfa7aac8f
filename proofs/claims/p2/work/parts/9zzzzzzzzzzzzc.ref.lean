def o_P19_sweepE : List Cond := [.methodLink RX19 31 yX13_size, .instanceMethod yX13_size, .selects RX13 yX13_size yX13_size, .initialized RX13, .methodLink RX19 57 yX13_get, .instanceMethod yX13_get, .selects RX13 yX13_get yX13_get, .fieldLink RX19 76 "SsaForgeModel$Block" "phis" "Ljava/util/ArrayList;", .methodLink RX19 53 yJx4a65c_size_8abf5, .instanceMethod yJx4a65c_size_8abf5, .selects RJx4a65c yJx4a65c_size_8abf5 yJx4a65c_size_8abf5, .initialized RJx4a65c, .fieldLink RX19 116 "SsaForgeModel$Block" "rows" "Ljava/util/ArrayList;", .methodLink RX19 41 yJx4a65c_get_915e3, .instanceMethod yJx4a65c_get_915e3, .selects RJx4a65c yJx4a65c_get_915e3 yJx4a65c_get_915e3, .classLink RX19 65 "SsaForgeModel$Row", .fieldLink RX19 319 "SsaForgeModel$Row" "gone" "Z", .methodLink RX19 54 yJx4a65c_remove_915e3, .instanceMethod yJx4a65c_remove_915e3, .selects RJx4a65c yJx4a65c_remove_915e3 yJx4a65c_remove_915e3, .classLink RX19 79 "SsaForgeModel$Phi", .fieldLink RX19 335 "SsaForgeModel$Phi" "gone" "Z"]
def v_P19_sweepE : List Cond := .code yX19_sweep cX19_sweep 4 none :: (o_P19_sweepE ++ (v_PC_size ++ (v_PC_get ++ (wsX120 ++ (v_PL_size ++ (v_PL_get ++ (wsX170 ++ (v_PL_remove ++ (wsX150 ++ [])))))))))
theorem mow_P19_sweepE : ∀ w ∈ o_P19_sweepE, w ∈ v_P19_sweepE := fun _ h => List.mem_cons_of_mem _ (List.mem_append_left _ h)
theorem mem_P19_sweepE_0 : ∀ w ∈ v_PC_size, w ∈ v_P19_sweepE := fun _ h => List.mem_cons_of_mem _ (List.mem_append_right _ (List.mem_append_left _ h))
theorem mem_P19_sweepE_1 : ∀ w ∈ v_PC_get, w ∈ v_P19_sweepE := fun _ h => List.mem_cons_of_mem _ (List.mem_append_right _ (List.mem_append_right _ (List.mem_append_left _ h)))
theorem mem_P19_sweepE_2 : ∀ w ∈ wsX120, w ∈ v_P19_sweepE := fun _ h => List.mem_cons_of_mem _ (List.mem_append_right _ (List.mem_append_right _ (List.mem_append_right _ (List.mem_append_left _ h))))
theorem mem_P19_sweepE_3 : ∀ w ∈ v_PL_size, w ∈ v_P19_sweepE := fun _ h => List.mem_cons_of_mem _ (List.mem_append_right _ (List.mem_append_right _ (List.mem_append_right _ (List.mem_append_right _ (List.mem_append_left _ h)))))
theorem mem_P19_sweepE_4 : ∀ w ∈ v_PL_get, w ∈ v_P19_sweepE := fun _ h => List.mem_cons_of_mem _ (List.mem_append_right _ (List.mem_append_right _ (List.mem_append_right _ (List.mem_append_right _ (List.mem_append_right _ (List.mem_append_left _ h))))))
theorem mem_P19_sweepE_5 : ∀ w ∈ wsX170, w ∈ v_P19_sweepE := fun _ h => List.mem_cons_of_mem _ (List.mem_append_right _ (List.mem_append_right _ (List.mem_append_right _ (List.mem_append_right _ (List.mem_append_right _ (List.mem_append_right _ (List.mem_append_left _ h)))))))
theorem mem_P19_sweepE_6 : ∀ w ∈ v_PL_remove, w ∈ v_P19_sweepE := fun _ h => List.mem_cons_of_mem _ (List.mem_append_right _ (List.mem_append_right _ (List.mem_append_right _ (List.mem_append_right _ (List.mem_append_right _ (List.mem_append_right _ (List.mem_append_right _ (List.mem_append_left _ h))))))))
theorem mem_P19_sweepE_7 : ∀ w ∈ wsX150, w ∈ v_P19_sweepE := fun _ h => List.mem_cons_of_mem _ (List.mem_append_right _ (List.mem_append_right _ (List.mem_append_right _ (List.mem_append_right _ (List.mem_append_right _ (List.mem_append_right _ (List.mem_append_right _ (List.mem_append_right _ (List.mem_append_left _ h)))))))))
set_option maxRecDepth 20000 in
theorem gw_P19_sweepE : v_P19_sweepE.all goodWord = true := by decide +kernel
set_option maxRecDepth 20000 in
theorem g_P19_sweepE_PC_size : GoodIn v_P19_sweepE (wsV RX19 31 RX13 yX13_size v_PC_size) := goodIn_app (goodIn_sub (fun w h => mow_P19_sweepE w (by revert w h; decide +kernel)) (by decide +kernel)) (goodIn_sub mem_P19_sweepE_0 gw_PC_size)
set_option maxRecDepth 20000 in
theorem g_P19_sweepE_PC_get : GoodIn v_P19_sweepE (wsV RX19 57 RX13 yX13_get v_PC_get) := goodIn_app (goodIn_sub (fun w h => mow_P19_sweepE w (by revert w h; decide +kernel)) (by decide +kernel)) (goodIn_sub mem_P19_sweepE_1 gw_PC_get)
set_option maxRecDepth 20000 in
theorem g_P19_sweepE_PL_size : GoodIn v_P19_sweepE (wsV RX19 53 RJx4a65c yJx4a65c_size_8abf5 v_PL_size) := goodIn_app (goodIn_sub (fun w h => mow_P19_sweepE w (by revert w h; decide +kernel)) (by decide +kernel)) (goodIn_sub mem_P19_sweepE_3 gw_PL_size)
set_option maxRecDepth 20000 in
theorem g_P19_sweepE_PL_get : GoodIn v_P19_sweepE (wsV RX19 41 RJx4a65c yJx4a65c_get_915e3 v_PL_get) := goodIn_app (goodIn_sub (fun w h => mow_P19_sweepE w (by revert w h; decide +kernel)) (by decide +kernel)) (goodIn_sub mem_P19_sweepE_4 gw_PL_get)
set_option maxRecDepth 20000 in
theorem g_P19_sweepE_PL_remove : GoodIn v_P19_sweepE (wsV RX19 54 RJx4a65c yJx4a65c_remove_915e3 v_PL_remove) := goodIn_app (goodIn_sub (fun w h => mow_P19_sweepE w (by revert w h; decide +kernel)) (by decide +kernel)) (goodIn_sub mem_P19_sweepE_6 gw_PL_remove)
set_option maxHeartbeats 4000000 in
set_option maxRecDepth 100000 in
theorem c_P19_sweepE (l : Launch) (dC : Nat → ClassId) (dI : Nat → Nat → Nat) (cI : ClassId) (cZ : ClassId) (hc : Nat) (v13_0 : Value) (v13_1 : Value) (v13_2 : Value) (v13_3 : Value) (v13_4 : Value) (v13_6 : Value) (la : Nat) (cO : ClassId) (L : List Nat) (P : PO) (sx_ed : Nat) (hX_a : ALP L P cO cI cZ sx_ed la) (sz : Nat) : Met l yX19_sweep v_P19_sweepE ({ frames := 4, cells := 0, slots := 0, locals := 106 }) (va_Pc [.ref hc] (fun U => U.heap.size = sz ∧ va_P (dC, dI) vwQ ([(hc, .inr (12, [v13_0, v13_1, v13_2, v13_3, v13_4, .ref la, v13_6]))] ++ va_pl L (pE P)) U.heap ∧ va_K (dC, dI) vwQ [(cO, .object "java/lang/Object"), (cI, .int), (cZ, .boolean)] U ∧ va_D (fun _ => True) ([(hc, .inr (12, [v13_0, v13_1, v13_2, v13_3, v13_4, .ref la, v13_6]))] ++ va_pl L (pE P)) ∧ va_Nw (.castable "SsaForgeModel$Block" "SsaForgeModel$Block") U ∧ va_Nw (.castable "SsaForgeModel$Row" "SsaForgeModel$Row") U ∧ va_Nw (.castable "SsaForgeModel$Row" "java/lang/Object") U ∧ va_Nw (.castable "SsaForgeModel$Phi" "java/lang/Object") U ∧ va_Nw (.castable "SsaForgeModel$Block" "java/lang/Object") U ∧ va_Nw (.castable "SsaForgeModel$Phi" "SsaForgeModel$Phi") U)) (va_Qv (fun _ : Unit => True) (fun (_ : Unit) (t : State) => ∃ (Pn_9 : PO), ((KEP [] L P L Pn_9 la ∧ ALP L Pn_9 cO cI cZ sx_ed la ∧ Pn_9.tot 2 la ≤ P.tot 2 la ∧ Pn_9.tot 1 la ≤ P.tot 1 la ∧ SWE P Pn_9 la)) ∧ va_P (dC, dI) vwQ ([(hc, .inr (12, [v13_0, v13_1, v13_2, v13_3, v13_4, .ref la, v13_6]))] ++ va_pl L (pE Pn_9)) t.heap ∧ va_K (dC, dI) vwQ [(cO, .object "java/lang/Object"), (cI, .int), (cZ, .boolean)] t ∧ va_D (va_A ([(hc, .inr (12, [v13_0, v13_1, v13_2, v13_3, v13_4, .ref la, v13_6]))] ++ va_pl L (pE P)) sz) ([(hc, .inr (12, [v13_0, v13_1, v13_2, v13_3, v13_4, .ref la, v13_6]))] ++ va_pl L (pE Pn_9))) (va_A ([(hc, .inr (12, [v13_0, v13_1, v13_2, v13_3, v13_4, .ref la, v13_6]))] ++ va_pl L (pE P)) sz)) 0 0 (va_A ([(hc, .inr (12, [v13_0, v13_1, v13_2, v13_3, v13_4, .ref la, v13_6]))] ++ va_pl L (pE P)) sz) := by
  refine Met.ofW (cc := cX19_sweep) (maxL := 4) (ret := none) (by decide) rfl ?_
  intro p e s m args below meth c s₁ B hml hv
  obtain ⟨rfl, hsz, hP, hK, hD0, hp0, hp1, hp2, hp3, hp4, hp5⟩ := hv
  have hx := B.exec
  have hb := B.bytes
  have hr := B.returns
  have hts := atoms_spec (ws := v_P19_sweepE) B.pre
  have hown : s.vm.findClass RX19 = some m.cls := findClass_of_methodNamed B.named
  have hlocks := B.notSynchronized
  have ow : ∀ {k : Nat} {w : Cond}, o_P19_sweepE[k]? = some w → w.before ([.ref hc] : List Value).toArray s = true := fun h => hts _ (mow_P19_sweepE _ (List.mem_of_getElem? h))
  subst hsz
  have hD := hD0.self (sz := s.heap.size)
  generalize hAe : va_A ([(hc, .inr (12, [v13_0, v13_1, v13_2, v13_3, v13_4, .ref la, v13_6]))] ++ va_pl L (pE P)) s.heap.size = A at hD ⊢
  have hA : ∀ q : Nat, s.heap.size ≤ q → A q := fun q h => by rw [← hAe]; exact Or.inr h
  have hS : va_S A s.heap s.heap [] := va_S.rf
  have hP : va_P (dC, dI) vwQ ([(hc, .inr (12, [v13_0, v13_1, v13_2, v13_3, v13_4, .ref la, v13_6]))] ++ va_pl L (pE P)) s.heap := hP
  have hl := lv_entry ([.ref hc]) (n := 4) (Nat.le_of_ble_eq_true rfl)
  rw [lg_entry_eq]
  generalize (lg_sl ([.ref hc]) ++ List.replicate (4 - (lg_sl ([.ref hc])).length) Slot.unset).toArray = ls at hl ⊢
  have hl : lv_has ls 4 [(0, .ref hc)] := hl
  obtain ⟨H, hH⟩ : ∃ H, H = s.heap := ⟨_, rfl⟩
  rw [← hH] at hP
  have hS : va_S A s.heap H [] := by rw [hH]; exact hS
  rw [← hH]
  refine zW_cap (fun Q hQ => ?_)
  have hX_a9 := hX_a
  have hla := hX_a.lok.2.2.1
  have hla2 := hX_a.1.1.2.1
  have hsw0 := SWJ.first P la
  refine lv_iconst (v := 0) hx hb dX19_sweep_0 (by decide) ?_
  refine lv_istore_n (lv' := [(1, .int 0), (0, .ref hc)]) hx hb dX19_sweep_1 rfl hl (by decide) rfl (fun ls hl => ?_)
  have key2 : ∀ n2 : Nat, ∀ (d2_1 : Int) (P2 : PO) (ls : Array Slot) (H : Heap) (locs : List Loc), (P2.tot 2 la ≤ P.tot 2 la ∧ P2.tot 1 la ≤ P.tot 1 la) → (KEP [] L P L P2 la) → (ALP L P2 cO cI cZ sx_ed la) → (0 ≤ d2_1 ∧ d2_1 ≤ P.lz la) → (SWJ P P2 la (d2_1) (SWU P P2 la (d2_1))) → ((400 - d2_1 : Int).toNat) < n2 → lv_has ls 4 [(0, .ref hc), (1, .int (zI (d2_1)))] → va_P (dC, dI) vwQ ([(hc, .inr (12, [v13_0, v13_1, v13_2, v13_3, v13_4, .ref la, v13_6]))] ++ va_pl L (pE P2)) H → va_D A ([(hc, .inr (12, [v13_0, v13_1, v13_2, v13_3, v13_4, .ref la, v13_6]))] ++ va_pl L (pE P2)) → va_S A s.heap H locs → W p l e (headSpec v_P19_sweepE ({ frames := 4, cells := 0, slots := 0, locals := 106 })).room s m ([.ref hc] : List Value).toArray below meth c H locs 0 0 Q (F0 m 2 ls []) := by
    intro n2
    induction n2 with
    | zero => intro d2_1 P2 ls H locs tP2 kP2 aP2 jd2_1 js2 hm2; exact absurd hm2 (by omega)
    | succ n2 ih2 =>
      intro d2_1 P2 ls H locs tP2 kP2 aP2 jd2_1 js2 hm2 hl hP hD hS
      have hq_1 : la ∈ L ∧ P2.kd la = 30 := kP2.mem hX_a.lok.1 hX_a.lok.2.1 (by decide)
      have hz9 := kP2.2.2.1
      have hA_2 : KEP [] L P L P2 la := (KEP.refl [] L P la).trans kP2
      have hj2 := kP2
      skip
      refine lv_iload_n hx hb dX19_sweep_2 rfl (lv_at hl 1 rfl) ?_
      refine lv_aload_n hx hb dX19_sweep_3 rfl (lv_at hl 0 rfl) ?_
      have hX_l := aP2.lok
      have hlz9 := hX_l.2.2.1
      have hPc := hP.part (X := [(hc, .inr (12, [v13_0, v13_1, v13_2, v13_3, v13_4, .ref la, v13_6]))]) (cx := [(hc, .inr (12, [v13_0, v13_1, v13_2, v13_3, v13_4, .ref la, v13_6]))]) (pl := va_pl L (pE P2)) [0] rfl
      have hDc := hD.part (X := [(hc, .inr (12, [v13_0, v13_1, v13_2, v13_3, v13_4, .ref la, v13_6]))]) (cx := [(hc, .inr (12, [v13_0, v13_1, v13_2, v13_3, v13_4, .ref la, v13_6]))]) (pl := va_pl L (pE P2)) [0] (by decide) rfl
      have hKc := hK.sub (tys' := [(cO, .object "java/lang/Object")]) [0] rfl
      have hFc := va_freeP (X := [(hc, .inr (12, [v13_0, v13_1, v13_2, v13_3, v13_4, .ref la, v13_6]))]) (cx := [(hc, .inr (12, [v13_0, v13_1, v13_2, v13_3, v13_4, .ref la, v13_6]))]) (pl := va_pl L (pE P2)) hD hS hA [0] rfl
      refine va_calli (va_runV (As := []) (rest := [.int (zI (d2_1))]) ⟨hx, hb, hml, hown, hts⟩ (c_PC_size l dC dI hc v13_0 v13_1 v13_2 v13_3 v13_4 v13_6 la cO L P2 hX_l H.size) (cwV 0 hts g_P19_sweepE_PC_size rfl rfl rfl (by decide +kernel) ⟨(Nat.le_of_ble_eq_true rfl), (Nat.le_of_ble_eq_true rfl)⟩) ⟨fun a U g mk q => by obtain ⟨q0, q1, qP, qK, qD⟩ := q; exact ⟨q0, q1, qP, va_K.moved (u := U) (U := U.calling g mk a) (Vm.Alike.refl U.vm) qK, qD⟩, va_recv hKc hPc (ci := 12) (q0 := 0) rfl rfl, fun U hU hW => ⟨rfl, by rw [hU], by rw [hU]; exact hPc, va_K.moved hW.alike hKc, hDc.weaken (fun _ _ _ _ => trivial)⟩⟩ rfl rfl hl.1 rfl (lv_room (Nat.le_of_ble_eq_true rfl)) dX19_sweep_4 ⟨(Nat.le_of_ble_eq_true rfl), (Nat.le_of_ble_eq_true rfl)⟩) hS (fun q _ h => hFc q h) hFc (fun r_3 u t H1 locs ht hvm hw hB hz1 hk1 hS => ?_)
      obtain ⟨hP1, hK1, hD1⟩ := hB
      rw [ht] at hP1
      have hK1 := va_K.moved hvm.symm hK1
      obtain ⟨hP, hD⟩ := va_joinP (X := [(hc, .inr (12, [v13_0, v13_1, v13_2, v13_3, v13_4, .ref la, v13_6]))]) (cx := [(hc, .inr (12, [v13_0, v13_1, v13_2, v13_3, v13_4, .ref la, v13_6]))]) (wr := []) (rx := [(hc, .inr (12, [v13_0, v13_1, v13_2, v13_3, v13_4, .ref la, v13_6]))]) (pl := va_pl L (pE P2)) (pl1 := va_pl L (pE P2)) hP hD [0] [] rfl rfl (by decide) (by decide) hk1 hFc hP1 hD1
      have hK := (hK.sub (tys' := [(cI, .int), (cZ, .boolean)]) [1, 2] rfl).app hK1
      generalize H1 = H at hP hS ⊢
      have hP : va_P (dC, dI) vwQ ([(hc, .inr (12, [v13_0, v13_1, v13_2, v13_3, v13_4, .ref la, v13_6]))] ++ va_pl L (pE P2)) H := hP
      have hD : va_D A ([(hc, .inr (12, [v13_0, v13_1, v13_2, v13_3, v13_4, .ref la, v13_6]))] ++ va_pl L (pE P2)) := hD
      have hK : va_K (dC, dI) vwQ [(cI, .int), (cZ, .boolean), (cO, .object "java/lang/Object")] s := hK
      refine W.widen (k := 0) (n := 0) (Nat.le_of_ble_eq_true rfl) (Nat.le_of_ble_eq_true rfl) ?_
      obtain rfl : r_3 = (zI (P2.lz la)) := hw
      refine lv_icmp_ge (tgt := 114) hx hb dX19_sweep_7 (by decide) (fun b7 => ?_) (fun b7 => ?_)
      · have yb7 : (P2.lz la : Int) ≤ (d2_1 : Int) := (zI_le (a := P2.lz la) (b := d2_1) (by omega) (by omega) (by omega) (by omega)).mp b7
        subst hQ
        have hK := hK.sub (tys' := [(cO, .object "java/lang/Object"), (cI, .int), (cZ, .boolean)]) [2, 0, 1] rfl
        refine W.widen (k := 0) (n := 0) (Nat.le_of_ble_eq_true rfl) (Nat.le_of_ble_eq_true rfl) ?_
        exact W.vret hx hb hr (fun t ht hW => ⟨⟨(), rfl, trivial, P2, ⟨hA_2, aP2, by omega, by omega, js2.done (by omega)⟩, by rw [ht]; exact hP, va_K.moved hW.alike hK, hD⟩, hS.F ht⟩) hS.2.2 dX19_sweep_114
      · have yb7 : ¬ (P2.lz la : Int) ≤ (d2_1 : Int) := fun q => b7 ((zI_le (a := P2.lz la) (b := d2_1) (by omega) (by omega) (by omega) (by omega)).mpr q)
        refine lv_aload_n hx hb dX19_sweep_10 rfl (lv_at hl 0 rfl) ?_
        refine lv_iload_n hx hb dX19_sweep_11 rfl (lv_at hl 1 rfl) ?_
        have hX_l := aP2.lok
        obtain ⟨x, ex⟩ : ∃ q9 : Nat, q9 = P2.el la (d2_1) := ⟨_, rfl⟩
        have hX_el := ex
        have hPc := hP.part (X := [(hc, .inr (12, [v13_0, v13_1, v13_2, v13_3, v13_4, .ref la, v13_6]))]) (cx := [(hc, .inr (12, [v13_0, v13_1, v13_2, v13_3, v13_4, .ref la, v13_6]))]) (pl := va_pl L (pE P2)) [0] rfl
        have hDc := hD.part (X := [(hc, .inr (12, [v13_0, v13_1, v13_2, v13_3, v13_4, .ref la, v13_6]))]) (cx := [(hc, .inr (12, [v13_0, v13_1, v13_2, v13_3, v13_4, .ref la, v13_6]))]) (pl := va_pl L (pE P2)) [0] (by decide) rfl
        have hKc := hK.sub (tys' := [(cO, .object "java/lang/Object")]) [2] rfl
        have hFc := va_freeP (X := [(hc, .inr (12, [v13_0, v13_1, v13_2, v13_3, v13_4, .ref la, v13_6]))]) (cx := [(hc, .inr (12, [v13_0, v13_1, v13_2, v13_3, v13_4, .ref la, v13_6]))]) (pl := va_pl L (pE P2)) hD hS hA [0] rfl
        refine va_callr (va_runV (As := [.int (zI (d2_1))]) (rest := []) ⟨hx, hb, hml, hown, hts⟩ (c_PC_get l dC dI hc v13_0 v13_1 v13_2 v13_3 v13_4 v13_6 la cO L P2 d2_1 x hX_l (by omega) hX_el H.size) (cwV 1 hts g_P19_sweepE_PC_get rfl rfl rfl (by decide +kernel) ⟨(Nat.le_of_ble_eq_true rfl), (Nat.le_of_ble_eq_true rfl)⟩) ⟨fun a U g mk q => by obtain ⟨q0, q1, qP, qK, qD, e0⟩ := q; exact ⟨q0, q1, qP, va_K.moved (u := U) (U := U.calling g mk a) (Vm.Alike.refl U.vm) qK, qD, va_Nw.same rfl (u := U) (U := U.calling g mk a) rfl e0⟩, va_recv hKc hPc (ci := 12) (q0 := 0) rfl rfl, fun U hU hW => ⟨rfl, by rw [hU], by rw [hU]; exact hPc, va_K.moved hW.alike hKc, hDc.weaken (fun _ _ _ _ => trivial), va_Nw.warmC hW hp0⟩⟩ rfl rfl hl.1 rfl (lv_room (Nat.le_of_ble_eq_true rfl)) dX19_sweep_12 ⟨(Nat.le_of_ble_eq_true rfl), (Nat.le_of_ble_eq_true rfl)⟩) hS (fun q _ h => hFc q h) hFc (fun u q_4 t H1 locs ht hvm hw hB hz1 hk1 hS => ?_)
        obtain ⟨hxt_4, hP1, hK1, hD1⟩ := hB
        rw [ht] at hP1
        have hK1 := va_K.moved hvm.symm hK1
        obtain ⟨hP, hD⟩ := va_joinP (X := [(hc, .inr (12, [v13_0, v13_1, v13_2, v13_3, v13_4, .ref la, v13_6]))]) (cx := [(hc, .inr (12, [v13_0, v13_1, v13_2, v13_3, v13_4, .ref la, v13_6]))]) (wr := []) (rx := [(hc, .inr (12, [v13_0, v13_1, v13_2, v13_3, v13_4, .ref la, v13_6]))]) (pl := va_pl L (pE P2)) (pl1 := va_pl L (pE P2)) hP hD [0] [] rfl rfl (by decide) (by decide) hk1 hFc hP1 hD1
        have hK := (hK.sub (tys' := [(cI, .int), (cZ, .boolean)]) [0, 1] rfl).app hK1
        generalize H1 = H at hP hS ⊢
        have hP : va_P (dC, dI) vwQ ([(hc, .inr (12, [v13_0, v13_1, v13_2, v13_3, v13_4, .ref la, v13_6]))] ++ va_pl L (pE P2)) H := hP
        have hD : va_D A ([(hc, .inr (12, [v13_0, v13_1, v13_2, v13_3, v13_4, .ref la, v13_6]))] ++ va_pl L (pE P2)) := hD
        have hK : va_K (dC, dI) vwQ [(cI, .int), (cZ, .boolean), (cO, .object "java/lang/Object")] s := hK
        refine W.widen (k := 0) (n := 0) (Nat.le_of_ble_eq_true rfl) (Nat.le_of_ble_eq_true rfl) ?_
        rw [hxt_4]
        obtain ⟨xb_5, h9⟩ : ∃ q9 : Nat, q9 = x := ⟨_, rfl⟩
        subst h9
        have hi_6 : INB P2 la xb_5 := ⟨d2_1, by omega, by omega, ex⟩
        clear hX_el
        have hx_8 := ex
        have hB_7 := aP2.inb hi_6
        have hfb := hB_7.2.2.2.2
        refine lv_astore_n (lv' := [(2, .ref xb_5), (0, .ref hc), (1, .int (zI (d2_1)))]) hx hb dX19_sweep_15 rfl hl (by decide) rfl (fun ls hl => ?_)
        refine lv_aload_n hx hb dX19_sweep_16 rfl (lv_at hl 0 rfl) ?_
        obtain ⟨kp_9, hkp_9⟩ := va_pl_get (X := [(hc, .inr (12, [v13_0, v13_1, v13_2, v13_3, v13_4, .ref la, v13_6]))]) (f := pE P2) hB_7.1.1
        rw [pE_block hB_7.1.2] at hkp_9
        refine va_get (D := (dC, dI)) (ci := 19) (v := .ref (P2.bp xb_5)) (C := RX12) (T := TX12) (N := 5) hx hb hts mem_P19_sweepE_2 hown hK hP kp_9 hkp_9 rfl 0 (by decide) (ow (k := 7) rfl) (fun _ h9 => h9) rfl dX19_sweep_17 ?_
        obtain ⟨pr_10, epr_10⟩ : ∃ q9 : Nat, q9 = P2.bp xb_5 := ⟨_, rfl⟩
        rw [← epr_10]
        have hlk_11 : LOK L P2 cO 15 pr_10 := (by rw [epr_10]; exact (aP2.inb hi_6).2.2.1)
        have hlz9 := hlk_11.2.2.1
        have hbp9 : P.bp (P.el la (d2_1)) = pr_10 := js2.nmp js2 (by omega) (by omega) hx_8 epr_10.symm
        have hlk_12 := (show LOK L P2 cO 15 pr_10 from (by rw [← epr_10.symm]; exact (aP2.inb hi_6).2.2.1))
        have hX_x := hlk_12.1
        have hX_k := hlk_12.2.1
        have hlz9 := hlk_12.2.2.1
        have hPc := hP.part (X := [(hc, .inr (12, [v13_0, v13_1, v13_2, v13_3, v13_4, .ref la, v13_6]))]) (cx := []) (pl := va_pl L (pE P2)) [] rfl
        have hDc := hD.part (X := [(hc, .inr (12, [v13_0, v13_1, v13_2, v13_3, v13_4, .ref la, v13_6]))]) (cx := []) (pl := va_pl L (pE P2)) [] (by decide) rfl
        have hKc := hK.sub (tys' := [(cO, .object "java/lang/Object")]) [2] rfl
        have hFc := va_freeP (X := [(hc, .inr (12, [v13_0, v13_1, v13_2, v13_3, v13_4, .ref la, v13_6]))]) (cx := []) (pl := va_pl L (pE P2)) hD hS hA [] rfl
        refine va_calli (va_runV (As := []) (rest := []) ⟨hx, hb, hml, hown, hts⟩ (c_PL_size l dC dI cO L P2 pr_10 hX_x hX_k (by omega) H.size) (cwV 0 hts g_P19_sweepE_PL_size rfl rfl rfl (by decide +kernel) ⟨(Nat.le_of_ble_eq_true rfl), (Nat.le_of_ble_eq_true rfl)⟩) ⟨fun a U g mk q => by obtain ⟨q0, q1, qP, qK, qD⟩ := q; exact ⟨q0, q1, qP, va_K.moved (u := U) (U := U.calling g mk a) (Vm.Alike.refl U.vm) qK, qD⟩, recv_30 hKc hPc hlk_11.1 hlk_11.2.1, fun U hU hW => ⟨rfl, by rw [hU], by rw [hU]; exact hPc, va_K.moved hW.alike hKc, hDc.weaken (fun _ _ _ _ => trivial)⟩⟩ rfl rfl hl.1 rfl (lv_room (Nat.le_of_ble_eq_true rfl)) dX19_sweep_20 ⟨(Nat.le_of_ble_eq_true rfl), (Nat.le_of_ble_eq_true rfl)⟩) hS (fun q _ h => hFc q h) hFc (fun r_13 u t H1 locs ht hvm hw hB hz1 hk1 hS => ?_)
        obtain ⟨hP1, hK1, hD1⟩ := hB
        rw [ht] at hP1
        have hK1 := va_K.moved hvm.symm hK1
        obtain ⟨hP, hD⟩ := va_joinP (X := [(hc, .inr (12, [v13_0, v13_1, v13_2, v13_3, v13_4, .ref la, v13_6]))]) (cx := []) (wr := [(hc, .inr (12, [v13_0, v13_1, v13_2, v13_3, v13_4, .ref la, v13_6]))]) (rx := []) (pl := va_pl L (pE P2)) (pl1 := va_pl L (pE P2)) hP hD [] [0] rfl rfl (by decide) (by decide) hk1 hFc hP1 hD1
        have hK := (hK.sub (tys' := [(cI, .int), (cZ, .boolean)]) [0, 1] rfl).app hK1
        generalize H1 = H at hP hS ⊢
        have hP : va_P (dC, dI) vwQ ([(hc, .inr (12, [v13_0, v13_1, v13_2, v13_3, v13_4, .ref la, v13_6]))] ++ va_pl L (pE P2)) H := hP
        have hD : va_D A ([(hc, .inr (12, [v13_0, v13_1, v13_2, v13_3, v13_4, .ref la, v13_6]))] ++ va_pl L (pE P2)) := hD
        have hK : va_K (dC, dI) vwQ [(cI, .int), (cZ, .boolean), (cO, .object "java/lang/Object")] s := hK
        refine W.widen (k := 0) (n := 0) (Nat.le_of_ble_eq_true rfl) (Nat.le_of_ble_eq_true rfl) ?_
        obtain rfl : r_13 = (zI (P2.lz pr_10)) := hw
        refine lv_iconst (v := 1) hx hb dX19_sweep_23 (by decide) ?_
        refine lv_isub hx hb dX19_sweep_24 ?_
        refine lv_topi (fun z ez => ?_)
        obtain rfl : z = zI ((P2.lz pr_10) - 1) := ez.trans (zI_sub (P2.lz pr_10) (1))
        refine lv_istore_n (lv' := [(3, .int (zI ((P2.lz pr_10) - 1))), (2, .ref xb_5), (0, .ref hc), (1, .int (zI (d2_1)))]) hx hb dX19_sweep_25 rfl hl (by decide) rfl (fun ls hl => ?_)
        have key26 : ∀ n26 : Nat, ∀ (d26_3 : Int) (P26 : PO) (ls : Array Slot) (H : Heap) (locs : List Loc), (P26.tot 2 la ≤ P2.tot 2 la ∧ P26.tot 1 la ≤ P2.tot 1 la) → (KEP [] L P2 L P26 la) → (ALP L P26 cO cI cZ sx_ed la) → (-1 ≤ d26_3 ∧ d26_3 < 40000 ∧ d26_3 < P26.lz pr_10) → (SWJ P P26 la (d2_1) (FLP P P26 (P.bp (P.el la (d2_1))) (d26_3 + 1) ∧ UNT P P26 (P.br (P.el la (d2_1))))) → ((d26_3 + 1 : Int).toNat) < n26 → lv_has ls 4 [(0, .ref hc), (1, .int (zI (d2_1))), (2, .ref xb_5), (3, .int (zI (d26_3)))] → va_P (dC, dI) vwQ ([(hc, .inr (12, [v13_0, v13_1, v13_2, v13_3, v13_4, .ref la, v13_6]))] ++ va_pl L (pE P26)) H → va_D A ([(hc, .inr (12, [v13_0, v13_1, v13_2, v13_3, v13_4, .ref la, v13_6]))] ++ va_pl L (pE P26)) → va_S A s.heap H locs → W p l e (headSpec v_P19_sweepE ({ frames := 4, cells := 0, slots := 0, locals := 106 })).room s m ([.ref hc] : List Value).toArray below meth c H locs 0 0 Q (F0 m 26 ls []) := by
          intro n26
          induction n26 with
          | zero => intro d26_3 P26 ls H locs tP26 kP26 aP26 jd26_3 js26 hm26; exact absurd hm26 (by omega)
          | succ n26 ih26 =>
            intro d26_3 P26 ls H locs tP26 kP26 aP26 jd26_3 js26 hm26 hl hP hD hS
            have hq_14 : la ∈ L ∧ P26.kd la = 30 := kP26.mem hq_1.1 hq_1.2 (by decide)
            have hq_15 : xb_5 ∈ L ∧ P26.kd xb_5 = 12 := kP26.mem hB_7.1.1 hB_7.1.2 (by decide)
            have hq_16 : pr_10 ∈ L ∧ P26.kd pr_10 = 30 := kP26.mem hlk_11.1 hlk_11.2.1 (by decide)
            have hi_17 : INB P26 la xb_5 := kP26.inb hi_6
            have ha_18 : P26.bp xb_5 = pr_10 := kP26.bp hB_7.1.1 hB_7.1.2 epr_10.symm
            have hz9 := kP26.2.2.1
            have hA_19 : KEP [] L P L P26 la := hA_2.trans kP26
            have hA_20 : KEP [] L P2 L P26 la := (KEP.refl [] L P2 la).trans kP26
            have hj26 := kP26
            skip
            refine lv_iload_n hx hb dX19_sweep_26 rfl (lv_at hl 3 rfl) ?_
            refine lv_if_lt (tgt := 62) hx hb dX19_sweep_27 (by decide) (fun b27 => ?_) (fun b27 => ?_)
            · have yb27 : (d26_3 : Int) < (0 : Int) := (zI_lt (a := d26_3) (b := 0) (by omega) (by omega) (by omega) (by omega)).mp b27
              refine lv_aload_n hx hb dX19_sweep_62 rfl (lv_at hl 2 rfl) ?_
              have hfb := (aP26.inb hi_17).2.2.2.2
              obtain ⟨kp_21, hkp_21⟩ := va_pl_get (X := [(hc, .inr (12, [v13_0, v13_1, v13_2, v13_3, v13_4, .ref la, v13_6]))]) (f := pE P26) hq_15.1
              rw [pE_block hq_15.2] at hkp_21
              refine va_get (D := (dC, dI)) (ci := 19) (v := .ref (P26.br xb_5)) (C := RX12) (T := TX12) (N := 5) hx hb hts mem_P19_sweepE_2 hown hK hP kp_21 hkp_21 rfl 1 (by decide) (ow (k := 12) rfl) (fun _ h9 => h9) rfl dX19_sweep_63 ?_
              obtain ⟨pr_22, epr_22⟩ : ∃ q9 : Nat, q9 = P26.br xb_5 := ⟨_, rfl⟩
              rw [← epr_22]
              have hlk_23 : LOK L P26 cO 17 pr_22 := (by rw [epr_22]; exact (aP26.inb hi_17).2.1)
              have hlz9 := hlk_23.2.2.1
              have hbr9 : P.br (P.el la (d2_1)) = pr_22 := js2.nmr js26 (by omega) (by omega) hx_8 epr_22.symm
              have hlk_24 := (show LOK L P26 cO 17 pr_22 from (by rw [← epr_22.symm]; exact (aP26.inb hi_17).2.1))
              have hX_x := hlk_24.1
              have hX_k := hlk_24.2.1
              have hlz9 := hlk_24.2.2.1
              have hPc := hP.part (X := [(hc, .inr (12, [v13_0, v13_1, v13_2, v13_3, v13_4, .ref la, v13_6]))]) (cx := []) (pl := va_pl L (pE P26)) [] rfl
              have hDc := hD.part (X := [(hc, .inr (12, [v13_0, v13_1, v13_2, v13_3, v13_4, .ref la, v13_6]))]) (cx := []) (pl := va_pl L (pE P26)) [] (by decide) rfl
              have hKc := hK.sub (tys' := [(cO, .object "java/lang/Object")]) [2] rfl
              have hFc := va_freeP (X := [(hc, .inr (12, [v13_0, v13_1, v13_2, v13_3, v13_4, .ref la, v13_6]))]) (cx := []) (pl := va_pl L (pE P26)) hD hS hA [] rfl
              refine va_calli (va_runV (As := []) (rest := []) ⟨hx, hb, hml, hown, hts⟩ (c_PL_size l dC dI cO L P26 pr_22 hX_x hX_k (by omega) H.size) (cwV 0 hts g_P19_sweepE_PL_size rfl rfl rfl (by decide +kernel) ⟨(Nat.le_of_ble_eq_true rfl), (Nat.le_of_ble_eq_true rfl)⟩) ⟨fun a U g mk q => by obtain ⟨q0, q1, qP, qK, qD⟩ := q; exact ⟨q0, q1, qP, va_K.moved (u := U) (U := U.calling g mk a) (Vm.Alike.refl U.vm) qK, qD⟩, recv_30 hKc hPc hlk_23.1 hlk_23.2.1, fun U hU hW => ⟨rfl, by rw [hU], by rw [hU]; exact hPc, va_K.moved hW.alike hKc, hDc.weaken (fun _ _ _ _ => trivial)⟩⟩ rfl rfl hl.1 rfl (lv_room (Nat.le_of_ble_eq_true rfl)) dX19_sweep_66 ⟨(Nat.le_of_ble_eq_true rfl), (Nat.le_of_ble_eq_true rfl)⟩) hS (fun q _ h => hFc q h) hFc (fun r_25 u t H1 locs ht hvm hw hB hz1 hk1 hS => ?_)
              obtain ⟨hP1, hK1, hD1⟩ := hB
              rw [ht] at hP1
              have hK1 := va_K.moved hvm.symm hK1
              obtain ⟨hP, hD⟩ := va_joinP (X := [(hc, .inr (12, [v13_0, v13_1, v13_2, v13_3, v13_4, .ref la, v13_6]))]) (cx := []) (wr := [(hc, .inr (12, [v13_0, v13_1, v13_2, v13_3, v13_4, .ref la, v13_6]))]) (rx := []) (pl := va_pl L (pE P26)) (pl1 := va_pl L (pE P26)) hP hD [] [0] rfl rfl (by decide) (by decide) hk1 hFc hP1 hD1
              have hK := (hK.sub (tys' := [(cI, .int), (cZ, .boolean)]) [0, 1] rfl).app hK1
              generalize H1 = H at hP hS ⊢
              have hP : va_P (dC, dI) vwQ ([(hc, .inr (12, [v13_0, v13_1, v13_2, v13_3, v13_4, .ref la, v13_6]))] ++ va_pl L (pE P26)) H := hP
              have hD : va_D A ([(hc, .inr (12, [v13_0, v13_1, v13_2, v13_3, v13_4, .ref la, v13_6]))] ++ va_pl L (pE P26)) := hD
              have hK : va_K (dC, dI) vwQ [(cI, .int), (cZ, .boolean), (cO, .object "java/lang/Object")] s := hK
              refine W.widen (k := 0) (n := 0) (Nat.le_of_ble_eq_true rfl) (Nat.le_of_ble_eq_true rfl) ?_
              obtain rfl : r_25 = (zI (P26.lz pr_22)) := hw
              refine lv_iconst (v := 1) hx hb dX19_sweep_69 (by decide) ?_
              refine lv_isub hx hb dX19_sweep_70 ?_
              refine lv_topi (fun z ez => ?_)
              obtain rfl : z = zI ((P26.lz pr_22) - 1) := ez.trans (zI_sub (P26.lz pr_22) (1))
              refine lv_istore_n (lv' := [(3, .int (zI ((P26.lz pr_22) - 1))), (0, .ref hc), (1, .int (zI (d2_1))), (2, .ref xb_5)]) hx hb dX19_sweep_71 rfl hl (by decide) rfl (fun ls hl => ?_)
              have key72 : ∀ n72 : Nat, ∀ (d72_3 : Int) (P72 : PO) (ls : Array Slot) (H : Heap) (locs : List Loc), (P72.tot 2 la ≤ P26.tot 2 la ∧ P72.tot 1 la ≤ P26.tot 1 la) → (KEP [] L P26 L P72 la) → (ALP L P72 cO cI cZ sx_ed la) → (-1 ≤ d72_3 ∧ d72_3 < 40000 ∧ d72_3 < P72.lz pr_22) → (SWJ P P72 la (d2_1) (FLP P P72 (P.bp (P.el la (d2_1))) 0 ∧ FLR P P72 (P.br (P.el la (d2_1))) (d72_3 + 1))) → ((d72_3 + 1 : Int).toNat) < n72 → lv_has ls 4 [(0, .ref hc), (1, .int (zI (d2_1))), (2, .ref xb_5), (3, .int (zI (d72_3)))] → va_P (dC, dI) vwQ ([(hc, .inr (12, [v13_0, v13_1, v13_2, v13_3, v13_4, .ref la, v13_6]))] ++ va_pl L (pE P72)) H → va_D A ([(hc, .inr (12, [v13_0, v13_1, v13_2, v13_3, v13_4, .ref la, v13_6]))] ++ va_pl L (pE P72)) → va_S A s.heap H locs → W p l e (headSpec v_P19_sweepE ({ frames := 4, cells := 0, slots := 0, locals := 106 })).room s m ([.ref hc] : List Value).toArray below meth c H locs 0 0 Q (F0 m 72 ls []) := by
                intro n72
                induction n72 with
                | zero => intro d72_3 P72 ls H locs tP72 kP72 aP72 jd72_3 js72 hm72; exact absurd hm72 (by omega)
                | succ n72 ih72 =>
                  intro d72_3 P72 ls H locs tP72 kP72 aP72 jd72_3 js72 hm72 hl hP hD hS
                  have hq_26 : la ∈ L ∧ P72.kd la = 30 := kP72.mem hq_14.1 hq_14.2 (by decide)
                  have hq_27 : xb_5 ∈ L ∧ P72.kd xb_5 = 12 := kP72.mem hq_15.1 hq_15.2 (by decide)
                  have hq_28 : pr_10 ∈ L ∧ P72.kd pr_10 = 30 := kP72.mem hq_16.1 hq_16.2 (by decide)
                  have hq_29 : pr_22 ∈ L ∧ P72.kd pr_22 = 30 := kP72.mem hlk_23.1 hlk_23.2.1 (by decide)
                  have hi_30 : INB P72 la xb_5 := kP72.inb hi_17
                  have ha_31 : P72.bp xb_5 = pr_10 := kP72.bp hq_15.1 hq_15.2 ha_18
                  have ha_32 : P72.br xb_5 = pr_22 := kP72.br hq_15.1 hq_15.2 epr_22.symm
                  have hz9 := kP72.2.2.1
                  have hA_33 : KEP [] L P L P72 la := hA_19.trans kP72
                  have hA_34 : KEP [] L P2 L P72 la := hA_20.trans kP72
                  have hA_35 : KEP [] L P26 L P72 la := (KEP.refl [] L P26 la).trans kP72
                  have hj72 := kP72
                  skip
                  refine lv_iload_n hx hb dX19_sweep_72 rfl (lv_at hl 3 rfl) ?_
                  refine lv_if_lt (tgt := 108) hx hb dX19_sweep_73 (by decide) (fun b73 => ?_) (fun b73 => ?_)
                  · have yb73 : (d72_3 : Int) < (0 : Int) := (zI_lt (a := d72_3) (b := 0) (by omega) (by omega) (by omega) (by omega)).mp b73
                    refine lv_iinc (v := zI (d2_1 + 1)) (lv' := [(1, .int (zI (d2_1 + 1))), (0, .ref hc), (2, .ref xb_5), (3, .int (zI (d72_3)))]) hx hb dX19_sweep_108 hl (k := 1) rfl (zI_add (d2_1) (1)) (by decide) rfl (fun ls hl => ?_)
                    refine lv_goto (tgt := 2) hx hb dX19_sweep_111 (by decide) ?_
                    exact ih2 (d2_1 + 1) P72 ls H _ (by omega) (kP2.trans hA_34) aP72 (by omega) ((js72.jr (k := 0) (by omega)).next (by omega)) (by omega) (lv_sub hl [1, 0] rfl) hP hD hS
                  · have yb73 : ¬ (d72_3 : Int) < (0 : Int) := fun q => b73 ((zI_lt (a := d72_3) (b := 0) (by omega) (by omega) (by omega) (by omega)).mpr q)
                    refine lv_aload_n hx hb dX19_sweep_76 rfl (lv_at hl 2 rfl) ?_
                    have hfb := (aP72.inb hi_30).2.2.2.2
                    obtain ⟨kp_36, hkp_36⟩ := va_pl_get (X := [(hc, .inr (12, [v13_0, v13_1, v13_2, v13_3, v13_4, .ref la, v13_6]))]) (f := pE P72) hq_27.1
                    rw [pE_block hq_27.2] at hkp_36
                    refine va_get (D := (dC, dI)) (ci := 19) (v := .ref (P72.br xb_5)) (C := RX12) (T := TX12) (N := 5) hx hb hts mem_P19_sweepE_2 hown hK hP kp_36 hkp_36 rfl 1 (by decide) (ow (k := 12) rfl) (fun _ h9 => h9) rfl dX19_sweep_77 ?_
                    obtain ⟨pr_37, epr_37⟩ : ∃ q9 : Nat, q9 = P72.br xb_5 := ⟨_, rfl⟩
                    rw [← epr_37]
                    obtain rfl : pr_22 = pr_37 := (by rw [epr_37]; exact ha_32.symm)
                    refine lv_iload_n hx hb dX19_sweep_80 rfl (lv_at hl 3 rfl) ?_
                    have hlk_38 := (show LOK L P72 cO 17 pr_22 from (by rw [← ha_32]; exact (aP72.inb hi_30).2.1))
                    obtain ⟨x, ex⟩ : ∃ q9 : Nat, q9 = P72.el pr_22 (d72_3) := ⟨_, rfl⟩
                    have hX_x := hlk_38.1
                    have hX_k := hlk_38.2.1
                    have hq9 := hlk_38.row (i := d72_3) (by omega) (by omega)
                    have hX_q : P72.le pr_22 ∈ L ∧ P72.kd (P72.le pr_22) = 31 ∧ P72.ac (P72.le pr_22) = cO := ⟨hq9.1, hq9.2.1, hq9.2.2.1⟩
                    have hq8 := hq9.2.2.2
                    have hX_e0 : P72.oa (P72.le pr_22) (d72_3).toNat = some x := (by rw [ex]; exact (hlk_38.2.2.2.2 (d72_3) (by omega) (by omega)).1)
                    have hxm : x ∈ L := (by rw [ex]; exact (hlk_38.2.2.2.2 (d72_3) (by omega) (by omega)).2.1)
                    have hxk := (hlk_38.2.2.2.2 (d72_3) (by omega) (by omega)).2.2
                    rw [← ex] at hxk
                    have hPc := hP.part (X := [(hc, .inr (12, [v13_0, v13_1, v13_2, v13_3, v13_4, .ref la, v13_6]))]) (cx := []) (pl := va_pl L (pE P72)) [] rfl
                    have hDc := hD.part (X := [(hc, .inr (12, [v13_0, v13_1, v13_2, v13_3, v13_4, .ref la, v13_6]))]) (cx := []) (pl := va_pl L (pE P72)) [] (by decide) rfl
                    have hKc := hK.sub (tys' := [(cO, .object "java/lang/Object")]) [2] rfl
                    have hFc := va_freeP (X := [(hc, .inr (12, [v13_0, v13_1, v13_2, v13_3, v13_4, .ref la, v13_6]))]) (cx := []) (pl := va_pl L (pE P72)) hD hS hA [] rfl
                    refine va_callr (va_runV (As := [.int (zI (d72_3))]) (rest := []) ⟨hx, hb, hml, hown, hts⟩ (c_PL_get l dC dI cO L P72 pr_22 d72_3 x hX_x hX_k hX_q (by omega) hX_e0 H.size) (cwV 1 hts g_P19_sweepE_PL_get rfl rfl rfl (by decide +kernel) ⟨(Nat.le_of_ble_eq_true rfl), (Nat.le_of_ble_eq_true rfl)⟩) ⟨fun a U g mk q => by obtain ⟨q0, q1, qP, qK, qD⟩ := q; exact ⟨q0, q1, qP, va_K.moved (u := U) (U := U.calling g mk a) (Vm.Alike.refl U.vm) qK, qD⟩, recv_30 hKc hPc hq_29.1 hq_29.2, fun U hU hW => ⟨rfl, by rw [hU], by rw [hU]; exact hPc, va_K.moved hW.alike hKc, hDc.weaken (fun _ _ _ _ => trivial)⟩⟩ rfl rfl hl.1 rfl (lv_room (Nat.le_of_ble_eq_true rfl)) dX19_sweep_81 ⟨(Nat.le_of_ble_eq_true rfl), (Nat.le_of_ble_eq_true rfl)⟩) hS (fun q _ h => hFc q h) hFc (fun u q_39 t H1 locs ht hvm hw hB hz1 hk1 hS => ?_)
                    obtain ⟨hxt_39, hP1, hK1, hD1⟩ := hB
                    rw [ht] at hP1
                    have hK1 := va_K.moved hvm.symm hK1
                    obtain ⟨hP, hD⟩ := va_joinP (X := [(hc, .inr (12, [v13_0, v13_1, v13_2, v13_3, v13_4, .ref la, v13_6]))]) (cx := []) (wr := [(hc, .inr (12, [v13_0, v13_1, v13_2, v13_3, v13_4, .ref la, v13_6]))]) (rx := []) (pl := va_pl L (pE P72)) (pl1 := va_pl L (pE P72)) hP hD [] [0] rfl rfl (by decide) (by decide) hk1 hFc hP1 hD1
                    have hK := (hK.sub (tys' := [(cI, .int), (cZ, .boolean)]) [0, 1] rfl).app hK1
                    generalize H1 = H at hP hS ⊢
                    have hP : va_P (dC, dI) vwQ ([(hc, .inr (12, [v13_0, v13_1, v13_2, v13_3, v13_4, .ref la, v13_6]))] ++ va_pl L (pE P72)) H := hP
                    have hD : va_D A ([(hc, .inr (12, [v13_0, v13_1, v13_2, v13_3, v13_4, .ref la, v13_6]))] ++ va_pl L (pE P72)) := hD
                    have hK : va_K (dC, dI) vwQ [(cI, .int), (cZ, .boolean), (cO, .object "java/lang/Object")] s := hK
                    refine W.widen (k := 0) (n := 0) (Nat.le_of_ble_eq_true rfl) (Nat.le_of_ble_eq_true rfl) ?_
                    rw [hxt_39]
                    clear hX_e0
                    obtain ⟨xr_40, h9⟩ : ∃ q9 : Nat, q9 = x := ⟨_, rfl⟩
                    subst h9
                    have hm_41 := hxm
                    have hk_42 := hxk
                    have hE_43 : P72.ek xr_40 ≠ 1 := (by rw [ex, ← ha_32]; exact (aP72.2.2.2.1 _ (aP72.2.1.2.2.1 xb_5 hq_27.1 hq_27.2).1.2.2.1 (aP72.2.1.2.2.1 xb_5 hq_27.1 hq_27.2).1.2.2.2).2.2 (aP72.2.1.2.2.1 xb_5 hq_27.1 hq_27.2).1.1 _ (by omega) (by rw [ha_32]; omega))
                    refine va_castY (C := "SsaForgeModel$Row") (nm := "SsaForgeModel$Row") hx hb hown (ow (k := 16) rfl) hp1 (recv_17 hK hP hm_41 hk_42) dX19_sweep_84 ?_
                    have ⟨hr1, hr2, hr3, hr4, hr5, hr6, hr7, hr8, hr9⟩ := aP72.rok hm_41 hk_42
                    obtain ⟨kp_44, hkp_44⟩ := va_pl_get (X := [(hc, .inr (12, [v13_0, v13_1, v13_2, v13_3, v13_4, .ref la, v13_6]))]) (f := pE P72) hm_41
                    rw [pE_row hk_42] at hkp_44
                    refine va_get (D := (dC, dI)) (ci := 21) (v := .int (zI (P72.rg xr_40))) (C := RX17) (T := TX17) (N := 7) hx hb hts mem_P19_sweepE_5 hown hK hP kp_44 hkp_44 rfl 6 (by decide) (ow (k := 17) rfl) (fun _ h9 => h9) rfl dX19_sweep_87 ?_
                    refine lv_if_eq (tgt := 102) hx hb dX19_sweep_90 (by decide) (fun b90 => ?_) (fun b90 => ?_)
                    · have yb90 : (P72.rg xr_40 : Int) = (0 : Int) := (zI_eq (a := P72.rg xr_40) (b := 0) (by omega) (by omega) (by omega) (by omega)).mp b90
                      refine lv_iinc (v := zI (d72_3 - 1)) (lv' := [(3, .int (zI (d72_3 - 1))), (0, .ref hc), (1, .int (zI (d2_1))), (2, .ref xb_5)]) hx hb dX19_sweep_102 hl (k := 3) rfl (zI_dec (d72_3) (1)) (by decide) rfl (fun ls hl => ?_)
                      refine lv_goto (tgt := 72) hx hb dX19_sweep_105 (by decide) ?_
                      exact ih72 (d72_3 - 1) P72 ls H _ (by omega) (kP72.trans (KEP.refl [] L P72 la)) aP72 (by omega) ((js72.keepr (by omega) hbr9 (by rw [← ex]; omega) (by rw [← ex, hk_42]; decide)).jr (by omega)) (by omega) (lv_sub hl [1, 2, 3, 0] rfl) hP hD hS
                    · have yb90 : ¬ (P72.rg xr_40 : Int) = (0 : Int) := fun q => b90 ((zI_eq (a := P72.rg xr_40) (b := 0) (by omega) (by omega) (by omega) (by omega)).mpr q)
                      have hgo9 : P72.rg (P72.el pr_22 (d72_3)) ≠ 0 := (by rw [← ex]; omega)
                      have hgk9 : P72.kd (P72.el pr_22 (d72_3)) ≠ 30 := (by rw [← ex, hk_42]; decide)
                      refine lv_aload_n hx hb dX19_sweep_93 rfl (lv_at hl 2 rfl) ?_
                      obtain ⟨kp_45, hkp_45⟩ := va_pl_get (X := [(hc, .inr (12, [v13_0, v13_1, v13_2, v13_3, v13_4, .ref la, v13_6]))]) (f := pE P72) hq_27.1
                      rw [pE_block hq_27.2] at hkp_45
                      refine va_get (D := (dC, dI)) (ci := 19) (v := .ref (P72.br xb_5)) (C := RX12) (T := TX12) (N := 5) hx hb hts mem_P19_sweepE_2 hown hK hP kp_45 hkp_45 rfl 1 (by decide) (ow (k := 12) rfl) (fun _ h9 => h9) rfl dX19_sweep_94 ?_
                      obtain ⟨pr_46, epr_46⟩ : ∃ q9 : Nat, q9 = P72.br xb_5 := ⟨_, rfl⟩
                      rw [← epr_46]
                      obtain rfl : pr_22 = pr_46 := (by rw [epr_46]; exact ha_32.symm)
                      refine lv_iload_n hx hb dX19_sweep_97 rfl (lv_at hl 3 rfl) ?_
                      have hlk_47 := (show LOK L P72 cO 17 pr_22 from (by rw [← ha_32]; exact (aP72.inb hi_30).2.1))
                      obtain ⟨x, ex⟩ : ∃ q9 : Nat, q9 = P72.el pr_22 (d72_3) := ⟨_, rfl⟩
                      have hX_x := hlk_47.1
                      have hX_k := hlk_47.2.1
                      have hq9 := hlk_47.row (i := d72_3) (by omega) (by omega)
                      have hX_q : P72.le pr_22 ∈ L ∧ P72.kd (P72.le pr_22) = 31 ∧ P72.ac (P72.le pr_22) = cO := ⟨hq9.1, hq9.2.1, hq9.2.2.1⟩
                      have hq8 := hq9.2.2.2
                      have hX_e0 : P72.oa (P72.le pr_22) (d72_3).toNat = some x := (by rw [ex]; exact (hlk_47.2.2.2.2 (d72_3) (by omega) (by omega)).1)
                      have hxm : x ∈ L := (by rw [ex]; exact (hlk_47.2.2.2.2 (d72_3) (by omega) (by omega)).2.1)
                      have hxk := (hlk_47.2.2.2.2 (d72_3) (by omega) (by omega)).2.2
                      rw [← ex] at hxk
                      have hon_48 := aP72.own hlk_47 (by omega)
                      have hX_s := hon_48.2.1
                      have ho9 := hon_48.2.2
                      have hPc := hP.part (X := [(hc, .inr (12, [v13_0, v13_1, v13_2, v13_3, v13_4, .ref la, v13_6]))]) (cx := []) (pl := va_pl L (pE P72)) [] rfl
                      have hDc := hD.part (X := [(hc, .inr (12, [v13_0, v13_1, v13_2, v13_3, v13_4, .ref la, v13_6]))]) (cx := []) (pl := va_pl L (pE P72)) [] (by decide) rfl
                      have hKc := hK.sub (tys' := [(cO, .object "java/lang/Object")]) [2] rfl
                      have hFc := va_freeP (X := [(hc, .inr (12, [v13_0, v13_1, v13_2, v13_3, v13_4, .ref la, v13_6]))]) (cx := []) (pl := va_pl L (pE P72)) hD hS hA [] rfl
                      refine va_callr (va_runV (As := [.int (zI (d72_3))]) (rest := []) ⟨hx, hb, hml, hown, hts⟩ (c_PL_remove l dC dI cO L P72 pr_22 d72_3 x hX_x hX_k hX_q hX_s (by omega) hX_e0 H.size) (cwV 1 hts g_P19_sweepE_PL_remove rfl rfl rfl (by decide +kernel) ⟨(Nat.le_of_ble_eq_true rfl), (Nat.le_of_ble_eq_true rfl)⟩) ⟨fun a U g mk q => by obtain ⟨q0, q1, qP, qK, qD, e0, e1, e2⟩ := q; exact ⟨q0, q1, qP, va_K.moved (u := U) (U := U.calling g mk a) (Vm.Alike.refl U.vm) qK, qD, va_Nw.same rfl (u := U) (U := U.calling g mk a) rfl e0, va_Nw.same rfl (u := U) (U := U.calling g mk a) rfl e1, va_Nw.same rfl (u := U) (U := U.calling g mk a) rfl e2⟩, recv_30 hKc hPc hq_29.1 hq_29.2, fun U hU hW => ⟨rfl, by rw [hU], by rw [hU]; exact hPc, va_K.moved hW.alike hKc, hDc.weaken (fun _ _ _ _ => trivial), va_Nw.warmC hW hp2, va_Nw.warmC hW hp3, va_Nw.warmC hW hp4⟩⟩ rfl rfl hl.1 rfl (lv_room (Nat.le_of_ble_eq_true rfl)) dX19_sweep_98 ⟨(Nat.le_of_ble_eq_true rfl), (Nat.le_of_ble_eq_true rfl)⟩) hS (fun q _ h => hFc q h) hFc (fun u q_49 t H1 locs ht hvm hw hB hz1 hk1 hS => ?_)
                      obtain ⟨Pn_50, hxt_50, hP1, hK1, hD1⟩ := hB
                      rw [ht] at hP1
                      have hK1 := va_K.moved hvm.symm hK1
                      obtain ⟨hP, hD⟩ := va_joinP (X := [(hc, .inr (12, [v13_0, v13_1, v13_2, v13_3, v13_4, .ref la, v13_6]))]) (cx := []) (wr := [(hc, .inr (12, [v13_0, v13_1, v13_2, v13_3, v13_4, .ref la, v13_6]))]) (rx := []) (pl := va_pl L (pE P72)) (pl1 := va_pl L (pE Pn_50)) hP hD [] [0] rfl rfl (by decide) (by decide) hk1 hFc hP1 hD1
                      have hK := (hK.sub (tys' := [(cI, .int), (cZ, .boolean)]) [0, 1] rfl).app hK1
                      generalize H1 = H at hP hS ⊢
                      have hP : va_P (dC, dI) vwQ ([(hc, .inr (12, [v13_0, v13_1, v13_2, v13_3, v13_4, .ref la, v13_6]))] ++ va_pl L (pE Pn_50)) H := hP
                      have hD : va_D A ([(hc, .inr (12, [v13_0, v13_1, v13_2, v13_3, v13_4, .ref la, v13_6]))] ++ va_pl L (pE Pn_50)) := hD
                      have hK : va_K (dC, dI) vwQ [(cI, .int), (cZ, .boolean), (cO, .object "java/lang/Object")] s := hK
                      refine W.widen (k := 0) (n := 0) (Nat.le_of_ble_eq_true rfl) (Nat.le_of_ble_eq_true rfl) ?_
                      rw [hxt_50.1]
                      have hu_51 := hxt_50.2
                      have hek_54 : P72.ek pr_22 ≠ 12 := (by rw [← ha_32, (aP72.2.1.2.2.1 xb_5 hq_27.1 hq_27.2).1.1]; decide)
                      have hfl_55 := aP72.fl1 hlk_47 (by omega)
                      have hke_52 : KEP [] L P72 L Pn_50 la := aP72.lskep hu_51.1 hlk_47.1 hlk_47.2.1 hfl_55 hek_54 (Or.inl (fun e9 => kd_ne hq_27.2 hlk_47.2.1 (by decide) (show xb_5 = pr_22 from (by have q9 := (aP72.2.1.2.2.1 xb_5 hq_27.1 hq_27.2).1.2.1; rw [ha_32, e9] at q9; exact q9.symm))))
                      have hak_53 : ALP L Pn_50 cO cI cZ sx_ed la := aP72.remove hu_51.1 hlk_47.1 hlk_47.2.1 hfl_55 hek_54 hu_51.2.1 (by omega) hu_51.2.2.1 hu_51.2.2.2
                      have ht9 : Pn_50.tot 2 la = P72.tot 2 la + (-1) ∧ Pn_50.tot 1 la = P72.tot 1 la := aP72.tots hke_52 hi_30 2 (Or.inr rfl) ha_32 (d := -1) (by omega) (fun y _ _ n => hu_51.1.2.2.1 y n 0)
                      clear hX_e0
                      have hq_56 : la ∈ L ∧ Pn_50.kd la = 30 := hke_52.mem hq_26.1 hq_26.2 (by decide)
                      have hq_57 : xb_5 ∈ L ∧ Pn_50.kd xb_5 = 12 := hke_52.mem hq_27.1 hq_27.2 (by decide)
                      have hq_58 : pr_10 ∈ L ∧ Pn_50.kd pr_10 = 30 := hke_52.mem hq_28.1 hq_28.2 (by decide)
                      have hq_59 : pr_22 ∈ L ∧ Pn_50.kd pr_22 = 30 := hke_52.mem hq_29.1 hq_29.2 (by decide)
                      have hq_60 : xr_40 ∈ L ∧ Pn_50.kd xr_40 = 17 := hke_52.mem hm_41 hk_42 (by decide)
                      have hi_61 : INB Pn_50 la xb_5 := hke_52.inb hi_30
                      have hE_62 : Pn_50.ek xr_40 ≠ 1 := (by rw [hke_52.ek hm_41 hk_42 (by decide)]; exact hE_43)
                      have ha_63 : Pn_50.bp xb_5 = pr_10 := hke_52.bp hq_27.1 hq_27.2 ha_31
                      have ha_64 : Pn_50.br xb_5 = pr_22 := hke_52.br hq_27.1 hq_27.2 ha_32
                      have hz9 := hke_52.2.2.1
                      have hA_65 : KEP [] L P L Pn_50 la := hA_33.trans hke_52
                      have hA_66 : KEP [] L P2 L Pn_50 la := hA_34.trans hke_52
                      have hA_67 : KEP [] L P26 L Pn_50 la := hA_35.trans hke_52
                      have hA_68 : KEP [] L P72 L Pn_50 la := (KEP.refl [] L P72 la).trans hke_52
                      have hzr := hu_51.2.1
                      have hsw_69 := js72.remr aP72 (by omega) (by omega) (by omega) hbr9 hu_51.1 (aP72.fl1 hlk_47 (by omega)) hu_51.2.1 hu_51.2.2.2 hgo9 hgk9
                      refine lv_pop hx hb dX19_sweep_101 rfl ?_
                      refine lv_iinc (v := zI (d72_3 - 1)) (lv' := [(3, .int (zI (d72_3 - 1))), (0, .ref hc), (1, .int (zI (d2_1))), (2, .ref xb_5)]) hx hb dX19_sweep_102 hl (k := 3) rfl (zI_dec (d72_3) (1)) (by decide) rfl (fun ls hl => ?_)
                      refine lv_goto (tgt := 72) hx hb dX19_sweep_105 (by decide) ?_
                      exact ih72 (d72_3 - 1) Pn_50 ls H _ (by omega) (kP72.trans hA_68) hak_53 (by omega) (hsw_69.jr (by omega)) (by omega) (lv_sub hl [1, 2, 3, 0] rfl) hP hD hS
              exact key72 (((P26.lz pr_22) - 1 + 1 : Int).toNat + 1) ((P26.lz pr_22) - 1) P26 ls H _ (by omega) (KEP.refl _ _ _ _) aP26 (by omega) ((js26.jp (k := 0) (by omega)).enterr hbr9 (by omega)) (by omega) (lv_sub hl [1, 2, 3, 0] rfl) hP hD hS
            · have yb27 : ¬ (d26_3 : Int) < (0 : Int) := fun q => b27 ((zI_lt (a := d26_3) (b := 0) (by omega) (by omega) (by omega) (by omega)).mpr q)
              refine lv_aload_n hx hb dX19_sweep_30 rfl (lv_at hl 2 rfl) ?_
              have hfb := (aP26.inb hi_17).2.2.2.2
              obtain ⟨kp_70, hkp_70⟩ := va_pl_get (X := [(hc, .inr (12, [v13_0, v13_1, v13_2, v13_3, v13_4, .ref la, v13_6]))]) (f := pE P26) hq_15.1
              rw [pE_block hq_15.2] at hkp_70
              refine va_get (D := (dC, dI)) (ci := 19) (v := .ref (P26.bp xb_5)) (C := RX12) (T := TX12) (N := 5) hx hb hts mem_P19_sweepE_2 hown hK hP kp_70 hkp_70 rfl 0 (by decide) (ow (k := 7) rfl) (fun _ h9 => h9) rfl dX19_sweep_31 ?_
              obtain ⟨pr_71, epr_71⟩ : ∃ q9 : Nat, q9 = P26.bp xb_5 := ⟨_, rfl⟩
              rw [← epr_71]
              obtain rfl : pr_10 = pr_71 := (by rw [epr_71]; exact ha_18.symm)
              refine lv_iload_n hx hb dX19_sweep_34 rfl (lv_at hl 3 rfl) ?_
              have hlk_72 := (show LOK L P26 cO 15 pr_10 from (by rw [← ha_18]; exact (aP26.inb hi_17).2.2.1))
              obtain ⟨x, ex⟩ : ∃ q9 : Nat, q9 = P26.el pr_10 (d26_3) := ⟨_, rfl⟩
              have hX_x := hlk_72.1
              have hX_k := hlk_72.2.1
              have hq9 := hlk_72.row (i := d26_3) (by omega) (by omega)
              have hX_q : P26.le pr_10 ∈ L ∧ P26.kd (P26.le pr_10) = 31 ∧ P26.ac (P26.le pr_10) = cO := ⟨hq9.1, hq9.2.1, hq9.2.2.1⟩
              have hq8 := hq9.2.2.2
              have hX_e0 : P26.oa (P26.le pr_10) (d26_3).toNat = some x := (by rw [ex]; exact (hlk_72.2.2.2.2 (d26_3) (by omega) (by omega)).1)
              have hxm : x ∈ L := (by rw [ex]; exact (hlk_72.2.2.2.2 (d26_3) (by omega) (by omega)).2.1)
              have hxk := (hlk_72.2.2.2.2 (d26_3) (by omega) (by omega)).2.2
              rw [← ex] at hxk
              have hPc := hP.part (X := [(hc, .inr (12, [v13_0, v13_1, v13_2, v13_3, v13_4, .ref la, v13_6]))]) (cx := []) (pl := va_pl L (pE P26)) [] rfl
              have hDc := hD.part (X := [(hc, .inr (12, [v13_0, v13_1, v13_2, v13_3, v13_4, .ref la, v13_6]))]) (cx := []) (pl := va_pl L (pE P26)) [] (by decide) rfl
              have hKc := hK.sub (tys' := [(cO, .object "java/lang/Object")]) [2] rfl
              have hFc := va_freeP (X := [(hc, .inr (12, [v13_0, v13_1, v13_2, v13_3, v13_4, .ref la, v13_6]))]) (cx := []) (pl := va_pl L (pE P26)) hD hS hA [] rfl
              refine va_callr (va_runV (As := [.int (zI (d26_3))]) (rest := []) ⟨hx, hb, hml, hown, hts⟩ (c_PL_get l dC dI cO L P26 pr_10 d26_3 x hX_x hX_k hX_q (by omega) hX_e0 H.size) (cwV 1 hts g_P19_sweepE_PL_get rfl rfl rfl (by decide +kernel) ⟨(Nat.le_of_ble_eq_true rfl), (Nat.le_of_ble_eq_true rfl)⟩) ⟨fun a U g mk q => by obtain ⟨q0, q1, qP, qK, qD⟩ := q; exact ⟨q0, q1, qP, va_K.moved (u := U) (U := U.calling g mk a) (Vm.Alike.refl U.vm) qK, qD⟩, recv_30 hKc hPc hq_16.1 hq_16.2, fun U hU hW => ⟨rfl, by rw [hU], by rw [hU]; exact hPc, va_K.moved hW.alike hKc, hDc.weaken (fun _ _ _ _ => trivial)⟩⟩ rfl rfl hl.1 rfl (lv_room (Nat.le_of_ble_eq_true rfl)) dX19_sweep_35 ⟨(Nat.le_of_ble_eq_true rfl), (Nat.le_of_ble_eq_true rfl)⟩) hS (fun q _ h => hFc q h) hFc (fun u q_73 t H1 locs ht hvm hw hB hz1 hk1 hS => ?_)
              obtain ⟨hxt_73, hP1, hK1, hD1⟩ := hB
              rw [ht] at hP1
              have hK1 := va_K.moved hvm.symm hK1
              obtain ⟨hP, hD⟩ := va_joinP (X := [(hc, .inr (12, [v13_0, v13_1, v13_2, v13_3, v13_4, .ref la, v13_6]))]) (cx := []) (wr := [(hc, .inr (12, [v13_0, v13_1, v13_2, v13_3, v13_4, .ref la, v13_6]))]) (rx := []) (pl := va_pl L (pE P26)) (pl1 := va_pl L (pE P26)) hP hD [] [0] rfl rfl (by decide) (by decide) hk1 hFc hP1 hD1
              have hK := (hK.sub (tys' := [(cI, .int), (cZ, .boolean)]) [0, 1] rfl).app hK1
              generalize H1 = H at hP hS ⊢
              have hP : va_P (dC, dI) vwQ ([(hc, .inr (12, [v13_0, v13_1, v13_2, v13_3, v13_4, .ref la, v13_6]))] ++ va_pl L (pE P26)) H := hP
              have hD : va_D A ([(hc, .inr (12, [v13_0, v13_1, v13_2, v13_3, v13_4, .ref la, v13_6]))] ++ va_pl L (pE P26)) := hD
              have hK : va_K (dC, dI) vwQ [(cI, .int), (cZ, .boolean), (cO, .object "java/lang/Object")] s := hK
              refine W.widen (k := 0) (n := 0) (Nat.le_of_ble_eq_true rfl) (Nat.le_of_ble_eq_true rfl) ?_
              rw [hxt_73]
              clear hX_e0
              obtain ⟨xp_74, h9⟩ : ∃ q9 : Nat, q9 = x := ⟨_, rfl⟩
              subst h9
              have hm_75 := hxm
              have hk_76 := hxk
              have hpb_77 : PRB P26 xp_74 (P26.lz la) := (by have q9 := aP26.2.2.1 xb_5 hi_17 (d26_3) (by omega) (by rw [ha_18]; omega); rw [ha_18, ← ex] at q9; exact q9)
              refine va_castY (C := "SsaForgeModel$Phi") (nm := "SsaForgeModel$Phi") hx hb hown (ow (k := 21) rfl) hp5 (recv_15 hK hP hm_75 hk_76) dX19_sweep_38 ?_
              have hp9 := aP26.pik hm_75 hk_76
              have hpn := hp9.2.2.2.2.1
              have hpt := hp9.2.2.2.2.2.1
              clear hp9
              obtain ⟨kp_78, hkp_78⟩ := va_pl_get (X := [(hc, .inr (12, [v13_0, v13_1, v13_2, v13_3, v13_4, .ref la, v13_6]))]) (f := pE P26) hm_75
              rw [pE_phi hk_76] at hkp_78
              refine va_get (D := (dC, dI)) (ci := 20) (v := .int (zI (P26.pg xp_74))) (C := RX15) (T := TX15) (N := 6) hx hb hts mem_P19_sweepE_7 hown hK hP kp_78 hkp_78 rfl 5 (by decide) (ow (k := 22) rfl) (fun _ h9 => h9) rfl dX19_sweep_41 ?_
              refine lv_if_eq (tgt := 56) hx hb dX19_sweep_44 (by decide) (fun b44 => ?_) (fun b44 => ?_)
              · have yb44 : (P26.pg xp_74 : Int) = (0 : Int) := (zI_eq (a := P26.pg xp_74) (b := 0) (by omega) (by omega) (by omega) (by omega)).mp b44
                refine lv_iinc (v := zI (d26_3 - 1)) (lv' := [(3, .int (zI (d26_3 - 1))), (0, .ref hc), (1, .int (zI (d2_1))), (2, .ref xb_5)]) hx hb dX19_sweep_56 hl (k := 3) rfl (zI_dec (d26_3) (1)) (by decide) rfl (fun ls hl => ?_)
                refine lv_goto (tgt := 26) hx hb dX19_sweep_59 (by decide) ?_
                exact ih26 (d26_3 - 1) P26 ls H _ (by omega) (kP26.trans (KEP.refl [] L P26 la)) aP26 (by omega) ((js26.keepp (by omega) hbp9 (by rw [← ex]; omega) (by rw [← ex, hk_76]; decide)).jp (by omega)) (by omega) (lv_sub hl [1, 2, 3, 0] rfl) hP hD hS
              · have yb44 : ¬ (P26.pg xp_74 : Int) = (0 : Int) := fun q => b44 ((zI_eq (a := P26.pg xp_74) (b := 0) (by omega) (by omega) (by omega) (by omega)).mpr q)
                have hgo9 : P26.pg (P26.el pr_10 (d26_3)) ≠ 0 := (by rw [← ex]; omega)
                have hgk9 : P26.kd (P26.el pr_10 (d26_3)) ≠ 30 := (by rw [← ex, hk_76]; decide)
                refine lv_aload_n hx hb dX19_sweep_47 rfl (lv_at hl 2 rfl) ?_
                obtain ⟨kp_79, hkp_79⟩ := va_pl_get (X := [(hc, .inr (12, [v13_0, v13_1, v13_2, v13_3, v13_4, .ref la, v13_6]))]) (f := pE P26) hq_15.1
                rw [pE_block hq_15.2] at hkp_79
                refine va_get (D := (dC, dI)) (ci := 19) (v := .ref (P26.bp xb_5)) (C := RX12) (T := TX12) (N := 5) hx hb hts mem_P19_sweepE_2 hown hK hP kp_79 hkp_79 rfl 0 (by decide) (ow (k := 7) rfl) (fun _ h9 => h9) rfl dX19_sweep_48 ?_
                obtain ⟨pr_80, epr_80⟩ : ∃ q9 : Nat, q9 = P26.bp xb_5 := ⟨_, rfl⟩
                rw [← epr_80]
                obtain rfl : pr_10 = pr_80 := (by rw [epr_80]; exact ha_18.symm)
                refine lv_iload_n hx hb dX19_sweep_51 rfl (lv_at hl 3 rfl) ?_
                have hlk_81 := (show LOK L P26 cO 15 pr_10 from (by rw [← ha_18]; exact (aP26.inb hi_17).2.2.1))
                obtain ⟨x, ex⟩ : ∃ q9 : Nat, q9 = P26.el pr_10 (d26_3) := ⟨_, rfl⟩
                have hX_x := hlk_81.1
                have hX_k := hlk_81.2.1
                have hq9 := hlk_81.row (i := d26_3) (by omega) (by omega)
                have hX_q : P26.le pr_10 ∈ L ∧ P26.kd (P26.le pr_10) = 31 ∧ P26.ac (P26.le pr_10) = cO := ⟨hq9.1, hq9.2.1, hq9.2.2.1⟩
                have hq8 := hq9.2.2.2
                have hX_e0 : P26.oa (P26.le pr_10) (d26_3).toNat = some x := (by rw [ex]; exact (hlk_81.2.2.2.2 (d26_3) (by omega) (by omega)).1)
                have hxm : x ∈ L := (by rw [ex]; exact (hlk_81.2.2.2.2 (d26_3) (by omega) (by omega)).2.1)
                have hxk := (hlk_81.2.2.2.2 (d26_3) (by omega) (by omega)).2.2
                rw [← ex] at hxk
                have hon_82 := aP26.own hlk_81 (by omega)
                have hX_s := hon_82.2.1
                have ho9 := hon_82.2.2
                have hPc := hP.part (X := [(hc, .inr (12, [v13_0, v13_1, v13_2, v13_3, v13_4, .ref la, v13_6]))]) (cx := []) (pl := va_pl L (pE P26)) [] rfl
                have hDc := hD.part (X := [(hc, .inr (12, [v13_0, v13_1, v13_2, v13_3, v13_4, .ref la, v13_6]))]) (cx := []) (pl := va_pl L (pE P26)) [] (by decide) rfl
                have hKc := hK.sub (tys' := [(cO, .object "java/lang/Object")]) [2] rfl
                have hFc := va_freeP (X := [(hc, .inr (12, [v13_0, v13_1, v13_2, v13_3, v13_4, .ref la, v13_6]))]) (cx := []) (pl := va_pl L (pE P26)) hD hS hA [] rfl
                refine va_callr (va_runV (As := [.int (zI (d26_3))]) (rest := []) ⟨hx, hb, hml, hown, hts⟩ (c_PL_remove l dC dI cO L P26 pr_10 d26_3 x hX_x hX_k hX_q hX_s (by omega) hX_e0 H.size) (cwV 1 hts g_P19_sweepE_PL_remove rfl rfl rfl (by decide +kernel) ⟨(Nat.le_of_ble_eq_true rfl), (Nat.le_of_ble_eq_true rfl)⟩) ⟨fun a U g mk q => by obtain ⟨q0, q1, qP, qK, qD, e0, e1, e2⟩ := q; exact ⟨q0, q1, qP, va_K.moved (u := U) (U := U.calling g mk a) (Vm.Alike.refl U.vm) qK, qD, va_Nw.same rfl (u := U) (U := U.calling g mk a) rfl e0, va_Nw.same rfl (u := U) (U := U.calling g mk a) rfl e1, va_Nw.same rfl (u := U) (U := U.calling g mk a) rfl e2⟩, recv_30 hKc hPc hq_16.1 hq_16.2, fun U hU hW => ⟨rfl, by rw [hU], by rw [hU]; exact hPc, va_K.moved hW.alike hKc, hDc.weaken (fun _ _ _ _ => trivial), va_Nw.warmC hW hp2, va_Nw.warmC hW hp3, va_Nw.warmC hW hp4⟩⟩ rfl rfl hl.1 rfl (lv_room (Nat.le_of_ble_eq_true rfl)) dX19_sweep_52 ⟨(Nat.le_of_ble_eq_true rfl), (Nat.le_of_ble_eq_true rfl)⟩) hS (fun q _ h => hFc q h) hFc (fun u q_83 t H1 locs ht hvm hw hB hz1 hk1 hS => ?_)
                obtain ⟨Pn_84, hxt_84, hP1, hK1, hD1⟩ := hB
                rw [ht] at hP1
                have hK1 := va_K.moved hvm.symm hK1
                obtain ⟨hP, hD⟩ := va_joinP (X := [(hc, .inr (12, [v13_0, v13_1, v13_2, v13_3, v13_4, .ref la, v13_6]))]) (cx := []) (wr := [(hc, .inr (12, [v13_0, v13_1, v13_2, v13_3, v13_4, .ref la, v13_6]))]) (rx := []) (pl := va_pl L (pE P26)) (pl1 := va_pl L (pE Pn_84)) hP hD [] [0] rfl rfl (by decide) (by decide) hk1 hFc hP1 hD1
                have hK := (hK.sub (tys' := [(cI, .int), (cZ, .boolean)]) [0, 1] rfl).app hK1
                generalize H1 = H at hP hS ⊢
                have hP : va_P (dC, dI) vwQ ([(hc, .inr (12, [v13_0, v13_1, v13_2, v13_3, v13_4, .ref la, v13_6]))] ++ va_pl L (pE Pn_84)) H := hP
                have hD : va_D A ([(hc, .inr (12, [v13_0, v13_1, v13_2, v13_3, v13_4, .ref la, v13_6]))] ++ va_pl L (pE Pn_84)) := hD
                have hK : va_K (dC, dI) vwQ [(cI, .int), (cZ, .boolean), (cO, .object "java/lang/Object")] s := hK
                refine W.widen (k := 0) (n := 0) (Nat.le_of_ble_eq_true rfl) (Nat.le_of_ble_eq_true rfl) ?_
                rw [hxt_84.1]
                have hu_85 := hxt_84.2
                have hek_88 : P26.ek pr_10 ≠ 12 := (by rw [← ha_18, (aP26.2.1.2.2.1 xb_5 hq_15.1 hq_15.2).2.1]; decide)
                have hfl_89 := aP26.fl1 hlk_81 (by omega)
                have hke_86 : KEP [] L P26 L Pn_84 la := aP26.lskep hu_85.1 hlk_81.1 hlk_81.2.1 hfl_89 hek_88 (Or.inl (fun e9 => kd_ne hq_15.2 hlk_81.2.1 (by decide) (show xb_5 = pr_10 from (by have q9 := (aP26.2.1.2.2.1 xb_5 hq_15.1 hq_15.2).2.2.1; rw [ha_18, e9] at q9; exact q9.symm))))
                have hak_87 : ALP L Pn_84 cO cI cZ sx_ed la := aP26.remove hu_85.1 hlk_81.1 hlk_81.2.1 hfl_89 hek_88 hu_85.2.1 (by omega) hu_85.2.2.1 hu_85.2.2.2
                have ht9 : Pn_84.tot 1 la = P26.tot 1 la + (-1) ∧ Pn_84.tot 2 la = P26.tot 2 la := aP26.tots hke_86 hi_17 1 (Or.inl rfl) ha_18 (d := -1) (by omega) (fun y _ _ n => hu_85.1.2.2.1 y n 0)
                clear hX_e0
                have hq_90 : la ∈ L ∧ Pn_84.kd la = 30 := hke_86.mem hq_14.1 hq_14.2 (by decide)
                have hq_91 : xb_5 ∈ L ∧ Pn_84.kd xb_5 = 12 := hke_86.mem hq_15.1 hq_15.2 (by decide)
                have hq_92 : pr_10 ∈ L ∧ Pn_84.kd pr_10 = 30 := hke_86.mem hq_16.1 hq_16.2 (by decide)
                have hq_93 : xp_74 ∈ L ∧ Pn_84.kd xp_74 = 15 := hke_86.mem hm_75 hk_76 (by decide)
                have hi_94 : INB Pn_84 la xb_5 := hke_86.inb hi_17
                have ha_95 : Pn_84.bp xb_5 = pr_10 := hke_86.bp hq_15.1 hq_15.2 ha_18
                have hz9 := hke_86.2.2.1
                have hA_96 : KEP [] L P L Pn_84 la := hA_19.trans hke_86
                have hA_97 : KEP [] L P2 L Pn_84 la := hA_20.trans hke_86
                have hA_98 : KEP [] L P26 L Pn_84 la := (KEP.refl [] L P26 la).trans hke_86
                have hzr := hu_85.2.1
                have hsw_99 := js26.remp aP26 (by omega) (by omega) (by omega) hbp9 hu_85.1 (aP26.fl1 hlk_81 (by omega)) hu_85.2.1 hu_85.2.2.2 hgo9 hgk9
                refine lv_pop hx hb dX19_sweep_55 rfl ?_
                refine lv_iinc (v := zI (d26_3 - 1)) (lv' := [(3, .int (zI (d26_3 - 1))), (0, .ref hc), (1, .int (zI (d2_1))), (2, .ref xb_5)]) hx hb dX19_sweep_56 hl (k := 3) rfl (zI_dec (d26_3) (1)) (by decide) rfl (fun ls hl => ?_)
                refine lv_goto (tgt := 26) hx hb dX19_sweep_59 (by decide) ?_
                exact ih26 (d26_3 - 1) Pn_84 ls H _ (by omega) (kP26.trans hA_98) hak_87 (by omega) (hsw_99.jp (by omega)) (by omega) (lv_sub hl [1, 2, 3, 0] rfl) hP hD hS
        exact key26 (((P2.lz pr_10) - 1 + 1 : Int).toNat + 1) ((P2.lz pr_10) - 1) P2 ls H _ (by omega) (KEP.refl _ _ _ _) aP2 (by omega) (js2.enterp (by omega) hbp9 (by omega)) (by omega) (lv_sub hl [2, 3, 1, 0] rfl) hP hD hS
  exact key2 ((400 - 0 : Int).toNat + 1) 0 P ls H _ (by omega) (KEP.refl _ _ _ _) hX_a9 (by omega) hsw0 (by omega) (lv_sub hl [1, 0] rfl) hP hD hS
