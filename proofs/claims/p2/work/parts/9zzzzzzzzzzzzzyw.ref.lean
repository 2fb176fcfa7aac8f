def o_P19_setsInE : List Cond := [.fieldLink RX19 116 "SsaForgeModel$Block" "rows" "Ljava/util/ArrayList;", .methodLink RX19 53 yJx4a65c_size_8abf5, .instanceMethod yJx4a65c_size_8abf5, .selects RJx4a65c yJx4a65c_size_8abf5 yJx4a65c_size_8abf5, .initialized RJx4a65c, .methodLink RX19 41 yJx4a65c_get_915e3, .instanceMethod yJx4a65c_get_915e3, .selects RJx4a65c yJx4a65c_get_915e3 yJx4a65c_get_915e3, .classLink RX19 65 "SsaForgeModel$Row", .methodLink RX19 119 yX17_sets, .instanceMethod yX17_sets, .selects RX17 yX17_sets yX17_sets, .initialized RX17, .fieldLink RX19 122 "SsaForgeModel$Row" "t" "I"]
def v_P19_setsInE : List Cond := .code yX19_setsIn cX19_setsIn 3 (some .boolean) :: (o_P19_setsInE ++ (wsX120 ++ (v_PL_size ++ (v_PL_get ++ (v_PR_sets ++ (wsX170 ++ []))))))
theorem mow_P19_setsInE : ∀ w ∈ o_P19_setsInE, w ∈ v_P19_setsInE := fun _ h => List.mem_cons_of_mem _ (List.mem_append_left _ h)
theorem mem_P19_setsInE_0 : ∀ w ∈ wsX120, w ∈ v_P19_setsInE := fun _ h => List.mem_cons_of_mem _ (List.mem_append_right _ (List.mem_append_left _ h))
theorem mem_P19_setsInE_1 : ∀ w ∈ v_PL_size, w ∈ v_P19_setsInE := fun _ h => List.mem_cons_of_mem _ (List.mem_append_right _ (List.mem_append_right _ (List.mem_append_left _ h)))
theorem mem_P19_setsInE_2 : ∀ w ∈ v_PL_get, w ∈ v_P19_setsInE := fun _ h => List.mem_cons_of_mem _ (List.mem_append_right _ (List.mem_append_right _ (List.mem_append_right _ (List.mem_append_left _ h))))
theorem mem_P19_setsInE_3 : ∀ w ∈ v_PR_sets, w ∈ v_P19_setsInE := fun _ h => List.mem_cons_of_mem _ (List.mem_append_right _ (List.mem_append_right _ (List.mem_append_right _ (List.mem_append_right _ (List.mem_append_left _ h)))))
theorem mem_P19_setsInE_4 : ∀ w ∈ wsX170, w ∈ v_P19_setsInE := fun _ h => List.mem_cons_of_mem _ (List.mem_append_right _ (List.mem_append_right _ (List.mem_append_right _ (List.mem_append_right _ (List.mem_append_right _ (List.mem_append_left _ h))))))
set_option maxRecDepth 20000 in
theorem gw_P19_setsInE : v_P19_setsInE.all goodWord = true := by decide +kernel
set_option maxRecDepth 20000 in
theorem g_P19_setsInE_PL_size : GoodIn v_P19_setsInE (wsV RX19 53 RJx4a65c yJx4a65c_size_8abf5 v_PL_size) := goodIn_app (goodIn_sub (fun w h => mow_P19_setsInE w (by revert w h; decide +kernel)) (by decide +kernel)) (goodIn_sub mem_P19_setsInE_1 gw_PL_size)
set_option maxRecDepth 20000 in
theorem g_P19_setsInE_PL_get : GoodIn v_P19_setsInE (wsV RX19 41 RJx4a65c yJx4a65c_get_915e3 v_PL_get) := goodIn_app (goodIn_sub (fun w h => mow_P19_setsInE w (by revert w h; decide +kernel)) (by decide +kernel)) (goodIn_sub mem_P19_setsInE_2 gw_PL_get)
set_option maxRecDepth 20000 in
theorem g_P19_setsInE_PR_sets : GoodIn v_P19_setsInE (wsV RX19 119 RX17 yX17_sets v_PR_sets) := goodIn_app (goodIn_sub (fun w h => mow_P19_setsInE w (by revert w h; decide +kernel)) (by decide +kernel)) (goodIn_sub mem_P19_setsInE_3 gw_PR_sets)
set_option maxHeartbeats 4000000 in
set_option maxRecDepth 100000 in
theorem c_P19_setsInE (l : Launch) (dC : Nat → ClassId) (dI : Nat → Nat → Nat) (cI : ClassId) (cZ : ClassId) (cO : ClassId) (la : Nat) (sx_ed : Nat) (L : List Nat) (P : PO) (xb : Nat) (r0 : Int) (hX_a : ALP L P cO cI cZ sx_ed la) (hX_ib : INB P la xb) (hNr : 0 ≤ r0 ∧ r0 ≤ 1001) (sz : Nat) : Met l yX19_setsIn v_P19_setsInE ({ frames := 3, cells := 0, slots := 0, locals := 64 }) (va_Pc [.ref xb, .int (zI (r0))] (fun U => U.heap.size = sz ∧ va_P (dC, dI) vwQ ([] ++ va_pl L (pE P)) U.heap ∧ va_K (dC, dI) vwQ [(cO, .object "java/lang/Object"), (cI, .int), (cZ, .boolean)] U ∧ va_D (fun _ => True) ([] ++ va_pl L (pE P)) ∧ va_Nw (.castable "SsaForgeModel$Row" "SsaForgeModel$Row") U)) (va_Qi (fun (r : Int32) (_ : Unit) => ∃ z : Int, r = zI z ∧ (0 ≤ z ∧ z ≤ 1 ∧ ANS z (∃ k9 : Int, 0 ≤ k9 ∧ k9 < P.lz (P.br xb) ∧ RST P (P.el (P.br xb) k9) r0))) (fun (_ : Unit) (t : State) => va_P (dC, dI) vwQ ([] ++ va_pl L (pE P)) t.heap ∧ va_K (dC, dI) vwQ [(cO, .object "java/lang/Object"), (cI, .int), (cZ, .boolean)] t ∧ va_D (va_A ([] ++ va_pl L (pE P)) sz) ([] ++ va_pl L (pE P))) (va_A ([] ++ va_pl L (pE P)) sz)) 0 0 (va_A ([] ++ va_pl L (pE P)) sz) := by
  refine Met.ofW (cc := cX19_setsIn) (maxL := 3) (ret := (some .boolean)) (by decide) rfl ?_
  intro p e s m args below meth c s₁ B hml hv
  obtain ⟨rfl, hsz, hP, hK, hD0, hp0⟩ := hv
  have hx := B.exec
  have hb := B.bytes
  have hr := B.returns
  have hts := atoms_spec (ws := v_P19_setsInE) B.pre
  have hown : s.vm.findClass RX19 = some m.cls := findClass_of_methodNamed B.named
  have hlocks := B.notSynchronized
  have ow : ∀ {k : Nat} {w : Cond}, o_P19_setsInE[k]? = some w → w.before ([.ref xb, .int (zI (r0))] : List Value).toArray s = true := fun h => hts _ (mow_P19_setsInE _ (List.mem_of_getElem? h))
  subst hsz
  have hD := hD0.self (sz := s.heap.size)
  generalize hAe : va_A ([] ++ va_pl L (pE P)) s.heap.size = A at hD ⊢
  have hA : ∀ q : Nat, s.heap.size ≤ q → A q := fun q h => by rw [← hAe]; exact Or.inr h
  have hS : va_S A s.heap s.heap [] := va_S.rf
  have hP : va_P (dC, dI) vwQ ([] ++ va_pl L (pE P)) s.heap := hP
  have hl := lv_entry ([.ref xb, .int (zI (r0))]) (n := 3) (Nat.le_of_ble_eq_true rfl)
  rw [lg_entry_eq]
  generalize (lg_sl ([.ref xb, .int (zI (r0))]) ++ List.replicate (3 - (lg_sl ([.ref xb, .int (zI (r0))])).length) Slot.unset).toArray = ls at hl ⊢
  have hl : lv_has ls 3 [(0, .ref xb), (1, .int (zI (r0)))] := hl
  obtain ⟨H, hH⟩ : ∃ H, H = s.heap := ⟨_, rfl⟩
  rw [← hH] at hP
  have hS : va_S A s.heap H [] := by rw [hH]; exact hS
  rw [← hH]
  refine zW_cap (fun Q hQ => ?_)
  have hX_a9 := hX_a
  have hla := hX_a.lok.2.2.1
  have hla2 := hX_a.1.1.2.1
  refine lv_iconst (v := 0) hx hb dX19_setsIn_0 (by decide) ?_
  refine lv_istore_n (lv' := [(2, .int 0), (0, .ref xb), (1, .int (zI (r0)))]) hx hb dX19_setsIn_1 rfl hl (by decide) rfl (fun ls hl => ?_)
  have key2 : ∀ n2 : Nat, ∀ (d2_2 : Int) (ls : Array Slot) (H : Heap) (locs : List Loc), (0 ≤ d2_2 ∧ d2_2 ≤ 40000) → (∀ k9 : Int, 0 ≤ k9 → k9 < d2_2 → ¬ RST P (P.el (P.br xb) k9) r0) → ((50000 - d2_2 : Int).toNat) < n2 → lv_has ls 3 [(0, .ref xb), (1, .int (zI (r0))), (2, .int (zI (d2_2)))] → va_P (dC, dI) vwQ ([] ++ va_pl L (pE P)) H → va_D A ([] ++ va_pl L (pE P)) → va_S A s.heap H locs → W p l e (headSpec v_P19_setsInE ({ frames := 3, cells := 0, slots := 0, locals := 64 })).room s m ([.ref xb, .int (zI (r0))] : List Value).toArray below meth c H locs 0 0 Q (F0 m 2 ls []) := by
    intro n2
    induction n2 with
    | zero => intro d2_2 ls H locs jd2_2 js2 hm2; exact absurd hm2 (by omega)
    | succ n2 ih2 =>
      intro d2_2 ls H locs jd2_2 js2 hm2 hl hP hD hS
      skip
      refine lv_iload_n hx hb dX19_setsIn_2 rfl (lv_at hl 2 rfl) ?_
      refine lv_aload_n hx hb dX19_setsIn_3 rfl (lv_at hl 0 rfl) ?_
      have hfb := (hX_a9.inb hX_ib).2.2.2.2
      obtain ⟨kp_1, hkp_1⟩ := va_pl_get (X := []) (f := pE P) (hX_a9.inb hX_ib).1.1
      rw [pE_block (hX_a9.inb hX_ib).1.2] at hkp_1
      refine va_get (D := (dC, dI)) (ci := 19) (v := .ref (P.br xb)) (C := RX12) (T := TX12) (N := 5) hx hb hts mem_P19_setsInE_0 hown hK hP kp_1 hkp_1 rfl 1 (by decide) (ow (k := 0) rfl) (fun _ h9 => h9) rfl dX19_setsIn_4 ?_
      obtain ⟨pr_2, epr_2⟩ : ∃ q9 : Nat, q9 = P.br xb := ⟨_, rfl⟩
      rw [← epr_2]
      have hlk_3 : LOK L P cO 17 pr_2 := (by rw [epr_2]; exact (hX_a9.inb hX_ib).2.1)
      have hlz9 := hlk_3.2.2.1
      have : P.lz pr_2 = P.lz (P.br xb) := (by rw [epr_2])
      have hlk_4 := (show LOK L P cO 17 pr_2 from (by rw [← epr_2.symm]; exact (hX_a9.inb hX_ib).2.1))
      have hX_x := hlk_4.1
      have hX_k := hlk_4.2.1
      have hlz9 := hlk_4.2.2.1
      have hPc := hP.part (X := []) (cx := []) (pl := va_pl L (pE P)) [] rfl
      have hDc := hD.part (X := []) (cx := []) (pl := va_pl L (pE P)) [] (by decide) rfl
      have hKc := hK.sub (tys' := [(cO, .object "java/lang/Object")]) [0] rfl
      have hFc := va_freeP (X := []) (cx := []) (pl := va_pl L (pE P)) hD hS hA [] rfl
      refine va_calli (va_runV (As := []) (rest := [.int (zI (d2_2))]) ⟨hx, hb, hml, hown, hts⟩ (c_PL_size l dC dI cO L P pr_2 hX_x hX_k (by omega) H.size) (cwV 0 hts g_P19_setsInE_PL_size rfl rfl rfl (by decide +kernel) ⟨(Nat.le_of_ble_eq_true rfl), (Nat.le_of_ble_eq_true rfl)⟩) ⟨fun a U g mk q => by obtain ⟨q0, q1, qP, qK, qD⟩ := q; exact ⟨q0, q1, qP, va_K.moved (u := U) (U := U.calling g mk a) (Vm.Alike.refl U.vm) qK, qD⟩, recv_30 hKc hPc hlk_3.1 hlk_3.2.1, fun U hU hW => ⟨rfl, by rw [hU], by rw [hU]; exact hPc, va_K.moved hW.alike hKc, hDc.weaken (fun _ _ _ _ => trivial)⟩⟩ rfl rfl hl.1 rfl (lv_room (Nat.le_of_ble_eq_true rfl)) dX19_setsIn_7 ⟨(Nat.le_of_ble_eq_true rfl), (Nat.le_of_ble_eq_true rfl)⟩) hS (fun q _ h => hFc q h) hFc (fun r_5 u t H1 locs ht hvm hw hB hz1 hk1 hS => ?_)
      obtain ⟨hP1, hK1, hD1⟩ := hB
      rw [ht] at hP1
      have hK1 := va_K.moved hvm.symm hK1
      obtain ⟨hP, hD⟩ := va_joinP (X := []) (cx := []) (wr := []) (rx := []) (pl := va_pl L (pE P)) (pl1 := va_pl L (pE P)) hP hD [] [] rfl rfl (by decide) (by decide) hk1 hFc hP1 hD1
      have hK := (hK.sub (tys' := [(cI, .int), (cZ, .boolean)]) [1, 2] rfl).app hK1
      generalize H1 = H at hP hS ⊢
      have hP : va_P (dC, dI) vwQ ([] ++ va_pl L (pE P)) H := hP
      have hD : va_D A ([] ++ va_pl L (pE P)) := hD
      have hK : va_K (dC, dI) vwQ [(cI, .int), (cZ, .boolean), (cO, .object "java/lang/Object")] s := hK
      refine W.widen (k := 0) (n := 0) (Nat.le_of_ble_eq_true rfl) (Nat.le_of_ble_eq_true rfl) ?_
      obtain rfl : r_5 = (zI (P.lz pr_2)) := hw
      refine lv_icmp_ge (tgt := 56) hx hb dX19_setsIn_10 (by decide) (fun b10 => ?_) (fun b10 => ?_)
      · have yb10 : (P.lz pr_2 : Int) ≤ (d2_2 : Int) := (zI_le (a := P.lz pr_2) (b := d2_2) (by omega) (by omega) (by omega) (by omega)).mp b10
        refine lv_iconst (v := 0) hx hb dX19_setsIn_56 (by decide) ?_
        subst hQ
        have hK := hK.sub (tys' := [(cO, .object "java/lang/Object"), (cI, .int), (cZ, .boolean)]) [2, 0, 1] rfl
        refine W.widen (k := 0) (n := 0) (Nat.le_of_ble_eq_true rfl) (Nat.le_of_ble_eq_true rfl) ?_
        exact W.zret (v := 0) hx hb hr (by decide) (fun t ht hW => ⟨⟨0, (), rfl, ⟨0, rfl, (by first | exact ⟨by omega, by omega, ANS.yes ⟨d2_2, by omega, by omega, hst9, by rw [hel8]; omega⟩⟩ | exact ⟨by omega, by omega, ANS.no (fun ⟨k9, q0, q1, q2⟩ => js2 k9 q0 (by omega) q2)⟩)⟩, by rw [ht]; exact hP, va_K.moved hW.alike hK, hD⟩, hS.F ht⟩) hS.2.2 dX19_setsIn_57
      · have yb10 : ¬ (P.lz pr_2 : Int) ≤ (d2_2 : Int) := fun q => b10 ((zI_le (a := P.lz pr_2) (b := d2_2) (by omega) (by omega) (by omega) (by omega)).mpr q)
        refine lv_aload_n hx hb dX19_setsIn_13 rfl (lv_at hl 0 rfl) ?_
        obtain ⟨kp_6, hkp_6⟩ := va_pl_get (X := []) (f := pE P) (hX_a9.inb hX_ib).1.1
        rw [pE_block (hX_a9.inb hX_ib).1.2] at hkp_6
        refine va_get (D := (dC, dI)) (ci := 19) (v := .ref (P.br xb)) (C := RX12) (T := TX12) (N := 5) hx hb hts mem_P19_setsInE_0 hown hK hP kp_6 hkp_6 rfl 1 (by decide) (ow (k := 0) rfl) (fun _ h9 => h9) rfl dX19_setsIn_14 ?_
        obtain ⟨pr_7, epr_7⟩ : ∃ q9 : Nat, q9 = P.br xb := ⟨_, rfl⟩
        rw [← epr_7]
        obtain rfl : pr_2 = pr_7 := (by rw [epr_7]; exact epr_2.symm.symm)
        refine lv_iload_n hx hb dX19_setsIn_17 rfl (lv_at hl 2 rfl) ?_
        have hlk_8 := (show LOK L P cO 17 pr_2 from (by rw [← epr_2.symm]; exact (hX_a9.inb hX_ib).2.1))
        obtain ⟨x, ex⟩ : ∃ q9 : Nat, q9 = P.el pr_2 (d2_2) := ⟨_, rfl⟩
        have hX_x := hlk_8.1
        have hX_k := hlk_8.2.1
        have hq9 := hlk_8.row (i := d2_2) (by omega) (by omega)
        have hX_q : P.le pr_2 ∈ L ∧ P.kd (P.le pr_2) = 31 ∧ P.ac (P.le pr_2) = cO := ⟨hq9.1, hq9.2.1, hq9.2.2.1⟩
        have hq8 := hq9.2.2.2
        have hX_e0 : P.oa (P.le pr_2) (d2_2).toNat = some x := (by rw [ex]; exact (hlk_8.2.2.2.2 (d2_2) (by omega) (by omega)).1)
        have hxm : x ∈ L := (by rw [ex]; exact (hlk_8.2.2.2.2 (d2_2) (by omega) (by omega)).2.1)
        have hxk := (hlk_8.2.2.2.2 (d2_2) (by omega) (by omega)).2.2
        rw [← ex] at hxk
        have hPc := hP.part (X := []) (cx := []) (pl := va_pl L (pE P)) [] rfl
        have hDc := hD.part (X := []) (cx := []) (pl := va_pl L (pE P)) [] (by decide) rfl
        have hKc := hK.sub (tys' := [(cO, .object "java/lang/Object")]) [2] rfl
        have hFc := va_freeP (X := []) (cx := []) (pl := va_pl L (pE P)) hD hS hA [] rfl
        refine va_callr (va_runV (As := [.int (zI (d2_2))]) (rest := []) ⟨hx, hb, hml, hown, hts⟩ (c_PL_get l dC dI cO L P pr_2 d2_2 x hX_x hX_k hX_q (by omega) hX_e0 H.size) (cwV 1 hts g_P19_setsInE_PL_get rfl rfl rfl (by decide +kernel) ⟨(Nat.le_of_ble_eq_true rfl), (Nat.le_of_ble_eq_true rfl)⟩) ⟨fun a U g mk q => by obtain ⟨q0, q1, qP, qK, qD⟩ := q; exact ⟨q0, q1, qP, va_K.moved (u := U) (U := U.calling g mk a) (Vm.Alike.refl U.vm) qK, qD⟩, recv_30 hKc hPc hlk_3.1 hlk_3.2.1, fun U hU hW => ⟨rfl, by rw [hU], by rw [hU]; exact hPc, va_K.moved hW.alike hKc, hDc.weaken (fun _ _ _ _ => trivial)⟩⟩ rfl rfl hl.1 rfl (lv_room (Nat.le_of_ble_eq_true rfl)) dX19_setsIn_18 ⟨(Nat.le_of_ble_eq_true rfl), (Nat.le_of_ble_eq_true rfl)⟩) hS (fun q _ h => hFc q h) hFc (fun u q_9 t H1 locs ht hvm hw hB hz1 hk1 hS => ?_)
        obtain ⟨hxt_9, hP1, hK1, hD1⟩ := hB
        rw [ht] at hP1
        have hK1 := va_K.moved hvm.symm hK1
        obtain ⟨hP, hD⟩ := va_joinP (X := []) (cx := []) (wr := []) (rx := []) (pl := va_pl L (pE P)) (pl1 := va_pl L (pE P)) hP hD [] [] rfl rfl (by decide) (by decide) hk1 hFc hP1 hD1
        have hK := (hK.sub (tys' := [(cI, .int), (cZ, .boolean)]) [0, 1] rfl).app hK1
        generalize H1 = H at hP hS ⊢
        have hP : va_P (dC, dI) vwQ ([] ++ va_pl L (pE P)) H := hP
        have hD : va_D A ([] ++ va_pl L (pE P)) := hD
        have hK : va_K (dC, dI) vwQ [(cI, .int), (cZ, .boolean), (cO, .object "java/lang/Object")] s := hK
        refine W.widen (k := 0) (n := 0) (Nat.le_of_ble_eq_true rfl) (Nat.le_of_ble_eq_true rfl) ?_
        rw [hxt_9]
        clear hX_e0
        obtain ⟨xr_10, h9⟩ : ∃ q9 : Nat, q9 = x := ⟨_, rfl⟩
        subst h9
        have hm_11 := hxm
        have hk_12 := hxk
        have hE_13 : P.ek xr_10 ≠ 1 := (by rw [ex, ← epr_2.symm]; exact (hX_a9.2.2.2.1 _ (hX_a9.2.1.2.2.1 xb (hX_a9.inb hX_ib).1.1 (hX_a9.inb hX_ib).1.2).1.2.2.1 (hX_a9.2.1.2.2.1 xb (hX_a9.inb hX_ib).1.1 (hX_a9.inb hX_ib).1.2).1.2.2.2).2.2 (hX_a9.2.1.2.2.1 xb (hX_a9.inb hX_ib).1.1 (hX_a9.inb hX_ib).1.2).1.1 _ (by omega) (by rw [epr_2.symm]; omega))
        refine va_castY (C := "SsaForgeModel$Row") (nm := "SsaForgeModel$Row") hx hb hown (ow (k := 8) rfl) hp0 (recv_17 hK hP hm_11 hk_12) dX19_setsIn_21 ?_
        have hel9 : P.el (P.br xb) (d2_2) = xr_10 := (by rw [epr_2.symm]; exact ex.symm)
        have hX_x := hm_11
        have hX_k := hk_12
        have hX_r := hX_a9.rok hm_11 hk_12
        have ⟨hr1, hr2, hr3, hr4, hr5, hr6, hr7, hr8, hr9⟩ := hX_a9.rok hm_11 hk_12
        have hPc := hP.part (X := []) (cx := []) (pl := va_pl L (pE P)) [] rfl
        have hDc := hD.part (X := []) (cx := []) (pl := va_pl L (pE P)) [] (by decide) rfl
        have hKc := hK.sub (tys' := [(cO, .object "java/lang/Object")]) [2] rfl
        have hFc := va_freeP (X := []) (cx := []) (pl := va_pl L (pE P)) hD hS hA [] rfl
        refine va_calli (va_runV (As := []) (rest := []) ⟨hx, hb, hml, hown, hts⟩ (c_PR_sets l dC dI cO L P xr_10 hX_x hX_k (by omega) H.size) (cwV 0 hts g_P19_setsInE_PR_sets rfl rfl rfl (by decide +kernel) ⟨(Nat.le_of_ble_eq_true rfl), (Nat.le_of_ble_eq_true rfl)⟩) ⟨fun a U g mk q => by obtain ⟨q0, q1, qP, qK, qD⟩ := q; exact ⟨q0, q1, qP, va_K.moved (u := U) (U := U.calling g mk a) (Vm.Alike.refl U.vm) qK, qD⟩, recv_17 hKc hPc hm_11 hk_12, fun U hU hW => ⟨rfl, by rw [hU], by rw [hU]; exact hPc, va_K.moved hW.alike hKc, hDc.weaken (fun _ _ _ _ => trivial)⟩⟩ rfl rfl hl.1 rfl (lv_room (Nat.le_of_ble_eq_true rfl)) dX19_setsIn_24 ⟨(Nat.le_of_ble_eq_true rfl), (Nat.le_of_ble_eq_true rfl)⟩) hS (fun q _ h => hFc q h) hFc (fun r_14 u t H1 locs ht hvm hw hB hz1 hk1 hS => ?_)
        obtain ⟨hP1, hK1, hD1⟩ := hB
        rw [ht] at hP1
        have hK1 := va_K.moved hvm.symm hK1
        obtain ⟨hP, hD⟩ := va_joinP (X := []) (cx := []) (wr := []) (rx := []) (pl := va_pl L (pE P)) (pl1 := va_pl L (pE P)) hP hD [] [] rfl rfl (by decide) (by decide) hk1 hFc hP1 hD1
        have hK := (hK.sub (tys' := [(cI, .int), (cZ, .boolean)]) [0, 1] rfl).app hK1
        generalize H1 = H at hP hS ⊢
        have hP : va_P (dC, dI) vwQ ([] ++ va_pl L (pE P)) H := hP
        have hD : va_D A ([] ++ va_pl L (pE P)) := hD
        have hK : va_K (dC, dI) vwQ [(cI, .int), (cZ, .boolean), (cO, .object "java/lang/Object")] s := hK
        refine W.widen (k := 0) (n := 0) (Nat.le_of_ble_eq_true rfl) (Nat.le_of_ble_eq_true rfl) ?_
        obtain rfl : r_14 = (zI (rSets (P.ro xr_10))) := hw
        have := rSets_spec (P.ro xr_10)
        refine lv_if_eq (tgt := 50) hx hb dX19_setsIn_27 (by decide) (fun b27 => ?_) (fun b27 => ?_)
        · have yb27 : (rSets (P.ro xr_10) : Int) = (0 : Int) := (zI_eq (a := rSets (P.ro xr_10)) (b := 0) (by omega) (by omega) (by omega) (by omega)).mp b27
          have hno9 : ¬ RST P (P.el (P.br xb) (d2_2)) r0 := (fun q9 => by have q8 := q9.1; rw [hel9] at q8; omega)
          refine lv_iinc (v := zI (d2_2 + 1)) (lv' := [(2, .int (zI (d2_2 + 1))), (0, .ref xb), (1, .int (zI (r0)))]) hx hb dX19_setsIn_50 hl (k := 2) rfl (zI_add (d2_2) (1)) (by decide) rfl (fun ls hl => ?_)
          refine lv_goto (tgt := 2) hx hb dX19_setsIn_53 (by decide) ?_
          exact ih2 (d2_2 + 1) ls H _ (by omega) (fun k9 h0 h1 => by by_cases q9 : k9 = d2_2; (rw [q9]; exact hno9); exact js2 k9 h0 (by omega)) (by omega) (lv_sub hl [1, 2, 0] rfl) hP hD hS
        · have yb27 : ¬ (rSets (P.ro xr_10) : Int) = (0 : Int) := fun q => b27 ((zI_eq (a := rSets (P.ro xr_10)) (b := 0) (by omega) (by omega) (by omega) (by omega)).mpr q)
          have hst9 : rSets (P.ro (P.el (P.br xb) (d2_2))) ≠ 0 := (by rw [hel9]; omega)
          refine lv_aload_n hx hb dX19_setsIn_30 rfl (lv_at hl 0 rfl) ?_
          obtain ⟨kp_15, hkp_15⟩ := va_pl_get (X := []) (f := pE P) (hX_a9.inb hX_ib).1.1
          rw [pE_block (hX_a9.inb hX_ib).1.2] at hkp_15
          refine va_get (D := (dC, dI)) (ci := 19) (v := .ref (P.br xb)) (C := RX12) (T := TX12) (N := 5) hx hb hts mem_P19_setsInE_0 hown hK hP kp_15 hkp_15 rfl 1 (by decide) (ow (k := 0) rfl) (fun _ h9 => h9) rfl dX19_setsIn_31 ?_
          obtain ⟨pr_16, epr_16⟩ : ∃ q9 : Nat, q9 = P.br xb := ⟨_, rfl⟩
          rw [← epr_16]
          obtain rfl : pr_2 = pr_16 := (by rw [epr_16]; exact epr_2.symm.symm)
          refine lv_iload_n hx hb dX19_setsIn_34 rfl (lv_at hl 2 rfl) ?_
          have hlk_17 := (show LOK L P cO 17 pr_2 from (by rw [← epr_2.symm]; exact (hX_a9.inb hX_ib).2.1))
          obtain ⟨x, ex⟩ : ∃ q9 : Nat, q9 = P.el pr_2 (d2_2) := ⟨_, rfl⟩
          have hX_x := hlk_17.1
          have hX_k := hlk_17.2.1
          have hq9 := hlk_17.row (i := d2_2) (by omega) (by omega)
          have hX_q : P.le pr_2 ∈ L ∧ P.kd (P.le pr_2) = 31 ∧ P.ac (P.le pr_2) = cO := ⟨hq9.1, hq9.2.1, hq9.2.2.1⟩
          have hq8 := hq9.2.2.2
          have hX_e0 : P.oa (P.le pr_2) (d2_2).toNat = some x := (by rw [ex]; exact (hlk_17.2.2.2.2 (d2_2) (by omega) (by omega)).1)
          have hxm : x ∈ L := (by rw [ex]; exact (hlk_17.2.2.2.2 (d2_2) (by omega) (by omega)).2.1)
          have hxk := (hlk_17.2.2.2.2 (d2_2) (by omega) (by omega)).2.2
          rw [← ex] at hxk
          have hPc := hP.part (X := []) (cx := []) (pl := va_pl L (pE P)) [] rfl
          have hDc := hD.part (X := []) (cx := []) (pl := va_pl L (pE P)) [] (by decide) rfl
          have hKc := hK.sub (tys' := [(cO, .object "java/lang/Object")]) [2] rfl
          have hFc := va_freeP (X := []) (cx := []) (pl := va_pl L (pE P)) hD hS hA [] rfl
          refine va_callr (va_runV (As := [.int (zI (d2_2))]) (rest := []) ⟨hx, hb, hml, hown, hts⟩ (c_PL_get l dC dI cO L P pr_2 d2_2 x hX_x hX_k hX_q (by omega) hX_e0 H.size) (cwV 1 hts g_P19_setsInE_PL_get rfl rfl rfl (by decide +kernel) ⟨(Nat.le_of_ble_eq_true rfl), (Nat.le_of_ble_eq_true rfl)⟩) ⟨fun a U g mk q => by obtain ⟨q0, q1, qP, qK, qD⟩ := q; exact ⟨q0, q1, qP, va_K.moved (u := U) (U := U.calling g mk a) (Vm.Alike.refl U.vm) qK, qD⟩, recv_30 hKc hPc hlk_3.1 hlk_3.2.1, fun U hU hW => ⟨rfl, by rw [hU], by rw [hU]; exact hPc, va_K.moved hW.alike hKc, hDc.weaken (fun _ _ _ _ => trivial)⟩⟩ rfl rfl hl.1 rfl (lv_room (Nat.le_of_ble_eq_true rfl)) dX19_setsIn_35 ⟨(Nat.le_of_ble_eq_true rfl), (Nat.le_of_ble_eq_true rfl)⟩) hS (fun q _ h => hFc q h) hFc (fun u q_18 t H1 locs ht hvm hw hB hz1 hk1 hS => ?_)
          obtain ⟨hxt_18, hP1, hK1, hD1⟩ := hB
          rw [ht] at hP1
          have hK1 := va_K.moved hvm.symm hK1
          obtain ⟨hP, hD⟩ := va_joinP (X := []) (cx := []) (wr := []) (rx := []) (pl := va_pl L (pE P)) (pl1 := va_pl L (pE P)) hP hD [] [] rfl rfl (by decide) (by decide) hk1 hFc hP1 hD1
          have hK := (hK.sub (tys' := [(cI, .int), (cZ, .boolean)]) [0, 1] rfl).app hK1
          generalize H1 = H at hP hS ⊢
          have hP : va_P (dC, dI) vwQ ([] ++ va_pl L (pE P)) H := hP
          have hD : va_D A ([] ++ va_pl L (pE P)) := hD
          have hK : va_K (dC, dI) vwQ [(cI, .int), (cZ, .boolean), (cO, .object "java/lang/Object")] s := hK
          refine W.widen (k := 0) (n := 0) (Nat.le_of_ble_eq_true rfl) (Nat.le_of_ble_eq_true rfl) ?_
          rw [hxt_18]
          clear hX_e0
          obtain ⟨xr_19, h9⟩ : ∃ q9 : Nat, q9 = x := ⟨_, rfl⟩
          subst h9
          have hm_20 := hxm
          have hk_21 := hxk
          have hE_22 : P.ek xr_19 ≠ 1 := (by rw [ex, ← epr_2.symm]; exact (hX_a9.2.2.2.1 _ (hX_a9.2.1.2.2.1 xb (hX_a9.inb hX_ib).1.1 (hX_a9.inb hX_ib).1.2).1.2.2.1 (hX_a9.2.1.2.2.1 xb (hX_a9.inb hX_ib).1.1 (hX_a9.inb hX_ib).1.2).1.2.2.2).2.2 (hX_a9.2.1.2.2.1 xb (hX_a9.inb hX_ib).1.1 (hX_a9.inb hX_ib).1.2).1.1 _ (by omega) (by rw [epr_2.symm]; omega))
          refine va_castY (C := "SsaForgeModel$Row") (nm := "SsaForgeModel$Row") hx hb hown (ow (k := 8) rfl) hp0 (recv_17 hK hP hm_20 hk_21) dX19_setsIn_38 ?_
          have hel8 : P.el (P.br xb) (d2_2) = xr_19 := (by rw [epr_2.symm]; exact ex.symm)
          have ⟨hr1, hr2, hr3, hr4, hr5, hr6, hr7, hr8, hr9⟩ := hX_a9.rok hm_20 hk_21
          obtain ⟨kp_23, hkp_23⟩ := va_pl_get (X := []) (f := pE P) hm_20
          rw [pE_row hk_21] at hkp_23
          refine va_get (D := (dC, dI)) (ci := 21) (v := .int (zI (P.rt xr_19))) (C := RX17) (T := TX17) (N := 7) hx hb hts mem_P19_setsInE_4 hown hK hP kp_23 hkp_23 rfl 1 (by decide) (ow (k := 13) rfl) (fun _ h9 => h9) rfl dX19_setsIn_41 ?_
          refine lv_iload_n hx hb dX19_setsIn_44 rfl (lv_at hl 1 rfl) ?_
          refine lv_icmp_ne (tgt := 50) hx hb dX19_setsIn_45 (by decide) (fun b45 => ?_) (fun b45 => ?_)
          · have yb45 : ¬ (P.rt xr_19 : Int) = (r0 : Int) := fun q => b45 ((zI_eq (a := P.rt xr_19) (b := r0) (by omega) (by omega) (by omega) (by omega)).mpr q)
            have hno9 : ¬ RST P (P.el (P.br xb) (d2_2)) r0 := (fun q9 => by have q8 := q9.2; rw [hel8] at q8; omega)
            refine lv_iinc (v := zI (d2_2 + 1)) (lv' := [(2, .int (zI (d2_2 + 1))), (0, .ref xb), (1, .int (zI (r0)))]) hx hb dX19_setsIn_50 hl (k := 2) rfl (zI_add (d2_2) (1)) (by decide) rfl (fun ls hl => ?_)
            refine lv_goto (tgt := 2) hx hb dX19_setsIn_53 (by decide) ?_
            exact ih2 (d2_2 + 1) ls H _ (by omega) (fun k9 h0 h1 => by by_cases q9 : k9 = d2_2; (rw [q9]; exact hno9); exact js2 k9 h0 (by omega)) (by omega) (lv_sub hl [1, 2, 0] rfl) hP hD hS
          · have yb45 : (P.rt xr_19 : Int) = (r0 : Int) := (zI_eq (a := P.rt xr_19) (b := r0) (by omega) (by omega) (by omega) (by omega)).mp b45
            refine lv_iconst (v := 1) hx hb dX19_setsIn_48 (by decide) ?_
            subst hQ
            have hK := hK.sub (tys' := [(cO, .object "java/lang/Object"), (cI, .int), (cZ, .boolean)]) [2, 0, 1] rfl
            refine W.widen (k := 0) (n := 0) (Nat.le_of_ble_eq_true rfl) (Nat.le_of_ble_eq_true rfl) ?_
            exact W.zret (v := 1) hx hb hr (by decide) (fun t ht hW => ⟨⟨1, (), rfl, ⟨1, rfl, (by first | exact ⟨by omega, by omega, ANS.yes ⟨d2_2, by omega, by omega, hst9, by rw [hel8]; omega⟩⟩ | exact ⟨by omega, by omega, ANS.no (fun ⟨k9, q0, q1, q2⟩ => js2 k9 q0 (by omega) q2)⟩)⟩, by rw [ht]; exact hP, va_K.moved hW.alike hK, hD⟩, hS.F ht⟩) hS.2.2 dX19_setsIn_49
  exact key2 ((50000 - 0 : Int).toNat + 1) 0 ls H _ (by omega) (fun k9 h0 h1 => by omega) (by omega) (lv_sub hl [1, 2, 0] rfl) hP hD hS
