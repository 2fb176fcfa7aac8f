theorem dX19_setsIn_0 : decode cX19_setsIn 0 = .ok (.iconst 0, 1) := by decide +kernel
theorem dX19_setsIn_1 : decode cX19_setsIn 1 = .ok (.istore_n 2, 1) := by decide +kernel
theorem dX19_setsIn_2 : decode cX19_setsIn 2 = .ok (.iload_n 2, 1) := by decide +kernel
theorem dX19_setsIn_3 : decode cX19_setsIn 3 = .ok (.aload_n 0, 1) := by decide +kernel
theorem dX19_setsIn_4 : decode cX19_setsIn 4 = .ok (.getfield 116, 3) := by decide +kernel
theorem dX19_setsIn_7 : decode cX19_setsIn 7 = .ok (.invokevirtual 53, 3) := by decide +kernel
theorem dX19_setsIn_10 : decode cX19_setsIn 10 = .ok (.if_icmp .ge 46, 3) := by decide +kernel
theorem dX19_setsIn_56 : decode cX19_setsIn 56 = .ok (.iconst 0, 1) := by decide +kernel
theorem dX19_setsIn_57 : decode cX19_setsIn 57 = .ok (.ireturn, 1) := by decide +kernel
theorem dX19_setsIn_13 : decode cX19_setsIn 13 = .ok (.aload_n 0, 1) := by decide +kernel
theorem dX19_setsIn_14 : decode cX19_setsIn 14 = .ok (.getfield 116, 3) := by decide +kernel
theorem dX19_setsIn_17 : decode cX19_setsIn 17 = .ok (.iload_n 2, 1) := by decide +kernel
theorem dX19_setsIn_18 : decode cX19_setsIn 18 = .ok (.invokevirtual 41, 3) := by decide +kernel
theorem dX19_setsIn_21 : decode cX19_setsIn 21 = .ok (.checkcast 65, 3) := by decide +kernel
theorem dX19_setsIn_24 : decode cX19_setsIn 24 = .ok (.invokevirtual 119, 3) := by decide +kernel
theorem dX19_setsIn_27 : decode cX19_setsIn 27 = .ok (.ifCond .eq 23, 3) := by decide +kernel
theorem dX19_setsIn_50 : decode cX19_setsIn 50 = .ok (.iinc 2 1, 3) := by decide +kernel
theorem dX19_setsIn_53 : decode cX19_setsIn 53 = .ok (.goto (-51), 3) := by decide +kernel
theorem dX19_setsIn_30 : decode cX19_setsIn 30 = .ok (.aload_n 0, 1) := by decide +kernel
theorem dX19_setsIn_31 : decode cX19_setsIn 31 = .ok (.getfield 116, 3) := by decide +kernel
theorem dX19_setsIn_34 : decode cX19_setsIn 34 = .ok (.iload_n 2, 1) := by decide +kernel
theorem dX19_setsIn_35 : decode cX19_setsIn 35 = .ok (.invokevirtual 41, 3) := by decide +kernel
theorem dX19_setsIn_38 : decode cX19_setsIn 38 = .ok (.checkcast 65, 3) := by decide +kernel
theorem dX19_setsIn_41 : decode cX19_setsIn 41 = .ok (.getfield 122, 3) := by decide +kernel
theorem dX19_setsIn_44 : decode cX19_setsIn 44 = .ok (.iload_n 1, 1) := by decide +kernel
theorem dX19_setsIn_45 : decode cX19_setsIn 45 = .ok (.if_icmp .ne 5, 3) := by decide +kernel
theorem dX19_setsIn_48 : decode cX19_setsIn 48 = .ok (.iconst 1, 1) := by decide +kernel
theorem dX19_setsIn_49 : decode cX19_setsIn 49 = .ok (.ireturn, 1) := by decide +kernel
def o_P19_setsIn : List Cond := [.fieldLink RX19 116 "SsaForgeModel$Block" "rows" "Ljava/util/ArrayList;", .methodLink RX19 53 yJx4a65c_size_8abf5, .instanceMethod yJx4a65c_size_8abf5, .selects RJx4a65c yJx4a65c_size_8abf5 yJx4a65c_size_8abf5, .initialized RJx4a65c, .methodLink RX19 41 yJx4a65c_get_915e3, .instanceMethod yJx4a65c_get_915e3, .selects RJx4a65c yJx4a65c_get_915e3 yJx4a65c_get_915e3, .classLink RX19 65 "SsaForgeModel$Row", .methodLink RX19 119 yX17_sets, .instanceMethod yX17_sets, .selects RX17 yX17_sets yX17_sets, .initialized RX17, .fieldLink RX19 122 "SsaForgeModel$Row" "t" "I"]
def v_P19_setsIn : List Cond := .code yX19_setsIn cX19_setsIn 3 (some .boolean) :: (o_P19_setsIn ++ (wsX120 ++ (v_PL_size ++ (v_PL_get ++ (v_PR_sets ++ (wsX170 ++ []))))))
theorem mow_P19_setsIn : ∀ w ∈ o_P19_setsIn, w ∈ v_P19_setsIn := fun _ h => List.mem_cons_of_mem _ (List.mem_append_left _ h)
theorem mem_P19_setsIn_0 : ∀ w ∈ wsX120, w ∈ v_P19_setsIn := fun _ h => List.mem_cons_of_mem _ (List.mem_append_right _ (List.mem_append_left _ h))
theorem mem_P19_setsIn_1 : ∀ w ∈ v_PL_size, w ∈ v_P19_setsIn := fun _ h => List.mem_cons_of_mem _ (List.mem_append_right _ (List.mem_append_right _ (List.mem_append_left _ h)))
theorem mem_P19_setsIn_2 : ∀ w ∈ v_PL_get, w ∈ v_P19_setsIn := fun _ h => List.mem_cons_of_mem _ (List.mem_append_right _ (List.mem_append_right _ (List.mem_append_right _ (List.mem_append_left _ h))))
theorem mem_P19_setsIn_3 : ∀ w ∈ v_PR_sets, w ∈ v_P19_setsIn := fun _ h => List.mem_cons_of_mem _ (List.mem_append_right _ (List.mem_append_right _ (List.mem_append_right _ (List.mem_append_right _ (List.mem_append_left _ h)))))
theorem mem_P19_setsIn_4 : ∀ w ∈ wsX170, w ∈ v_P19_setsIn := fun _ h => List.mem_cons_of_mem _ (List.mem_append_right _ (List.mem_append_right _ (List.mem_append_right _ (List.mem_append_right _ (List.mem_append_right _ (List.mem_append_left _ h))))))
set_option maxRecDepth 20000 in
theorem gw_P19_setsIn : v_P19_setsIn.all goodWord = true := by decide +kernel
set_option maxRecDepth 20000 in
theorem g_P19_setsIn_PL_size : GoodIn v_P19_setsIn (wsV RX19 53 RJx4a65c yJx4a65c_size_8abf5 v_PL_size) := goodIn_app (goodIn_sub (fun w h => mow_P19_setsIn w (by revert w h; decide +kernel)) (by decide +kernel)) (goodIn_sub mem_P19_setsIn_1 gw_PL_size)
set_option maxRecDepth 20000 in
theorem g_P19_setsIn_PL_get : GoodIn v_P19_setsIn (wsV RX19 41 RJx4a65c yJx4a65c_get_915e3 v_PL_get) := goodIn_app (goodIn_sub (fun w h => mow_P19_setsIn w (by revert w h; decide +kernel)) (by decide +kernel)) (goodIn_sub mem_P19_setsIn_2 gw_PL_get)
set_option maxRecDepth 20000 in
theorem g_P19_setsIn_PR_sets : GoodIn v_P19_setsIn (wsV RX19 119 RX17 yX17_sets v_PR_sets) := goodIn_app (goodIn_sub (fun w h => mow_P19_setsIn w (by revert w h; decide +kernel)) (by decide +kernel)) (goodIn_sub mem_P19_setsIn_3 gw_PR_sets)
set_option maxHeartbeats 4000000 in
set_option maxRecDepth 100000 in
theorem c_P19_setsIn (l : Launch) (dC : Nat → ClassId) (dI : Nat → Nat → Nat) (cO : ClassId) (L : List Nat) (P : PO) (xb : Nat) (r0 : Int) (hX_x0 : xb ∈ L) (hX_k0 : P.kd xb = 12) (hX_b : LOK L P cO 17 (P.br xb)) (hNr : 0 ≤ r0 ∧ r0 ≤ 1001) (hX_ro : ∀ q : Nat, q ∈ L → P.kd q = 17 → (0 ≤ P.ro q ∧ P.ro q ≤ 40) ∧ (0 ≤ P.rt q ∧ P.rt q ≤ 1001)) (sz : Nat) : Met l yX19_setsIn v_P19_setsIn ({ frames := 3, cells := 0, slots := 0, locals := 64 }) (va_Pc [.ref xb, .int (zI (r0))] (fun U => U.heap.size = sz ∧ va_P (dC, dI) vwQ ([] ++ va_pl L (pE P)) U.heap ∧ va_K (dC, dI) vwQ [(cO, .object "java/lang/Object")] U ∧ va_D (fun _ => True) ([] ++ va_pl L (pE P)) ∧ va_Nw (.castable "SsaForgeModel$Row" "SsaForgeModel$Row") U)) (va_Qi (fun (r : Int32) (_ : Unit) => ∃ z : Int, r = zI z ∧ (0 ≤ z ∧ z ≤ 1)) (fun (_ : Unit) (t : State) => va_P (dC, dI) vwQ ([] ++ va_pl L (pE P)) t.heap ∧ va_K (dC, dI) vwQ [(cO, .object "java/lang/Object")] t ∧ va_D (va_A ([] ++ va_pl L (pE P)) sz) ([] ++ va_pl L (pE P))) (va_A ([] ++ va_pl L (pE P)) sz)) 0 0 (va_A ([] ++ va_pl L (pE P)) sz) := by
  refine Met.ofW (cc := cX19_setsIn) (maxL := 3) (ret := (some .boolean)) (by decide) rfl ?_
  intro p e s m args below meth c s₁ B hml hv
  obtain ⟨rfl, hsz, hP, hK, hD0, hp0⟩ := hv
  have hx := B.exec
  have hb := B.bytes
  have hr := B.returns
  have hts := atoms_spec (ws := v_P19_setsIn) B.pre
  have hown : s.vm.findClass RX19 = some m.cls := findClass_of_methodNamed B.named
  have hlocks := B.notSynchronized
  have ow : ∀ {k : Nat} {w : Cond}, o_P19_setsIn[k]? = some w → w.before ([.ref xb, .int (zI (r0))] : List Value).toArray s = true := fun h => hts _ (mow_P19_setsIn _ (List.mem_of_getElem? h))
  subst hsz
  have hD := hD0.self (sz := s.heap.size)
  generalize hAe : va_A ([] ++ va_pl L (pE P)) s.heap.size = A at hD ⊢
  have hA : ∀ q : Nat, s.heap.size ≤ q → A q := fun q h => by rw [← hAe]; exact Or.inr h
  have hS : va_S A s.heap s.heap [] := va_S.rf
  have hP : va_P (dC, dI) vwQ ([] ++ va_pl L (pE P)) s.heap := hP
  have hl := lv_entry ([.ref xb, .int (zI (r0))]) (n := 3) (Nat.le_of_ble_eq_true rfl)
  rw [lg_entry_eq]
  generalize (lg_sl ([.ref xb, .int (zI (r0))]) ++ List.replicate (3 - (lg_sl ([.ref xb, .int (zI (r0))])).length) Slot.unset).toArray = ls at hl ⊢
  have hl : lv_has ls 3 [(0, .ref xb), (1, .int (zI (r0)))] := hl
  obtain ⟨H, hH⟩ : ∃ H, H = s.heap := ⟨_, rfl⟩
  rw [← hH] at hP
  have hS : va_S A s.heap H [] := by rw [hH]; exact hS
  rw [← hH]
  refine zW_cap (fun Q hQ => ?_)
  refine lv_iconst (v := 0) hx hb dX19_setsIn_0 (by decide) ?_
  refine lv_istore_n (lv' := [(2, .int 0), (0, .ref xb), (1, .int (zI (r0)))]) hx hb dX19_setsIn_1 rfl hl (by decide) rfl (fun ls hl => ?_)
  have key2 : ∀ n2 : Nat, ∀ (d2_2 : Int) (ls : Array Slot) (H : Heap) (locs : List Loc), (0 ≤ d2_2 ∧ d2_2 ≤ 40000) → ((P.lz (P.br xb) - d2_2 : Int).toNat) < n2 → lv_has ls 3 [(0, .ref xb), (1, .int (zI (r0))), (2, .int (zI (d2_2)))] → va_P (dC, dI) vwQ ([] ++ va_pl L (pE P)) H → va_D A ([] ++ va_pl L (pE P)) → va_S A s.heap H locs → W p l e (headSpec v_P19_setsIn ({ frames := 3, cells := 0, slots := 0, locals := 64 })).room s m ([.ref xb, .int (zI (r0))] : List Value).toArray below meth c H locs 0 0 Q (F0 m 2 ls []) := by
    intro n2
    induction n2 with
    | zero => intro d2_2 ls H locs jd2_2 hm2; exact absurd hm2 (by omega)
    | succ n2 ih2 =>
      intro d2_2 ls H locs jd2_2 hm2 hl hP hD hS
      refine lv_iload_n hx hb dX19_setsIn_2 rfl (lv_at hl 2 rfl) ?_
      refine lv_aload_n hx hb dX19_setsIn_3 rfl (lv_at hl 0 rfl) ?_
      obtain ⟨kp_1, hkp_1⟩ := va_pl_get (X := []) (f := pE P) hX_x0
      rw [pE_block hX_k0] at hkp_1
      refine va_get (D := (dC, dI)) (ci := 19) (v := .ref (P.br xb)) (C := RX12) (T := TX12) (N := 5) hx hb hts mem_P19_setsIn_0 hown hK hP kp_1 hkp_1 rfl 1 (by decide) (ow (k := 0) rfl) (fun _ h9 => h9) rfl dX19_setsIn_4 ?_
      obtain ⟨pr_2, epr_2⟩ : ∃ q9 : Nat, q9 = P.br xb := ⟨_, rfl⟩
      rw [← epr_2]
      have hbl : LOK L P cO 17 pr_2 := (by rw [epr_2]; exact hX_b)
      have hlpr_2 : P.lz pr_2 = P.lz (P.br xb) := (by rw [epr_2])
      have hX_x := hbl.1
      have hX_k := hbl.2.1
      have hlz := hbl.2.2.1
      have hPc := hP.part (X := []) (cx := []) (pl := va_pl L (pE P)) [] rfl
      have hDc := hD.part (X := []) (cx := []) (pl := va_pl L (pE P)) [] (by decide) rfl
      have hKc := hK.sub (tys' := [(cO, .object "java/lang/Object")]) [0] rfl
      have hFc := va_freeP (X := []) (cx := []) (pl := va_pl L (pE P)) hD hS hA [] rfl
      refine va_calli (va_runV (As := []) (rest := [.int (zI (d2_2))]) ⟨hx, hb, hml, hown, hts⟩ (c_PL_size l dC dI cO L P pr_2 hX_x hX_k (by omega) H.size) (cwV 0 hts g_P19_setsIn_PL_size rfl rfl rfl (by decide +kernel) ⟨(Nat.le_of_ble_eq_true rfl), (Nat.le_of_ble_eq_true rfl)⟩) ⟨fun a U g mk q => by obtain ⟨q0, q1, qP, qK, qD⟩ := q; exact ⟨q0, q1, qP, va_K.moved (u := U) (U := U.calling g mk a) (Vm.Alike.refl U.vm) qK, qD⟩, recv_30 hKc hPc hbl.1 hbl.2.1, fun U hU hW => ⟨rfl, by rw [hU], by rw [hU]; exact hPc, va_K.moved hW.alike hKc, hDc.weaken (fun _ _ _ _ => trivial)⟩⟩ rfl rfl hl.1 rfl (lv_room (Nat.le_of_ble_eq_true rfl)) dX19_setsIn_7 ⟨(Nat.le_of_ble_eq_true rfl), (Nat.le_of_ble_eq_true rfl)⟩) hS (fun q _ h => hFc q h) hFc (fun r_3 u t H1 locs ht hvm hw hB hz1 hk1 hS => ?_)
      obtain ⟨hP1, hK1, hD1⟩ := hB
      rw [ht] at hP1
      have hK1 := va_K.moved hvm.symm hK1
      obtain ⟨hP, hD⟩ := va_joinP (X := []) (cx := []) (wr := []) (rx := []) (pl := va_pl L (pE P)) (pl1 := va_pl L (pE P)) hP hD [] [] rfl rfl (by decide) (by decide) hk1 hFc hP1 hD1
      have hK := (hK.sub (tys' := []) [] rfl).app hK1
      generalize H1 = H at hP hS ⊢
      have hP : va_P (dC, dI) vwQ ([] ++ va_pl L (pE P)) H := hP
      have hD : va_D A ([] ++ va_pl L (pE P)) := hD
      have hK : va_K (dC, dI) vwQ [(cO, .object "java/lang/Object")] s := hK
      refine W.widen (k := 0) (n := 0) (Nat.le_of_ble_eq_true rfl) (Nat.le_of_ble_eq_true rfl) ?_
      obtain rfl : r_3 = (zI (P.lz pr_2)) := hw
      refine lv_icmp_ge (tgt := 56) hx hb dX19_setsIn_10 (by decide) (fun b10 => ?_) (fun b10 => ?_)
      · have yb10 : (P.lz pr_2 : Int) ≤ (d2_2 : Int) := (zI_le (a := P.lz pr_2) (b := d2_2) (by omega) (by omega) (by omega) (by omega)).mp b10
        refine lv_iconst (v := 0) hx hb dX19_setsIn_56 (by decide) ?_
        subst hQ
        refine W.widen (k := 0) (n := 0) (Nat.le_of_ble_eq_true rfl) (Nat.le_of_ble_eq_true rfl) ?_
        exact W.zret (v := 0) hx hb hr (by decide) (fun t ht hW => ⟨⟨0, (), rfl, ⟨0, rfl, by omega⟩, by rw [ht]; exact hP, va_K.moved hW.alike hK, hD⟩, hS.F ht⟩) hS.2.2 dX19_setsIn_57
      · have yb10 : ¬ (P.lz pr_2 : Int) ≤ (d2_2 : Int) := fun q => b10 ((zI_le (a := P.lz pr_2) (b := d2_2) (by omega) (by omega) (by omega) (by omega)).mpr q)
        refine lv_aload_n hx hb dX19_setsIn_13 rfl (lv_at hl 0 rfl) ?_
        obtain ⟨kp_4, hkp_4⟩ := va_pl_get (X := []) (f := pE P) hX_x0
        rw [pE_block hX_k0] at hkp_4
        refine va_get (D := (dC, dI)) (ci := 19) (v := .ref (P.br xb)) (C := RX12) (T := TX12) (N := 5) hx hb hts mem_P19_setsIn_0 hown hK hP kp_4 hkp_4 rfl 1 (by decide) (ow (k := 0) rfl) (fun _ h9 => h9) rfl dX19_setsIn_14 ?_
        obtain ⟨pr_5, epr_5⟩ : ∃ q9 : Nat, q9 = P.br xb := ⟨_, rfl⟩
        rw [← epr_5]
        have hbl : LOK L P cO 17 pr_5 := (by rw [epr_5]; exact hX_b)
        have hlpr_5 : P.lz pr_5 = P.lz (P.br xb) := (by rw [epr_5])
        refine lv_iload_n hx hb dX19_setsIn_17 rfl (lv_at hl 2 rfl) ?_
        obtain ⟨x, ex⟩ : ∃ q9 : Nat, q9 = P.el pr_5 (d2_2) := ⟨_, rfl⟩
        have hX_x := hbl.1
        have hX_k := hbl.2.1
        have hq9 := hbl.row (i := d2_2) (by omega) (by omega)
        have hX_q : P.le pr_5 ∈ L ∧ P.kd (P.le pr_5) = 31 ∧ P.ac (P.le pr_5) = cO := ⟨hq9.1, hq9.2.1, hq9.2.2.1⟩
        have hq8 := hq9.2.2.2
        have hX_e0 : P.oa (P.le pr_5) (d2_2).toNat = some x := (by rw [ex]; exact (hbl.2.2.2.2 (d2_2) (by omega) (by omega)).1)
        have hxm : x ∈ L := (by rw [ex]; exact (hbl.2.2.2.2 (d2_2) (by omega) (by omega)).2.1)
        have hxk := (hbl.2.2.2.2 (d2_2) (by omega) (by omega)).2.2
        rw [← ex] at hxk
        have hPc := hP.part (X := []) (cx := []) (pl := va_pl L (pE P)) [] rfl
        have hDc := hD.part (X := []) (cx := []) (pl := va_pl L (pE P)) [] (by decide) rfl
        have hKc := hK.sub (tys' := [(cO, .object "java/lang/Object")]) [0] rfl
        have hFc := va_freeP (X := []) (cx := []) (pl := va_pl L (pE P)) hD hS hA [] rfl
        refine va_callr (va_runV (As := [.int (zI (d2_2))]) (rest := []) ⟨hx, hb, hml, hown, hts⟩ (c_PL_get l dC dI cO L P pr_5 d2_2 x hX_x hX_k hX_q (by omega) hX_e0 H.size) (cwV 1 hts g_P19_setsIn_PL_get rfl rfl rfl (by decide +kernel) ⟨(Nat.le_of_ble_eq_true rfl), (Nat.le_of_ble_eq_true rfl)⟩) ⟨fun a U g mk q => by obtain ⟨q0, q1, qP, qK, qD⟩ := q; exact ⟨q0, q1, qP, va_K.moved (u := U) (U := U.calling g mk a) (Vm.Alike.refl U.vm) qK, qD⟩, recv_30 hKc hPc hbl.1 hbl.2.1, fun U hU hW => ⟨rfl, by rw [hU], by rw [hU]; exact hPc, va_K.moved hW.alike hKc, hDc.weaken (fun _ _ _ _ => trivial)⟩⟩ rfl rfl hl.1 rfl (lv_room (Nat.le_of_ble_eq_true rfl)) dX19_setsIn_18 ⟨(Nat.le_of_ble_eq_true rfl), (Nat.le_of_ble_eq_true rfl)⟩) hS (fun q _ h => hFc q h) hFc (fun u q_6 t H1 locs ht hvm hw hB hz1 hk1 hS => ?_)
        obtain ⟨hxt_6, hP1, hK1, hD1⟩ := hB
        rw [ht] at hP1
        have hK1 := va_K.moved hvm.symm hK1
        obtain ⟨hP, hD⟩ := va_joinP (X := []) (cx := []) (wr := []) (rx := []) (pl := va_pl L (pE P)) (pl1 := va_pl L (pE P)) hP hD [] [] rfl rfl (by decide) (by decide) hk1 hFc hP1 hD1
        have hK := (hK.sub (tys' := []) [] rfl).app hK1
        generalize H1 = H at hP hS ⊢
        have hP : va_P (dC, dI) vwQ ([] ++ va_pl L (pE P)) H := hP
        have hD : va_D A ([] ++ va_pl L (pE P)) := hD
        have hK : va_K (dC, dI) vwQ [(cO, .object "java/lang/Object")] s := hK
        refine W.widen (k := 0) (n := 0) (Nat.le_of_ble_eq_true rfl) (Nat.le_of_ble_eq_true rfl) ?_
        rw [hxt_6]
        refine va_castY (C := "SsaForgeModel$Row") (nm := "SsaForgeModel$Row") hx hb hown (ow (k := 8) rfl) hp0 (recv_17 hK hP hxm hxk) dX19_setsIn_21 ?_
        have hX_x := hxm
        have hX_k := hxk
        have hro := (hX_ro x hxm hxk).1
        have hPc := hP.part (X := []) (cx := []) (pl := va_pl L (pE P)) [] rfl
        have hDc := hD.part (X := []) (cx := []) (pl := va_pl L (pE P)) [] (by decide) rfl
        have hKc := hK.sub (tys' := [(cO, .object "java/lang/Object")]) [0] rfl
        have hFc := va_freeP (X := []) (cx := []) (pl := va_pl L (pE P)) hD hS hA [] rfl
        refine va_calli (va_runV (As := []) (rest := []) ⟨hx, hb, hml, hown, hts⟩ (c_PR_sets l dC dI cO L P x hX_x hX_k (by omega) H.size) (cwV 0 hts g_P19_setsIn_PR_sets rfl rfl rfl (by decide +kernel) ⟨(Nat.le_of_ble_eq_true rfl), (Nat.le_of_ble_eq_true rfl)⟩) ⟨fun a U g mk q => by obtain ⟨q0, q1, qP, qK, qD⟩ := q; exact ⟨q0, q1, qP, va_K.moved (u := U) (U := U.calling g mk a) (Vm.Alike.refl U.vm) qK, qD⟩, recv_17 hKc hPc hxm hxk, fun U hU hW => ⟨rfl, by rw [hU], by rw [hU]; exact hPc, va_K.moved hW.alike hKc, hDc.weaken (fun _ _ _ _ => trivial)⟩⟩ rfl rfl hl.1 rfl (lv_room (Nat.le_of_ble_eq_true rfl)) dX19_setsIn_24 ⟨(Nat.le_of_ble_eq_true rfl), (Nat.le_of_ble_eq_true rfl)⟩) hS (fun q _ h => hFc q h) hFc (fun r_7 u t H1 locs ht hvm hw hB hz1 hk1 hS => ?_)
        obtain ⟨hP1, hK1, hD1⟩ := hB
        rw [ht] at hP1
        have hK1 := va_K.moved hvm.symm hK1
        obtain ⟨hP, hD⟩ := va_joinP (X := []) (cx := []) (wr := []) (rx := []) (pl := va_pl L (pE P)) (pl1 := va_pl L (pE P)) hP hD [] [] rfl rfl (by decide) (by decide) hk1 hFc hP1 hD1
        have hK := (hK.sub (tys' := []) [] rfl).app hK1
        generalize H1 = H at hP hS ⊢
        have hP : va_P (dC, dI) vwQ ([] ++ va_pl L (pE P)) H := hP
        have hD : va_D A ([] ++ va_pl L (pE P)) := hD
        have hK : va_K (dC, dI) vwQ [(cO, .object "java/lang/Object")] s := hK
        refine W.widen (k := 0) (n := 0) (Nat.le_of_ble_eq_true rfl) (Nat.le_of_ble_eq_true rfl) ?_
        obtain rfl : r_7 = (zI (rSets (P.ro x))) := hw
        have := rSets_spec (P.ro x)
        refine lv_if_eq (tgt := 50) hx hb dX19_setsIn_27 (by decide) (fun b27 => ?_) (fun b27 => ?_)
        · have yb27 : (rSets (P.ro x) : Int) = (0 : Int) := (zI_eq (a := rSets (P.ro x)) (b := 0) (by omega) (by omega) (by omega) (by omega)).mp b27
          refine lv_iinc (v := zI (d2_2 + 1)) (lv' := [(2, .int (zI (d2_2 + 1))), (0, .ref xb), (1, .int (zI (r0)))]) hx hb dX19_setsIn_50 hl (k := 2) rfl (zI_add (d2_2) (1)) (by decide) rfl (fun ls hl => ?_)
          refine lv_goto (tgt := 2) hx hb dX19_setsIn_53 (by decide) ?_
          exact ih2 (d2_2 + 1) ls H _ (by omega) (by omega) (lv_sub hl [1, 2, 0] rfl) hP hD hS
        · have yb27 : ¬ (rSets (P.ro x) : Int) = (0 : Int) := fun q => b27 ((zI_eq (a := rSets (P.ro x)) (b := 0) (by omega) (by omega) (by omega) (by omega)).mpr q)
          refine lv_aload_n hx hb dX19_setsIn_30 rfl (lv_at hl 0 rfl) ?_
          obtain ⟨kp_8, hkp_8⟩ := va_pl_get (X := []) (f := pE P) hX_x0
          rw [pE_block hX_k0] at hkp_8
          refine va_get (D := (dC, dI)) (ci := 19) (v := .ref (P.br xb)) (C := RX12) (T := TX12) (N := 5) hx hb hts mem_P19_setsIn_0 hown hK hP kp_8 hkp_8 rfl 1 (by decide) (ow (k := 0) rfl) (fun _ h9 => h9) rfl dX19_setsIn_31 ?_
          obtain ⟨pr_9, epr_9⟩ : ∃ q9 : Nat, q9 = P.br xb := ⟨_, rfl⟩
          rw [← epr_9]
          have hbl : LOK L P cO 17 pr_9 := (by rw [epr_9]; exact hX_b)
          have hlpr_9 : P.lz pr_9 = P.lz (P.br xb) := (by rw [epr_9])
          refine lv_iload_n hx hb dX19_setsIn_34 rfl (lv_at hl 2 rfl) ?_
          obtain ⟨x, ex⟩ : ∃ q9 : Nat, q9 = P.el pr_9 (d2_2) := ⟨_, rfl⟩
          have hX_x := hbl.1
          have hX_k := hbl.2.1
          have hq9 := hbl.row (i := d2_2) (by omega) (by omega)
          have hX_q : P.le pr_9 ∈ L ∧ P.kd (P.le pr_9) = 31 ∧ P.ac (P.le pr_9) = cO := ⟨hq9.1, hq9.2.1, hq9.2.2.1⟩
          have hq8 := hq9.2.2.2
          have hX_e0 : P.oa (P.le pr_9) (d2_2).toNat = some x := (by rw [ex]; exact (hbl.2.2.2.2 (d2_2) (by omega) (by omega)).1)
          have hxm : x ∈ L := (by rw [ex]; exact (hbl.2.2.2.2 (d2_2) (by omega) (by omega)).2.1)
          have hxk := (hbl.2.2.2.2 (d2_2) (by omega) (by omega)).2.2
          rw [← ex] at hxk
          have hPc := hP.part (X := []) (cx := []) (pl := va_pl L (pE P)) [] rfl
          have hDc := hD.part (X := []) (cx := []) (pl := va_pl L (pE P)) [] (by decide) rfl
          have hKc := hK.sub (tys' := [(cO, .object "java/lang/Object")]) [0] rfl
          have hFc := va_freeP (X := []) (cx := []) (pl := va_pl L (pE P)) hD hS hA [] rfl
          refine va_callr (va_runV (As := [.int (zI (d2_2))]) (rest := []) ⟨hx, hb, hml, hown, hts⟩ (c_PL_get l dC dI cO L P pr_9 d2_2 x hX_x hX_k hX_q (by omega) hX_e0 H.size) (cwV 1 hts g_P19_setsIn_PL_get rfl rfl rfl (by decide +kernel) ⟨(Nat.le_of_ble_eq_true rfl), (Nat.le_of_ble_eq_true rfl)⟩) ⟨fun a U g mk q => by obtain ⟨q0, q1, qP, qK, qD⟩ := q; exact ⟨q0, q1, qP, va_K.moved (u := U) (U := U.calling g mk a) (Vm.Alike.refl U.vm) qK, qD⟩, recv_30 hKc hPc hbl.1 hbl.2.1, fun U hU hW => ⟨rfl, by rw [hU], by rw [hU]; exact hPc, va_K.moved hW.alike hKc, hDc.weaken (fun _ _ _ _ => trivial)⟩⟩ rfl rfl hl.1 rfl (lv_room (Nat.le_of_ble_eq_true rfl)) dX19_setsIn_35 ⟨(Nat.le_of_ble_eq_true rfl), (Nat.le_of_ble_eq_true rfl)⟩) hS (fun q _ h => hFc q h) hFc (fun u q_10 t H1 locs ht hvm hw hB hz1 hk1 hS => ?_)
          obtain ⟨hxt_10, hP1, hK1, hD1⟩ := hB
          rw [ht] at hP1
          have hK1 := va_K.moved hvm.symm hK1
          obtain ⟨hP, hD⟩ := va_joinP (X := []) (cx := []) (wr := []) (rx := []) (pl := va_pl L (pE P)) (pl1 := va_pl L (pE P)) hP hD [] [] rfl rfl (by decide) (by decide) hk1 hFc hP1 hD1
          have hK := (hK.sub (tys' := []) [] rfl).app hK1
          generalize H1 = H at hP hS ⊢
          have hP : va_P (dC, dI) vwQ ([] ++ va_pl L (pE P)) H := hP
          have hD : va_D A ([] ++ va_pl L (pE P)) := hD
          have hK : va_K (dC, dI) vwQ [(cO, .object "java/lang/Object")] s := hK
          refine W.widen (k := 0) (n := 0) (Nat.le_of_ble_eq_true rfl) (Nat.le_of_ble_eq_true rfl) ?_
          rw [hxt_10]
          refine va_castY (C := "SsaForgeModel$Row") (nm := "SsaForgeModel$Row") hx hb hown (ow (k := 8) rfl) hp0 (recv_17 hK hP hxm hxk) dX19_setsIn_38 ?_
          have hrt := (hX_ro x hxm hxk).2
          obtain ⟨kp_11, hkp_11⟩ := va_pl_get (X := []) (f := pE P) hxm
          rw [pE_row hxk] at hkp_11
          refine va_get (D := (dC, dI)) (ci := 21) (v := .int (zI (P.rt x))) (C := RX17) (T := TX17) (N := 7) hx hb hts mem_P19_setsIn_4 hown hK hP kp_11 hkp_11 rfl 1 (by decide) (ow (k := 13) rfl) (fun _ h9 => h9) rfl dX19_setsIn_41 ?_
          refine lv_iload_n hx hb dX19_setsIn_44 rfl (lv_at hl 1 rfl) ?_
          refine lv_icmp_ne (tgt := 50) hx hb dX19_setsIn_45 (by decide) (fun b45 => ?_) (fun b45 => ?_)
          · have yb45 : ¬ (P.rt x : Int) = (r0 : Int) := fun q => b45 ((zI_eq (a := P.rt x) (b := r0) (by omega) (by omega) (by omega) (by omega)).mpr q)
            refine lv_iinc (v := zI (d2_2 + 1)) (lv' := [(2, .int (zI (d2_2 + 1))), (0, .ref xb), (1, .int (zI (r0)))]) hx hb dX19_setsIn_50 hl (k := 2) rfl (zI_add (d2_2) (1)) (by decide) rfl (fun ls hl => ?_)
            refine lv_goto (tgt := 2) hx hb dX19_setsIn_53 (by decide) ?_
            exact ih2 (d2_2 + 1) ls H _ (by omega) (by omega) (lv_sub hl [1, 2, 0] rfl) hP hD hS
          · have yb45 : (P.rt x : Int) = (r0 : Int) := (zI_eq (a := P.rt x) (b := r0) (by omega) (by omega) (by omega) (by omega)).mp b45
            refine lv_iconst (v := 1) hx hb dX19_setsIn_48 (by decide) ?_
            subst hQ
            refine W.widen (k := 0) (n := 0) (Nat.le_of_ble_eq_true rfl) (Nat.le_of_ble_eq_true rfl) ?_
            exact W.zret (v := 1) hx hb hr (by decide) (fun t ht hW => ⟨⟨1, (), rfl, ⟨1, rfl, by omega⟩, by rw [ht]; exact hP, va_K.moved hW.alike hK, hD⟩, hS.F ht⟩) hS.2.2 dX19_setsIn_49
  exact key2 ((P.lz (P.br xb) - 0 : Int).toNat + 1) 0 ls H _ (by omega) (by omega) (lv_sub hl [1, 2, 0] rfl) hP hD hS
