theorem dX19_same_0 : decode cX19_same 0 = .ok (.aload_n 0, 1) := by decide +kernel
theorem dX19_same_1 : decode cX19_same 1 = .ok (.getfield 81, 3) := by decide +kernel
theorem dX19_same_4 : decode cX19_same 4 = .ok (.aload_n 1, 1) := by decide +kernel
theorem dX19_same_5 : decode cX19_same 5 = .ok (.getfield 81, 3) := by decide +kernel
theorem dX19_same_8 : decode cX19_same 8 = .ok (.if_icmp .eq 5, 3) := by decide +kernel
theorem dX19_same_13 : decode cX19_same 13 = .ok (.iconst 0, 1) := by decide +kernel
theorem dX19_same_14 : decode cX19_same 14 = .ok (.istore_n 2, 1) := by decide +kernel
theorem dX19_same_15 : decode cX19_same 15 = .ok (.iload_n 2, 1) := by decide +kernel
theorem dX19_same_16 : decode cX19_same 16 = .ok (.aload_n 0, 1) := by decide +kernel
theorem dX19_same_17 : decode cX19_same 17 = .ok (.getfield 81, 3) := by decide +kernel
theorem dX19_same_20 : decode cX19_same 20 = .ok (.if_icmp .ge 56, 3) := by decide +kernel
theorem dX19_same_76 : decode cX19_same 76 = .ok (.iconst 1, 1) := by decide +kernel
theorem dX19_same_77 : decode cX19_same 77 = .ok (.ireturn, 1) := by decide +kernel
theorem dX19_same_23 : decode cX19_same 23 = .ok (.aload_n 1, 1) := by decide +kernel
theorem dX19_same_24 : decode cX19_same 24 = .ok (.aload_n 0, 1) := by decide +kernel
theorem dX19_same_25 : decode cX19_same 25 = .ok (.getfield 84, 3) := by decide +kernel
theorem dX19_same_28 : decode cX19_same 28 = .ok (.iload_n 2, 1) := by decide +kernel
theorem dX19_same_29 : decode cX19_same 29 = .ok (.iaload, 1) := by decide +kernel
theorem dX19_same_30 : decode cX19_same 30 = .ok (.invokevirtual 303, 3) := by decide +kernel
theorem dX19_same_33 : decode cX19_same 33 = .ok (.istore_n 3, 1) := by decide +kernel
theorem dX19_same_34 : decode cX19_same 34 = .ok (.iload_n 3, 1) := by decide +kernel
theorem dX19_same_35 : decode cX19_same 35 = .ok (.ifCond .lt 33, 3) := by decide +kernel
theorem dX19_same_68 : decode cX19_same 68 = .ok (.iconst 0, 1) := by decide +kernel
theorem dX19_same_69 : decode cX19_same 69 = .ok (.ireturn, 1) := by decide +kernel
theorem dX19_same_38 : decode cX19_same 38 = .ok (.aload_n 0, 1) := by decide +kernel
theorem dX19_same_39 : decode cX19_same 39 = .ok (.getfield 253, 3) := by decide +kernel
theorem dX19_same_42 : decode cX19_same 42 = .ok (.iload_n 2, 1) := by decide +kernel
theorem dX19_same_43 : decode cX19_same 43 = .ok (.baload, 1) := by decide +kernel
theorem dX19_same_44 : decode cX19_same 44 = .ok (.aload_n 1, 1) := by decide +kernel
theorem dX19_same_45 : decode cX19_same 45 = .ok (.getfield 253, 3) := by decide +kernel
theorem dX19_same_48 : decode cX19_same 48 = .ok (.iload_n 3, 1) := by decide +kernel
theorem dX19_same_49 : decode cX19_same 49 = .ok (.baload, 1) := by decide +kernel
theorem dX19_same_50 : decode cX19_same 50 = .ok (.if_icmp .ne 18, 3) := by decide +kernel
theorem dX19_same_53 : decode cX19_same 53 = .ok (.aload_n 0, 1) := by decide +kernel
theorem dX19_same_54 : decode cX19_same 54 = .ok (.getfield 213, 3) := by decide +kernel
theorem dX19_same_57 : decode cX19_same 57 = .ok (.iload_n 2, 1) := by decide +kernel
theorem dX19_same_58 : decode cX19_same 58 = .ok (.iaload, 1) := by decide +kernel
theorem dX19_same_59 : decode cX19_same 59 = .ok (.aload_n 1, 1) := by decide +kernel
theorem dX19_same_60 : decode cX19_same 60 = .ok (.getfield 213, 3) := by decide +kernel
theorem dX19_same_63 : decode cX19_same 63 = .ok (.iload_n 3, 1) := by decide +kernel
theorem dX19_same_64 : decode cX19_same 64 = .ok (.iaload, 1) := by decide +kernel
theorem dX19_same_65 : decode cX19_same 65 = .ok (.if_icmp .eq 5, 3) := by decide +kernel
theorem dX19_same_70 : decode cX19_same 70 = .ok (.iinc 2 1, 3) := by decide +kernel
theorem dX19_same_73 : decode cX19_same 73 = .ok (.goto (-58), 3) := by decide +kernel
theorem dX19_same_11 : decode cX19_same 11 = .ok (.iconst 0, 1) := by decide +kernel
theorem dX19_same_12 : decode cX19_same 12 = .ok (.ireturn, 1) := by decide +kernel
def o_P19_same : List Cond := [.fieldLink RX19 81 "SsaForgeModel$Phi" "n" "I", .fieldLink RX19 84 "SsaForgeModel$Phi" "preds" "[I", .methodLink RX19 303 yX15_place, .instanceMethod yX15_place, .selects RX15 yX15_place yX15_place, .initialized RX15, .fieldLink RX19 253 "SsaForgeModel$Phi" "regs" "[Z", .fieldLink RX19 213 "SsaForgeModel$Phi" "operands" "[I"]
def v_P19_same : List Cond := .code yX19_same cX19_same 4 (some .boolean) :: (o_P19_same ++ (wsX150 ++ (v_PP_place ++ [])))
theorem mow_P19_same : ∀ w ∈ o_P19_same, w ∈ v_P19_same := fun _ h => List.mem_cons_of_mem _ (List.mem_append_left _ h)
theorem mem_P19_same_0 : ∀ w ∈ wsX150, w ∈ v_P19_same := fun _ h => List.mem_cons_of_mem _ (List.mem_append_right _ (List.mem_append_left _ h))
theorem mem_P19_same_1 : ∀ w ∈ v_PP_place, w ∈ v_P19_same := fun _ h => List.mem_cons_of_mem _ (List.mem_append_right _ (List.mem_append_right _ (List.mem_append_left _ h)))
set_option maxRecDepth 20000 in
theorem gw_P19_same : v_P19_same.all goodWord = true := by decide +kernel
set_option maxRecDepth 20000 in
theorem g_P19_same_PP_place : GoodIn v_P19_same (wsV RX19 303 RX15 yX15_place v_PP_place) := goodIn_app (goodIn_sub (fun w h => mow_P19_same w (by revert w h; decide +kernel)) (by decide +kernel)) (goodIn_sub mem_P19_same_1 gw_PP_place)
set_option maxHeartbeats 4000000 in
set_option maxRecDepth 100000 in
theorem c_P19_same (l : Launch) (dC : Nat → ClassId) (dI : Nat → Nat → Nat) (cO : ClassId) (cI : ClassId) (cZ : ClassId) (L : List Nat) (P : PO) (xp : Nat) (xo : Nat) (hX_p : PIK L P cI cZ xp) (hX_o : PIK L P cI cZ xo) (sz : Nat) : Met l yX19_same v_P19_same ({ frames := 1, cells := 0, slots := 0, locals := 22 }) (va_Pc [.ref xp, .ref xo] (fun U => U.heap.size = sz ∧ va_P (dC, dI) vwQ ([] ++ va_pl L (pE P)) U.heap ∧ va_K (dC, dI) vwQ [(cO, .object "java/lang/Object"), (cI, .int), (cZ, .boolean)] U ∧ va_D (fun _ => True) ([] ++ va_pl L (pE P)))) (va_Qi (fun (r : Int32) (_ : Unit) => ∃ z : Int, r = zI z ∧ (0 ≤ z ∧ z ≤ 1)) (fun (_ : Unit) (t : State) => va_P (dC, dI) vwQ ([] ++ va_pl L (pE P)) t.heap ∧ va_K (dC, dI) vwQ [(cO, .object "java/lang/Object"), (cI, .int), (cZ, .boolean)] t ∧ va_D (va_A ([] ++ va_pl L (pE P)) sz) ([] ++ va_pl L (pE P))) (va_A ([] ++ va_pl L (pE P)) sz)) 0 0 (va_A ([] ++ va_pl L (pE P)) sz) := by
  refine Met.ofW (cc := cX19_same) (maxL := 4) (ret := (some .boolean)) (by decide) rfl ?_
  intro p e s m args below meth c s₁ B hml hv
  obtain ⟨rfl, hsz, hP, hK, hD0⟩ := hv
  have hx := B.exec
  have hb := B.bytes
  have hr := B.returns
  have hts := atoms_spec (ws := v_P19_same) B.pre
  have hown : s.vm.findClass RX19 = some m.cls := findClass_of_methodNamed B.named
  have hlocks := B.notSynchronized
  have ow : ∀ {k : Nat} {w : Cond}, o_P19_same[k]? = some w → w.before ([.ref xp, .ref xo] : List Value).toArray s = true := fun h => hts _ (mow_P19_same _ (List.mem_of_getElem? h))
  subst hsz
  have hD := hD0.self (sz := s.heap.size)
  generalize hAe : va_A ([] ++ va_pl L (pE P)) s.heap.size = A at hD ⊢
  have hA : ∀ q : Nat, s.heap.size ≤ q → A q := fun q h => by rw [← hAe]; exact Or.inr h
  have hS : va_S A s.heap s.heap [] := va_S.rf
  have hP : va_P (dC, dI) vwQ ([] ++ va_pl L (pE P)) s.heap := hP
  have hl := lv_entry ([.ref xp, .ref xo]) (n := 4) (Nat.le_of_ble_eq_true rfl)
  rw [lg_entry_eq]
  generalize (lg_sl ([.ref xp, .ref xo]) ++ List.replicate (4 - (lg_sl ([.ref xp, .ref xo])).length) Slot.unset).toArray = ls at hl ⊢
  have hl : lv_has ls 4 [(0, .ref xp), (1, .ref xo)] := hl
  obtain ⟨H, hH⟩ : ∃ H, H = s.heap := ⟨_, rfl⟩
  rw [← hH] at hP
  have hS : va_S A s.heap H [] := by rw [hH]; exact hS
  rw [← hH]
  refine zW_cap (fun Q hQ => ?_)
  have hA9 := hX_p
  have hB9 := hX_o
  have hpn := hA9.2.2.2.2.1
  have hqn := hB9.2.2.2.2.1
  refine lv_aload_n hx hb dX19_same_0 rfl (lv_at hl 0 rfl) ?_
  obtain ⟨kp_1, hkp_1⟩ := va_pl_get (X := []) (f := pE P) hA9.1.1
  rw [pE_phi hA9.1.2] at hkp_1
  refine va_get (D := (dC, dI)) (ci := 20) (v := .int (zI (P.pn xp))) (C := RX15) (T := TX15) (N := 6) hx hb hts mem_P19_same_0 hown hK hP kp_1 hkp_1 rfl 1 (by decide) (ow (k := 0) rfl) (fun _ h9 => h9) rfl dX19_same_1 ?_
  refine lv_aload_n hx hb dX19_same_4 rfl (lv_at hl 1 rfl) ?_
  obtain ⟨kp_2, hkp_2⟩ := va_pl_get (X := []) (f := pE P) hB9.1.1
  rw [pE_phi hB9.1.2] at hkp_2
  refine va_get (D := (dC, dI)) (ci := 20) (v := .int (zI (P.pn xo))) (C := RX15) (T := TX15) (N := 6) hx hb hts mem_P19_same_0 hown hK hP kp_2 hkp_2 rfl 1 (by decide) (ow (k := 0) rfl) (fun _ h9 => h9) rfl dX19_same_5 ?_
  refine lv_icmp_eq (tgt := 13) hx hb dX19_same_8 (by decide) (fun b8 => ?_) (fun b8 => ?_)
  · have yb8 : (P.pn xp : Int) = (P.pn xo : Int) := (zI_eq (a := P.pn xp) (b := P.pn xo) (by omega) (by omega) (by omega) (by omega)).mp b8
    refine lv_iconst (v := 0) hx hb dX19_same_13 (by decide) ?_
    refine lv_istore_n (lv' := [(2, .int 0), (0, .ref xp), (1, .ref xo)]) hx hb dX19_same_14 rfl hl (by decide) rfl (fun ls hl => ?_)
    have key15 : ∀ n15 : Nat, ∀ (d15_2 : Int) (ls : Array Slot) (H : Heap) (locs : List Loc), (0 ≤ d15_2 ∧ d15_2 ≤ P.pn xp) → ((P.pn xp - d15_2 : Int).toNat) < n15 → lv_has ls 4 [(0, .ref xp), (1, .ref xo), (2, .int (zI (d15_2)))] → va_P (dC, dI) vwQ ([] ++ va_pl L (pE P)) H → va_D A ([] ++ va_pl L (pE P)) → va_S A s.heap H locs → W p l e (headSpec v_P19_same ({ frames := 1, cells := 0, slots := 0, locals := 22 })).room s m ([.ref xp, .ref xo] : List Value).toArray below meth c H locs 0 0 Q (F0 m 15 ls []) := by
      intro n15
      induction n15 with
      | zero => intro d15_2 ls H locs jd15_2 hm15; exact absurd hm15 (by omega)
      | succ n15 ih15 =>
        intro d15_2 ls H locs jd15_2 hm15 hl hP hD hS
        refine lv_iload_n hx hb dX19_same_15 rfl (lv_at hl 2 rfl) ?_
        refine lv_aload_n hx hb dX19_same_16 rfl (lv_at hl 0 rfl) ?_
        obtain ⟨kp_3, hkp_3⟩ := va_pl_get (X := []) (f := pE P) hA9.1.1
        rw [pE_phi hA9.1.2] at hkp_3
        refine va_get (D := (dC, dI)) (ci := 20) (v := .int (zI (P.pn xp))) (C := RX15) (T := TX15) (N := 6) hx hb hts mem_P19_same_0 hown hK hP kp_3 hkp_3 rfl 1 (by decide) (ow (k := 0) rfl) (fun _ h9 => h9) rfl dX19_same_17 ?_
        refine lv_icmp_ge (tgt := 76) hx hb dX19_same_20 (by decide) (fun b20 => ?_) (fun b20 => ?_)
        · have yb20 : (P.pn xp : Int) ≤ (d15_2 : Int) := (zI_le (a := P.pn xp) (b := d15_2) (by omega) (by omega) (by omega) (by omega)).mp b20
          refine lv_iconst (v := 1) hx hb dX19_same_76 (by decide) ?_
          subst hQ
          refine W.widen (k := 0) (n := 0) (Nat.le_of_ble_eq_true rfl) (Nat.le_of_ble_eq_true rfl) ?_
          exact W.zret (v := 1) hx hb hr (by decide) (fun t ht hW => ⟨⟨1, (), rfl, ⟨1, rfl, by omega⟩, by rw [ht]; exact hP, va_K.moved hW.alike hK, hD⟩, hS.F ht⟩) hS.2.2 dX19_same_77
        · have yb20 : ¬ (P.pn xp : Int) ≤ (d15_2 : Int) := fun q => b20 ((zI_le (a := P.pn xp) (b := d15_2) (by omega) (by omega) (by omega) (by omega)).mpr q)
          refine lv_aload_n hx hb dX19_same_23 rfl (lv_at hl 1 rfl) ?_
          refine lv_aload_n hx hb dX19_same_24 rfl (lv_at hl 0 rfl) ?_
          obtain ⟨kp_4, hkp_4⟩ := va_pl_get (X := []) (f := pE P) hA9.1.1
          rw [pE_phi hA9.1.2] at hkp_4
          refine va_get (D := (dC, dI)) (ci := 20) (v := .ref (P.pp xp)) (C := RX15) (T := TX15) (N := 6) hx hb hts mem_P19_same_0 hown hK hP kp_4 hkp_4 rfl 2 (by decide) (ow (k := 1) rfl) (fun _ h9 => h9) rfl dX19_same_25 ?_
          obtain ⟨pr_5, epr_5⟩ : ∃ q9 : Nat, q9 = P.pp xp := ⟨_, rfl⟩
          rw [← epr_5]
          have hopr_5 : pr_5 ∈ L ∧ P.kd pr_5 = 40 ∧ P.ac pr_5 = cI ∧ P.ow pr_5 = xp := (by rw [epr_5]; exact hA9.2.1)
          have hnpr_5 : P.an pr_5 = P.an (P.pp xp) := (by rw [epr_5])
          have hipr_5 : P.ia pr_5 = P.ia (P.pp xp) := (by rw [epr_5])
          refine lv_iload_n hx hb dX19_same_28 rfl (lv_at hl 2 rfl) ?_
          obtain ⟨kp_6, hkp_6⟩ := va_pl_get (X := []) (f := pE P) hopr_5.1
          rw [pE_n40 hopr_5.2.1, hopr_5.2.2.1] at hkp_6
          refine va_iald hx hb hK hP kp_6 1 hkp_6 rfl (zI_in (a := d15_2) (n := P.an pr_5) (by omega) (by omega) (by omega)) dX19_same_29 ?_
          refine lv_topi (fun z ez => ?_)
          obtain rfl : z = zI (P.ia pr_5 (d15_2)) := ez.trans (zI_ld (P.ia pr_5) (by omega) (by omega))
          have : 0 ≤ P.ia pr_5 (d15_2) ∧ P.ia pr_5 (d15_2) ≤ 299 := (by rw [hipr_5]; exact (hA9.2.2.2.2.2.2 (d15_2) (by omega) (by omega)).1)
          have hX_p := hB9
          have hPc := hP.part (X := []) (cx := []) (pl := va_pl L (pE P)) [] rfl
          have hDc := hD.part (X := []) (cx := []) (pl := va_pl L (pE P)) [] (by decide) rfl
          have hKc := hK.sub (tys' := [(cO, .object "java/lang/Object"), (cI, .int), (cZ, .boolean)]) [0, 1, 2] rfl
          have hFc := va_freeP (X := []) (cx := []) (pl := va_pl L (pE P)) hD hS hA [] rfl
          refine va_calli (va_runV (As := [.int (zI (P.ia pr_5 (d15_2)))]) (rest := []) ⟨hx, hb, hml, hown, hts⟩ (c_PP_place l dC dI cO cI cZ L P xo (P.ia pr_5 (d15_2)) hX_p (by omega) H.size) (cwV 1 hts g_P19_same_PP_place rfl rfl rfl (by decide +kernel) ⟨(Nat.le_of_ble_eq_true rfl), (Nat.le_of_ble_eq_true rfl)⟩) ⟨fun a U g mk q => by obtain ⟨q0, q1, qP, qK, qD⟩ := q; exact ⟨q0, q1, qP, va_K.moved (u := U) (U := U.calling g mk a) (Vm.Alike.refl U.vm) qK, qD⟩, recv_15 hKc hPc hB9.1.1 hB9.1.2, fun U hU hW => ⟨rfl, by rw [hU], by rw [hU]; exact hPc, va_K.moved hW.alike hKc, hDc.weaken (fun _ _ _ _ => trivial)⟩⟩ rfl rfl hl.1 rfl (lv_room (Nat.le_of_ble_eq_true rfl)) dX19_same_30 ⟨(Nat.le_of_ble_eq_true rfl), (Nat.le_of_ble_eq_true rfl)⟩) hS (fun q _ h => hFc q h) hFc (fun r_7 u t H1 locs ht hvm hw hB hz1 hk1 hS => ?_)
          obtain ⟨hP1, hK1, hD1⟩ := hB
          rw [ht] at hP1
          have hK1 := va_K.moved hvm.symm hK1
          obtain ⟨hP, hD⟩ := va_joinP (X := []) (cx := []) (wr := []) (rx := []) (pl := va_pl L (pE P)) (pl1 := va_pl L (pE P)) hP hD [] [] rfl rfl (by decide) (by decide) hk1 hFc hP1 hD1
          have hK := (hK.sub (tys' := []) [] rfl).app hK1
          generalize H1 = H at hP hS ⊢
          have hP : va_P (dC, dI) vwQ ([] ++ va_pl L (pE P)) H := hP
          have hD : va_D A ([] ++ va_pl L (pE P)) := hD
          have hK : va_K (dC, dI) vwQ [(cO, .object "java/lang/Object"), (cI, .int), (cZ, .boolean)] s := hK
          refine W.widen (k := 0) (n := 0) (Nat.le_of_ble_eq_true rfl) (Nat.le_of_ble_eq_true rfl) ?_
          have hw_8 := hw
          obtain ⟨z_9, rfl, hzz_9⟩ := hw_8
          refine lv_istore_n (lv' := [(3, .int (zI (z_9))), (0, .ref xp), (1, .ref xo), (2, .int (zI (d15_2)))]) hx hb dX19_same_33 rfl hl (by decide) rfl (fun ls hl => ?_)
          refine lv_iload_n hx hb dX19_same_34 rfl (lv_at hl 0 rfl) ?_
          refine lv_if_lt (tgt := 68) hx hb dX19_same_35 (by decide) (fun b35 => ?_) (fun b35 => ?_)
          · have yb35 : (z_9 : Int) < (0 : Int) := (zI_lt (a := z_9) (b := 0) (by omega) (by omega) (by omega) (by omega)).mp b35
            refine lv_iconst (v := 0) hx hb dX19_same_68 (by decide) ?_
            subst hQ
            refine W.widen (k := 0) (n := 0) (Nat.le_of_ble_eq_true rfl) (Nat.le_of_ble_eq_true rfl) ?_
            exact W.zret (v := 0) hx hb hr (by decide) (fun t ht hW => ⟨⟨0, (), rfl, ⟨0, rfl, by omega⟩, by rw [ht]; exact hP, va_K.moved hW.alike hK, hD⟩, hS.F ht⟩) hS.2.2 dX19_same_69
          · have yb35 : ¬ (z_9 : Int) < (0 : Int) := fun q => b35 ((zI_lt (a := z_9) (b := 0) (by omega) (by omega) (by omega) (by omega)).mpr q)
            refine lv_aload_n hx hb dX19_same_38 rfl (lv_at hl 1 rfl) ?_
            obtain ⟨kp_10, hkp_10⟩ := va_pl_get (X := []) (f := pE P) hA9.1.1
            rw [pE_phi hA9.1.2] at hkp_10
            refine va_get (D := (dC, dI)) (ci := 20) (v := .ref (P.pr xp)) (C := RX15) (T := TX15) (N := 6) hx hb hts mem_P19_same_0 hown hK hP kp_10 hkp_10 rfl 4 (by decide) (ow (k := 6) rfl) (fun _ h9 => h9) rfl dX19_same_39 ?_
            obtain ⟨pr_11, epr_11⟩ : ∃ q9 : Nat, q9 = P.pr xp := ⟨_, rfl⟩
            rw [← epr_11]
            have hopr_11 : pr_11 ∈ L ∧ P.kd pr_11 = 42 ∧ P.ac pr_11 = cZ ∧ P.ow pr_11 = xp := (by rw [epr_11]; exact hA9.2.2.2.1)
            have hnpr_11 : P.an pr_11 = P.an (P.pr xp) := (by rw [epr_11])
            have hipr_11 : P.ia pr_11 = P.ia (P.pr xp) := (by rw [epr_11])
            refine lv_iload_n hx hb dX19_same_42 rfl (lv_at hl 3 rfl) ?_
            obtain ⟨kp_12, hkp_12⟩ := va_pl_get (X := []) (f := pE P) hopr_11.1
            rw [pE_n42 hopr_11.2.1, hopr_11.2.2.1] at hkp_12
            refine va_zald hx hb hK hP kp_12 2 hkp_12 rfl (zI_in (a := d15_2) (n := P.an pr_11) (by omega) (by omega) (by omega)) dX19_same_43 ?_
            refine lv_topi (fun z ez => ?_)
            obtain rfl : z = zI (P.ia pr_11 (d15_2)) := ez.trans (zI_ld (P.ia pr_11) (by omega) (by omega))
            have : 0 ≤ P.ia pr_11 (d15_2) ∧ P.ia pr_11 (d15_2) ≤ 1 := (by rw [hipr_11]; exact (hA9.2.2.2.2.2.2 (d15_2) (by omega) (by omega)).2.2.1)
            refine lv_aload_n hx hb dX19_same_44 rfl (lv_at hl 2 rfl) ?_
            obtain ⟨kp_13, hkp_13⟩ := va_pl_get (X := []) (f := pE P) hB9.1.1
            rw [pE_phi hB9.1.2] at hkp_13
            refine va_get (D := (dC, dI)) (ci := 20) (v := .ref (P.pr xo)) (C := RX15) (T := TX15) (N := 6) hx hb hts mem_P19_same_0 hown hK hP kp_13 hkp_13 rfl 4 (by decide) (ow (k := 6) rfl) (fun _ h9 => h9) rfl dX19_same_45 ?_
            obtain ⟨pr_14, epr_14⟩ : ∃ q9 : Nat, q9 = P.pr xo := ⟨_, rfl⟩
            rw [← epr_14]
            have hopr_14 : pr_14 ∈ L ∧ P.kd pr_14 = 42 ∧ P.ac pr_14 = cZ ∧ P.ow pr_14 = xo := (by rw [epr_14]; exact hB9.2.2.2.1)
            have hnpr_14 : P.an pr_14 = P.an (P.pr xo) := (by rw [epr_14])
            have hipr_14 : P.ia pr_14 = P.ia (P.pr xo) := (by rw [epr_14])
            refine lv_iload_n hx hb dX19_same_48 rfl (lv_at hl 0 rfl) ?_
            obtain ⟨kp_15, hkp_15⟩ := va_pl_get (X := []) (f := pE P) hopr_14.1
            rw [pE_n42 hopr_14.2.1, hopr_14.2.2.1] at hkp_15
            refine va_zald hx hb hK hP kp_15 2 hkp_15 rfl (zI_in (a := z_9) (n := P.an pr_14) (by omega) (by omega) (by omega)) dX19_same_49 ?_
            refine lv_topi (fun z ez => ?_)
            obtain rfl : z = zI (P.ia pr_14 (z_9)) := ez.trans (zI_ld (P.ia pr_14) (by omega) (by omega))
            have : 0 ≤ P.ia pr_14 (z_9) ∧ P.ia pr_14 (z_9) ≤ 1 := (by rw [hipr_14]; exact (hB9.2.2.2.2.2.2 (z_9) (by omega) (by omega)).2.2.1)
            refine lv_icmp_ne (tgt := 68) hx hb dX19_same_50 (by decide) (fun b50 => ?_) (fun b50 => ?_)
            · have yb50 : ¬ (P.ia pr_11 (d15_2) : Int) = (P.ia pr_14 (z_9) : Int) := fun q => b50 ((zI_eq (a := P.ia pr_11 (d15_2)) (b := P.ia pr_14 (z_9)) (by omega) (by omega) (by omega) (by omega)).mpr q)
              refine lv_iconst (v := 0) hx hb dX19_same_68 (by decide) ?_
              subst hQ
              refine W.widen (k := 0) (n := 0) (Nat.le_of_ble_eq_true rfl) (Nat.le_of_ble_eq_true rfl) ?_
              exact W.zret (v := 0) hx hb hr (by decide) (fun t ht hW => ⟨⟨0, (), rfl, ⟨0, rfl, by omega⟩, by rw [ht]; exact hP, va_K.moved hW.alike hK, hD⟩, hS.F ht⟩) hS.2.2 dX19_same_69
            · have yb50 : (P.ia pr_11 (d15_2) : Int) = (P.ia pr_14 (z_9) : Int) := (zI_eq (a := P.ia pr_11 (d15_2)) (b := P.ia pr_14 (z_9)) (by omega) (by omega) (by omega) (by omega)).mp b50
              refine lv_aload_n hx hb dX19_same_53 rfl (lv_at hl 1 rfl) ?_
              obtain ⟨kp_16, hkp_16⟩ := va_pl_get (X := []) (f := pE P) hA9.1.1
              rw [pE_phi hA9.1.2] at hkp_16
              refine va_get (D := (dC, dI)) (ci := 20) (v := .ref (P.pu xp)) (C := RX15) (T := TX15) (N := 6) hx hb hts mem_P19_same_0 hown hK hP kp_16 hkp_16 rfl 3 (by decide) (ow (k := 7) rfl) (fun _ h9 => h9) rfl dX19_same_54 ?_
              obtain ⟨pr_17, epr_17⟩ : ∃ q9 : Nat, q9 = P.pu xp := ⟨_, rfl⟩
              rw [← epr_17]
              have hopr_17 : pr_17 ∈ L ∧ P.kd pr_17 = 41 ∧ P.ac pr_17 = cI ∧ P.ow pr_17 = xp := (by rw [epr_17]; exact hA9.2.2.1)
              have hnpr_17 : P.an pr_17 = P.an (P.pu xp) := (by rw [epr_17])
              have hipr_17 : P.ia pr_17 = P.ia (P.pu xp) := (by rw [epr_17])
              refine lv_iload_n hx hb dX19_same_57 rfl (lv_at hl 3 rfl) ?_
              obtain ⟨kp_18, hkp_18⟩ := va_pl_get (X := []) (f := pE P) hopr_17.1
              rw [pE_n41 hopr_17.2.1, hopr_17.2.2.1] at hkp_18
              refine va_iald hx hb hK hP kp_18 1 hkp_18 rfl (zI_in (a := d15_2) (n := P.an pr_17) (by omega) (by omega) (by omega)) dX19_same_58 ?_
              refine lv_topi (fun z ez => ?_)
              obtain rfl : z = zI (P.ia pr_17 (d15_2)) := ez.trans (zI_ld (P.ia pr_17) (by omega) (by omega))
              have : -2147483648 ≤ P.ia pr_17 (d15_2) ∧ P.ia pr_17 (d15_2) ≤ 2147483647 := (by rw [hipr_17]; exact (hA9.2.2.2.2.2.2 (d15_2) (by omega) (by omega)).2.1)
              refine lv_aload_n hx hb dX19_same_59 rfl (lv_at hl 2 rfl) ?_
              obtain ⟨kp_19, hkp_19⟩ := va_pl_get (X := []) (f := pE P) hB9.1.1
              rw [pE_phi hB9.1.2] at hkp_19
              refine va_get (D := (dC, dI)) (ci := 20) (v := .ref (P.pu xo)) (C := RX15) (T := TX15) (N := 6) hx hb hts mem_P19_same_0 hown hK hP kp_19 hkp_19 rfl 3 (by decide) (ow (k := 7) rfl) (fun _ h9 => h9) rfl dX19_same_60 ?_
              obtain ⟨pr_20, epr_20⟩ : ∃ q9 : Nat, q9 = P.pu xo := ⟨_, rfl⟩
              rw [← epr_20]
              have hopr_20 : pr_20 ∈ L ∧ P.kd pr_20 = 41 ∧ P.ac pr_20 = cI ∧ P.ow pr_20 = xo := (by rw [epr_20]; exact hB9.2.2.1)
              have hnpr_20 : P.an pr_20 = P.an (P.pu xo) := (by rw [epr_20])
              have hipr_20 : P.ia pr_20 = P.ia (P.pu xo) := (by rw [epr_20])
              refine lv_iload_n hx hb dX19_same_63 rfl (lv_at hl 0 rfl) ?_
              obtain ⟨kp_21, hkp_21⟩ := va_pl_get (X := []) (f := pE P) hopr_20.1
              rw [pE_n41 hopr_20.2.1, hopr_20.2.2.1] at hkp_21
              refine va_iald hx hb hK hP kp_21 1 hkp_21 rfl (zI_in (a := z_9) (n := P.an pr_20) (by omega) (by omega) (by omega)) dX19_same_64 ?_
              refine lv_topi (fun z ez => ?_)
              obtain rfl : z = zI (P.ia pr_20 (z_9)) := ez.trans (zI_ld (P.ia pr_20) (by omega) (by omega))
              have : -2147483648 ≤ P.ia pr_20 (z_9) ∧ P.ia pr_20 (z_9) ≤ 2147483647 := (by rw [hipr_20]; exact (hB9.2.2.2.2.2.2 (z_9) (by omega) (by omega)).2.1)
              refine lv_icmp_eq (tgt := 70) hx hb dX19_same_65 (by decide) (fun b65 => ?_) (fun b65 => ?_)
              · have yb65 : (P.ia pr_17 (d15_2) : Int) = (P.ia pr_20 (z_9) : Int) := (zI_eq (a := P.ia pr_17 (d15_2)) (b := P.ia pr_20 (z_9)) (by omega) (by omega) (by omega) (by omega)).mp b65
                refine lv_iinc (v := zI (d15_2 + 1)) (lv' := [(2, .int (zI (d15_2 + 1))), (3, .int (zI (z_9))), (0, .ref xp), (1, .ref xo)]) hx hb dX19_same_70 hl (k := 3) rfl (zI_add (d15_2) (1)) (by decide) rfl (fun ls hl => ?_)
                refine lv_goto (tgt := 15) hx hb dX19_same_73 (by decide) ?_
                exact ih15 (d15_2 + 1) ls H _ (by omega) (by omega) (lv_sub hl [2, 3, 0] rfl) hP hD hS
              · have yb65 : ¬ (P.ia pr_17 (d15_2) : Int) = (P.ia pr_20 (z_9) : Int) := fun q => b65 ((zI_eq (a := P.ia pr_17 (d15_2)) (b := P.ia pr_20 (z_9)) (by omega) (by omega) (by omega) (by omega)).mpr q)
                refine lv_iconst (v := 0) hx hb dX19_same_68 (by decide) ?_
                subst hQ
                refine W.widen (k := 0) (n := 0) (Nat.le_of_ble_eq_true rfl) (Nat.le_of_ble_eq_true rfl) ?_
                exact W.zret (v := 0) hx hb hr (by decide) (fun t ht hW => ⟨⟨0, (), rfl, ⟨0, rfl, by omega⟩, by rw [ht]; exact hP, va_K.moved hW.alike hK, hD⟩, hS.F ht⟩) hS.2.2 dX19_same_69
    exact key15 ((P.pn xp - 0 : Int).toNat + 1) 0 ls H _ (by omega) (by omega) (lv_sub hl [1, 2, 0] rfl) hP hD hS
  · have yb8 : ¬ (P.pn xp : Int) = (P.pn xo : Int) := fun q => b8 ((zI_eq (a := P.pn xp) (b := P.pn xo) (by omega) (by omega) (by omega) (by omega)).mpr q)
    refine lv_iconst (v := 0) hx hb dX19_same_11 (by decide) ?_
    subst hQ
    refine W.widen (k := 0) (n := 0) (Nat.le_of_ble_eq_true rfl) (Nat.le_of_ble_eq_true rfl) ?_
    exact W.zret (v := 0) hx hb hr (by decide) (fun t ht hW => ⟨⟨0, (), rfl, ⟨0, rfl, by omega⟩, by rw [ht]; exact hP, va_K.moved hW.alike hK, hD⟩, hS.F ht⟩) hS.2.2 dX19_same_12
