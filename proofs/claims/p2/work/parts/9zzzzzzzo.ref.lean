def o_P19_likeRow : List Cond := [.fieldLink RX19 64 "SsaForgeModel$Row" "op" "I", .fieldLink RX19 233 "SsaForgeModel$Row" "regA" "Z", .methodLink RX19 306 yX19_turns, .static yX19_turns, .initialized RX19, .fieldLink RX19 240 "SsaForgeModel$Row" "regB" "Z", .fieldLink RX19 204 "SsaForgeModel$Row" "a" "I", .fieldLink RX19 210 "SsaForgeModel$Row" "b" "I"]
def v_P19_likeRow : List Cond := .code yX19_like cX19_like 3 (some .boolean) :: (o_P19_likeRow ++ (wsX170 ++ (v_X19_turns ++ [])))
theorem mow_P19_likeRow : ∀ w ∈ o_P19_likeRow, w ∈ v_P19_likeRow := fun _ h => List.mem_cons_of_mem _ (List.mem_append_left _ h)
theorem mem_P19_likeRow_0 : ∀ w ∈ wsX170, w ∈ v_P19_likeRow := fun _ h => List.mem_cons_of_mem _ (List.mem_append_right _ (List.mem_append_left _ h))
theorem mem_P19_likeRow_1 : ∀ w ∈ v_X19_turns, w ∈ v_P19_likeRow := fun _ h => List.mem_cons_of_mem _ (List.mem_append_right _ (List.mem_append_right _ (List.mem_append_left _ h)))
set_option maxRecDepth 20000 in
theorem gw_P19_likeRow : v_P19_likeRow.all goodWord = true := by decide +kernel
set_option maxRecDepth 20000 in
theorem g_P19_likeRow_X19_turns : GoodIn v_P19_likeRow (wsS RX19 306 yX19_turns v_X19_turns) := goodIn_app (goodIn_sub (fun w h => mow_P19_likeRow w (by revert w h; decide +kernel)) (by decide +kernel)) (goodIn_sub mem_P19_likeRow_1 gw_X19_turns)
set_option maxHeartbeats 4000000 in
set_option maxRecDepth 100000 in
theorem c_P19_likeRow (l : Launch) (dC : Nat → ClassId) (dI : Nat → Nat → Nat) (cO : ClassId) (L : List Nat) (P : PO) (xr : Nat) (xo : Nat) (hX_x : xr ∈ L) (hX_k : P.kd xr = 17) (hX_r : ROK9 P xr) (hX_y : xo ∈ L) (hX_j : P.kd xo = 17) (hX_t : ROK9 P xo) (sz : Nat) : Met l yX19_like v_P19_likeRow ({ frames := 1, cells := 0, slots := 0, locals := 20 }) (va_Pc [.ref xr, .ref xo] (fun U => U.heap.size = sz ∧ va_P (dC, dI) vwQ ([] ++ va_pl L (pE P)) U.heap ∧ va_K (dC, dI) vwQ [(cO, .object "java/lang/Object")] U ∧ va_D (fun _ => True) ([] ++ va_pl L (pE P)))) (va_Qi (fun (r : Int32) (_ : Unit) => ∃ z : Int, r = zI z ∧ (0 ≤ z ∧ z ≤ 1)) (fun (_ : Unit) (t : State) => va_P (dC, dI) vwQ ([] ++ va_pl L (pE P)) t.heap ∧ va_K (dC, dI) vwQ [(cO, .object "java/lang/Object")] t ∧ va_D (va_A ([] ++ va_pl L (pE P)) sz) ([] ++ va_pl L (pE P))) (va_A ([] ++ va_pl L (pE P)) sz)) 0 0 (va_A ([] ++ va_pl L (pE P)) sz) := by
  refine Met.ofW (cc := cX19_like) (maxL := 3) (ret := (some .boolean)) (by decide) rfl ?_
  intro p e s m args below meth c s₁ B hml hv
  obtain ⟨rfl, hsz, hP, hK, hD0⟩ := hv
  have hx := B.exec
  have hb := B.bytes
  have hr := B.returns
  have hts := atoms_spec (ws := v_P19_likeRow) B.pre
  have hown : s.vm.findClass RX19 = some m.cls := findClass_of_methodNamed B.named
  have hlocks := B.notSynchronized
  have ow : ∀ {k : Nat} {w : Cond}, o_P19_likeRow[k]? = some w → w.before ([.ref xr, .ref xo] : List Value).toArray s = true := fun h => hts _ (mow_P19_likeRow _ (List.mem_of_getElem? h))
  subst hsz
  have hD := hD0.self (sz := s.heap.size)
  generalize hAe : va_A ([] ++ va_pl L (pE P)) s.heap.size = A at hD ⊢
  have hA : ∀ q : Nat, s.heap.size ≤ q → A q := fun q h => by rw [← hAe]; exact Or.inr h
  have hS : va_S A s.heap s.heap [] := va_S.rf
  have hP : va_P (dC, dI) vwQ ([] ++ va_pl L (pE P)) s.heap := hP
  have hl := lv_entry ([.ref xr, .ref xo]) (n := 3) (Nat.le_of_ble_eq_true rfl)
  rw [lg_entry_eq]
  generalize (lg_sl ([.ref xr, .ref xo]) ++ List.replicate (3 - (lg_sl ([.ref xr, .ref xo])).length) Slot.unset).toArray = ls at hl ⊢
  have hl : lv_has ls 3 [(0, .ref xr), (1, .ref xo)] := hl
  obtain ⟨H, hH⟩ : ∃ H, H = s.heap := ⟨_, rfl⟩
  rw [← hH] at hP
  have hS : va_S A s.heap H [] := by rw [hH]; exact hS
  rw [← hH]
  refine zW_cap (fun Q hQ => ?_)
  have ⟨hr1, hr2, hr3, hr4, hr5, hr6, hr7, hr8, hr9⟩ := hX_r
  have ⟨hs1, hs2, hs3, hs4, hs5, hs6, hs7, hs8, hs9⟩ := hX_t
  refine lv_aload_n hx hb dX19_like_0 rfl (lv_at hl 0 rfl) ?_
  obtain ⟨kp_1, hkp_1⟩ := va_pl_get (X := []) (f := pE P) hX_x
  rw [pE_row hX_k] at hkp_1
  refine va_get (D := (dC, dI)) (ci := 21) (v := .int (zI (P.ro xr))) (C := RX17) (T := TX17) (N := 7) hx hb hts mem_P19_likeRow_0 hown hK hP kp_1 hkp_1 rfl 0 (by decide) (ow (k := 0) rfl) (fun _ h9 => h9) rfl dX19_like_1 ?_
  refine lv_aload_n hx hb dX19_like_4 rfl (lv_at hl 1 rfl) ?_
  obtain ⟨kp_2, hkp_2⟩ := va_pl_get (X := []) (f := pE P) hX_y
  rw [pE_row hX_j] at hkp_2
  refine va_get (D := (dC, dI)) (ci := 21) (v := .int (zI (P.ro xo))) (C := RX17) (T := TX17) (N := 7) hx hb hts mem_P19_likeRow_0 hown hK hP kp_2 hkp_2 rfl 0 (by decide) (ow (k := 0) rfl) (fun _ h9 => h9) rfl dX19_like_5 ?_
  refine lv_icmp_eq (tgt := 13) hx hb dX19_like_8 (by decide) (fun b8 => ?_) (fun b8 => ?_)
  · have yb8 : (P.ro xr : Int) = (P.ro xo : Int) := (zI_eq (a := P.ro xr) (b := P.ro xo) (by omega) (by omega) (by omega) (by omega)).mp b8
    refine lv_aload_n hx hb dX19_like_13 rfl (lv_at hl 0 rfl) ?_
    obtain ⟨kp_3, hkp_3⟩ := va_pl_get (X := []) (f := pE P) hX_x
    rw [pE_row hX_k] at hkp_3
    refine va_get (D := (dC, dI)) (ci := 21) (v := .int (zI (P.rA xr))) (C := RX17) (T := TX17) (N := 7) hx hb hts mem_P19_likeRow_0 hown hK hP kp_3 hkp_3 rfl 4 (by decide) (ow (k := 1) rfl) (fun _ h9 => h9) rfl dX19_like_14 ?_
    refine lv_aload_n hx hb dX19_like_17 rfl (lv_at hl 1 rfl) ?_
    obtain ⟨kp_4, hkp_4⟩ := va_pl_get (X := []) (f := pE P) hX_y
    rw [pE_row hX_j] at hkp_4
    refine va_get (D := (dC, dI)) (ci := 21) (v := .int (zI (P.rA xo))) (C := RX17) (T := TX17) (N := 7) hx hb hts mem_P19_likeRow_0 hown hK hP kp_4 hkp_4 rfl 4 (by decide) (ow (k := 1) rfl) (fun _ h9 => h9) rfl dX19_like_18 ?_
    have key62 : ∀ (ms62_0 : Int) (ls : Array Slot) (H : Heap) (locs : List Loc), (0 ≤ ms62_0 ∧ ms62_0 ≤ 1) → lv_has ls 3 [(0, .ref xr), (1, .ref xo)] → va_P (dC, dI) vwQ ([] ++ va_pl L (pE P)) H → va_D A ([] ++ va_pl L (pE P)) → va_S A s.heap H locs → W p l e (headSpec v_P19_likeRow ({ frames := 1, cells := 0, slots := 0, locals := 20 })).room s m ([.ref xr, .ref xo] : List Value).toArray below meth c H locs 0 0 Q (F0 m 62 ls [.int (zI (ms62_0))]) := by
      intro ms62_0 ls H locs jms62_0 hl hP hD hS
      refine lv_istore_n (lv' := [(2, .int (zI (ms62_0))), (0, .ref xr), (1, .ref xo)]) hx hb dX19_like_62 rfl hl (by decide) rfl (fun ls hl => ?_)
      refine lv_iload_n hx hb dX19_like_63 rfl (lv_at hl 0 rfl) ?_
      refine lv_if_ne (tgt := 121) hx hb dX19_like_64 (by decide) (fun b64 => ?_) (fun b64 => ?_)
      · have yb64 : ¬ (ms62_0 : Int) = (0 : Int) := fun q => b64 ((zI_eq (a := ms62_0) (b := 0) (by omega) (by omega) (by omega) (by omega)).mpr q)
        refine lv_iconst (v := 1) hx hb dX19_like_121 (by decide) ?_
        refine lv_goto (tgt := 126) hx hb dX19_like_122 (by decide) ?_
        subst hQ
        refine W.widen (k := 0) (n := 0) (Nat.le_of_ble_eq_true rfl) (Nat.le_of_ble_eq_true rfl) ?_
        exact W.zret (v := 1) hx hb hr (by decide) (fun t ht hW => ⟨⟨1, (), rfl, ⟨1, rfl, by omega⟩, by rw [ht]; exact hP, va_K.moved hW.alike hK, hD⟩, hS.F ht⟩) hS.2.2 dX19_like_126
      · have yb64 : (ms62_0 : Int) = (0 : Int) := (zI_eq (a := ms62_0) (b := 0) (by omega) (by omega) (by omega) (by omega)).mp b64
        refine lv_aload_n hx hb dX19_like_67 rfl (lv_at hl 1 rfl) ?_
        obtain ⟨kp_5, hkp_5⟩ := va_pl_get (X := []) (f := pE P) hX_x
        rw [pE_row hX_k] at hkp_5
        refine va_get (D := (dC, dI)) (ci := 21) (v := .int (zI (P.ro xr))) (C := RX17) (T := TX17) (N := 7) hx hb hts mem_P19_likeRow_0 hown hK hP kp_5 hkp_5 rfl 0 (by decide) (ow (k := 0) rfl) (fun _ h9 => h9) rfl dX19_like_68 ?_
        have hPc := hP.sub (ws' := []) [] rfl
        have hDc := hD.sub (ws' := []) [] (by decide) rfl
        have hKc := hK.sub (tys' := []) [] rfl
        have hFc := va_free (wc := []) hD hS hA [] rfl
        refine va_calli (va_runS (As := [.int (zI (P.ro xr))]) (rest := []) ⟨hx, hb, hml, hown, hts⟩ (c_X19_turns l dC dI (P.ro xr) (by omega) H.size) (cwS 1 hts g_P19_likeRow_X19_turns rfl rfl rfl (by decide +kernel) ⟨(Nat.le_of_ble_eq_true rfl), (Nat.le_of_ble_eq_true rfl)⟩) ⟨fun a U g mk q => by obtain ⟨q0, q1, qP, qK, qD⟩ := q; exact ⟨q0, q1, qP, va_K.moved (u := U) (U := U.calling g mk a) (Vm.Alike.refl U.vm) qK, qD⟩, fun U hU hW => ⟨rfl, by rw [hU], by rw [hU]; exact hPc, va_K.moved hW.alike hKc, hDc.weaken (fun _ _ _ _ => trivial)⟩⟩ rfl rfl hl.1 rfl (lv_room (Nat.le_of_ble_eq_true rfl)) dX19_like_71 ⟨(Nat.le_of_ble_eq_true rfl), (Nat.le_of_ble_eq_true rfl)⟩) hS (fun q _ h => hFc q h) hFc (fun r_6 u t H1 locs ht hvm hw hB hz1 hk1 hS => ?_)
        obtain ⟨hP1, hK1, hD1⟩ := hB
        rw [ht] at hP1
        have hK1 := va_K.moved hvm.symm hK1
        obtain ⟨hP, hD⟩ := va_joinQ (X := []) (cx := []) (wr := []) (w1 := []) (pl := va_pl L (pE P)) hP hD [] [] rfl rfl (by decide) (by decide) hk1 hFc hP1 hD1
        have hK := (hK.sub (tys' := [(cO, .object "java/lang/Object")]) [0] rfl).app hK1
        generalize H1 = H at hP hS ⊢
        have hP : va_P (dC, dI) vwQ ([] ++ va_pl L (pE P)) H := hP
        have hD : va_D A ([] ++ va_pl L (pE P)) := hD
        have hK : va_K (dC, dI) vwQ [(cO, .object "java/lang/Object")] s := hK
        refine W.widen (k := 0) (n := 0) (Nat.le_of_ble_eq_true rfl) (Nat.le_of_ble_eq_true rfl) ?_
        have hw_7 := hw
        obtain ⟨z_8, rfl, hzz_8⟩ := hw_7
        refine lv_if_eq (tgt := 125) hx hb dX19_like_74 (by decide) (fun b74 => ?_) (fun b74 => ?_)
        · have yb74 : (z_8 : Int) = (0 : Int) := (zI_eq (a := z_8) (b := 0) (by omega) (by omega) (by omega) (by omega)).mp b74
          refine lv_iconst (v := 0) hx hb dX19_like_125 (by decide) ?_
          subst hQ
          refine W.widen (k := 0) (n := 0) (Nat.le_of_ble_eq_true rfl) (Nat.le_of_ble_eq_true rfl) ?_
          exact W.zret (v := 0) hx hb hr (by decide) (fun t ht hW => ⟨⟨0, (), rfl, ⟨0, rfl, by omega⟩, by rw [ht]; exact hP, va_K.moved hW.alike hK, hD⟩, hS.F ht⟩) hS.2.2 dX19_like_126
        · have yb74 : ¬ (z_8 : Int) = (0 : Int) := fun q => b74 ((zI_eq (a := z_8) (b := 0) (by omega) (by omega) (by omega) (by omega)).mpr q)
          refine lv_aload_n hx hb dX19_like_77 rfl (lv_at hl 1 rfl) ?_
          obtain ⟨kp_9, hkp_9⟩ := va_pl_get (X := []) (f := pE P) hX_x
          rw [pE_row hX_k] at hkp_9
          refine va_get (D := (dC, dI)) (ci := 21) (v := .int (zI (P.rA xr))) (C := RX17) (T := TX17) (N := 7) hx hb hts mem_P19_likeRow_0 hown hK hP kp_9 hkp_9 rfl 4 (by decide) (ow (k := 1) rfl) (fun _ h9 => h9) rfl dX19_like_78 ?_
          refine lv_aload_n hx hb dX19_like_81 rfl (lv_at hl 2 rfl) ?_
          obtain ⟨kp_10, hkp_10⟩ := va_pl_get (X := []) (f := pE P) hX_y
          rw [pE_row hX_j] at hkp_10
          refine va_get (D := (dC, dI)) (ci := 21) (v := .int (zI (P.rB xo))) (C := RX17) (T := TX17) (N := 7) hx hb hts mem_P19_likeRow_0 hown hK hP kp_10 hkp_10 rfl 5 (by decide) (ow (k := 5) rfl) (fun _ h9 => h9) rfl dX19_like_82 ?_
          refine lv_icmp_ne (tgt := 125) hx hb dX19_like_85 (by decide) (fun b85 => ?_) (fun b85 => ?_)
          · have yb85 : ¬ (P.rA xr : Int) = (P.rB xo : Int) := fun q => b85 ((zI_eq (a := P.rA xr) (b := P.rB xo) (by omega) (by omega) (by omega) (by omega)).mpr q)
            refine lv_iconst (v := 0) hx hb dX19_like_125 (by decide) ?_
            subst hQ
            refine W.widen (k := 0) (n := 0) (Nat.le_of_ble_eq_true rfl) (Nat.le_of_ble_eq_true rfl) ?_
            exact W.zret (v := 0) hx hb hr (by decide) (fun t ht hW => ⟨⟨0, (), rfl, ⟨0, rfl, by omega⟩, by rw [ht]; exact hP, va_K.moved hW.alike hK, hD⟩, hS.F ht⟩) hS.2.2 dX19_like_126
          · have yb85 : (P.rA xr : Int) = (P.rB xo : Int) := (zI_eq (a := P.rA xr) (b := P.rB xo) (by omega) (by omega) (by omega) (by omega)).mp b85
            refine lv_aload_n hx hb dX19_like_88 rfl (lv_at hl 1 rfl) ?_
            obtain ⟨kp_11, hkp_11⟩ := va_pl_get (X := []) (f := pE P) hX_x
            rw [pE_row hX_k] at hkp_11
            refine va_get (D := (dC, dI)) (ci := 21) (v := .int (zI (P.ra xr))) (C := RX17) (T := TX17) (N := 7) hx hb hts mem_P19_likeRow_0 hown hK hP kp_11 hkp_11 rfl 2 (by decide) (ow (k := 6) rfl) (fun _ h9 => h9) rfl dX19_like_89 ?_
            refine lv_aload_n hx hb dX19_like_92 rfl (lv_at hl 2 rfl) ?_
            obtain ⟨kp_12, hkp_12⟩ := va_pl_get (X := []) (f := pE P) hX_y
            rw [pE_row hX_j] at hkp_12
            refine va_get (D := (dC, dI)) (ci := 21) (v := .int (zI (P.rb xo))) (C := RX17) (T := TX17) (N := 7) hx hb hts mem_P19_likeRow_0 hown hK hP kp_12 hkp_12 rfl 3 (by decide) (ow (k := 7) rfl) (fun _ h9 => h9) rfl dX19_like_93 ?_
            refine lv_icmp_ne (tgt := 125) hx hb dX19_like_96 (by decide) (fun b96 => ?_) (fun b96 => ?_)
            · have yb96 : ¬ (P.ra xr : Int) = (P.rb xo : Int) := fun q => b96 ((zI_eq (a := P.ra xr) (b := P.rb xo) (by omega) (by omega) (by omega) (by omega)).mpr q)
              refine lv_iconst (v := 0) hx hb dX19_like_125 (by decide) ?_
              subst hQ
              refine W.widen (k := 0) (n := 0) (Nat.le_of_ble_eq_true rfl) (Nat.le_of_ble_eq_true rfl) ?_
              exact W.zret (v := 0) hx hb hr (by decide) (fun t ht hW => ⟨⟨0, (), rfl, ⟨0, rfl, by omega⟩, by rw [ht]; exact hP, va_K.moved hW.alike hK, hD⟩, hS.F ht⟩) hS.2.2 dX19_like_126
            · have yb96 : (P.ra xr : Int) = (P.rb xo : Int) := (zI_eq (a := P.ra xr) (b := P.rb xo) (by omega) (by omega) (by omega) (by omega)).mp b96
              refine lv_aload_n hx hb dX19_like_99 rfl (lv_at hl 1 rfl) ?_
              obtain ⟨kp_13, hkp_13⟩ := va_pl_get (X := []) (f := pE P) hX_x
              rw [pE_row hX_k] at hkp_13
              refine va_get (D := (dC, dI)) (ci := 21) (v := .int (zI (P.rB xr))) (C := RX17) (T := TX17) (N := 7) hx hb hts mem_P19_likeRow_0 hown hK hP kp_13 hkp_13 rfl 5 (by decide) (ow (k := 5) rfl) (fun _ h9 => h9) rfl dX19_like_100 ?_
              refine lv_aload_n hx hb dX19_like_103 rfl (lv_at hl 2 rfl) ?_
              obtain ⟨kp_14, hkp_14⟩ := va_pl_get (X := []) (f := pE P) hX_y
              rw [pE_row hX_j] at hkp_14
              refine va_get (D := (dC, dI)) (ci := 21) (v := .int (zI (P.rA xo))) (C := RX17) (T := TX17) (N := 7) hx hb hts mem_P19_likeRow_0 hown hK hP kp_14 hkp_14 rfl 4 (by decide) (ow (k := 1) rfl) (fun _ h9 => h9) rfl dX19_like_104 ?_
              refine lv_icmp_ne (tgt := 125) hx hb dX19_like_107 (by decide) (fun b107 => ?_) (fun b107 => ?_)
              · have yb107 : ¬ (P.rB xr : Int) = (P.rA xo : Int) := fun q => b107 ((zI_eq (a := P.rB xr) (b := P.rA xo) (by omega) (by omega) (by omega) (by omega)).mpr q)
                refine lv_iconst (v := 0) hx hb dX19_like_125 (by decide) ?_
                subst hQ
                refine W.widen (k := 0) (n := 0) (Nat.le_of_ble_eq_true rfl) (Nat.le_of_ble_eq_true rfl) ?_
                exact W.zret (v := 0) hx hb hr (by decide) (fun t ht hW => ⟨⟨0, (), rfl, ⟨0, rfl, by omega⟩, by rw [ht]; exact hP, va_K.moved hW.alike hK, hD⟩, hS.F ht⟩) hS.2.2 dX19_like_126
              · have yb107 : (P.rB xr : Int) = (P.rA xo : Int) := (zI_eq (a := P.rB xr) (b := P.rA xo) (by omega) (by omega) (by omega) (by omega)).mp b107
                refine lv_aload_n hx hb dX19_like_110 rfl (lv_at hl 1 rfl) ?_
                obtain ⟨kp_15, hkp_15⟩ := va_pl_get (X := []) (f := pE P) hX_x
                rw [pE_row hX_k] at hkp_15
                refine va_get (D := (dC, dI)) (ci := 21) (v := .int (zI (P.rb xr))) (C := RX17) (T := TX17) (N := 7) hx hb hts mem_P19_likeRow_0 hown hK hP kp_15 hkp_15 rfl 3 (by decide) (ow (k := 7) rfl) (fun _ h9 => h9) rfl dX19_like_111 ?_
                refine lv_aload_n hx hb dX19_like_114 rfl (lv_at hl 2 rfl) ?_
                obtain ⟨kp_16, hkp_16⟩ := va_pl_get (X := []) (f := pE P) hX_y
                rw [pE_row hX_j] at hkp_16
                refine va_get (D := (dC, dI)) (ci := 21) (v := .int (zI (P.ra xo))) (C := RX17) (T := TX17) (N := 7) hx hb hts mem_P19_likeRow_0 hown hK hP kp_16 hkp_16 rfl 2 (by decide) (ow (k := 6) rfl) (fun _ h9 => h9) rfl dX19_like_115 ?_
                refine lv_icmp_ne (tgt := 125) hx hb dX19_like_118 (by decide) (fun b118 => ?_) (fun b118 => ?_)
                · have yb118 : ¬ (P.rb xr : Int) = (P.ra xo : Int) := fun q => b118 ((zI_eq (a := P.rb xr) (b := P.ra xo) (by omega) (by omega) (by omega) (by omega)).mpr q)
                  refine lv_iconst (v := 0) hx hb dX19_like_125 (by decide) ?_
                  subst hQ
                  refine W.widen (k := 0) (n := 0) (Nat.le_of_ble_eq_true rfl) (Nat.le_of_ble_eq_true rfl) ?_
                  exact W.zret (v := 0) hx hb hr (by decide) (fun t ht hW => ⟨⟨0, (), rfl, ⟨0, rfl, by omega⟩, by rw [ht]; exact hP, va_K.moved hW.alike hK, hD⟩, hS.F ht⟩) hS.2.2 dX19_like_126
                · have yb118 : (P.rb xr : Int) = (P.ra xo : Int) := (zI_eq (a := P.rb xr) (b := P.ra xo) (by omega) (by omega) (by omega) (by omega)).mp b118
                  refine lv_iconst (v := 1) hx hb dX19_like_121 (by decide) ?_
                  refine lv_goto (tgt := 126) hx hb dX19_like_122 (by decide) ?_
                  subst hQ
                  refine W.widen (k := 0) (n := 0) (Nat.le_of_ble_eq_true rfl) (Nat.le_of_ble_eq_true rfl) ?_
                  exact W.zret (v := 1) hx hb hr (by decide) (fun t ht hW => ⟨⟨1, (), rfl, ⟨1, rfl, by omega⟩, by rw [ht]; exact hP, va_K.moved hW.alike hK, hD⟩, hS.F ht⟩) hS.2.2 dX19_like_126
    refine lv_icmp_ne (tgt := 61) hx hb dX19_like_21 (by decide) (fun b21 => ?_) (fun b21 => ?_)
    · have yb21 : ¬ (P.rA xr : Int) = (P.rA xo : Int) := fun q => b21 ((zI_eq (a := P.rA xr) (b := P.rA xo) (by omega) (by omega) (by omega) (by omega)).mpr q)
      refine lv_iconst (v := 0) hx hb dX19_like_61 (by decide) ?_
      exact key62 0 ls H _ (by omega) (lv_sub hl [0, 1] rfl) hP hD hS
    · have yb21 : (P.rA xr : Int) = (P.rA xo : Int) := (zI_eq (a := P.rA xr) (b := P.rA xo) (by omega) (by omega) (by omega) (by omega)).mp b21
      refine lv_aload_n hx hb dX19_like_24 rfl (lv_at hl 0 rfl) ?_
      obtain ⟨kp_17, hkp_17⟩ := va_pl_get (X := []) (f := pE P) hX_x
      rw [pE_row hX_k] at hkp_17
      refine va_get (D := (dC, dI)) (ci := 21) (v := .int (zI (P.ra xr))) (C := RX17) (T := TX17) (N := 7) hx hb hts mem_P19_likeRow_0 hown hK hP kp_17 hkp_17 rfl 2 (by decide) (ow (k := 6) rfl) (fun _ h9 => h9) rfl dX19_like_25 ?_
      refine lv_aload_n hx hb dX19_like_28 rfl (lv_at hl 1 rfl) ?_
      obtain ⟨kp_18, hkp_18⟩ := va_pl_get (X := []) (f := pE P) hX_y
      rw [pE_row hX_j] at hkp_18
      refine va_get (D := (dC, dI)) (ci := 21) (v := .int (zI (P.ra xo))) (C := RX17) (T := TX17) (N := 7) hx hb hts mem_P19_likeRow_0 hown hK hP kp_18 hkp_18 rfl 2 (by decide) (ow (k := 6) rfl) (fun _ h9 => h9) rfl dX19_like_29 ?_
      refine lv_icmp_ne (tgt := 61) hx hb dX19_like_32 (by decide) (fun b32 => ?_) (fun b32 => ?_)
      · have yb32 : ¬ (P.ra xr : Int) = (P.ra xo : Int) := fun q => b32 ((zI_eq (a := P.ra xr) (b := P.ra xo) (by omega) (by omega) (by omega) (by omega)).mpr q)
        refine lv_iconst (v := 0) hx hb dX19_like_61 (by decide) ?_
        exact key62 0 ls H _ (by omega) (lv_sub hl [0, 1] rfl) hP hD hS
      · have yb32 : (P.ra xr : Int) = (P.ra xo : Int) := (zI_eq (a := P.ra xr) (b := P.ra xo) (by omega) (by omega) (by omega) (by omega)).mp b32
        refine lv_aload_n hx hb dX19_like_35 rfl (lv_at hl 0 rfl) ?_
        obtain ⟨kp_19, hkp_19⟩ := va_pl_get (X := []) (f := pE P) hX_x
        rw [pE_row hX_k] at hkp_19
        refine va_get (D := (dC, dI)) (ci := 21) (v := .int (zI (P.rB xr))) (C := RX17) (T := TX17) (N := 7) hx hb hts mem_P19_likeRow_0 hown hK hP kp_19 hkp_19 rfl 5 (by decide) (ow (k := 5) rfl) (fun _ h9 => h9) rfl dX19_like_36 ?_
        refine lv_aload_n hx hb dX19_like_39 rfl (lv_at hl 1 rfl) ?_
        obtain ⟨kp_20, hkp_20⟩ := va_pl_get (X := []) (f := pE P) hX_y
        rw [pE_row hX_j] at hkp_20
        refine va_get (D := (dC, dI)) (ci := 21) (v := .int (zI (P.rB xo))) (C := RX17) (T := TX17) (N := 7) hx hb hts mem_P19_likeRow_0 hown hK hP kp_20 hkp_20 rfl 5 (by decide) (ow (k := 5) rfl) (fun _ h9 => h9) rfl dX19_like_40 ?_
        refine lv_icmp_ne (tgt := 61) hx hb dX19_like_43 (by decide) (fun b43 => ?_) (fun b43 => ?_)
        · have yb43 : ¬ (P.rB xr : Int) = (P.rB xo : Int) := fun q => b43 ((zI_eq (a := P.rB xr) (b := P.rB xo) (by omega) (by omega) (by omega) (by omega)).mpr q)
          refine lv_iconst (v := 0) hx hb dX19_like_61 (by decide) ?_
          exact key62 0 ls H _ (by omega) (lv_sub hl [0, 1] rfl) hP hD hS
        · have yb43 : (P.rB xr : Int) = (P.rB xo : Int) := (zI_eq (a := P.rB xr) (b := P.rB xo) (by omega) (by omega) (by omega) (by omega)).mp b43
          refine lv_aload_n hx hb dX19_like_46 rfl (lv_at hl 0 rfl) ?_
          obtain ⟨kp_21, hkp_21⟩ := va_pl_get (X := []) (f := pE P) hX_x
          rw [pE_row hX_k] at hkp_21
          refine va_get (D := (dC, dI)) (ci := 21) (v := .int (zI (P.rb xr))) (C := RX17) (T := TX17) (N := 7) hx hb hts mem_P19_likeRow_0 hown hK hP kp_21 hkp_21 rfl 3 (by decide) (ow (k := 7) rfl) (fun _ h9 => h9) rfl dX19_like_47 ?_
          refine lv_aload_n hx hb dX19_like_50 rfl (lv_at hl 1 rfl) ?_
          obtain ⟨kp_22, hkp_22⟩ := va_pl_get (X := []) (f := pE P) hX_y
          rw [pE_row hX_j] at hkp_22
          refine va_get (D := (dC, dI)) (ci := 21) (v := .int (zI (P.rb xo))) (C := RX17) (T := TX17) (N := 7) hx hb hts mem_P19_likeRow_0 hown hK hP kp_22 hkp_22 rfl 3 (by decide) (ow (k := 7) rfl) (fun _ h9 => h9) rfl dX19_like_51 ?_
          refine lv_icmp_ne (tgt := 61) hx hb dX19_like_54 (by decide) (fun b54 => ?_) (fun b54 => ?_)
          · have yb54 : ¬ (P.rb xr : Int) = (P.rb xo : Int) := fun q => b54 ((zI_eq (a := P.rb xr) (b := P.rb xo) (by omega) (by omega) (by omega) (by omega)).mpr q)
            refine lv_iconst (v := 0) hx hb dX19_like_61 (by decide) ?_
            exact key62 0 ls H _ (by omega) (lv_sub hl [0, 1] rfl) hP hD hS
          · have yb54 : (P.rb xr : Int) = (P.rb xo : Int) := (zI_eq (a := P.rb xr) (b := P.rb xo) (by omega) (by omega) (by omega) (by omega)).mp b54
            refine lv_iconst (v := 1) hx hb dX19_like_57 (by decide) ?_
            refine lv_goto (tgt := 62) hx hb dX19_like_58 (by decide) ?_
            exact key62 1 ls H _ (by omega) (lv_sub hl [0, 1] rfl) hP hD hS
  · have yb8 : ¬ (P.ro xr : Int) = (P.ro xo : Int) := fun q => b8 ((zI_eq (a := P.ro xr) (b := P.ro xo) (by omega) (by omega) (by omega) (by omega)).mpr q)
    refine lv_iconst (v := 0) hx hb dX19_like_11 (by decide) ?_
    subst hQ
    refine W.widen (k := 0) (n := 0) (Nat.le_of_ble_eq_true rfl) (Nat.le_of_ble_eq_true rfl) ?_
    exact W.zret (v := 0) hx hb hr (by decide) (fun t ht hW => ⟨⟨0, (), rfl, ⟨0, rfl, by omega⟩, by rw [ht]; exact hP, va_K.moved hW.alike hK, hD⟩, hS.F ht⟩) hS.2.2 dX19_like_12
