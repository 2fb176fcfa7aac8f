def o_X16_isKK : List Cond := [.fieldLink RX16 38 "SsaForgeModel$Reader" "kind" "I", .fieldLink RX16 11 "SsaForgeModel$Reader" "text" "Ljava/lang/String;", .methodLink RX16 128 yJ0_equals_9ea2d, .instanceMethod yJ0_equals_9ea2d, .selects RJ0 yJ0_equals_9ea2d yJ0_equals_9ea2d, .initialized RJ0]
def v_X16_isKK : List Cond := .code yX16_is cX16_is 2 (some .boolean) :: (o_X16_isKK ++ (wsX160 ++ (v_J0_equals ++ [])))
theorem mow_X16_isKK : ∀ w ∈ o_X16_isKK, w ∈ v_X16_isKK := fun _ h => List.mem_cons_of_mem _ (List.mem_append_left _ h)
theorem mem_X16_isKK_0 : ∀ w ∈ wsX160, w ∈ v_X16_isKK := fun _ h => List.mem_cons_of_mem _ (List.mem_append_right _ (List.mem_append_left _ h))
theorem mem_X16_isKK_1 : ∀ w ∈ v_J0_equals, w ∈ v_X16_isKK := fun _ h => List.mem_cons_of_mem _ (List.mem_append_right _ (List.mem_append_right _ (List.mem_append_left _ h)))
set_option maxRecDepth 20000 in
theorem gw_X16_isKK : v_X16_isKK.all goodWord = true := by decide +kernel
set_option maxRecDepth 20000 in
theorem g_X16_isKK_J0_equals : GoodIn v_X16_isKK (wsV RX16 128 RJ0 yJ0_equals_9ea2d v_J0_equals) := goodIn_app (goodIn_sub (fun w h => mow_X16_isKK w (by revert w h; decide +kernel)) (by decide +kernel)) (goodIn_sub mem_X16_isKK_1 gw_J0_equals)
set_option maxHeartbeats 4000000 in
set_option maxRecDepth 100000 in
theorem c_X16_isKK (l : Launch) (dC : Nat → ClassId) (dI : Nat → Nat → Nat) (h0 : Nat) (v16_1 : Value) (v16_2 : Value) (z16_kind : Int) (v16_4 : Value) (v16_5 : Value) (v16_6 : Value) (v16_8 : Value) (v16_9 : Value) (v16_10 : Value) (v16_11 : Value) (v16_12 : Value) (v16_13 : Value) (q_t : Nat) (cT : ClassId) (a_t : Int → Int) (tx9 : Nat) (L : List Nat) (P : PO) (sa_RX16_9 : Nat) (tz : Nat) (tw : Nat) (um : Nat) (uf : Nat → Int32) (hNz16_kind : 0 ≤ z16_kind ∧ z16_kind ≤ 6) (hR_a_t : ∀ j : Int, -128 ≤ a_t j ∧ a_t j ≤ 127) (hX_tx : TXT L P cT sa_RX16_9 tx9) (hNum : um ≤ 1000) (sz : Nat) (sv_RX16_9 : Nat) : Met l yX16_is v_X16_isKK ({ frames := 2, cells := 0, slots := 0, locals := 44 }) (va_Pc [.ref h0, .ref tz] (fun U => U.heap.size = sz ∧ va_P (dC, dI) vwQ ([(h0, .inr (14, [.ref q_t, v16_1, v16_2, .int (zI (z16_kind)), v16_4, v16_5, v16_6, .ref tx9, v16_8, v16_9, v16_10, v16_11, v16_12, v16_13])), (q_t, .inl (cT, 8192, .inl (fun j : Nat => zI (a_t (j : Int)))))] ++ va_pl L (pE P)) U.heap ∧ va_K (dC, dI) vwQ [(cT, .byte)] U ∧ va_D (fun _ => True) ([(h0, .inr (14, [.ref q_t, v16_1, v16_2, .int (zI (z16_kind)), v16_4, v16_5, v16_6, .ref tx9, v16_8, v16_9, v16_10, v16_11, v16_12, v16_13])), (q_t, .inl (cT, 8192, .inl (fun j : Nat => zI (a_t (j : Int)))))] ++ va_pl L (pE P)) ∧ vs_S sa_RX16_9 sv_RX16_9 0 (fun j : Nat => ([] : List Int32).getD j 0) (va_A ([(h0, .inr (14, [.ref q_t, v16_1, v16_2, .int (zI (z16_kind)), v16_4, v16_5, v16_6, .ref tx9, v16_8, v16_9, v16_10, v16_11, v16_12, v16_13])), (q_t, .inl (cT, 8192, .inl (fun j : Nat => zI (a_t (j : Int)))))] ++ va_pl L (pE P)) sz) U U.heap ∧ vs_S tz tw um uf (va_A ([(h0, .inr (14, [.ref q_t, v16_1, v16_2, .int (zI (z16_kind)), v16_4, v16_5, v16_6, .ref tx9, v16_8, v16_9, v16_10, v16_11, v16_12, v16_13])), (q_t, .inl (cT, 8192, .inl (fun j : Nat => zI (a_t (j : Int)))))] ++ va_pl L (pE P)) sz) U U.heap ∧ va_Z "java/lang/String" "COMPACT_STRINGS" "Z" (.int 1) (va_A ([(h0, .inr (14, [.ref q_t, v16_1, v16_2, .int (zI (z16_kind)), v16_4, v16_5, v16_6, .ref tx9, v16_8, v16_9, v16_10, v16_11, v16_12, v16_13])), (q_t, .inl (cT, 8192, .inl (fun j : Nat => zI (a_t (j : Int)))))] ++ va_pl L (pE P)) sz) U U.heap)) (va_Qi (fun (r : Int32) (_ : Unit) => ∃ z : Int, r = zI z ∧ (0 ≤ z ∧ z ≤ 1 ∧ z ≤ z16_kind ∧ IS9 z z16_kind)) (fun (_ : Unit) (t : State) => va_P (dC, dI) vwQ ([(h0, .inr (14, [.ref q_t, v16_1, v16_2, .int (zI (z16_kind)), v16_4, v16_5, v16_6, .ref tx9, v16_8, v16_9, v16_10, v16_11, v16_12, v16_13])), (q_t, .inl (cT, 8192, .inl (fun j : Nat => zI (a_t (j : Int)))))] ++ va_pl L (pE P)) t.heap ∧ va_K (dC, dI) vwQ [(cT, .byte)] t ∧ va_D (va_A ([(h0, .inr (14, [.ref q_t, v16_1, v16_2, .int (zI (z16_kind)), v16_4, v16_5, v16_6, .ref tx9, v16_8, v16_9, v16_10, v16_11, v16_12, v16_13])), (q_t, .inl (cT, 8192, .inl (fun j : Nat => zI (a_t (j : Int)))))] ++ va_pl L (pE P)) sz) ([(h0, .inr (14, [.ref q_t, v16_1, v16_2, .int (zI (z16_kind)), v16_4, v16_5, v16_6, .ref tx9, v16_8, v16_9, v16_10, v16_11, v16_12, v16_13])), (q_t, .inl (cT, 8192, .inl (fun j : Nat => zI (a_t (j : Int)))))] ++ va_pl L (pE P))) (va_A ([(h0, .inr (14, [.ref q_t, v16_1, v16_2, .int (zI (z16_kind)), v16_4, v16_5, v16_6, .ref tx9, v16_8, v16_9, v16_10, v16_11, v16_12, v16_13])), (q_t, .inl (cT, 8192, .inl (fun j : Nat => zI (a_t (j : Int)))))] ++ va_pl L (pE P)) sz)) 0 0 (va_A ([(h0, .inr (14, [.ref q_t, v16_1, v16_2, .int (zI (z16_kind)), v16_4, v16_5, v16_6, .ref tx9, v16_8, v16_9, v16_10, v16_11, v16_12, v16_13])), (q_t, .inl (cT, 8192, .inl (fun j : Nat => zI (a_t (j : Int)))))] ++ va_pl L (pE P)) sz) := by
  refine Met.ofW (cc := cX16_is) (maxL := 2) (ret := (some .boolean)) (by decide) rfl ?_
  intro p e s m args below meth c s₁ B hml hv
  obtain ⟨rfl, hsz, hP, hK, hD0, hp0, hp1, hp2⟩ := hv
  have hx := B.exec
  have hb := B.bytes
  have hr := B.returns
  have hts := atoms_spec (ws := v_X16_isKK) B.pre
  have hown : s.vm.findClass RX16 = some m.cls := findClass_of_methodNamed B.named
  have hlocks := B.notSynchronized
  have ow : ∀ {k : Nat} {w : Cond}, o_X16_isKK[k]? = some w → w.before ([.ref h0, .ref tz] : List Value).toArray s = true := fun h => hts _ (mow_X16_isKK _ (List.mem_of_getElem? h))
  subst hsz
  have hD := hD0.self (sz := s.heap.size)
  generalize hAe : va_A ([(h0, .inr (14, [.ref q_t, v16_1, v16_2, .int (zI (z16_kind)), v16_4, v16_5, v16_6, .ref tx9, v16_8, v16_9, v16_10, v16_11, v16_12, v16_13])), (q_t, .inl (cT, 8192, .inl (fun j : Nat => zI (a_t (j : Int)))))] ++ va_pl L (pE P)) s.heap.size = A at hD hp0 hp1 hp2 ⊢
  have hA : ∀ q : Nat, s.heap.size ≤ q → A q := fun q h => by rw [← hAe]; exact Or.inr h
  have hS : va_S A s.heap s.heap [] := va_S.rf
  have hP : va_P (dC, dI) vwQ ([(h0, .inr (14, [.ref q_t, v16_1, v16_2, .int (zI (z16_kind)), v16_4, v16_5, v16_6, .ref tx9, v16_8, v16_9, v16_10, v16_11, v16_12, v16_13])), (q_t, .inl (cT, 8192, .inl (fun j : Nat => zI (a_t (j : Int)))))] ++ va_pl L (pE P)) s.heap := hP
  have hl := lv_entry ([.ref h0, .ref tz]) (n := 2) (Nat.le_of_ble_eq_true rfl)
  rw [lg_entry_eq]
  generalize (lg_sl ([.ref h0, .ref tz]) ++ List.replicate (2 - (lg_sl ([.ref h0, .ref tz])).length) Slot.unset).toArray = ls at hl ⊢
  have hl : lv_has ls 2 [(0, .ref h0), (1, .ref tz)] := hl
  obtain ⟨H, hH⟩ : ∃ H, H = s.heap := ⟨_, rfl⟩
  rw [← hH] at hP
  have hS : va_S A s.heap H [] := by rw [hH]; exact hS
  rw [← hH]
  refine zW_cap (fun Q hQ => ?_)
  rcases hX_tx with hX_tx | hX_tx
  · skip
    rw [hX_tx] at hP hD
    have hP : va_P (dC, dI) vwQ ([(h0, .inr (14, [.ref q_t, v16_1, v16_2, .int (zI (z16_kind)), v16_4, v16_5, v16_6, .ref sa_RX16_9, v16_8, v16_9, v16_10, v16_11, v16_12, v16_13])), (q_t, .inl (cT, 8192, .inl (fun j : Nat => zI (a_t (j : Int)))))] ++ va_pl L (pE P)) H := hP
    have hD : va_D A ([(h0, .inr (14, [.ref q_t, v16_1, v16_2, .int (zI (z16_kind)), v16_4, v16_5, v16_6, .ref sa_RX16_9, v16_8, v16_9, v16_10, v16_11, v16_12, v16_13])), (q_t, .inl (cT, 8192, .inl (fun j : Nat => zI (a_t (j : Int)))))] ++ va_pl L (pE P)) := hD
    refine lv_aload_n hx hb dX16_is_0 rfl (lv_at hl 0 rfl) ?_
    refine va_get (D := (dC, dI)) (ci := 14) (v := .int (zI (z16_kind))) (C := RX16) (T := TX16) (N := 14) hx hb hts mem_X16_isKK_0 hown hK hP 0 rfl rfl 3 (by decide) (ow (k := 0) rfl) (fun _ h9 => h9) rfl dX16_is_1 ?_
    refine lv_iconst (v := 5) hx hb dX16_is_4 (by decide) ?_
    refine lv_icmp_eq (tgt := 16) hx hb dX16_is_5 (by decide) (fun b5 => ?_) (fun b5 => ?_)
    · have yb5 : (z16_kind : Int) = (5 : Int) := (zI_eq (a := z16_kind) (b := 5) (by omega) (by omega) (by omega) (by omega)).mp b5
      refine lv_aload_n hx hb dX16_is_16 rfl (lv_at hl 0 rfl) ?_
      refine va_get (D := (dC, dI)) (ci := 14) (v := .ref sa_RX16_9) (C := RX16) (T := TX16) (N := 14) hx hb hts mem_X16_isKK_0 hown hK hP 0 rfl rfl 7 (by decide) (ow (k := 1) rfl) (fun _ h9 => h9) rfl dX16_is_17 ?_
      refine lv_aload_n hx hb dX16_is_20 rfl (lv_at hl 1 rfl) ?_
      have hPc := hP.sub (ws' := []) [] rfl
      have hDc := hD.sub (ws' := []) [] (by decide) rfl
      have hKc := hK.sub (tys' := []) [] rfl
      have hFc := va_free (wc := []) hD hS hA [] rfl
      refine va_calli (va_runV (As := [.ref tz]) (rest := []) ⟨hx, hb, hml, hown, hts⟩ (c_J0_equals l dC dI sa_RX16_9 sv_RX16_9 0 ((fun j : Nat => ([] : List Int32).getD j 0)) tz tw um uf (by omega) (by omega) H.size) (cwV 1 hts g_X16_isKK_J0_equals rfl rfl rfl (by decide +kernel) ⟨(Nat.le_of_ble_eq_true rfl), (Nat.le_of_ble_eq_true rfl)⟩) ⟨fun a U g mk q => by obtain ⟨q0, q1, qP, qK, qD, e0, e1, e2⟩ := q; exact ⟨q0, q1, qP, va_K.moved (u := U) (U := U.calling g mk a) (Vm.Alike.refl U.vm) qK, qD, vs_S.moved (u := U) (U := U.calling g mk a) (Vm.Alike.refl U.vm) e0, va_Z.moved (u := U) (U := U.calling g mk a) (Vm.Alike.refl U.vm) e1, vs_S.moved (u := U) (U := U.calling g mk a) (Vm.Alike.refl U.vm) e2⟩, vs_S.recv hp0 hS, fun U hU hW => ⟨rfl, by rw [hU], by rw [hU]; exact hPc, va_K.moved hW.alike hKc, hDc.weaken (fun _ _ _ _ => trivial), by rw [hU]; exact vs_S.narrow (vs_S.moved hW.alike (vs_S.kept hp1 hS.2.1)) hFc, by rw [hU]; exact va_Z.narrow (va_Z.moved hW.alike (va_Z.kept hp2 hS.2.1)) hFc, by rw [hU]; exact vs_S.narrow (vs_S.moved hW.alike (vs_S.kept hp0 hS.2.1)) hFc⟩⟩ rfl rfl hl.1 rfl (lv_room (Nat.le_of_ble_eq_true rfl)) dX16_is_21 ⟨(Nat.le_of_ble_eq_true rfl), (Nat.le_of_ble_eq_true rfl)⟩) hS (fun q _ h => hFc q h) hFc (fun r_1 u t H1 locs ht hvm hw hB hz1 hk1 hS => ?_)
      obtain ⟨hP1, hK1, hD1⟩ := hB
      rw [ht] at hP1
      have hK1 := va_K.moved hvm.symm hK1
      obtain ⟨hP, hD⟩ := va_joinQ (X := [(h0, .inr (14, [.ref q_t, v16_1, v16_2, .int (zI (z16_kind)), v16_4, v16_5, v16_6, .ref sa_RX16_9, v16_8, v16_9, v16_10, v16_11, v16_12, v16_13])), (q_t, .inl (cT, 8192, .inl (fun j : Nat => zI (a_t (j : Int)))))]) (cx := []) (wr := [(h0, .inr (14, [.ref q_t, v16_1, v16_2, .int (zI (z16_kind)), v16_4, v16_5, v16_6, .ref sa_RX16_9, v16_8, v16_9, v16_10, v16_11, v16_12, v16_13])), (q_t, .inl (cT, 8192, .inl (fun j : Nat => zI (a_t (j : Int)))))]) (w1 := []) (pl := va_pl L (pE P)) hP hD [] [0, 1] rfl rfl (by decide) (by decide) hk1 hFc hP1 hD1
      have hK := (hK.sub (tys' := [(cT, .byte)]) [0] rfl).app hK1
      generalize H1 = H at hP hS ⊢
      have hP : va_P (dC, dI) vwQ ([(h0, .inr (14, [.ref q_t, v16_1, v16_2, .int (zI (z16_kind)), v16_4, v16_5, v16_6, .ref sa_RX16_9, v16_8, v16_9, v16_10, v16_11, v16_12, v16_13])), (q_t, .inl (cT, 8192, .inl (fun j : Nat => zI (a_t (j : Int)))))] ++ va_pl L (pE P)) H := hP
      have hD : va_D A ([(h0, .inr (14, [.ref q_t, v16_1, v16_2, .int (zI (z16_kind)), v16_4, v16_5, v16_6, .ref sa_RX16_9, v16_8, v16_9, v16_10, v16_11, v16_12, v16_13])), (q_t, .inl (cT, 8192, .inl (fun j : Nat => zI (a_t (j : Int)))))] ++ va_pl L (pE P)) := hD
      have hK : va_K (dC, dI) vwQ [(cT, .byte)] s := hK
      refine W.widen (k := 0) (n := 0) (Nat.le_of_ble_eq_true rfl) (Nat.le_of_ble_eq_true rfl) ?_
      have hw_2 := hw
      obtain ⟨z_3, rfl, hzz_3⟩ := hw_2
      refine lv_if_eq (tgt := 31) hx hb dX16_is_24 (by decide) (fun b24 => ?_) (fun b24 => ?_)
      · have yb24 : (z_3 : Int) = (0 : Int) := (zI_eq (a := z_3) (b := 0) (by omega) (by omega) (by omega) (by omega)).mp b24
        refine lv_iconst (v := 0) hx hb dX16_is_31 (by decide) ?_
        subst hQ
        rw [← hX_tx] at hP hD
        have hP : va_P (dC, dI) vwQ ([(h0, .inr (14, [.ref q_t, v16_1, v16_2, .int (zI (z16_kind)), v16_4, v16_5, v16_6, .ref tx9, v16_8, v16_9, v16_10, v16_11, v16_12, v16_13])), (q_t, .inl (cT, 8192, .inl (fun j : Nat => zI (a_t (j : Int)))))] ++ va_pl L (pE P)) H := hP
        have hD : va_D A ([(h0, .inr (14, [.ref q_t, v16_1, v16_2, .int (zI (z16_kind)), v16_4, v16_5, v16_6, .ref tx9, v16_8, v16_9, v16_10, v16_11, v16_12, v16_13])), (q_t, .inl (cT, 8192, .inl (fun j : Nat => zI (a_t (j : Int)))))] ++ va_pl L (pE P)) := hD
        refine W.widen (k := 0) (n := 0) (Nat.le_of_ble_eq_true rfl) (Nat.le_of_ble_eq_true rfl) ?_
        exact W.zret (v := 0) hx hb hr (by decide) (fun t ht hW => ⟨⟨0, (), rfl, ⟨0, rfl, ⟨by omega, by omega, by omega, (fun q9 => by omega)⟩⟩, by rw [ht]; exact hP, va_K.moved hW.alike hK, hD⟩, hS.F ht⟩) hS.2.2 dX16_is_32
      · have yb24 : ¬ (z_3 : Int) = (0 : Int) := fun q => b24 ((zI_eq (a := z_3) (b := 0) (by omega) (by omega) (by omega) (by omega)).mpr q)
        refine lv_iconst (v := 1) hx hb dX16_is_27 (by decide) ?_
        refine lv_goto (tgt := 32) hx hb dX16_is_28 (by decide) ?_
        subst hQ
        rw [← hX_tx] at hP hD
        have hP : va_P (dC, dI) vwQ ([(h0, .inr (14, [.ref q_t, v16_1, v16_2, .int (zI (z16_kind)), v16_4, v16_5, v16_6, .ref tx9, v16_8, v16_9, v16_10, v16_11, v16_12, v16_13])), (q_t, .inl (cT, 8192, .inl (fun j : Nat => zI (a_t (j : Int)))))] ++ va_pl L (pE P)) H := hP
        have hD : va_D A ([(h0, .inr (14, [.ref q_t, v16_1, v16_2, .int (zI (z16_kind)), v16_4, v16_5, v16_6, .ref tx9, v16_8, v16_9, v16_10, v16_11, v16_12, v16_13])), (q_t, .inl (cT, 8192, .inl (fun j : Nat => zI (a_t (j : Int)))))] ++ va_pl L (pE P)) := hD
        refine W.widen (k := 0) (n := 0) (Nat.le_of_ble_eq_true rfl) (Nat.le_of_ble_eq_true rfl) ?_
        exact W.zret (v := 1) hx hb hr (by decide) (fun t ht hW => ⟨⟨1, (), rfl, ⟨1, rfl, ⟨by omega, by omega, by omega, (fun q9 => by omega)⟩⟩, by rw [ht]; exact hP, va_K.moved hW.alike hK, hD⟩, hS.F ht⟩) hS.2.2 dX16_is_32
    · have yb5 : ¬ (z16_kind : Int) = (5 : Int) := fun q => b5 ((zI_eq (a := z16_kind) (b := 5) (by omega) (by omega) (by omega) (by omega)).mpr q)
      refine lv_aload_n hx hb dX16_is_8 rfl (lv_at hl 0 rfl) ?_
      refine va_get (D := (dC, dI)) (ci := 14) (v := .int (zI (z16_kind))) (C := RX16) (T := TX16) (N := 14) hx hb hts mem_X16_isKK_0 hown hK hP 0 rfl rfl 3 (by decide) (ow (k := 0) rfl) (fun _ h9 => h9) rfl dX16_is_9 ?_
      refine lv_iconst (v := 1) hx hb dX16_is_12 (by decide) ?_
      refine lv_icmp_ne (tgt := 31) hx hb dX16_is_13 (by decide) (fun b13 => ?_) (fun b13 => ?_)
      · have yb13 : ¬ (z16_kind : Int) = (1 : Int) := fun q => b13 ((zI_eq (a := z16_kind) (b := 1) (by omega) (by omega) (by omega) (by omega)).mpr q)
        refine lv_iconst (v := 0) hx hb dX16_is_31 (by decide) ?_
        subst hQ
        rw [← hX_tx] at hP hD
        have hP : va_P (dC, dI) vwQ ([(h0, .inr (14, [.ref q_t, v16_1, v16_2, .int (zI (z16_kind)), v16_4, v16_5, v16_6, .ref tx9, v16_8, v16_9, v16_10, v16_11, v16_12, v16_13])), (q_t, .inl (cT, 8192, .inl (fun j : Nat => zI (a_t (j : Int)))))] ++ va_pl L (pE P)) H := hP
        have hD : va_D A ([(h0, .inr (14, [.ref q_t, v16_1, v16_2, .int (zI (z16_kind)), v16_4, v16_5, v16_6, .ref tx9, v16_8, v16_9, v16_10, v16_11, v16_12, v16_13])), (q_t, .inl (cT, 8192, .inl (fun j : Nat => zI (a_t (j : Int)))))] ++ va_pl L (pE P)) := hD
        refine W.widen (k := 0) (n := 0) (Nat.le_of_ble_eq_true rfl) (Nat.le_of_ble_eq_true rfl) ?_
        exact W.zret (v := 0) hx hb hr (by decide) (fun t ht hW => ⟨⟨0, (), rfl, ⟨0, rfl, ⟨by omega, by omega, by omega, (fun q9 => by omega)⟩⟩, by rw [ht]; exact hP, va_K.moved hW.alike hK, hD⟩, hS.F ht⟩) hS.2.2 dX16_is_32
      · have yb13 : (z16_kind : Int) = (1 : Int) := (zI_eq (a := z16_kind) (b := 1) (by omega) (by omega) (by omega) (by omega)).mp b13
        refine lv_aload_n hx hb dX16_is_16 rfl (lv_at hl 0 rfl) ?_
        refine va_get (D := (dC, dI)) (ci := 14) (v := .ref sa_RX16_9) (C := RX16) (T := TX16) (N := 14) hx hb hts mem_X16_isKK_0 hown hK hP 0 rfl rfl 7 (by decide) (ow (k := 1) rfl) (fun _ h9 => h9) rfl dX16_is_17 ?_
        refine lv_aload_n hx hb dX16_is_20 rfl (lv_at hl 1 rfl) ?_
        have hPc := hP.sub (ws' := []) [] rfl
        have hDc := hD.sub (ws' := []) [] (by decide) rfl
        have hKc := hK.sub (tys' := []) [] rfl
        have hFc := va_free (wc := []) hD hS hA [] rfl
        refine va_calli (va_runV (As := [.ref tz]) (rest := []) ⟨hx, hb, hml, hown, hts⟩ (c_J0_equals l dC dI sa_RX16_9 sv_RX16_9 0 ((fun j : Nat => ([] : List Int32).getD j 0)) tz tw um uf (by omega) (by omega) H.size) (cwV 1 hts g_X16_isKK_J0_equals rfl rfl rfl (by decide +kernel) ⟨(Nat.le_of_ble_eq_true rfl), (Nat.le_of_ble_eq_true rfl)⟩) ⟨fun a U g mk q => by obtain ⟨q0, q1, qP, qK, qD, e0, e1, e2⟩ := q; exact ⟨q0, q1, qP, va_K.moved (u := U) (U := U.calling g mk a) (Vm.Alike.refl U.vm) qK, qD, vs_S.moved (u := U) (U := U.calling g mk a) (Vm.Alike.refl U.vm) e0, va_Z.moved (u := U) (U := U.calling g mk a) (Vm.Alike.refl U.vm) e1, vs_S.moved (u := U) (U := U.calling g mk a) (Vm.Alike.refl U.vm) e2⟩, vs_S.recv hp0 hS, fun U hU hW => ⟨rfl, by rw [hU], by rw [hU]; exact hPc, va_K.moved hW.alike hKc, hDc.weaken (fun _ _ _ _ => trivial), by rw [hU]; exact vs_S.narrow (vs_S.moved hW.alike (vs_S.kept hp1 hS.2.1)) hFc, by rw [hU]; exact va_Z.narrow (va_Z.moved hW.alike (va_Z.kept hp2 hS.2.1)) hFc, by rw [hU]; exact vs_S.narrow (vs_S.moved hW.alike (vs_S.kept hp0 hS.2.1)) hFc⟩⟩ rfl rfl hl.1 rfl (lv_room (Nat.le_of_ble_eq_true rfl)) dX16_is_21 ⟨(Nat.le_of_ble_eq_true rfl), (Nat.le_of_ble_eq_true rfl)⟩) hS (fun q _ h => hFc q h) hFc (fun r_4 u t H1 locs ht hvm hw hB hz1 hk1 hS => ?_)
        obtain ⟨hP1, hK1, hD1⟩ := hB
        rw [ht] at hP1
        have hK1 := va_K.moved hvm.symm hK1
        obtain ⟨hP, hD⟩ := va_joinQ (X := [(h0, .inr (14, [.ref q_t, v16_1, v16_2, .int (zI (z16_kind)), v16_4, v16_5, v16_6, .ref sa_RX16_9, v16_8, v16_9, v16_10, v16_11, v16_12, v16_13])), (q_t, .inl (cT, 8192, .inl (fun j : Nat => zI (a_t (j : Int)))))]) (cx := []) (wr := [(h0, .inr (14, [.ref q_t, v16_1, v16_2, .int (zI (z16_kind)), v16_4, v16_5, v16_6, .ref sa_RX16_9, v16_8, v16_9, v16_10, v16_11, v16_12, v16_13])), (q_t, .inl (cT, 8192, .inl (fun j : Nat => zI (a_t (j : Int)))))]) (w1 := []) (pl := va_pl L (pE P)) hP hD [] [0, 1] rfl rfl (by decide) (by decide) hk1 hFc hP1 hD1
        have hK := (hK.sub (tys' := [(cT, .byte)]) [0] rfl).app hK1
        generalize H1 = H at hP hS ⊢
        have hP : va_P (dC, dI) vwQ ([(h0, .inr (14, [.ref q_t, v16_1, v16_2, .int (zI (z16_kind)), v16_4, v16_5, v16_6, .ref sa_RX16_9, v16_8, v16_9, v16_10, v16_11, v16_12, v16_13])), (q_t, .inl (cT, 8192, .inl (fun j : Nat => zI (a_t (j : Int)))))] ++ va_pl L (pE P)) H := hP
        have hD : va_D A ([(h0, .inr (14, [.ref q_t, v16_1, v16_2, .int (zI (z16_kind)), v16_4, v16_5, v16_6, .ref sa_RX16_9, v16_8, v16_9, v16_10, v16_11, v16_12, v16_13])), (q_t, .inl (cT, 8192, .inl (fun j : Nat => zI (a_t (j : Int)))))] ++ va_pl L (pE P)) := hD
        have hK : va_K (dC, dI) vwQ [(cT, .byte)] s := hK
        refine W.widen (k := 0) (n := 0) (Nat.le_of_ble_eq_true rfl) (Nat.le_of_ble_eq_true rfl) ?_
        have hw_5 := hw
        obtain ⟨z_6, rfl, hzz_6⟩ := hw_5
        refine lv_if_eq (tgt := 31) hx hb dX16_is_24 (by decide) (fun b24 => ?_) (fun b24 => ?_)
        · have yb24 : (z_6 : Int) = (0 : Int) := (zI_eq (a := z_6) (b := 0) (by omega) (by omega) (by omega) (by omega)).mp b24
          refine lv_iconst (v := 0) hx hb dX16_is_31 (by decide) ?_
          subst hQ
          rw [← hX_tx] at hP hD
          have hP : va_P (dC, dI) vwQ ([(h0, .inr (14, [.ref q_t, v16_1, v16_2, .int (zI (z16_kind)), v16_4, v16_5, v16_6, .ref tx9, v16_8, v16_9, v16_10, v16_11, v16_12, v16_13])), (q_t, .inl (cT, 8192, .inl (fun j : Nat => zI (a_t (j : Int)))))] ++ va_pl L (pE P)) H := hP
          have hD : va_D A ([(h0, .inr (14, [.ref q_t, v16_1, v16_2, .int (zI (z16_kind)), v16_4, v16_5, v16_6, .ref tx9, v16_8, v16_9, v16_10, v16_11, v16_12, v16_13])), (q_t, .inl (cT, 8192, .inl (fun j : Nat => zI (a_t (j : Int)))))] ++ va_pl L (pE P)) := hD
          refine W.widen (k := 0) (n := 0) (Nat.le_of_ble_eq_true rfl) (Nat.le_of_ble_eq_true rfl) ?_
          exact W.zret (v := 0) hx hb hr (by decide) (fun t ht hW => ⟨⟨0, (), rfl, ⟨0, rfl, ⟨by omega, by omega, by omega, (fun q9 => by omega)⟩⟩, by rw [ht]; exact hP, va_K.moved hW.alike hK, hD⟩, hS.F ht⟩) hS.2.2 dX16_is_32
        · have yb24 : ¬ (z_6 : Int) = (0 : Int) := fun q => b24 ((zI_eq (a := z_6) (b := 0) (by omega) (by omega) (by omega) (by omega)).mpr q)
          refine lv_iconst (v := 1) hx hb dX16_is_27 (by decide) ?_
          refine lv_goto (tgt := 32) hx hb dX16_is_28 (by decide) ?_
          subst hQ
          rw [← hX_tx] at hP hD
          have hP : va_P (dC, dI) vwQ ([(h0, .inr (14, [.ref q_t, v16_1, v16_2, .int (zI (z16_kind)), v16_4, v16_5, v16_6, .ref tx9, v16_8, v16_9, v16_10, v16_11, v16_12, v16_13])), (q_t, .inl (cT, 8192, .inl (fun j : Nat => zI (a_t (j : Int)))))] ++ va_pl L (pE P)) H := hP
          have hD : va_D A ([(h0, .inr (14, [.ref q_t, v16_1, v16_2, .int (zI (z16_kind)), v16_4, v16_5, v16_6, .ref tx9, v16_8, v16_9, v16_10, v16_11, v16_12, v16_13])), (q_t, .inl (cT, 8192, .inl (fun j : Nat => zI (a_t (j : Int)))))] ++ va_pl L (pE P)) := hD
          refine W.widen (k := 0) (n := 0) (Nat.le_of_ble_eq_true rfl) (Nat.le_of_ble_eq_true rfl) ?_
          exact W.zret (v := 1) hx hb hr (by decide) (fun t ht hW => ⟨⟨1, (), rfl, ⟨1, rfl, ⟨by omega, by omega, by omega, (fun q9 => by omega)⟩⟩, by rw [ht]; exact hP, va_K.moved hW.alike hK, hD⟩, hS.F ht⟩) hS.2.2 dX16_is_32
  · skip
    have htn9 := hX_tx.2.2.2.2.2.1
    refine lv_aload_n hx hb dX16_is_0 rfl (lv_at hl 0 rfl) ?_
    refine va_get (D := (dC, dI)) (ci := 14) (v := .int (zI (z16_kind))) (C := RX16) (T := TX16) (N := 14) hx hb hts mem_X16_isKK_0 hown hK hP 0 rfl rfl 3 (by decide) (ow (k := 0) rfl) (fun _ h9 => h9) rfl dX16_is_1 ?_
    refine lv_iconst (v := 5) hx hb dX16_is_4 (by decide) ?_
    refine lv_icmp_eq (tgt := 16) hx hb dX16_is_5 (by decide) (fun b5 => ?_) (fun b5 => ?_)
    · have yb5 : (z16_kind : Int) = (5 : Int) := (zI_eq (a := z16_kind) (b := 5) (by omega) (by omega) (by omega) (by omega)).mp b5
      refine lv_aload_n hx hb dX16_is_16 rfl (lv_at hl 0 rfl) ?_
      refine va_get (D := (dC, dI)) (ci := 14) (v := .ref tx9) (C := RX16) (T := TX16) (N := 14) hx hb hts mem_X16_isKK_0 hown hK hP 0 rfl rfl 7 (by decide) (ow (k := 1) rfl) (fun _ h9 => h9) rfl dX16_is_17 ?_
      refine lv_aload_n hx hb dX16_is_20 rfl (lv_at hl 1 rfl) ?_
      have hPc := hP.sub (ws' := []) [] rfl
      have hDc := hD.sub (ws' := []) [] (by decide) rfl
      have hKc := hK.sub (tys' := []) [] rfl
      have hFc := va_free (wc := []) hD hS hA [] rfl
      refine va_calli (va_runV (As := [.ref tz]) (rest := []) ⟨hx, hb, hml, hown, hts⟩ (c_J0_equals l dC dI tx9 (P.le tx9) (P.an (P.le tx9)) ((fun j : Nat => zI (P.ia (P.le tx9) (j : Int)))) tz tw um uf (by omega) (by omega) H.size) (cwV 1 hts g_X16_isKK_J0_equals rfl rfl rfl (by decide +kernel) ⟨(Nat.le_of_ble_eq_true rfl), (Nat.le_of_ble_eq_true rfl)⟩) ⟨fun a U g mk q => by obtain ⟨q0, q1, qP, qK, qD, e0, e1, e2⟩ := q; exact ⟨q0, q1, qP, va_K.moved (u := U) (U := U.calling g mk a) (Vm.Alike.refl U.vm) qK, qD, vs_S.moved (u := U) (U := U.calling g mk a) (Vm.Alike.refl U.vm) e0, va_Z.moved (u := U) (U := U.calling g mk a) (Vm.Alike.refl U.vm) e1, vs_S.moved (u := U) (U := U.calling g mk a) (Vm.Alike.refl U.vm) e2⟩, str_recv hK hP rfl hX_tx, fun U hU hW => ⟨rfl, by rw [hU], by rw [hU]; exact hPc, va_K.moved hW.alike hKc, hDc.weaken (fun _ _ _ _ => trivial), by rw [hU]; exact vs_S.narrow (vs_S.moved hW.alike (vs_S.kept hp1 hS.2.1)) hFc, by rw [hU]; exact va_Z.narrow (va_Z.moved hW.alike (va_Z.kept hp2 hS.2.1)) hFc, (by rw [hU]; exact vs_S.moved hW.alike (vs_ofP (ti := 0) hp1 hK hP hD rfl hX_tx rfl [] rfl (show ∀ i ∈ ([] : List Nat), i < 2 from by decide)))⟩⟩ rfl rfl hl.1 rfl (lv_room (Nat.le_of_ble_eq_true rfl)) dX16_is_21 ⟨(Nat.le_of_ble_eq_true rfl), (Nat.le_of_ble_eq_true rfl)⟩) hS (fun q _ h => hFc q h) hFc (fun r_7 u t H1 locs ht hvm hw hB hz1 hk1 hS => ?_)
      obtain ⟨hP1, hK1, hD1⟩ := hB
      rw [ht] at hP1
      have hK1 := va_K.moved hvm.symm hK1
      obtain ⟨hP, hD⟩ := va_joinQ (X := [(h0, .inr (14, [.ref q_t, v16_1, v16_2, .int (zI (z16_kind)), v16_4, v16_5, v16_6, .ref tx9, v16_8, v16_9, v16_10, v16_11, v16_12, v16_13])), (q_t, .inl (cT, 8192, .inl (fun j : Nat => zI (a_t (j : Int)))))]) (cx := []) (wr := [(h0, .inr (14, [.ref q_t, v16_1, v16_2, .int (zI (z16_kind)), v16_4, v16_5, v16_6, .ref tx9, v16_8, v16_9, v16_10, v16_11, v16_12, v16_13])), (q_t, .inl (cT, 8192, .inl (fun j : Nat => zI (a_t (j : Int)))))]) (w1 := []) (pl := va_pl L (pE P)) hP hD [] [0, 1] rfl rfl (by decide) (by decide) hk1 hFc hP1 hD1
      have hK := (hK.sub (tys' := [(cT, .byte)]) [0] rfl).app hK1
      generalize H1 = H at hP hS ⊢
      have hP : va_P (dC, dI) vwQ ([(h0, .inr (14, [.ref q_t, v16_1, v16_2, .int (zI (z16_kind)), v16_4, v16_5, v16_6, .ref tx9, v16_8, v16_9, v16_10, v16_11, v16_12, v16_13])), (q_t, .inl (cT, 8192, .inl (fun j : Nat => zI (a_t (j : Int)))))] ++ va_pl L (pE P)) H := hP
      have hD : va_D A ([(h0, .inr (14, [.ref q_t, v16_1, v16_2, .int (zI (z16_kind)), v16_4, v16_5, v16_6, .ref tx9, v16_8, v16_9, v16_10, v16_11, v16_12, v16_13])), (q_t, .inl (cT, 8192, .inl (fun j : Nat => zI (a_t (j : Int)))))] ++ va_pl L (pE P)) := hD
      have hK : va_K (dC, dI) vwQ [(cT, .byte)] s := hK
      refine W.widen (k := 0) (n := 0) (Nat.le_of_ble_eq_true rfl) (Nat.le_of_ble_eq_true rfl) ?_
      have hw_8 := hw
      obtain ⟨z_9, rfl, hzz_9⟩ := hw_8
      refine lv_if_eq (tgt := 31) hx hb dX16_is_24 (by decide) (fun b24 => ?_) (fun b24 => ?_)
      · have yb24 : (z_9 : Int) = (0 : Int) := (zI_eq (a := z_9) (b := 0) (by omega) (by omega) (by omega) (by omega)).mp b24
        refine lv_iconst (v := 0) hx hb dX16_is_31 (by decide) ?_
        subst hQ
        refine W.widen (k := 0) (n := 0) (Nat.le_of_ble_eq_true rfl) (Nat.le_of_ble_eq_true rfl) ?_
        exact W.zret (v := 0) hx hb hr (by decide) (fun t ht hW => ⟨⟨0, (), rfl, ⟨0, rfl, ⟨by omega, by omega, by omega, (fun q9 => by omega)⟩⟩, by rw [ht]; exact hP, va_K.moved hW.alike hK, hD⟩, hS.F ht⟩) hS.2.2 dX16_is_32
      · have yb24 : ¬ (z_9 : Int) = (0 : Int) := fun q => b24 ((zI_eq (a := z_9) (b := 0) (by omega) (by omega) (by omega) (by omega)).mpr q)
        refine lv_iconst (v := 1) hx hb dX16_is_27 (by decide) ?_
        refine lv_goto (tgt := 32) hx hb dX16_is_28 (by decide) ?_
        subst hQ
        refine W.widen (k := 0) (n := 0) (Nat.le_of_ble_eq_true rfl) (Nat.le_of_ble_eq_true rfl) ?_
        exact W.zret (v := 1) hx hb hr (by decide) (fun t ht hW => ⟨⟨1, (), rfl, ⟨1, rfl, ⟨by omega, by omega, by omega, (fun q9 => by omega)⟩⟩, by rw [ht]; exact hP, va_K.moved hW.alike hK, hD⟩, hS.F ht⟩) hS.2.2 dX16_is_32
    · have yb5 : ¬ (z16_kind : Int) = (5 : Int) := fun q => b5 ((zI_eq (a := z16_kind) (b := 5) (by omega) (by omega) (by omega) (by omega)).mpr q)
      refine lv_aload_n hx hb dX16_is_8 rfl (lv_at hl 0 rfl) ?_
      refine va_get (D := (dC, dI)) (ci := 14) (v := .int (zI (z16_kind))) (C := RX16) (T := TX16) (N := 14) hx hb hts mem_X16_isKK_0 hown hK hP 0 rfl rfl 3 (by decide) (ow (k := 0) rfl) (fun _ h9 => h9) rfl dX16_is_9 ?_
      refine lv_iconst (v := 1) hx hb dX16_is_12 (by decide) ?_
      refine lv_icmp_ne (tgt := 31) hx hb dX16_is_13 (by decide) (fun b13 => ?_) (fun b13 => ?_)
      · have yb13 : ¬ (z16_kind : Int) = (1 : Int) := fun q => b13 ((zI_eq (a := z16_kind) (b := 1) (by omega) (by omega) (by omega) (by omega)).mpr q)
        refine lv_iconst (v := 0) hx hb dX16_is_31 (by decide) ?_
        subst hQ
        refine W.widen (k := 0) (n := 0) (Nat.le_of_ble_eq_true rfl) (Nat.le_of_ble_eq_true rfl) ?_
        exact W.zret (v := 0) hx hb hr (by decide) (fun t ht hW => ⟨⟨0, (), rfl, ⟨0, rfl, ⟨by omega, by omega, by omega, (fun q9 => by omega)⟩⟩, by rw [ht]; exact hP, va_K.moved hW.alike hK, hD⟩, hS.F ht⟩) hS.2.2 dX16_is_32
      · have yb13 : (z16_kind : Int) = (1 : Int) := (zI_eq (a := z16_kind) (b := 1) (by omega) (by omega) (by omega) (by omega)).mp b13
        refine lv_aload_n hx hb dX16_is_16 rfl (lv_at hl 0 rfl) ?_
        refine va_get (D := (dC, dI)) (ci := 14) (v := .ref tx9) (C := RX16) (T := TX16) (N := 14) hx hb hts mem_X16_isKK_0 hown hK hP 0 rfl rfl 7 (by decide) (ow (k := 1) rfl) (fun _ h9 => h9) rfl dX16_is_17 ?_
        refine lv_aload_n hx hb dX16_is_20 rfl (lv_at hl 1 rfl) ?_
        have hPc := hP.sub (ws' := []) [] rfl
        have hDc := hD.sub (ws' := []) [] (by decide) rfl
        have hKc := hK.sub (tys' := []) [] rfl
        have hFc := va_free (wc := []) hD hS hA [] rfl
        refine va_calli (va_runV (As := [.ref tz]) (rest := []) ⟨hx, hb, hml, hown, hts⟩ (c_J0_equals l dC dI tx9 (P.le tx9) (P.an (P.le tx9)) ((fun j : Nat => zI (P.ia (P.le tx9) (j : Int)))) tz tw um uf (by omega) (by omega) H.size) (cwV 1 hts g_X16_isKK_J0_equals rfl rfl rfl (by decide +kernel) ⟨(Nat.le_of_ble_eq_true rfl), (Nat.le_of_ble_eq_true rfl)⟩) ⟨fun a U g mk q => by obtain ⟨q0, q1, qP, qK, qD, e0, e1, e2⟩ := q; exact ⟨q0, q1, qP, va_K.moved (u := U) (U := U.calling g mk a) (Vm.Alike.refl U.vm) qK, qD, vs_S.moved (u := U) (U := U.calling g mk a) (Vm.Alike.refl U.vm) e0, va_Z.moved (u := U) (U := U.calling g mk a) (Vm.Alike.refl U.vm) e1, vs_S.moved (u := U) (U := U.calling g mk a) (Vm.Alike.refl U.vm) e2⟩, str_recv hK hP rfl hX_tx, fun U hU hW => ⟨rfl, by rw [hU], by rw [hU]; exact hPc, va_K.moved hW.alike hKc, hDc.weaken (fun _ _ _ _ => trivial), by rw [hU]; exact vs_S.narrow (vs_S.moved hW.alike (vs_S.kept hp1 hS.2.1)) hFc, by rw [hU]; exact va_Z.narrow (va_Z.moved hW.alike (va_Z.kept hp2 hS.2.1)) hFc, (by rw [hU]; exact vs_S.moved hW.alike (vs_ofP (ti := 0) hp1 hK hP hD rfl hX_tx rfl [] rfl (show ∀ i ∈ ([] : List Nat), i < 2 from by decide)))⟩⟩ rfl rfl hl.1 rfl (lv_room (Nat.le_of_ble_eq_true rfl)) dX16_is_21 ⟨(Nat.le_of_ble_eq_true rfl), (Nat.le_of_ble_eq_true rfl)⟩) hS (fun q _ h => hFc q h) hFc (fun r_10 u t H1 locs ht hvm hw hB hz1 hk1 hS => ?_)
        obtain ⟨hP1, hK1, hD1⟩ := hB
        rw [ht] at hP1
        have hK1 := va_K.moved hvm.symm hK1
        obtain ⟨hP, hD⟩ := va_joinQ (X := [(h0, .inr (14, [.ref q_t, v16_1, v16_2, .int (zI (z16_kind)), v16_4, v16_5, v16_6, .ref tx9, v16_8, v16_9, v16_10, v16_11, v16_12, v16_13])), (q_t, .inl (cT, 8192, .inl (fun j : Nat => zI (a_t (j : Int)))))]) (cx := []) (wr := [(h0, .inr (14, [.ref q_t, v16_1, v16_2, .int (zI (z16_kind)), v16_4, v16_5, v16_6, .ref tx9, v16_8, v16_9, v16_10, v16_11, v16_12, v16_13])), (q_t, .inl (cT, 8192, .inl (fun j : Nat => zI (a_t (j : Int)))))]) (w1 := []) (pl := va_pl L (pE P)) hP hD [] [0, 1] rfl rfl (by decide) (by decide) hk1 hFc hP1 hD1
        have hK := (hK.sub (tys' := [(cT, .byte)]) [0] rfl).app hK1
        generalize H1 = H at hP hS ⊢
        have hP : va_P (dC, dI) vwQ ([(h0, .inr (14, [.ref q_t, v16_1, v16_2, .int (zI (z16_kind)), v16_4, v16_5, v16_6, .ref tx9, v16_8, v16_9, v16_10, v16_11, v16_12, v16_13])), (q_t, .inl (cT, 8192, .inl (fun j : Nat => zI (a_t (j : Int)))))] ++ va_pl L (pE P)) H := hP
        have hD : va_D A ([(h0, .inr (14, [.ref q_t, v16_1, v16_2, .int (zI (z16_kind)), v16_4, v16_5, v16_6, .ref tx9, v16_8, v16_9, v16_10, v16_11, v16_12, v16_13])), (q_t, .inl (cT, 8192, .inl (fun j : Nat => zI (a_t (j : Int)))))] ++ va_pl L (pE P)) := hD
        have hK : va_K (dC, dI) vwQ [(cT, .byte)] s := hK
        refine W.widen (k := 0) (n := 0) (Nat.le_of_ble_eq_true rfl) (Nat.le_of_ble_eq_true rfl) ?_
        have hw_11 := hw
        obtain ⟨z_12, rfl, hzz_12⟩ := hw_11
        refine lv_if_eq (tgt := 31) hx hb dX16_is_24 (by decide) (fun b24 => ?_) (fun b24 => ?_)
        · have yb24 : (z_12 : Int) = (0 : Int) := (zI_eq (a := z_12) (b := 0) (by omega) (by omega) (by omega) (by omega)).mp b24
          refine lv_iconst (v := 0) hx hb dX16_is_31 (by decide) ?_
          subst hQ
          refine W.widen (k := 0) (n := 0) (Nat.le_of_ble_eq_true rfl) (Nat.le_of_ble_eq_true rfl) ?_
          exact W.zret (v := 0) hx hb hr (by decide) (fun t ht hW => ⟨⟨0, (), rfl, ⟨0, rfl, ⟨by omega, by omega, by omega, (fun q9 => by omega)⟩⟩, by rw [ht]; exact hP, va_K.moved hW.alike hK, hD⟩, hS.F ht⟩) hS.2.2 dX16_is_32
        · have yb24 : ¬ (z_12 : Int) = (0 : Int) := fun q => b24 ((zI_eq (a := z_12) (b := 0) (by omega) (by omega) (by omega) (by omega)).mpr q)
          refine lv_iconst (v := 1) hx hb dX16_is_27 (by decide) ?_
          refine lv_goto (tgt := 32) hx hb dX16_is_28 (by decide) ?_
          subst hQ
          refine W.widen (k := 0) (n := 0) (Nat.le_of_ble_eq_true rfl) (Nat.le_of_ble_eq_true rfl) ?_
          exact W.zret (v := 1) hx hb hr (by decide) (fun t ht hW => ⟨⟨1, (), rfl, ⟨1, rfl, ⟨by omega, by omega, by omega, (fun q9 => by omega)⟩⟩, by rw [ht]; exact hP, va_K.moved hW.alike hK, hD⟩, hS.F ht⟩) hS.2.2 dX16_is_32
