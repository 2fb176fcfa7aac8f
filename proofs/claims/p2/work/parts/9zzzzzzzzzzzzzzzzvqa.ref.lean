def o_X12_initQ : List Cond := [.methodLink RX12 3 objectInit, .instanceMethod objectInit, .code objectInit ⟨#[0xb1]⟩ 1 none, .classLink RX12 9 RJx4a65c, .instantiable RJx4a65c 3, .initialized RJx4a65c, .methodLink RX12 11 yJx4a65c_init_da8c8, .instanceMethod yJx4a65c_init_da8c8, .fieldLink RX12 12 "SsaForgeModel$Block" "phis" "Ljava/util/ArrayList;", .fieldLink RX12 18 "SsaForgeModel$Block" "rows" "Ljava/util/ArrayList;", .classLink RX12 21 RX17, .instantiable RX17 7, .initialized RX17, .instanceMethod yX17_init, .fieldLink RX12 24 "SsaForgeModel$Block" "end" "LSsaForgeModel$Row;"]
def v_X12_initQ : List Cond := .code yX12_init cX12_init 1 none :: (o_X12_initQ ++ (wsJx4a65c0 ++ (v_AL_init ++ (wsX120 ++ (wsX170 ++ (v_X17_init ++ []))))))
theorem mow_X12_initQ : ∀ w ∈ o_X12_initQ, w ∈ v_X12_initQ := fun _ h => List.mem_cons_of_mem _ (List.mem_append_left _ h)
theorem mem_X12_initQ_0 : ∀ w ∈ wsJx4a65c0, w ∈ v_X12_initQ := fun _ h => List.mem_cons_of_mem _ (List.mem_append_right _ (List.mem_append_left _ h))
theorem mem_X12_initQ_1 : ∀ w ∈ v_AL_init, w ∈ v_X12_initQ := fun _ h => List.mem_cons_of_mem _ (List.mem_append_right _ (List.mem_append_right _ (List.mem_append_left _ h)))
theorem mem_X12_initQ_2 : ∀ w ∈ wsX120, w ∈ v_X12_initQ := fun _ h => List.mem_cons_of_mem _ (List.mem_append_right _ (List.mem_append_right _ (List.mem_append_right _ (List.mem_append_left _ h))))
theorem mem_X12_initQ_3 : ∀ w ∈ wsX170, w ∈ v_X12_initQ := fun _ h => List.mem_cons_of_mem _ (List.mem_append_right _ (List.mem_append_right _ (List.mem_append_right _ (List.mem_append_right _ (List.mem_append_left _ h)))))
theorem mem_X12_initQ_4 : ∀ w ∈ v_X17_init, w ∈ v_X12_initQ := fun _ h => List.mem_cons_of_mem _ (List.mem_append_right _ (List.mem_append_right _ (List.mem_append_right _ (List.mem_append_right _ (List.mem_append_right _ (List.mem_append_left _ h))))))
set_option maxRecDepth 20000 in
theorem gw_X12_initQ : v_X12_initQ.all goodWord = true := by decide +kernel
set_option maxHeartbeats 4000000 in
set_option maxRecDepth 100000 in
theorem c_X12_initQ (l : Launch) (dC : Nat → ClassId) (dI : Nat → Nat → Nat) (cI : ClassId) (cZ : ClassId) (h0 : Nat) (cO : ClassId) (L : List Nat) (P : PO) (sx_ed : Nat) (hX_g : GLR L P cO cI cZ sx_ed) (sz : Nat) : Met l yX12_init v_X12_initQ ({ frames := 4, cells := 3, slots := 13, locals := 72 }) (va_Pc [.ref h0] (fun U => U.heap.size = sz ∧ va_P (dC, dI) vwQ ([(h0, .inr (19, [.null, .null, .null, .int 0, .int 0]))] ++ va_pl L (pE P)) U.heap ∧ va_K (dC, dI) vwQ [(cO, .object "java/lang/Object"), (cI, .int), (cZ, .boolean)] U ∧ va_D (fun _ => True) ([(h0, .inr (19, [.null, .null, .null, .int 0, .int 0]))] ++ va_pl L (pE P)) ∧ va_Z "java/util/ArrayList" "DEFAULTCAPACITY_EMPTY_ELEMENTDATA" "[Ljava/lang/Object;" (.ref sx_ed) (va_A ([(h0, .inr (19, [.null, .null, .null, .int 0, .int 0]))] ++ va_pl L (pE P)) sz) U U.heap ∧ va_Nw (.methodLinkNest RX12 23 yX17_init "SsaForgeModel") U)) (va_Qv (fun _ : Unit => True) (fun (_ : Unit) (t : State) => ∃ (q0_9 : Nat) (q1_9 : Nat) (q2_9 : Nat) (Ln_9 : List Nat) (Pn_9 : PO), ((EXT9 L P Ln_9 Pn_9 ∧ NWSR L Ln_9 Pn_9 cO cI cZ sx_ed ∧ LSF9 Ln_9 Pn_9 q0_9 15 h0 sx_ed ∧ LSF9 Ln_9 Pn_9 q1_9 17 h0 sx_ed ∧ RWFR Ln_9 Pn_9 q2_9 1 ∧ (q2_9 ∉ L ∧ (∀ z : Nat, z ∈ Ln_9 → z ∉ L → z = q0_9 ∨ z = q1_9 ∨ z = q2_9) ∧ q0_9 ∉ L ∧ q1_9 ∉ L) ∧ (PSI wSL Ln_9 Pn_9 = PSI wSL L P + 13 ∧ PSI wCE Ln_9 Pn_9 = PSI wCE L P + 120 ∧ ∀ z : Nat, z ∈ Ln_9 → z ∉ L → Pn_9.kd z = 30 → Pn_9.cap z = 0))) ∧ va_P (dC, dI) vwQ ([(h0, .inr (19, [.ref q0_9, .ref q1_9, .ref q2_9, .int 0, .int 0]))] ++ va_pl Ln_9 (pE Pn_9)) t.heap ∧ va_K (dC, dI) vwQ [(cO, .object "java/lang/Object"), (cI, .int), (cZ, .boolean)] t ∧ va_D (va_A ([(h0, .inr (19, [.null, .null, .null, .int 0, .int 0]))] ++ va_pl L (pE P)) sz) ([(h0, .inr (19, [.ref q0_9, .ref q1_9, .ref q2_9, .int 0, .int 0]))] ++ va_pl Ln_9 (pE Pn_9))) (va_A ([(h0, .inr (19, [.null, .null, .null, .int 0, .int 0]))] ++ va_pl L (pE P)) sz)) 3 13 (va_A ([(h0, .inr (19, [.null, .null, .null, .int 0, .int 0]))] ++ va_pl L (pE P)) sz) := by
  refine Met.ofW (cc := cX12_init) (maxL := 1) (ret := none) (by decide) rfl ?_
  intro p e s m args below meth c s₁ B hml hv
  obtain ⟨rfl, hsz, hP, hK, hD0, hp0, hp1⟩ := hv
  have hx := B.exec
  have hb := B.bytes
  have hr := B.returns
  have hts := atoms_spec (ws := v_X12_initQ) B.pre
  have hown : s.vm.findClass RX12 = some m.cls := findClass_of_methodNamed B.named
  have hlocks := B.notSynchronized
  have ow : ∀ {k : Nat} {w : Cond}, o_X12_initQ[k]? = some w → w.before ([.ref h0] : List Value).toArray s = true := fun h => hts _ (mow_X12_initQ _ (List.mem_of_getElem? h))
  have hin : meth.name = "<init>" := (name_of_methodNamed B.named B.method).1
  subst hsz
  have hD := hD0.self (sz := s.heap.size)
  generalize hAe : va_A ([(h0, .inr (19, [.null, .null, .null, .int 0, .int 0]))] ++ va_pl L (pE P)) s.heap.size = A at hD hp0 ⊢
  have hA : ∀ q : Nat, s.heap.size ≤ q → A q := fun q h => by rw [← hAe]; exact Or.inr h
  have hS : va_S A s.heap s.heap [] := va_S.rf
  have hP : va_P (dC, dI) vwQ ([(h0, .inr (19, [.null, .null, .null, .int 0, .int 0]))] ++ va_pl L (pE P)) s.heap := hP
  have hl := lv_entry ([.ref h0]) (n := 1) (Nat.le_of_ble_eq_true rfl)
  rw [lg_entry_eq]
  generalize (lg_sl ([.ref h0]) ++ List.replicate (1 - (lg_sl ([.ref h0])).length) Slot.unset).toArray = ls at hl ⊢
  have hl : lv_has ls 1 [(0, .ref h0)] := hl
  obtain ⟨H, hH⟩ : ∃ H, H = s.heap := ⟨_, rfl⟩
  rw [← hH] at hP
  have hS : va_S A s.heap H [] := by rw [hH]; exact hS
  rw [← hH]
  refine zW_cap (fun Q hQ => ?_)
  refine lv_aload_n hx hb dX12_init_0 rfl (lv_at hl 0 rfl) ?_
  refine W.objInit hx hb hown (ow (k := 0) rfl) (ow (k := 1) rfl) (ow (k := 2) rfl) rfl (by rw [hml]; exact hl.1) rfl dX12_init_1 (Nat.le_of_ble_eq_true rfl) (Nat.le_of_ble_eq_true rfl) ?_
  refine W.eq (g2 := F0 m 4 ls []) rfl ?_
  refine lv_aload_n hx hb dX12_init_4 rfl (lv_at hl 0 rfl) ?_
  refine va_new (ci := 18) (fs := [.int 0, .null, .int 0]) (C := RJx4a65c) (T := TJx4a65c) (N := 3) hx hb hts mem_X12_initQ_0 tyJx4a65c tyJx4a65c_ok hown (ow (k := 3) rfl) (ow (k := 4) rfl) (ow (k := 5) rfl) hK hP hD hS hA rfl (df_Jx4a65c) (Nat.le_of_ble_eq_true rfl) (Nat.le_of_ble_eq_true rfl) dX12_init_5 (fun q_1 H hP hD hS => ?_)
  have hP := pl_Pp (pl_new (X := [(h0, .inr (19, [.null, .null, .null, .int 0, .int 0]))]) (pl := va_pl L (pE P))) hP
  have hD := pl_Dp (pl_new (X := [(h0, .inr (19, [.null, .null, .null, .int 0, .int 0]))]) (pl := va_pl L (pE P))) hD
  have hP : va_P (dC, dI) vwQ ([(h0, .inr (19, [.null, .null, .null, .int 0, .int 0])), (q_1, .inr (18, [.int 0, .null, .int 0]))] ++ va_pl L (pE P)) H := hP
  have hD : va_D A ([(h0, .inr (19, [.null, .null, .null, .int 0, .int 0])), (q_1, .inr (18, [.int 0, .null, .int 0]))] ++ va_pl L (pE P)) := hD
  refine W.widen (k := 1) (n := 3) (Nat.le_of_ble_eq_true rfl) (Nat.le_of_ble_eq_true rfl) ?_
  refine lv_dup hx hb dX12_init_8 rfl ?_
  have hPc := hP.sub (ws' := [(q_1, .inr (18, [.int 0, .null, .int 0]))]) [1] rfl
  have hDc := hD.sub (ws' := [(q_1, .inr (18, [.int 0, .null, .int 0]))]) [1] (by decide) rfl
  have hKc := hK.sub (tys' := []) [] rfl
  have hFc := va_free (wc := [(q_1, .inr (18, [.int 0, .null, .int 0]))]) hD hS hA [1] rfl
  refine va_callv (va_runI (As := []) (rest := [.ref q_1, .ref h0]) ⟨hx, hb, hml, hown, hts⟩ (c_AL_init l dC dI q_1 sx_ed H.size) (cwI 0 hts (goodIn_sub mem_X12_initQ_1 gw_AL_init) rfl rfl rfl (ow (k := 5) rfl) (ow (k := 6) rfl) (ow (k := 7) rfl) rfl (by decide +kernel) ⟨(Nat.le_of_ble_eq_true rfl), (Nat.le_of_ble_eq_true rfl)⟩) ⟨fun a U g mk q => by obtain ⟨q0, q1, qP, qK, qD, e0⟩ := q; exact ⟨q0, q1, qP, va_K.moved (u := U) (U := U.calling g mk a) (Vm.Alike.refl U.vm) qK, qD, va_Z.moved (u := U) (U := U.calling g mk a) (Vm.Alike.refl U.vm) e0⟩, fun U hU hW => ⟨rfl, by rw [hU], by rw [hU]; exact hPc, va_K.moved hW.alike hKc, hDc.weaken (fun _ _ _ _ => trivial), by rw [hU]; exact va_Z.narrow (va_Z.moved hW.alike (va_Z.kept hp0 hS.2.1)) hFc⟩⟩ rfl rfl hl.1 rfl (lv_room (Nat.le_of_ble_eq_true rfl)) dX12_init_9 ⟨(Nat.le_of_ble_eq_true rfl), (Nat.le_of_ble_eq_true rfl)⟩) hS (fun q _ h => hFc q h) hFc (fun  u t H1 locs ht hvm hw hB hz1 hk1 hS => ?_)
  obtain ⟨hP1, hK1, hD1⟩ := hB
  rw [ht] at hP1
  have hK1 := va_K.moved hvm.symm hK1
  obtain ⟨hP, hD⟩ := va_joinQ (X := [(h0, .inr (19, [.null, .null, .null, .int 0, .int 0])), (q_1, .inr (18, [.int 0, .null, .int 0]))]) (cx := [(q_1, .inr (18, [.int 0, .null, .int 0]))]) (wr := [(h0, .inr (19, [.null, .null, .null, .int 0, .int 0]))]) (w1 := [(q_1, .inr (18, [.int 0, .ref sx_ed, .int 0]))]) (pl := va_pl L (pE P)) hP hD [1] [0] rfl rfl (by decide) (by decide) hk1 hFc hP1 hD1
  have hK := (hK.sub (tys' := [(cO, .object "java/lang/Object"), (cI, .int), (cZ, .boolean)]) [0, 1, 2] rfl).app hK1
  generalize H1 = H at hP hS ⊢
  have hP : va_P (dC, dI) vwQ ([(h0, .inr (19, [.null, .null, .null, .int 0, .int 0])), (q_1, .inr (18, [.int 0, .ref sx_ed, .int 0]))] ++ va_pl L (pE P)) H := hP
  have hD : va_D A ([(h0, .inr (19, [.null, .null, .null, .int 0, .int 0])), (q_1, .inr (18, [.int 0, .ref sx_ed, .int 0]))] ++ va_pl L (pE P)) := hD
  have hK : va_K (dC, dI) vwQ [(cO, .object "java/lang/Object"), (cI, .int), (cZ, .boolean)] s := hK
  refine W.widen (k := 1) (n := 3) (Nat.le_of_ble_eq_true rfl) (Nat.le_of_ble_eq_true rfl) ?_
  refine va_putF (D := (dC, dI)) (ci := 19) (v := .ref q_1) (ty := .object "java/util/ArrayList") (C := RX12) (T := TX12) (N := 5) hx hb hts mem_X12_initQ_2 tyX12 tyX12_ok nmX12 hown hK hP hD hS 0 rfl rfl 0 (by decide) (ow (k := 8) rfl) (fun _ h9 => h9) rfl hin rfl (by decide +kernel) rfl rfl (Nat.le_of_ble_eq_true rfl) dX12_init_12 (fun H locs hP hD hS => ?_)
  have hP : va_P (dC, dI) vwQ ([(h0, .inr (19, [.ref q_1, .null, .null, .int 0, .int 0])), (q_1, .inr (18, [.int 0, .ref sx_ed, .int 0]))] ++ va_pl L (pE P)) H := hP
  have hD : va_D A ([(h0, .inr (19, [.ref q_1, .null, .null, .int 0, .int 0])), (q_1, .inr (18, [.int 0, .ref sx_ed, .int 0]))] ++ va_pl L (pE P)) := hD
  refine lv_aload_n hx hb dX12_init_15 rfl (lv_at hl 0 rfl) ?_
  refine va_new (ci := 18) (fs := [.int 0, .null, .int 0]) (C := RJx4a65c) (T := TJx4a65c) (N := 3) hx hb hts mem_X12_initQ_0 tyJx4a65c tyJx4a65c_ok hown (ow (k := 3) rfl) (ow (k := 4) rfl) (ow (k := 5) rfl) hK hP hD hS hA rfl (df_Jx4a65c) (Nat.le_of_ble_eq_true rfl) (Nat.le_of_ble_eq_true rfl) dX12_init_16 (fun q_2 H hP hD hS => ?_)
  have hP := pl_Pp (pl_new (X := [(h0, .inr (19, [.ref q_1, .null, .null, .int 0, .int 0])), (q_1, .inr (18, [.int 0, .ref sx_ed, .int 0]))]) (pl := va_pl L (pE P))) hP
  have hD := pl_Dp (pl_new (X := [(h0, .inr (19, [.ref q_1, .null, .null, .int 0, .int 0])), (q_1, .inr (18, [.int 0, .ref sx_ed, .int 0]))]) (pl := va_pl L (pE P))) hD
  have hP : va_P (dC, dI) vwQ ([(h0, .inr (19, [.ref q_1, .null, .null, .int 0, .int 0])), (q_1, .inr (18, [.int 0, .ref sx_ed, .int 0])), (q_2, .inr (18, [.int 0, .null, .int 0]))] ++ va_pl L (pE P)) H := hP
  have hD : va_D A ([(h0, .inr (19, [.ref q_1, .null, .null, .int 0, .int 0])), (q_1, .inr (18, [.int 0, .ref sx_ed, .int 0])), (q_2, .inr (18, [.int 0, .null, .int 0]))] ++ va_pl L (pE P)) := hD
  refine W.widen (k := 2) (n := 6) (Nat.le_of_ble_eq_true rfl) (Nat.le_of_ble_eq_true rfl) ?_
  refine lv_dup hx hb dX12_init_19 rfl ?_
  have hPc := hP.sub (ws' := [(q_2, .inr (18, [.int 0, .null, .int 0]))]) [2] rfl
  have hDc := hD.sub (ws' := [(q_2, .inr (18, [.int 0, .null, .int 0]))]) [2] (by decide) rfl
  have hKc := hK.sub (tys' := []) [] rfl
  have hFc := va_free (wc := [(q_2, .inr (18, [.int 0, .null, .int 0]))]) hD hS hA [2] rfl
  refine va_callv (va_runI (As := []) (rest := [.ref q_2, .ref h0]) ⟨hx, hb, hml, hown, hts⟩ (c_AL_init l dC dI q_2 sx_ed H.size) (cwI 0 hts (goodIn_sub mem_X12_initQ_1 gw_AL_init) rfl rfl rfl (ow (k := 5) rfl) (ow (k := 6) rfl) (ow (k := 7) rfl) rfl (by decide +kernel) ⟨(Nat.le_of_ble_eq_true rfl), (Nat.le_of_ble_eq_true rfl)⟩) ⟨fun a U g mk q => by obtain ⟨q0, q1, qP, qK, qD, e0⟩ := q; exact ⟨q0, q1, qP, va_K.moved (u := U) (U := U.calling g mk a) (Vm.Alike.refl U.vm) qK, qD, va_Z.moved (u := U) (U := U.calling g mk a) (Vm.Alike.refl U.vm) e0⟩, fun U hU hW => ⟨rfl, by rw [hU], by rw [hU]; exact hPc, va_K.moved hW.alike hKc, hDc.weaken (fun _ _ _ _ => trivial), by rw [hU]; exact va_Z.narrow (va_Z.moved hW.alike (va_Z.kept hp0 hS.2.1)) hFc⟩⟩ rfl rfl hl.1 rfl (lv_room (Nat.le_of_ble_eq_true rfl)) dX12_init_20 ⟨(Nat.le_of_ble_eq_true rfl), (Nat.le_of_ble_eq_true rfl)⟩) hS (fun q _ h => hFc q h) hFc (fun  u t H1 locs ht hvm hw hB hz1 hk1 hS => ?_)
  obtain ⟨hP1, hK1, hD1⟩ := hB
  rw [ht] at hP1
  have hK1 := va_K.moved hvm.symm hK1
  obtain ⟨hP, hD⟩ := va_joinQ (X := [(h0, .inr (19, [.ref q_1, .null, .null, .int 0, .int 0])), (q_1, .inr (18, [.int 0, .ref sx_ed, .int 0])), (q_2, .inr (18, [.int 0, .null, .int 0]))]) (cx := [(q_2, .inr (18, [.int 0, .null, .int 0]))]) (wr := [(h0, .inr (19, [.ref q_1, .null, .null, .int 0, .int 0])), (q_1, .inr (18, [.int 0, .ref sx_ed, .int 0]))]) (w1 := [(q_2, .inr (18, [.int 0, .ref sx_ed, .int 0]))]) (pl := va_pl L (pE P)) hP hD [2] [0, 1] rfl rfl (by decide) (by decide) hk1 hFc hP1 hD1
  have hK := (hK.sub (tys' := [(cO, .object "java/lang/Object"), (cI, .int), (cZ, .boolean)]) [0, 1, 2] rfl).app hK1
  generalize H1 = H at hP hS ⊢
  have hP : va_P (dC, dI) vwQ ([(h0, .inr (19, [.ref q_1, .null, .null, .int 0, .int 0])), (q_1, .inr (18, [.int 0, .ref sx_ed, .int 0])), (q_2, .inr (18, [.int 0, .ref sx_ed, .int 0]))] ++ va_pl L (pE P)) H := hP
  have hD : va_D A ([(h0, .inr (19, [.ref q_1, .null, .null, .int 0, .int 0])), (q_1, .inr (18, [.int 0, .ref sx_ed, .int 0])), (q_2, .inr (18, [.int 0, .ref sx_ed, .int 0]))] ++ va_pl L (pE P)) := hD
  have hK : va_K (dC, dI) vwQ [(cO, .object "java/lang/Object"), (cI, .int), (cZ, .boolean)] s := hK
  refine W.widen (k := 2) (n := 6) (Nat.le_of_ble_eq_true rfl) (Nat.le_of_ble_eq_true rfl) ?_
  refine va_putF (D := (dC, dI)) (ci := 19) (v := .ref q_2) (ty := .object "java/util/ArrayList") (C := RX12) (T := TX12) (N := 5) hx hb hts mem_X12_initQ_2 tyX12 tyX12_ok nmX12 hown hK hP hD hS 0 rfl rfl 1 (by decide) (ow (k := 9) rfl) (fun _ h9 => h9) rfl hin rfl (by decide +kernel) rfl rfl (Nat.le_of_ble_eq_true rfl) dX12_init_23 (fun H locs hP hD hS => ?_)
  have hP : va_P (dC, dI) vwQ ([(h0, .inr (19, [.ref q_1, .ref q_2, .null, .int 0, .int 0])), (q_1, .inr (18, [.int 0, .ref sx_ed, .int 0])), (q_2, .inr (18, [.int 0, .ref sx_ed, .int 0]))] ++ va_pl L (pE P)) H := hP
  have hD : va_D A ([(h0, .inr (19, [.ref q_1, .ref q_2, .null, .int 0, .int 0])), (q_1, .inr (18, [.int 0, .ref sx_ed, .int 0])), (q_2, .inr (18, [.int 0, .ref sx_ed, .int 0]))] ++ va_pl L (pE P)) := hD
  refine lv_aload_n hx hb dX12_init_26 rfl (lv_at hl 0 rfl) ?_
  refine va_new (ci := 21) (fs := [.int 0, .int 0, .int 0, .int 0, .int 0, .int 0, .int 0]) (C := RX17) (T := TX17) (N := 7) hx hb hts mem_X12_initQ_3 tyX17 tyX17_ok hown (ow (k := 10) rfl) (ow (k := 11) rfl) (ow (k := 12) rfl) hK hP hD hS hA rfl (df_X17) (Nat.le_of_ble_eq_true rfl) (Nat.le_of_ble_eq_true rfl) dX12_init_27 (fun q_3 H hP hD hS => ?_)
  have hP := pl_Pp (pl_new (X := [(h0, .inr (19, [.ref q_1, .ref q_2, .null, .int 0, .int 0])), (q_1, .inr (18, [.int 0, .ref sx_ed, .int 0])), (q_2, .inr (18, [.int 0, .ref sx_ed, .int 0]))]) (pl := va_pl L (pE P))) hP
  have hD := pl_Dp (pl_new (X := [(h0, .inr (19, [.ref q_1, .ref q_2, .null, .int 0, .int 0])), (q_1, .inr (18, [.int 0, .ref sx_ed, .int 0])), (q_2, .inr (18, [.int 0, .ref sx_ed, .int 0]))]) (pl := va_pl L (pE P))) hD
  have hP : va_P (dC, dI) vwQ ([(h0, .inr (19, [.ref q_1, .ref q_2, .null, .int 0, .int 0])), (q_1, .inr (18, [.int 0, .ref sx_ed, .int 0])), (q_2, .inr (18, [.int 0, .ref sx_ed, .int 0])), (q_3, .inr (21, [.int 0, .int 0, .int 0, .int 0, .int 0, .int 0, .int 0]))] ++ va_pl L (pE P)) H := hP
  have hD : va_D A ([(h0, .inr (19, [.ref q_1, .ref q_2, .null, .int 0, .int 0])), (q_1, .inr (18, [.int 0, .ref sx_ed, .int 0])), (q_2, .inr (18, [.int 0, .ref sx_ed, .int 0])), (q_3, .inr (21, [.int 0, .int 0, .int 0, .int 0, .int 0, .int 0, .int 0]))] ++ va_pl L (pE P)) := hD
  refine W.widen (k := 3) (n := 13) (Nat.le_of_ble_eq_true rfl) (Nat.le_of_ble_eq_true rfl) ?_
  refine lv_dup hx hb dX12_init_30 rfl ?_
  have hPc := hP.sub (ws' := [(q_3, .inr (21, [.int 0, .int 0, .int 0, .int 0, .int 0, .int 0, .int 0]))]) [3] rfl
  have hDc := hD.sub (ws' := [(q_3, .inr (21, [.int 0, .int 0, .int 0, .int 0, .int 0, .int 0, .int 0]))]) [3] (by decide) rfl
  have hKc := hK.sub (tys' := []) [] rfl
  have hFc := va_free (wc := [(q_3, .inr (21, [.int 0, .int 0, .int 0, .int 0, .int 0, .int 0, .int 0]))]) hD hS hA [3] rfl
  refine va_callv (va_runIN (As := []) (rest := [.ref q_3, .ref h0]) ⟨hx, hb, hml, hown, hts⟩ (c_X17_init l dC dI q_3 (.int 0) (.int 0) (.int 0) (.int 0) (.int 0) (.int 0) (.int 0) H.size) ⟨va_cnB 0 hts (goodIn_sub mem_X12_initQ_4 gw_X17_init) rfl rfl rfl hp1 (ow (k := 12) rfl) (by decide +kernel) ⟨(Nat.le_of_ble_eq_true rfl), (Nat.le_of_ble_eq_true rfl)⟩, rfl, (ow (k := 13) rfl)⟩ ⟨fun a U g mk q => by obtain ⟨q0, q1, qP, qK, qD⟩ := q; exact ⟨q0, q1, qP, va_K.moved (u := U) (U := U.calling g mk a) (Vm.Alike.refl U.vm) qK, qD⟩, fun U hU hW => ⟨rfl, by rw [hU], by rw [hU]; exact hPc, va_K.moved hW.alike hKc, hDc.weaken (fun _ _ _ _ => trivial)⟩⟩ rfl rfl hl.1 rfl (lv_room (Nat.le_of_ble_eq_true rfl)) dX12_init_31 ⟨(Nat.le_of_ble_eq_true rfl), (Nat.le_of_ble_eq_true rfl)⟩) hS (fun q _ h => hFc q h) hFc (fun  u t H1 locs ht hvm hw hB hz1 hk1 hS => ?_)
  obtain ⟨hP1, hK1, hD1⟩ := hB
  rw [ht] at hP1
  have hK1 := va_K.moved hvm.symm hK1
  obtain ⟨hP, hD⟩ := va_joinQ (X := [(h0, .inr (19, [.ref q_1, .ref q_2, .null, .int 0, .int 0])), (q_1, .inr (18, [.int 0, .ref sx_ed, .int 0])), (q_2, .inr (18, [.int 0, .ref sx_ed, .int 0])), (q_3, .inr (21, [.int 0, .int 0, .int 0, .int 0, .int 0, .int 0, .int 0]))]) (cx := [(q_3, .inr (21, [.int 0, .int 0, .int 0, .int 0, .int 0, .int 0, .int 0]))]) (wr := [(h0, .inr (19, [.ref q_1, .ref q_2, .null, .int 0, .int 0])), (q_1, .inr (18, [.int 0, .ref sx_ed, .int 0])), (q_2, .inr (18, [.int 0, .ref sx_ed, .int 0]))]) (w1 := [(q_3, .inr (21, [.int 0, .int 0, .int 0, .int 0, .int 0, .int 0, .int 0]))]) (pl := va_pl L (pE P)) hP hD [3] [0, 1, 2] rfl rfl (by decide) (by decide) hk1 hFc hP1 hD1
  have hK := (hK.sub (tys' := [(cO, .object "java/lang/Object"), (cI, .int), (cZ, .boolean)]) [0, 1, 2] rfl).app hK1
  generalize H1 = H at hP hS ⊢
  have hP : va_P (dC, dI) vwQ ([(h0, .inr (19, [.ref q_1, .ref q_2, .null, .int 0, .int 0])), (q_1, .inr (18, [.int 0, .ref sx_ed, .int 0])), (q_2, .inr (18, [.int 0, .ref sx_ed, .int 0])), (q_3, .inr (21, [.int 0, .int 0, .int 0, .int 0, .int 0, .int 0, .int 0]))] ++ va_pl L (pE P)) H := hP
  have hD : va_D A ([(h0, .inr (19, [.ref q_1, .ref q_2, .null, .int 0, .int 0])), (q_1, .inr (18, [.int 0, .ref sx_ed, .int 0])), (q_2, .inr (18, [.int 0, .ref sx_ed, .int 0])), (q_3, .inr (21, [.int 0, .int 0, .int 0, .int 0, .int 0, .int 0, .int 0]))] ++ va_pl L (pE P)) := hD
  have hK : va_K (dC, dI) vwQ [(cO, .object "java/lang/Object"), (cI, .int), (cZ, .boolean)] s := hK
  refine W.widen (k := 3) (n := 13) (Nat.le_of_ble_eq_true rfl) (Nat.le_of_ble_eq_true rfl) ?_
  refine va_putF (D := (dC, dI)) (ci := 19) (v := .ref q_3) (ty := .object "SsaForgeModel$Row") (C := RX12) (T := TX12) (N := 5) hx hb hts mem_X12_initQ_2 tyX12 tyX12_ok nmX12 hown hK hP hD hS 0 rfl rfl 2 (by decide) (ow (k := 14) rfl) (fun _ h9 => h9) rfl hin rfl (by decide +kernel) rfl rfl (Nat.le_of_ble_eq_true rfl) dX12_init_34 (fun H locs hP hD hS => ?_)
  have hP : va_P (dC, dI) vwQ ([(h0, .inr (19, [.ref q_1, .ref q_2, .ref q_3, .int 0, .int 0])), (q_1, .inr (18, [.int 0, .ref sx_ed, .int 0])), (q_2, .inr (18, [.int 0, .ref sx_ed, .int 0])), (q_3, .inr (21, [.int 0, .int 0, .int 0, .int 0, .int 0, .int 0, .int 0]))] ++ va_pl L (pE P)) H := hP
  have hD : va_D A ([(h0, .inr (19, [.ref q_1, .ref q_2, .ref q_3, .int 0, .int 0])), (q_1, .inr (18, [.int 0, .ref sx_ed, .int 0])), (q_2, .inr (18, [.int 0, .ref sx_ed, .int 0])), (q_3, .inr (21, [.int 0, .int 0, .int 0, .int 0, .int 0, .int 0, .int 0]))] ++ va_pl L (pE P)) := hD
  subst hQ
  have hP := hP.part (X := [(h0, .inr (19, [.ref q_1, .ref q_2, .ref q_3, .int 0, .int 0])), (q_1, .inr (18, [.int 0, .ref sx_ed, .int 0])), (q_2, .inr (18, [.int 0, .ref sx_ed, .int 0])), (q_3, .inr (21, [.int 0, .int 0, .int 0, .int 0, .int 0, .int 0, .int 0]))]) (cx := [(h0, .inr (19, [.ref q_1, .ref q_2, .ref q_3, .int 0, .int 0])), (q_2, .inr (18, [.int 0, .ref sx_ed, .int 0])), (q_3, .inr (21, [.int 0, .int 0, .int 0, .int 0, .int 0, .int 0, .int 0])), (q_1, .inr (18, [.int 0, .ref sx_ed, .int 0]))]) (pl := va_pl L (pE P)) [0, 2, 3, 1] rfl
  have hD := hD.part (X := [(h0, .inr (19, [.ref q_1, .ref q_2, .ref q_3, .int 0, .int 0])), (q_1, .inr (18, [.int 0, .ref sx_ed, .int 0])), (q_2, .inr (18, [.int 0, .ref sx_ed, .int 0])), (q_3, .inr (21, [.int 0, .int 0, .int 0, .int 0, .int 0, .int 0, .int 0]))]) (cx := [(h0, .inr (19, [.ref q_1, .ref q_2, .ref q_3, .int 0, .int 0])), (q_2, .inr (18, [.int 0, .ref sx_ed, .int 0])), (q_3, .inr (21, [.int 0, .int 0, .int 0, .int 0, .int 0, .int 0, .int 0])), (q_1, .inr (18, [.int 0, .ref sx_ed, .int 0]))]) (pl := va_pl L (pE P)) [0, 2, 3, 1] (by decide) rfl
  have hqn_6 : q_1 ∉ L := pl_notin (X := [(h0, .inr (19, [.ref q_1, .ref q_2, .ref q_3, .int 0, .int 0])), (q_2, .inr (18, [.int 0, .ref sx_ed, .int 0])), (q_3, .inr (21, [.int 0, .int 0, .int 0, .int 0, .int 0, .int 0, .int 0]))]) hD
  obtain ⟨Pm_4, ePm_4⟩ : ∃ Q9 : PO, Q9 = P.mlist q_1 15 h0 sx_ed := ⟨_, rfl⟩
  obtain ⟨Lm_5, eLm_5⟩ : ∃ l9 : List Nat, l9 = q_1 :: L := ⟨_, rfl⟩
  obtain ⟨hP, hD⟩ := pool_new (X := [(h0, .inr (19, [.ref q_1, .ref q_2, .ref q_3, .int 0, .int 0])), (q_2, .inr (18, [.int 0, .ref sx_ed, .int 0])), (q_3, .inr (21, [.int 0, .int 0, .int 0, .int 0, .int 0, .int 0, .int 0]))]) (P' := Pm_4) (by rw [ePm_4]; exact pE_mlist _ _ _ _ _) hP hD
  rw [← eLm_5] at hP hD
  have hex_7 : EXT9 L P Lm_5 Pm_4 := (by rw [eLm_5, ePm_4]; exact EXT9.one hqn_6)
  have hP : va_P (dC, dI) vwQ ([(h0, .inr (19, [.ref q_1, .ref q_2, .ref q_3, .int 0, .int 0])), (q_2, .inr (18, [.int 0, .ref sx_ed, .int 0])), (q_3, .inr (21, [.int 0, .int 0, .int 0, .int 0, .int 0, .int 0, .int 0]))] ++ va_pl Lm_5 (pE Pm_4)) H := hP
  have hD : va_D A ([(h0, .inr (19, [.ref q_1, .ref q_2, .ref q_3, .int 0, .int 0])), (q_2, .inr (18, [.int 0, .ref sx_ed, .int 0])), (q_3, .inr (21, [.int 0, .int 0, .int 0, .int 0, .int 0, .int 0, .int 0]))] ++ va_pl Lm_5 (pE Pm_4)) := hD
  have hfa_8 : LSF9 Lm_5 Pm_4 q_1 15 h0 sx_ed := (by rw [eLm_5, ePm_4]; exact mlist_lsf _ _ _ _ _ _)
  have hbn15 : q_1 ∉ L := hqn_6
  have hP := hP.part (X := [(h0, .inr (19, [.ref q_1, .ref q_2, .ref q_3, .int 0, .int 0])), (q_2, .inr (18, [.int 0, .ref sx_ed, .int 0])), (q_3, .inr (21, [.int 0, .int 0, .int 0, .int 0, .int 0, .int 0, .int 0]))]) (cx := [(h0, .inr (19, [.ref q_1, .ref q_2, .ref q_3, .int 0, .int 0])), (q_3, .inr (21, [.int 0, .int 0, .int 0, .int 0, .int 0, .int 0, .int 0])), (q_2, .inr (18, [.int 0, .ref sx_ed, .int 0]))]) (pl := va_pl Lm_5 (pE Pm_4)) [0, 2, 1] rfl
  have hD := hD.part (X := [(h0, .inr (19, [.ref q_1, .ref q_2, .ref q_3, .int 0, .int 0])), (q_2, .inr (18, [.int 0, .ref sx_ed, .int 0])), (q_3, .inr (21, [.int 0, .int 0, .int 0, .int 0, .int 0, .int 0, .int 0]))]) (cx := [(h0, .inr (19, [.ref q_1, .ref q_2, .ref q_3, .int 0, .int 0])), (q_3, .inr (21, [.int 0, .int 0, .int 0, .int 0, .int 0, .int 0, .int 0])), (q_2, .inr (18, [.int 0, .ref sx_ed, .int 0]))]) (pl := va_pl Lm_5 (pE Pm_4)) [0, 2, 1] (by decide) rfl
  have hqn_11 : q_2 ∉ Lm_5 := pl_notin (X := [(h0, .inr (19, [.ref q_1, .ref q_2, .ref q_3, .int 0, .int 0])), (q_3, .inr (21, [.int 0, .int 0, .int 0, .int 0, .int 0, .int 0, .int 0]))]) hD
  obtain ⟨Pm_9, ePm_9⟩ : ∃ Q9 : PO, Q9 = Pm_4.mlist q_2 17 h0 sx_ed := ⟨_, rfl⟩
  obtain ⟨Lm_10, eLm_10⟩ : ∃ l9 : List Nat, l9 = q_2 :: Lm_5 := ⟨_, rfl⟩
  obtain ⟨hP, hD⟩ := pool_new (X := [(h0, .inr (19, [.ref q_1, .ref q_2, .ref q_3, .int 0, .int 0])), (q_3, .inr (21, [.int 0, .int 0, .int 0, .int 0, .int 0, .int 0, .int 0]))]) (P' := Pm_9) (by rw [ePm_9]; exact pE_mlist _ _ _ _ _) hP hD
  rw [← eLm_10] at hP hD
  have hex_12 : EXT9 Lm_5 Pm_4 Lm_10 Pm_9 := (by rw [eLm_10, ePm_9]; exact EXT9.one hqn_11)
  have hP : va_P (dC, dI) vwQ ([(h0, .inr (19, [.ref q_1, .ref q_2, .ref q_3, .int 0, .int 0])), (q_3, .inr (21, [.int 0, .int 0, .int 0, .int 0, .int 0, .int 0, .int 0]))] ++ va_pl Lm_10 (pE Pm_9)) H := hP
  have hD : va_D A ([(h0, .inr (19, [.ref q_1, .ref q_2, .ref q_3, .int 0, .int 0])), (q_3, .inr (21, [.int 0, .int 0, .int 0, .int 0, .int 0, .int 0, .int 0]))] ++ va_pl Lm_10 (pE Pm_9)) := hD
  have hex_13 := hex_7.trans hex_12
  have hfa_14 := hex_12.lsf hfa_8
  have hfa_15 : LSF9 Lm_10 Pm_9 q_2 17 h0 sx_ed := (by rw [eLm_10, ePm_9]; exact mlist_lsf _ _ _ _ _ _)
  have hbn17 : q_2 ∉ L := fun m9 => hqn_11 (hex_7 q_2 m9).1
  have hqn_18 : q_3 ∉ Lm_10 := pl_notin (X := [(h0, .inr (19, [.ref q_1, .ref q_2, .ref q_3, .int 0, .int 0]))]) hD
  obtain ⟨Pm_16, ePm_16⟩ : ∃ Q9 : PO, Q9 = Pm_9.mrow q_3 1 := ⟨_, rfl⟩
  obtain ⟨Lm_17, eLm_17⟩ : ∃ l9 : List Nat, l9 = q_3 :: Lm_10 := ⟨_, rfl⟩
  obtain ⟨hP, hD⟩ := pool_new (X := [(h0, .inr (19, [.ref q_1, .ref q_2, .ref q_3, .int 0, .int 0]))]) (P' := Pm_16) (by rw [ePm_16]; exact pE_mrow _ _ _) hP hD
  rw [← eLm_17] at hP hD
  have hex_19 : EXT9 Lm_10 Pm_9 Lm_17 Pm_16 := (by rw [eLm_17, ePm_16]; exact EXT9.one hqn_18)
  have hP : va_P (dC, dI) vwQ ([(h0, .inr (19, [.ref q_1, .ref q_2, .ref q_3, .int 0, .int 0]))] ++ va_pl Lm_17 (pE Pm_16)) H := hP
  have hD : va_D A ([(h0, .inr (19, [.ref q_1, .ref q_2, .ref q_3, .int 0, .int 0]))] ++ va_pl Lm_17 (pE Pm_16)) := hD
  have hex_20 := hex_13.trans hex_19
  have hfa_21 := hex_19.lsf hfa_14
  have hfa_22 := hex_19.lsf hfa_15
  have hfa_23 : RWFR Lm_17 Pm_16 q_3 1 := (by rw [eLm_17, ePm_16]; exact mrow_rwfR _ _ _ _)
  have hbn9 : q_3 ∉ L := fun m9 => hqn_18 (hex_13 q_3 m9).1
  refine W.widen (k := 3) (n := 13) (Nat.le_of_ble_eq_true rfl) (Nat.le_of_ble_eq_true rfl) ?_
  exact W.vret hx hb hr (fun t ht hW => ⟨⟨(), rfl, trivial, q_1, q_2, q_3, Lm_17, Pm_16, ⟨hex_20, (fun z m n => by rw [eLm_17, eLm_10, eLm_5] at m; rcases List.mem_cons.mp m with e | m; rw [e]; exact hfa_23.newR; rcases List.mem_cons.mp m with e | m; rw [e]; exact hfa_22.newR (by decide); rcases List.mem_cons.mp m with e | m; rw [e]; exact hfa_21.newR (by decide); exact absurd m n), hfa_21, hfa_22, hfa_23, ⟨hbn9, (fun z m n => by rw [eLm_17, eLm_10, eLm_5] at m; rcases List.mem_cons.mp m with e | m; exact Or.inr (Or.inr e); rcases List.mem_cons.mp m with e | m; exact Or.inr (Or.inl e); rcases List.mem_cons.mp m with e | m; exact Or.inl e; exact absurd m n), hbn15, hbn17⟩, (by have h1 := hex_20; have h2 := hfa_21; have h3 := hfa_22; have h4 := hfa_23; rw [eLm_17, eLm_10, eLm_5] at h1 h2 h3 h4 ⊢; exact ⟨(PSI.threeR hX_g h1 h2 h3 h4.2.1).1, (PSI.threeR hX_g h1 h2 h3 h4.2.1).2, new3R h2 h3 h4.2.1⟩)⟩, by rw [ht]; exact hP, va_K.moved hW.alike hK, hD⟩, hS.F ht⟩) hS.2.2 dX12_init_37
