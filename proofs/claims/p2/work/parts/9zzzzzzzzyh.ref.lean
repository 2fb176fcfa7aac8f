theorem dX13_init_0 : decode cX13_init 0 = .ok (.aload_n 0, 1) := by decide +kernel
theorem dX13_init_1 : decode cX13_init 1 = .ok (.invokespecial 1, 3) := by decide +kernel
theorem dX13_init_4 : decode cX13_init 4 = .ok (.aload_n 0, 1) := by decide +kernel
theorem dX13_init_5 : decode cX13_init 5 = .ok (.new 7, 3) := by decide +kernel
theorem dX13_init_8 : decode cX13_init 8 = .ok (.dup, 1) := by decide +kernel
theorem dX13_init_9 : decode cX13_init 9 = .ok (.invokespecial 9, 3) := by decide +kernel
theorem dX13_init_12 : decode cX13_init 12 = .ok (.putfield 10, 3) := by decide +kernel
theorem dX13_init_15 : decode cX13_init 15 = .ok (.aload_n 0, 1) := by decide +kernel
theorem dX13_init_16 : decode cX13_init 16 = .ok (.new 7, 3) := by decide +kernel
theorem dX13_init_19 : decode cX13_init 19 = .ok (.dup, 1) := by decide +kernel
theorem dX13_init_20 : decode cX13_init 20 = .ok (.invokespecial 9, 3) := by decide +kernel
theorem dX13_init_23 : decode cX13_init 23 = .ok (.putfield 16, 3) := by decide +kernel
theorem dX13_init_26 : decode cX13_init 26 = .ok (.aload_n 0, 1) := by decide +kernel
theorem dX13_init_27 : decode cX13_init 27 = .ok (.new 7, 3) := by decide +kernel
theorem dX13_init_30 : decode cX13_init 30 = .ok (.dup, 1) := by decide +kernel
theorem dX13_init_31 : decode cX13_init 31 = .ok (.invokespecial 9, 3) := by decide +kernel
theorem dX13_init_34 : decode cX13_init 34 = .ok (.putfield 19, 3) := by decide +kernel
theorem dX13_init_37 : decode cX13_init 37 = .ok (.aload_n 0, 1) := by decide +kernel
theorem dX13_init_38 : decode cX13_init 38 = .ok (.new 7, 3) := by decide +kernel
theorem dX13_init_41 : decode cX13_init 41 = .ok (.dup, 1) := by decide +kernel
theorem dX13_init_42 : decode cX13_init 42 = .ok (.invokespecial 9, 3) := by decide +kernel
theorem dX13_init_45 : decode cX13_init 45 = .ok (.putfield 22, 3) := by decide +kernel
theorem dX13_init_48 : decode cX13_init 48 = .ok (.return_, 1) := by decide +kernel
def o_X13_init : List Cond := [.methodLink RX13 1 objectInit, .instanceMethod objectInit, .code objectInit ⟨#[0xb1]⟩ 1 none, .classLink RX13 7 RJx4a65c, .instantiable RJx4a65c 3, .initialized RJx4a65c, .methodLink RX13 9 yJx4a65c_init_da8c8, .instanceMethod yJx4a65c_init_da8c8, .fieldLink RX13 10 "SsaForgeModel$Code" "blocks" "Ljava/util/ArrayList;", .fieldLink RX13 16 "SsaForgeModel$Code" "rows" "Ljava/util/ArrayList;", .fieldLink RX13 19 "SsaForgeModel$Code" "phis" "Ljava/util/ArrayList;", .fieldLink RX13 22 "SsaForgeModel$Code" "all" "Ljava/util/ArrayList;"]
def v_X13_init : List Cond := .code yX13_init cX13_init 1 none :: (o_X13_init ++ (wsJx4a65c0 ++ (v_AL_init ++ (wsX130 ++ []))))
theorem mow_X13_init : ∀ w ∈ o_X13_init, w ∈ v_X13_init := fun _ h => List.mem_cons_of_mem _ (List.mem_append_left _ h)
theorem mem_X13_init_0 : ∀ w ∈ wsJx4a65c0, w ∈ v_X13_init := fun _ h => List.mem_cons_of_mem _ (List.mem_append_right _ (List.mem_append_left _ h))
theorem mem_X13_init_1 : ∀ w ∈ v_AL_init, w ∈ v_X13_init := fun _ h => List.mem_cons_of_mem _ (List.mem_append_right _ (List.mem_append_right _ (List.mem_append_left _ h)))
theorem mem_X13_init_2 : ∀ w ∈ wsX130, w ∈ v_X13_init := fun _ h => List.mem_cons_of_mem _ (List.mem_append_right _ (List.mem_append_right _ (List.mem_append_right _ (List.mem_append_left _ h))))
set_option maxRecDepth 20000 in
theorem gw_X13_init : v_X13_init.all goodWord = true := by decide +kernel
set_option maxHeartbeats 4000000 in
set_option maxRecDepth 100000 in
theorem c_X13_init (l : Launch) (dC : Nat → ClassId) (dI : Nat → Nat → Nat) (cI : ClassId) (cZ : ClassId) (h0 : Nat) (cO : ClassId) (L : List Nat) (P : PO) (sx_ed : Nat) (sz : Nat) : Met l yX13_init v_X13_init ({ frames := 4, cells := 4, slots := 12, locals := 72 }) (va_Pc [.ref h0] (fun U => U.heap.size = sz ∧ va_P (dC, dI) vwQ ([(h0, .inr (12, [.null, .null, .null, .int 0, .int 0, .null, .int 0]))] ++ va_pl L (pE P)) U.heap ∧ va_K (dC, dI) vwQ [(cO, .object "java/lang/Object"), (cI, .int), (cZ, .boolean)] U ∧ va_D (fun _ => True) ([(h0, .inr (12, [.null, .null, .null, .int 0, .int 0, .null, .int 0]))] ++ va_pl L (pE P)) ∧ va_Z "java/util/ArrayList" "DEFAULTCAPACITY_EMPTY_ELEMENTDATA" "[Ljava/lang/Object;" (.ref sx_ed) (va_A ([(h0, .inr (12, [.null, .null, .null, .int 0, .int 0, .null, .int 0]))] ++ va_pl L (pE P)) sz) U U.heap)) (va_Qv (fun _ : Unit => True) (fun (_ : Unit) (t : State) => ∃ (q0_9 : Nat) (q1_9 : Nat) (q2_9 : Nat) (q3_9 : Nat) (Ln_9 : List Nat) (Pn_9 : PO), ((EXT9 L P Ln_9 Pn_9 ∧ NWS L Ln_9 Pn_9 cO cI cZ sx_ed ∧ LSF9 Ln_9 Pn_9 q0_9 12 q0_9 sx_ed ∧ LSF9 Ln_9 Pn_9 q1_9 17 q1_9 sx_ed ∧ LSF9 Ln_9 Pn_9 q2_9 15 q2_9 sx_ed ∧ LSF9 Ln_9 Pn_9 q3_9 12 q3_9 sx_ed)) ∧ va_P (dC, dI) vwQ ([(h0, .inr (12, [.ref q0_9, .ref q1_9, .ref q2_9, .int 0, .int 0, .ref q3_9, .int 0]))] ++ va_pl Ln_9 (pE Pn_9)) t.heap ∧ va_K (dC, dI) vwQ [(cO, .object "java/lang/Object"), (cI, .int), (cZ, .boolean)] t ∧ va_D (va_A ([(h0, .inr (12, [.null, .null, .null, .int 0, .int 0, .null, .int 0]))] ++ va_pl L (pE P)) sz) ([(h0, .inr (12, [.ref q0_9, .ref q1_9, .ref q2_9, .int 0, .int 0, .ref q3_9, .int 0]))] ++ va_pl Ln_9 (pE Pn_9))) (va_A ([(h0, .inr (12, [.null, .null, .null, .int 0, .int 0, .null, .int 0]))] ++ va_pl L (pE P)) sz)) 4 12 (va_A ([(h0, .inr (12, [.null, .null, .null, .int 0, .int 0, .null, .int 0]))] ++ va_pl L (pE P)) sz) := by
  refine Met.ofW (cc := cX13_init) (maxL := 1) (ret := none) (by decide) rfl ?_
  intro p e s m args below meth c s₁ B hml hv
  obtain ⟨rfl, hsz, hP, hK, hD0, hp0⟩ := hv
  have hx := B.exec
  have hb := B.bytes
  have hr := B.returns
  have hts := atoms_spec (ws := v_X13_init) B.pre
  have hown : s.vm.findClass RX13 = some m.cls := findClass_of_methodNamed B.named
  have hlocks := B.notSynchronized
  have ow : ∀ {k : Nat} {w : Cond}, o_X13_init[k]? = some w → w.before ([.ref h0] : List Value).toArray s = true := fun h => hts _ (mow_X13_init _ (List.mem_of_getElem? h))
  have hin : meth.name = "<init>" := (name_of_methodNamed B.named B.method).1
  subst hsz
  have hD := hD0.self (sz := s.heap.size)
  generalize hAe : va_A ([(h0, .inr (12, [.null, .null, .null, .int 0, .int 0, .null, .int 0]))] ++ va_pl L (pE P)) s.heap.size = A at hD hp0 ⊢
  have hA : ∀ q : Nat, s.heap.size ≤ q → A q := fun q h => by rw [← hAe]; exact Or.inr h
  have hS : va_S A s.heap s.heap [] := va_S.rf
  have hP : va_P (dC, dI) vwQ ([(h0, .inr (12, [.null, .null, .null, .int 0, .int 0, .null, .int 0]))] ++ va_pl L (pE P)) s.heap := hP
  have hl := lv_entry ([.ref h0]) (n := 1) (Nat.le_of_ble_eq_true rfl)
  rw [lg_entry_eq]
  generalize (lg_sl ([.ref h0]) ++ List.replicate (1 - (lg_sl ([.ref h0])).length) Slot.unset).toArray = ls at hl ⊢
  have hl : lv_has ls 1 [(0, .ref h0)] := hl
  obtain ⟨H, hH⟩ : ∃ H, H = s.heap := ⟨_, rfl⟩
  rw [← hH] at hP
  have hS : va_S A s.heap H [] := by rw [hH]; exact hS
  rw [← hH]
  refine zW_cap (fun Q hQ => ?_)
  refine lv_aload_n hx hb dX13_init_0 rfl (lv_at hl 0 rfl) ?_
  refine W.objInit hx hb hown (ow (k := 0) rfl) (ow (k := 1) rfl) (ow (k := 2) rfl) rfl (by rw [hml]; exact hl.1) rfl dX13_init_1 (Nat.le_of_ble_eq_true rfl) (Nat.le_of_ble_eq_true rfl) ?_
  refine W.eq (g2 := F0 m 4 ls []) rfl ?_
  refine lv_aload_n hx hb dX13_init_4 rfl (lv_at hl 0 rfl) ?_
  refine va_new (ci := 18) (fs := [.int 0, .null, .int 0]) (C := RJx4a65c) (T := TJx4a65c) (N := 3) hx hb hts mem_X13_init_0 tyJx4a65c tyJx4a65c_ok hown (ow (k := 3) rfl) (ow (k := 4) rfl) (ow (k := 5) rfl) hK hP hD hS hA rfl (df_Jx4a65c) (Nat.le_of_ble_eq_true rfl) (Nat.le_of_ble_eq_true rfl) dX13_init_5 (fun q_1 H hP hD hS => ?_)
  have hP := pl_Pp (pl_new (X := [(h0, .inr (12, [.null, .null, .null, .int 0, .int 0, .null, .int 0]))]) (pl := va_pl L (pE P))) hP
  have hD := pl_Dp (pl_new (X := [(h0, .inr (12, [.null, .null, .null, .int 0, .int 0, .null, .int 0]))]) (pl := va_pl L (pE P))) hD
  have hP : va_P (dC, dI) vwQ ([(h0, .inr (12, [.null, .null, .null, .int 0, .int 0, .null, .int 0])), (q_1, .inr (18, [.int 0, .null, .int 0]))] ++ va_pl L (pE P)) H := hP
  have hD : va_D A ([(h0, .inr (12, [.null, .null, .null, .int 0, .int 0, .null, .int 0])), (q_1, .inr (18, [.int 0, .null, .int 0]))] ++ va_pl L (pE P)) := hD
  refine W.widen (k := 1) (n := 3) (Nat.le_of_ble_eq_true rfl) (Nat.le_of_ble_eq_true rfl) ?_
  refine lv_dup hx hb dX13_init_8 rfl ?_
  have hPc := hP.sub (ws' := [(q_1, .inr (18, [.int 0, .null, .int 0]))]) [1] rfl
  have hDc := hD.sub (ws' := [(q_1, .inr (18, [.int 0, .null, .int 0]))]) [1] (by decide) rfl
  have hKc := hK.sub (tys' := []) [] rfl
  have hFc := va_free (wc := [(q_1, .inr (18, [.int 0, .null, .int 0]))]) hD hS hA [1] rfl
  refine va_callv (va_runI (As := []) (rest := [.ref q_1, .ref h0]) ⟨hx, hb, hml, hown, hts⟩ (c_AL_init l dC dI q_1 sx_ed H.size) (cwI 0 hts (goodIn_sub mem_X13_init_1 gw_AL_init) rfl rfl rfl (ow (k := 5) rfl) (ow (k := 6) rfl) (ow (k := 7) rfl) rfl (by decide +kernel) ⟨(Nat.le_of_ble_eq_true rfl), (Nat.le_of_ble_eq_true rfl)⟩) ⟨fun a U g mk q => by obtain ⟨q0, q1, qP, qK, qD, e0⟩ := q; exact ⟨q0, q1, qP, va_K.moved (u := U) (U := U.calling g mk a) (Vm.Alike.refl U.vm) qK, qD, va_Z.moved (u := U) (U := U.calling g mk a) (Vm.Alike.refl U.vm) e0⟩, fun U hU hW => ⟨rfl, by rw [hU], by rw [hU]; exact hPc, va_K.moved hW.alike hKc, hDc.weaken (fun _ _ _ _ => trivial), by rw [hU]; exact va_Z.narrow (va_Z.moved hW.alike (va_Z.kept hp0 hS.2.1)) hFc⟩⟩ rfl rfl hl.1 rfl (lv_room (Nat.le_of_ble_eq_true rfl)) dX13_init_9 ⟨(Nat.le_of_ble_eq_true rfl), (Nat.le_of_ble_eq_true rfl)⟩) hS (fun q _ h => hFc q h) hFc (fun  u t H1 locs ht hvm hw hB hz1 hk1 hS => ?_)
  obtain ⟨hP1, hK1, hD1⟩ := hB
  rw [ht] at hP1
  have hK1 := va_K.moved hvm.symm hK1
  obtain ⟨hP, hD⟩ := va_joinQ (X := [(h0, .inr (12, [.null, .null, .null, .int 0, .int 0, .null, .int 0])), (q_1, .inr (18, [.int 0, .null, .int 0]))]) (cx := [(q_1, .inr (18, [.int 0, .null, .int 0]))]) (wr := [(h0, .inr (12, [.null, .null, .null, .int 0, .int 0, .null, .int 0]))]) (w1 := [(q_1, .inr (18, [.int 0, .ref sx_ed, .int 0]))]) (pl := va_pl L (pE P)) hP hD [1] [0] rfl rfl (by decide) (by decide) hk1 hFc hP1 hD1
  have hK := (hK.sub (tys' := [(cO, .object "java/lang/Object"), (cI, .int), (cZ, .boolean)]) [0, 1, 2] rfl).app hK1
  generalize H1 = H at hP hS ⊢
  have hP : va_P (dC, dI) vwQ ([(h0, .inr (12, [.null, .null, .null, .int 0, .int 0, .null, .int 0])), (q_1, .inr (18, [.int 0, .ref sx_ed, .int 0]))] ++ va_pl L (pE P)) H := hP
  have hD : va_D A ([(h0, .inr (12, [.null, .null, .null, .int 0, .int 0, .null, .int 0])), (q_1, .inr (18, [.int 0, .ref sx_ed, .int 0]))] ++ va_pl L (pE P)) := hD
  have hK : va_K (dC, dI) vwQ [(cO, .object "java/lang/Object"), (cI, .int), (cZ, .boolean)] s := hK
  refine W.widen (k := 1) (n := 3) (Nat.le_of_ble_eq_true rfl) (Nat.le_of_ble_eq_true rfl) ?_
  refine va_putF (D := (dC, dI)) (ci := 12) (v := .ref q_1) (ty := .object "java/util/ArrayList") (C := RX13) (T := TX13) (N := 7) hx hb hts mem_X13_init_2 tyX13 tyX13_ok nmX13 hown hK hP hD hS 0 rfl rfl 0 (by decide) (ow (k := 8) rfl) (fun _ h9 => h9) rfl hin rfl (by decide +kernel) rfl rfl (Nat.le_of_ble_eq_true rfl) dX13_init_12 (fun H locs hP hD hS => ?_)
  have hP : va_P (dC, dI) vwQ ([(h0, .inr (12, [.ref q_1, .null, .null, .int 0, .int 0, .null, .int 0])), (q_1, .inr (18, [.int 0, .ref sx_ed, .int 0]))] ++ va_pl L (pE P)) H := hP
  have hD : va_D A ([(h0, .inr (12, [.ref q_1, .null, .null, .int 0, .int 0, .null, .int 0])), (q_1, .inr (18, [.int 0, .ref sx_ed, .int 0]))] ++ va_pl L (pE P)) := hD
  refine lv_aload_n hx hb dX13_init_15 rfl (lv_at hl 0 rfl) ?_
  refine va_new (ci := 18) (fs := [.int 0, .null, .int 0]) (C := RJx4a65c) (T := TJx4a65c) (N := 3) hx hb hts mem_X13_init_0 tyJx4a65c tyJx4a65c_ok hown (ow (k := 3) rfl) (ow (k := 4) rfl) (ow (k := 5) rfl) hK hP hD hS hA rfl (df_Jx4a65c) (Nat.le_of_ble_eq_true rfl) (Nat.le_of_ble_eq_true rfl) dX13_init_16 (fun q_2 H hP hD hS => ?_)
  have hP := pl_Pp (pl_new (X := [(h0, .inr (12, [.ref q_1, .null, .null, .int 0, .int 0, .null, .int 0])), (q_1, .inr (18, [.int 0, .ref sx_ed, .int 0]))]) (pl := va_pl L (pE P))) hP
  have hD := pl_Dp (pl_new (X := [(h0, .inr (12, [.ref q_1, .null, .null, .int 0, .int 0, .null, .int 0])), (q_1, .inr (18, [.int 0, .ref sx_ed, .int 0]))]) (pl := va_pl L (pE P))) hD
  have hP : va_P (dC, dI) vwQ ([(h0, .inr (12, [.ref q_1, .null, .null, .int 0, .int 0, .null, .int 0])), (q_1, .inr (18, [.int 0, .ref sx_ed, .int 0])), (q_2, .inr (18, [.int 0, .null, .int 0]))] ++ va_pl L (pE P)) H := hP
  have hD : va_D A ([(h0, .inr (12, [.ref q_1, .null, .null, .int 0, .int 0, .null, .int 0])), (q_1, .inr (18, [.int 0, .ref sx_ed, .int 0])), (q_2, .inr (18, [.int 0, .null, .int 0]))] ++ va_pl L (pE P)) := hD
  refine W.widen (k := 2) (n := 6) (Nat.le_of_ble_eq_true rfl) (Nat.le_of_ble_eq_true rfl) ?_
  refine lv_dup hx hb dX13_init_19 rfl ?_
  have hPc := hP.sub (ws' := [(q_2, .inr (18, [.int 0, .null, .int 0]))]) [2] rfl
  have hDc := hD.sub (ws' := [(q_2, .inr (18, [.int 0, .null, .int 0]))]) [2] (by decide) rfl
  have hKc := hK.sub (tys' := []) [] rfl
  have hFc := va_free (wc := [(q_2, .inr (18, [.int 0, .null, .int 0]))]) hD hS hA [2] rfl
  refine va_callv (va_runI (As := []) (rest := [.ref q_2, .ref h0]) ⟨hx, hb, hml, hown, hts⟩ (c_AL_init l dC dI q_2 sx_ed H.size) (cwI 0 hts (goodIn_sub mem_X13_init_1 gw_AL_init) rfl rfl rfl (ow (k := 5) rfl) (ow (k := 6) rfl) (ow (k := 7) rfl) rfl (by decide +kernel) ⟨(Nat.le_of_ble_eq_true rfl), (Nat.le_of_ble_eq_true rfl)⟩) ⟨fun a U g mk q => by obtain ⟨q0, q1, qP, qK, qD, e0⟩ := q; exact ⟨q0, q1, qP, va_K.moved (u := U) (U := U.calling g mk a) (Vm.Alike.refl U.vm) qK, qD, va_Z.moved (u := U) (U := U.calling g mk a) (Vm.Alike.refl U.vm) e0⟩, fun U hU hW => ⟨rfl, by rw [hU], by rw [hU]; exact hPc, va_K.moved hW.alike hKc, hDc.weaken (fun _ _ _ _ => trivial), by rw [hU]; exact va_Z.narrow (va_Z.moved hW.alike (va_Z.kept hp0 hS.2.1)) hFc⟩⟩ rfl rfl hl.1 rfl (lv_room (Nat.le_of_ble_eq_true rfl)) dX13_init_20 ⟨(Nat.le_of_ble_eq_true rfl), (Nat.le_of_ble_eq_true rfl)⟩) hS (fun q _ h => hFc q h) hFc (fun  u t H1 locs ht hvm hw hB hz1 hk1 hS => ?_)
  obtain ⟨hP1, hK1, hD1⟩ := hB
  rw [ht] at hP1
  have hK1 := va_K.moved hvm.symm hK1
  obtain ⟨hP, hD⟩ := va_joinQ (X := [(h0, .inr (12, [.ref q_1, .null, .null, .int 0, .int 0, .null, .int 0])), (q_1, .inr (18, [.int 0, .ref sx_ed, .int 0])), (q_2, .inr (18, [.int 0, .null, .int 0]))]) (cx := [(q_2, .inr (18, [.int 0, .null, .int 0]))]) (wr := [(h0, .inr (12, [.ref q_1, .null, .null, .int 0, .int 0, .null, .int 0])), (q_1, .inr (18, [.int 0, .ref sx_ed, .int 0]))]) (w1 := [(q_2, .inr (18, [.int 0, .ref sx_ed, .int 0]))]) (pl := va_pl L (pE P)) hP hD [2] [0, 1] rfl rfl (by decide) (by decide) hk1 hFc hP1 hD1
  have hK := (hK.sub (tys' := [(cO, .object "java/lang/Object"), (cI, .int), (cZ, .boolean)]) [0, 1, 2] rfl).app hK1
  generalize H1 = H at hP hS ⊢
  have hP : va_P (dC, dI) vwQ ([(h0, .inr (12, [.ref q_1, .null, .null, .int 0, .int 0, .null, .int 0])), (q_1, .inr (18, [.int 0, .ref sx_ed, .int 0])), (q_2, .inr (18, [.int 0, .ref sx_ed, .int 0]))] ++ va_pl L (pE P)) H := hP
  have hD : va_D A ([(h0, .inr (12, [.ref q_1, .null, .null, .int 0, .int 0, .null, .int 0])), (q_1, .inr (18, [.int 0, .ref sx_ed, .int 0])), (q_2, .inr (18, [.int 0, .ref sx_ed, .int 0]))] ++ va_pl L (pE P)) := hD
  have hK : va_K (dC, dI) vwQ [(cO, .object "java/lang/Object"), (cI, .int), (cZ, .boolean)] s := hK
  refine W.widen (k := 2) (n := 6) (Nat.le_of_ble_eq_true rfl) (Nat.le_of_ble_eq_true rfl) ?_
  refine va_putF (D := (dC, dI)) (ci := 12) (v := .ref q_2) (ty := .object "java/util/ArrayList") (C := RX13) (T := TX13) (N := 7) hx hb hts mem_X13_init_2 tyX13 tyX13_ok nmX13 hown hK hP hD hS 0 rfl rfl 1 (by decide) (ow (k := 9) rfl) (fun _ h9 => h9) rfl hin rfl (by decide +kernel) rfl rfl (Nat.le_of_ble_eq_true rfl) dX13_init_23 (fun H locs hP hD hS => ?_)
  have hP : va_P (dC, dI) vwQ ([(h0, .inr (12, [.ref q_1, .ref q_2, .null, .int 0, .int 0, .null, .int 0])), (q_1, .inr (18, [.int 0, .ref sx_ed, .int 0])), (q_2, .inr (18, [.int 0, .ref sx_ed, .int 0]))] ++ va_pl L (pE P)) H := hP
  have hD : va_D A ([(h0, .inr (12, [.ref q_1, .ref q_2, .null, .int 0, .int 0, .null, .int 0])), (q_1, .inr (18, [.int 0, .ref sx_ed, .int 0])), (q_2, .inr (18, [.int 0, .ref sx_ed, .int 0]))] ++ va_pl L (pE P)) := hD
  refine lv_aload_n hx hb dX13_init_26 rfl (lv_at hl 0 rfl) ?_
  refine va_new (ci := 18) (fs := [.int 0, .null, .int 0]) (C := RJx4a65c) (T := TJx4a65c) (N := 3) hx hb hts mem_X13_init_0 tyJx4a65c tyJx4a65c_ok hown (ow (k := 3) rfl) (ow (k := 4) rfl) (ow (k := 5) rfl) hK hP hD hS hA rfl (df_Jx4a65c) (Nat.le_of_ble_eq_true rfl) (Nat.le_of_ble_eq_true rfl) dX13_init_27 (fun q_3 H hP hD hS => ?_)
  have hP := pl_Pp (pl_new (X := [(h0, .inr (12, [.ref q_1, .ref q_2, .null, .int 0, .int 0, .null, .int 0])), (q_1, .inr (18, [.int 0, .ref sx_ed, .int 0])), (q_2, .inr (18, [.int 0, .ref sx_ed, .int 0]))]) (pl := va_pl L (pE P))) hP
  have hD := pl_Dp (pl_new (X := [(h0, .inr (12, [.ref q_1, .ref q_2, .null, .int 0, .int 0, .null, .int 0])), (q_1, .inr (18, [.int 0, .ref sx_ed, .int 0])), (q_2, .inr (18, [.int 0, .ref sx_ed, .int 0]))]) (pl := va_pl L (pE P))) hD
  have hP : va_P (dC, dI) vwQ ([(h0, .inr (12, [.ref q_1, .ref q_2, .null, .int 0, .int 0, .null, .int 0])), (q_1, .inr (18, [.int 0, .ref sx_ed, .int 0])), (q_2, .inr (18, [.int 0, .ref sx_ed, .int 0])), (q_3, .inr (18, [.int 0, .null, .int 0]))] ++ va_pl L (pE P)) H := hP
  have hD : va_D A ([(h0, .inr (12, [.ref q_1, .ref q_2, .null, .int 0, .int 0, .null, .int 0])), (q_1, .inr (18, [.int 0, .ref sx_ed, .int 0])), (q_2, .inr (18, [.int 0, .ref sx_ed, .int 0])), (q_3, .inr (18, [.int 0, .null, .int 0]))] ++ va_pl L (pE P)) := hD
  refine W.widen (k := 3) (n := 9) (Nat.le_of_ble_eq_true rfl) (Nat.le_of_ble_eq_true rfl) ?_
  refine lv_dup hx hb dX13_init_30 rfl ?_
  have hPc := hP.sub (ws' := [(q_3, .inr (18, [.int 0, .null, .int 0]))]) [3] rfl
  have hDc := hD.sub (ws' := [(q_3, .inr (18, [.int 0, .null, .int 0]))]) [3] (by decide) rfl
  have hKc := hK.sub (tys' := []) [] rfl
  have hFc := va_free (wc := [(q_3, .inr (18, [.int 0, .null, .int 0]))]) hD hS hA [3] rfl
  refine va_callv (va_runI (As := []) (rest := [.ref q_3, .ref h0]) ⟨hx, hb, hml, hown, hts⟩ (c_AL_init l dC dI q_3 sx_ed H.size) (cwI 0 hts (goodIn_sub mem_X13_init_1 gw_AL_init) rfl rfl rfl (ow (k := 5) rfl) (ow (k := 6) rfl) (ow (k := 7) rfl) rfl (by decide +kernel) ⟨(Nat.le_of_ble_eq_true rfl), (Nat.le_of_ble_eq_true rfl)⟩) ⟨fun a U g mk q => by obtain ⟨q0, q1, qP, qK, qD, e0⟩ := q; exact ⟨q0, q1, qP, va_K.moved (u := U) (U := U.calling g mk a) (Vm.Alike.refl U.vm) qK, qD, va_Z.moved (u := U) (U := U.calling g mk a) (Vm.Alike.refl U.vm) e0⟩, fun U hU hW => ⟨rfl, by rw [hU], by rw [hU]; exact hPc, va_K.moved hW.alike hKc, hDc.weaken (fun _ _ _ _ => trivial), by rw [hU]; exact va_Z.narrow (va_Z.moved hW.alike (va_Z.kept hp0 hS.2.1)) hFc⟩⟩ rfl rfl hl.1 rfl (lv_room (Nat.le_of_ble_eq_true rfl)) dX13_init_31 ⟨(Nat.le_of_ble_eq_true rfl), (Nat.le_of_ble_eq_true rfl)⟩) hS (fun q _ h => hFc q h) hFc (fun  u t H1 locs ht hvm hw hB hz1 hk1 hS => ?_)
  obtain ⟨hP1, hK1, hD1⟩ := hB
  rw [ht] at hP1
  have hK1 := va_K.moved hvm.symm hK1
  obtain ⟨hP, hD⟩ := va_joinQ (X := [(h0, .inr (12, [.ref q_1, .ref q_2, .null, .int 0, .int 0, .null, .int 0])), (q_1, .inr (18, [.int 0, .ref sx_ed, .int 0])), (q_2, .inr (18, [.int 0, .ref sx_ed, .int 0])), (q_3, .inr (18, [.int 0, .null, .int 0]))]) (cx := [(q_3, .inr (18, [.int 0, .null, .int 0]))]) (wr := [(h0, .inr (12, [.ref q_1, .ref q_2, .null, .int 0, .int 0, .null, .int 0])), (q_1, .inr (18, [.int 0, .ref sx_ed, .int 0])), (q_2, .inr (18, [.int 0, .ref sx_ed, .int 0]))]) (w1 := [(q_3, .inr (18, [.int 0, .ref sx_ed, .int 0]))]) (pl := va_pl L (pE P)) hP hD [3] [0, 1, 2] rfl rfl (by decide) (by decide) hk1 hFc hP1 hD1
  have hK := (hK.sub (tys' := [(cO, .object "java/lang/Object"), (cI, .int), (cZ, .boolean)]) [0, 1, 2] rfl).app hK1
  generalize H1 = H at hP hS ⊢
  have hP : va_P (dC, dI) vwQ ([(h0, .inr (12, [.ref q_1, .ref q_2, .null, .int 0, .int 0, .null, .int 0])), (q_1, .inr (18, [.int 0, .ref sx_ed, .int 0])), (q_2, .inr (18, [.int 0, .ref sx_ed, .int 0])), (q_3, .inr (18, [.int 0, .ref sx_ed, .int 0]))] ++ va_pl L (pE P)) H := hP
  have hD : va_D A ([(h0, .inr (12, [.ref q_1, .ref q_2, .null, .int 0, .int 0, .null, .int 0])), (q_1, .inr (18, [.int 0, .ref sx_ed, .int 0])), (q_2, .inr (18, [.int 0, .ref sx_ed, .int 0])), (q_3, .inr (18, [.int 0, .ref sx_ed, .int 0]))] ++ va_pl L (pE P)) := hD
  have hK : va_K (dC, dI) vwQ [(cO, .object "java/lang/Object"), (cI, .int), (cZ, .boolean)] s := hK
  refine W.widen (k := 3) (n := 9) (Nat.le_of_ble_eq_true rfl) (Nat.le_of_ble_eq_true rfl) ?_
  refine va_putF (D := (dC, dI)) (ci := 12) (v := .ref q_3) (ty := .object "java/util/ArrayList") (C := RX13) (T := TX13) (N := 7) hx hb hts mem_X13_init_2 tyX13 tyX13_ok nmX13 hown hK hP hD hS 0 rfl rfl 2 (by decide) (ow (k := 10) rfl) (fun _ h9 => h9) rfl hin rfl (by decide +kernel) rfl rfl (Nat.le_of_ble_eq_true rfl) dX13_init_34 (fun H locs hP hD hS => ?_)
  have hP : va_P (dC, dI) vwQ ([(h0, .inr (12, [.ref q_1, .ref q_2, .ref q_3, .int 0, .int 0, .null, .int 0])), (q_1, .inr (18, [.int 0, .ref sx_ed, .int 0])), (q_2, .inr (18, [.int 0, .ref sx_ed, .int 0])), (q_3, .inr (18, [.int 0, .ref sx_ed, .int 0]))] ++ va_pl L (pE P)) H := hP
  have hD : va_D A ([(h0, .inr (12, [.ref q_1, .ref q_2, .ref q_3, .int 0, .int 0, .null, .int 0])), (q_1, .inr (18, [.int 0, .ref sx_ed, .int 0])), (q_2, .inr (18, [.int 0, .ref sx_ed, .int 0])), (q_3, .inr (18, [.int 0, .ref sx_ed, .int 0]))] ++ va_pl L (pE P)) := hD
  refine lv_aload_n hx hb dX13_init_37 rfl (lv_at hl 0 rfl) ?_
  refine va_new (ci := 18) (fs := [.int 0, .null, .int 0]) (C := RJx4a65c) (T := TJx4a65c) (N := 3) hx hb hts mem_X13_init_0 tyJx4a65c tyJx4a65c_ok hown (ow (k := 3) rfl) (ow (k := 4) rfl) (ow (k := 5) rfl) hK hP hD hS hA rfl (df_Jx4a65c) (Nat.le_of_ble_eq_true rfl) (Nat.le_of_ble_eq_true rfl) dX13_init_38 (fun q_4 H hP hD hS => ?_)
  have hP := pl_Pp (pl_new (X := [(h0, .inr (12, [.ref q_1, .ref q_2, .ref q_3, .int 0, .int 0, .null, .int 0])), (q_1, .inr (18, [.int 0, .ref sx_ed, .int 0])), (q_2, .inr (18, [.int 0, .ref sx_ed, .int 0])), (q_3, .inr (18, [.int 0, .ref sx_ed, .int 0]))]) (pl := va_pl L (pE P))) hP
  have hD := pl_Dp (pl_new (X := [(h0, .inr (12, [.ref q_1, .ref q_2, .ref q_3, .int 0, .int 0, .null, .int 0])), (q_1, .inr (18, [.int 0, .ref sx_ed, .int 0])), (q_2, .inr (18, [.int 0, .ref sx_ed, .int 0])), (q_3, .inr (18, [.int 0, .ref sx_ed, .int 0]))]) (pl := va_pl L (pE P))) hD
  have hP : va_P (dC, dI) vwQ ([(h0, .inr (12, [.ref q_1, .ref q_2, .ref q_3, .int 0, .int 0, .null, .int 0])), (q_1, .inr (18, [.int 0, .ref sx_ed, .int 0])), (q_2, .inr (18, [.int 0, .ref sx_ed, .int 0])), (q_3, .inr (18, [.int 0, .ref sx_ed, .int 0])), (q_4, .inr (18, [.int 0, .null, .int 0]))] ++ va_pl L (pE P)) H := hP
  have hD : va_D A ([(h0, .inr (12, [.ref q_1, .ref q_2, .ref q_3, .int 0, .int 0, .null, .int 0])), (q_1, .inr (18, [.int 0, .ref sx_ed, .int 0])), (q_2, .inr (18, [.int 0, .ref sx_ed, .int 0])), (q_3, .inr (18, [.int 0, .ref sx_ed, .int 0])), (q_4, .inr (18, [.int 0, .null, .int 0]))] ++ va_pl L (pE P)) := hD
  refine W.widen (k := 4) (n := 12) (Nat.le_of_ble_eq_true rfl) (Nat.le_of_ble_eq_true rfl) ?_
  refine lv_dup hx hb dX13_init_41 rfl ?_
  have hPc := hP.sub (ws' := [(q_4, .inr (18, [.int 0, .null, .int 0]))]) [4] rfl
  have hDc := hD.sub (ws' := [(q_4, .inr (18, [.int 0, .null, .int 0]))]) [4] (by decide) rfl
  have hKc := hK.sub (tys' := []) [] rfl
  have hFc := va_free (wc := [(q_4, .inr (18, [.int 0, .null, .int 0]))]) hD hS hA [4] rfl
  refine va_callv (va_runI (As := []) (rest := [.ref q_4, .ref h0]) ⟨hx, hb, hml, hown, hts⟩ (c_AL_init l dC dI q_4 sx_ed H.size) (cwI 0 hts (goodIn_sub mem_X13_init_1 gw_AL_init) rfl rfl rfl (ow (k := 5) rfl) (ow (k := 6) rfl) (ow (k := 7) rfl) rfl (by decide +kernel) ⟨(Nat.le_of_ble_eq_true rfl), (Nat.le_of_ble_eq_true rfl)⟩) ⟨fun a U g mk q => by obtain ⟨q0, q1, qP, qK, qD, e0⟩ := q; exact ⟨q0, q1, qP, va_K.moved (u := U) (U := U.calling g mk a) (Vm.Alike.refl U.vm) qK, qD, va_Z.moved (u := U) (U := U.calling g mk a) (Vm.Alike.refl U.vm) e0⟩, fun U hU hW => ⟨rfl, by rw [hU], by rw [hU]; exact hPc, va_K.moved hW.alike hKc, hDc.weaken (fun _ _ _ _ => trivial), by rw [hU]; exact va_Z.narrow (va_Z.moved hW.alike (va_Z.kept hp0 hS.2.1)) hFc⟩⟩ rfl rfl hl.1 rfl (lv_room (Nat.le_of_ble_eq_true rfl)) dX13_init_42 ⟨(Nat.le_of_ble_eq_true rfl), (Nat.le_of_ble_eq_true rfl)⟩) hS (fun q _ h => hFc q h) hFc (fun  u t H1 locs ht hvm hw hB hz1 hk1 hS => ?_)
  obtain ⟨hP1, hK1, hD1⟩ := hB
  rw [ht] at hP1
  have hK1 := va_K.moved hvm.symm hK1
  obtain ⟨hP, hD⟩ := va_joinQ (X := [(h0, .inr (12, [.ref q_1, .ref q_2, .ref q_3, .int 0, .int 0, .null, .int 0])), (q_1, .inr (18, [.int 0, .ref sx_ed, .int 0])), (q_2, .inr (18, [.int 0, .ref sx_ed, .int 0])), (q_3, .inr (18, [.int 0, .ref sx_ed, .int 0])), (q_4, .inr (18, [.int 0, .null, .int 0]))]) (cx := [(q_4, .inr (18, [.int 0, .null, .int 0]))]) (wr := [(h0, .inr (12, [.ref q_1, .ref q_2, .ref q_3, .int 0, .int 0, .null, .int 0])), (q_1, .inr (18, [.int 0, .ref sx_ed, .int 0])), (q_2, .inr (18, [.int 0, .ref sx_ed, .int 0])), (q_3, .inr (18, [.int 0, .ref sx_ed, .int 0]))]) (w1 := [(q_4, .inr (18, [.int 0, .ref sx_ed, .int 0]))]) (pl := va_pl L (pE P)) hP hD [4] [0, 1, 2, 3] rfl rfl (by decide) (by decide) hk1 hFc hP1 hD1
  have hK := (hK.sub (tys' := [(cO, .object "java/lang/Object"), (cI, .int), (cZ, .boolean)]) [0, 1, 2] rfl).app hK1
  generalize H1 = H at hP hS ⊢
  have hP : va_P (dC, dI) vwQ ([(h0, .inr (12, [.ref q_1, .ref q_2, .ref q_3, .int 0, .int 0, .null, .int 0])), (q_1, .inr (18, [.int 0, .ref sx_ed, .int 0])), (q_2, .inr (18, [.int 0, .ref sx_ed, .int 0])), (q_3, .inr (18, [.int 0, .ref sx_ed, .int 0])), (q_4, .inr (18, [.int 0, .ref sx_ed, .int 0]))] ++ va_pl L (pE P)) H := hP
  have hD : va_D A ([(h0, .inr (12, [.ref q_1, .ref q_2, .ref q_3, .int 0, .int 0, .null, .int 0])), (q_1, .inr (18, [.int 0, .ref sx_ed, .int 0])), (q_2, .inr (18, [.int 0, .ref sx_ed, .int 0])), (q_3, .inr (18, [.int 0, .ref sx_ed, .int 0])), (q_4, .inr (18, [.int 0, .ref sx_ed, .int 0]))] ++ va_pl L (pE P)) := hD
  have hK : va_K (dC, dI) vwQ [(cO, .object "java/lang/Object"), (cI, .int), (cZ, .boolean)] s := hK
  refine W.widen (k := 4) (n := 12) (Nat.le_of_ble_eq_true rfl) (Nat.le_of_ble_eq_true rfl) ?_
  refine va_putF (D := (dC, dI)) (ci := 12) (v := .ref q_4) (ty := .object "java/util/ArrayList") (C := RX13) (T := TX13) (N := 7) hx hb hts mem_X13_init_2 tyX13 tyX13_ok nmX13 hown hK hP hD hS 0 rfl rfl 5 (by decide) (ow (k := 11) rfl) (fun _ h9 => h9) rfl hin rfl (by decide +kernel) rfl rfl (Nat.le_of_ble_eq_true rfl) dX13_init_45 (fun H locs hP hD hS => ?_)
  have hP : va_P (dC, dI) vwQ ([(h0, .inr (12, [.ref q_1, .ref q_2, .ref q_3, .int 0, .int 0, .ref q_4, .int 0])), (q_1, .inr (18, [.int 0, .ref sx_ed, .int 0])), (q_2, .inr (18, [.int 0, .ref sx_ed, .int 0])), (q_3, .inr (18, [.int 0, .ref sx_ed, .int 0])), (q_4, .inr (18, [.int 0, .ref sx_ed, .int 0]))] ++ va_pl L (pE P)) H := hP
  have hD : va_D A ([(h0, .inr (12, [.ref q_1, .ref q_2, .ref q_3, .int 0, .int 0, .ref q_4, .int 0])), (q_1, .inr (18, [.int 0, .ref sx_ed, .int 0])), (q_2, .inr (18, [.int 0, .ref sx_ed, .int 0])), (q_3, .inr (18, [.int 0, .ref sx_ed, .int 0])), (q_4, .inr (18, [.int 0, .ref sx_ed, .int 0]))] ++ va_pl L (pE P)) := hD
  subst hQ
  have hP := hP.part (X := [(h0, .inr (12, [.ref q_1, .ref q_2, .ref q_3, .int 0, .int 0, .ref q_4, .int 0])), (q_1, .inr (18, [.int 0, .ref sx_ed, .int 0])), (q_2, .inr (18, [.int 0, .ref sx_ed, .int 0])), (q_3, .inr (18, [.int 0, .ref sx_ed, .int 0])), (q_4, .inr (18, [.int 0, .ref sx_ed, .int 0]))]) (cx := [(h0, .inr (12, [.ref q_1, .ref q_2, .ref q_3, .int 0, .int 0, .ref q_4, .int 0])), (q_2, .inr (18, [.int 0, .ref sx_ed, .int 0])), (q_3, .inr (18, [.int 0, .ref sx_ed, .int 0])), (q_4, .inr (18, [.int 0, .ref sx_ed, .int 0])), (q_1, .inr (18, [.int 0, .ref sx_ed, .int 0]))]) (pl := va_pl L (pE P)) [0, 2, 3, 4, 1] rfl
  have hD := hD.part (X := [(h0, .inr (12, [.ref q_1, .ref q_2, .ref q_3, .int 0, .int 0, .ref q_4, .int 0])), (q_1, .inr (18, [.int 0, .ref sx_ed, .int 0])), (q_2, .inr (18, [.int 0, .ref sx_ed, .int 0])), (q_3, .inr (18, [.int 0, .ref sx_ed, .int 0])), (q_4, .inr (18, [.int 0, .ref sx_ed, .int 0]))]) (cx := [(h0, .inr (12, [.ref q_1, .ref q_2, .ref q_3, .int 0, .int 0, .ref q_4, .int 0])), (q_2, .inr (18, [.int 0, .ref sx_ed, .int 0])), (q_3, .inr (18, [.int 0, .ref sx_ed, .int 0])), (q_4, .inr (18, [.int 0, .ref sx_ed, .int 0])), (q_1, .inr (18, [.int 0, .ref sx_ed, .int 0]))]) (pl := va_pl L (pE P)) [0, 2, 3, 4, 1] (by decide) rfl
  have hqn_7 : q_1 ∉ L := pl_notin (X := [(h0, .inr (12, [.ref q_1, .ref q_2, .ref q_3, .int 0, .int 0, .ref q_4, .int 0])), (q_2, .inr (18, [.int 0, .ref sx_ed, .int 0])), (q_3, .inr (18, [.int 0, .ref sx_ed, .int 0])), (q_4, .inr (18, [.int 0, .ref sx_ed, .int 0]))]) hD
  obtain ⟨Pm_5, ePm_5⟩ : ∃ Q9 : PO, Q9 = P.mlist q_1 12 q_1 sx_ed := ⟨_, rfl⟩
  obtain ⟨Lm_6, eLm_6⟩ : ∃ l9 : List Nat, l9 = q_1 :: L := ⟨_, rfl⟩
  obtain ⟨hP, hD⟩ := pool_new (X := [(h0, .inr (12, [.ref q_1, .ref q_2, .ref q_3, .int 0, .int 0, .ref q_4, .int 0])), (q_2, .inr (18, [.int 0, .ref sx_ed, .int 0])), (q_3, .inr (18, [.int 0, .ref sx_ed, .int 0])), (q_4, .inr (18, [.int 0, .ref sx_ed, .int 0]))]) (P' := Pm_5) (by rw [ePm_5]; exact pE_mlist _ _ _ _ _) hP hD
  rw [← eLm_6] at hP hD
  have hex_8 : EXT9 L P Lm_6 Pm_5 := (by rw [eLm_6, ePm_5]; exact EXT9.one hqn_7)
  have hP : va_P (dC, dI) vwQ ([(h0, .inr (12, [.ref q_1, .ref q_2, .ref q_3, .int 0, .int 0, .ref q_4, .int 0])), (q_2, .inr (18, [.int 0, .ref sx_ed, .int 0])), (q_3, .inr (18, [.int 0, .ref sx_ed, .int 0])), (q_4, .inr (18, [.int 0, .ref sx_ed, .int 0]))] ++ va_pl Lm_6 (pE Pm_5)) H := hP
  have hD : va_D A ([(h0, .inr (12, [.ref q_1, .ref q_2, .ref q_3, .int 0, .int 0, .ref q_4, .int 0])), (q_2, .inr (18, [.int 0, .ref sx_ed, .int 0])), (q_3, .inr (18, [.int 0, .ref sx_ed, .int 0])), (q_4, .inr (18, [.int 0, .ref sx_ed, .int 0]))] ++ va_pl Lm_6 (pE Pm_5)) := hD
  have hfa_9 : LSF9 Lm_6 Pm_5 q_1 12 q_1 sx_ed := (by rw [eLm_6, ePm_5]; exact mlist_lsf _ _ _ _ _ _)
  have hP := hP.part (X := [(h0, .inr (12, [.ref q_1, .ref q_2, .ref q_3, .int 0, .int 0, .ref q_4, .int 0])), (q_2, .inr (18, [.int 0, .ref sx_ed, .int 0])), (q_3, .inr (18, [.int 0, .ref sx_ed, .int 0])), (q_4, .inr (18, [.int 0, .ref sx_ed, .int 0]))]) (cx := [(h0, .inr (12, [.ref q_1, .ref q_2, .ref q_3, .int 0, .int 0, .ref q_4, .int 0])), (q_3, .inr (18, [.int 0, .ref sx_ed, .int 0])), (q_4, .inr (18, [.int 0, .ref sx_ed, .int 0])), (q_2, .inr (18, [.int 0, .ref sx_ed, .int 0]))]) (pl := va_pl Lm_6 (pE Pm_5)) [0, 2, 3, 1] rfl
  have hD := hD.part (X := [(h0, .inr (12, [.ref q_1, .ref q_2, .ref q_3, .int 0, .int 0, .ref q_4, .int 0])), (q_2, .inr (18, [.int 0, .ref sx_ed, .int 0])), (q_3, .inr (18, [.int 0, .ref sx_ed, .int 0])), (q_4, .inr (18, [.int 0, .ref sx_ed, .int 0]))]) (cx := [(h0, .inr (12, [.ref q_1, .ref q_2, .ref q_3, .int 0, .int 0, .ref q_4, .int 0])), (q_3, .inr (18, [.int 0, .ref sx_ed, .int 0])), (q_4, .inr (18, [.int 0, .ref sx_ed, .int 0])), (q_2, .inr (18, [.int 0, .ref sx_ed, .int 0]))]) (pl := va_pl Lm_6 (pE Pm_5)) [0, 2, 3, 1] (by decide) rfl
  have hqn_12 : q_2 ∉ Lm_6 := pl_notin (X := [(h0, .inr (12, [.ref q_1, .ref q_2, .ref q_3, .int 0, .int 0, .ref q_4, .int 0])), (q_3, .inr (18, [.int 0, .ref sx_ed, .int 0])), (q_4, .inr (18, [.int 0, .ref sx_ed, .int 0]))]) hD
  obtain ⟨Pm_10, ePm_10⟩ : ∃ Q9 : PO, Q9 = Pm_5.mlist q_2 17 q_2 sx_ed := ⟨_, rfl⟩
  obtain ⟨Lm_11, eLm_11⟩ : ∃ l9 : List Nat, l9 = q_2 :: Lm_6 := ⟨_, rfl⟩
  obtain ⟨hP, hD⟩ := pool_new (X := [(h0, .inr (12, [.ref q_1, .ref q_2, .ref q_3, .int 0, .int 0, .ref q_4, .int 0])), (q_3, .inr (18, [.int 0, .ref sx_ed, .int 0])), (q_4, .inr (18, [.int 0, .ref sx_ed, .int 0]))]) (P' := Pm_10) (by rw [ePm_10]; exact pE_mlist _ _ _ _ _) hP hD
  rw [← eLm_11] at hP hD
  have hex_13 : EXT9 Lm_6 Pm_5 Lm_11 Pm_10 := (by rw [eLm_11, ePm_10]; exact EXT9.one hqn_12)
  have hP : va_P (dC, dI) vwQ ([(h0, .inr (12, [.ref q_1, .ref q_2, .ref q_3, .int 0, .int 0, .ref q_4, .int 0])), (q_3, .inr (18, [.int 0, .ref sx_ed, .int 0])), (q_4, .inr (18, [.int 0, .ref sx_ed, .int 0]))] ++ va_pl Lm_11 (pE Pm_10)) H := hP
  have hD : va_D A ([(h0, .inr (12, [.ref q_1, .ref q_2, .ref q_3, .int 0, .int 0, .ref q_4, .int 0])), (q_3, .inr (18, [.int 0, .ref sx_ed, .int 0])), (q_4, .inr (18, [.int 0, .ref sx_ed, .int 0]))] ++ va_pl Lm_11 (pE Pm_10)) := hD
  have hex_14 := hex_8.trans hex_13
  have hfa_15 := hex_13.lsf hfa_9
  have hfa_16 : LSF9 Lm_11 Pm_10 q_2 17 q_2 sx_ed := (by rw [eLm_11, ePm_10]; exact mlist_lsf _ _ _ _ _ _)
  have hP := hP.part (X := [(h0, .inr (12, [.ref q_1, .ref q_2, .ref q_3, .int 0, .int 0, .ref q_4, .int 0])), (q_3, .inr (18, [.int 0, .ref sx_ed, .int 0])), (q_4, .inr (18, [.int 0, .ref sx_ed, .int 0]))]) (cx := [(h0, .inr (12, [.ref q_1, .ref q_2, .ref q_3, .int 0, .int 0, .ref q_4, .int 0])), (q_4, .inr (18, [.int 0, .ref sx_ed, .int 0])), (q_3, .inr (18, [.int 0, .ref sx_ed, .int 0]))]) (pl := va_pl Lm_11 (pE Pm_10)) [0, 2, 1] rfl
  have hD := hD.part (X := [(h0, .inr (12, [.ref q_1, .ref q_2, .ref q_3, .int 0, .int 0, .ref q_4, .int 0])), (q_3, .inr (18, [.int 0, .ref sx_ed, .int 0])), (q_4, .inr (18, [.int 0, .ref sx_ed, .int 0]))]) (cx := [(h0, .inr (12, [.ref q_1, .ref q_2, .ref q_3, .int 0, .int 0, .ref q_4, .int 0])), (q_4, .inr (18, [.int 0, .ref sx_ed, .int 0])), (q_3, .inr (18, [.int 0, .ref sx_ed, .int 0]))]) (pl := va_pl Lm_11 (pE Pm_10)) [0, 2, 1] (by decide) rfl
  have hqn_19 : q_3 ∉ Lm_11 := pl_notin (X := [(h0, .inr (12, [.ref q_1, .ref q_2, .ref q_3, .int 0, .int 0, .ref q_4, .int 0])), (q_4, .inr (18, [.int 0, .ref sx_ed, .int 0]))]) hD
  obtain ⟨Pm_17, ePm_17⟩ : ∃ Q9 : PO, Q9 = Pm_10.mlist q_3 15 q_3 sx_ed := ⟨_, rfl⟩
  obtain ⟨Lm_18, eLm_18⟩ : ∃ l9 : List Nat, l9 = q_3 :: Lm_11 := ⟨_, rfl⟩
  obtain ⟨hP, hD⟩ := pool_new (X := [(h0, .inr (12, [.ref q_1, .ref q_2, .ref q_3, .int 0, .int 0, .ref q_4, .int 0])), (q_4, .inr (18, [.int 0, .ref sx_ed, .int 0]))]) (P' := Pm_17) (by rw [ePm_17]; exact pE_mlist _ _ _ _ _) hP hD
  rw [← eLm_18] at hP hD
  have hex_20 : EXT9 Lm_11 Pm_10 Lm_18 Pm_17 := (by rw [eLm_18, ePm_17]; exact EXT9.one hqn_19)
  have hP : va_P (dC, dI) vwQ ([(h0, .inr (12, [.ref q_1, .ref q_2, .ref q_3, .int 0, .int 0, .ref q_4, .int 0])), (q_4, .inr (18, [.int 0, .ref sx_ed, .int 0]))] ++ va_pl Lm_18 (pE Pm_17)) H := hP
  have hD : va_D A ([(h0, .inr (12, [.ref q_1, .ref q_2, .ref q_3, .int 0, .int 0, .ref q_4, .int 0])), (q_4, .inr (18, [.int 0, .ref sx_ed, .int 0]))] ++ va_pl Lm_18 (pE Pm_17)) := hD
  have hex_21 := hex_14.trans hex_20
  have hfa_22 := hex_20.lsf hfa_15
  have hfa_23 := hex_20.lsf hfa_16
  have hfa_24 : LSF9 Lm_18 Pm_17 q_3 15 q_3 sx_ed := (by rw [eLm_18, ePm_17]; exact mlist_lsf _ _ _ _ _ _)
  have hqn_27 : q_4 ∉ Lm_18 := pl_notin (X := [(h0, .inr (12, [.ref q_1, .ref q_2, .ref q_3, .int 0, .int 0, .ref q_4, .int 0]))]) hD
  obtain ⟨Pm_25, ePm_25⟩ : ∃ Q9 : PO, Q9 = Pm_17.mlist q_4 12 q_4 sx_ed := ⟨_, rfl⟩
  obtain ⟨Lm_26, eLm_26⟩ : ∃ l9 : List Nat, l9 = q_4 :: Lm_18 := ⟨_, rfl⟩
  obtain ⟨hP, hD⟩ := pool_new (X := [(h0, .inr (12, [.ref q_1, .ref q_2, .ref q_3, .int 0, .int 0, .ref q_4, .int 0]))]) (P' := Pm_25) (by rw [ePm_25]; exact pE_mlist _ _ _ _ _) hP hD
  rw [← eLm_26] at hP hD
  have hex_28 : EXT9 Lm_18 Pm_17 Lm_26 Pm_25 := (by rw [eLm_26, ePm_25]; exact EXT9.one hqn_27)
  have hP : va_P (dC, dI) vwQ ([(h0, .inr (12, [.ref q_1, .ref q_2, .ref q_3, .int 0, .int 0, .ref q_4, .int 0]))] ++ va_pl Lm_26 (pE Pm_25)) H := hP
  have hD : va_D A ([(h0, .inr (12, [.ref q_1, .ref q_2, .ref q_3, .int 0, .int 0, .ref q_4, .int 0]))] ++ va_pl Lm_26 (pE Pm_25)) := hD
  have hex_29 := hex_21.trans hex_28
  have hfa_30 := hex_28.lsf hfa_22
  have hfa_31 := hex_28.lsf hfa_23
  have hfa_32 := hex_28.lsf hfa_24
  have hfa_33 : LSF9 Lm_26 Pm_25 q_4 12 q_4 sx_ed := (by rw [eLm_26, ePm_25]; exact mlist_lsf _ _ _ _ _ _)
  refine W.widen (k := 4) (n := 12) (Nat.le_of_ble_eq_true rfl) (Nat.le_of_ble_eq_true rfl) ?_
  exact W.vret hx hb hr (fun t ht hW => ⟨⟨(), rfl, trivial, q_1, q_2, q_3, q_4, Lm_26, Pm_25, ⟨hex_29, (fun z m n => by rw [eLm_26, eLm_18, eLm_11, eLm_6] at m; rcases List.mem_cons.mp m with e | m; rw [e]; exact hfa_33.new (by decide); rcases List.mem_cons.mp m with e | m; rw [e]; exact hfa_32.new (by decide); rcases List.mem_cons.mp m with e | m; rw [e]; exact hfa_31.new (by decide); rcases List.mem_cons.mp m with e | m; rw [e]; exact hfa_30.new (by decide); exact absurd m n), hfa_30, hfa_31, hfa_32, hfa_33⟩, by rw [ht]; exact hP, va_K.moved hW.alike hK, hD⟩, hS.F ht⟩) hS.2.2 dX13_init_48
