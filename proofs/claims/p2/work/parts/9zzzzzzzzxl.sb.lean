theorem dJ5_init_d00df_0 : decode cJ5_init_d00df 0 = .ok (.aload_n 0, 1) := by decide +kernel
theorem dJ5_init_d00df_1 : decode cJ5_init_d00df 1 = .ok (.invokespecial 3, 3) := by decide +kernel
theorem dJ5_init_d00df_4 : decode cJ5_init_d00df 4 = .ok (.getstatic 18, 3) := by decide +kernel
theorem dJ5_init_d00df_7 : decode cJ5_init_d00df 7 = .ok (.ifCond .eq 18, 3) := by decide +kernel
theorem dJ5_init_d00df_10 : decode cJ5_init_d00df 10 = .ok (.aload_n 0, 1) := by decide +kernel
theorem dJ5_init_d00df_11 : decode cJ5_init_d00df 11 = .ok (.iload_n 1, 1) := by decide +kernel
theorem dJ5_init_d00df_12 : decode cJ5_init_d00df 12 = .ok (.newarray .byte, 2) := by decide +kernel
theorem dJ5_init_d00df_14 : decode cJ5_init_d00df 14 = .ok (.putfield 15, 3) := by decide +kernel
theorem dJ5_init_d00df_17 : decode cJ5_init_d00df 17 = .ok (.aload_n 0, 1) := by decide +kernel
theorem dJ5_init_d00df_18 : decode cJ5_init_d00df 18 = .ok (.iconst 0, 1) := by decide +kernel
theorem dJ5_init_d00df_19 : decode cJ5_init_d00df 19 = .ok (.putfield 22, 3) := by decide +kernel
theorem dJ5_init_d00df_22 : decode cJ5_init_d00df 22 = .ok (.goto 16, 3) := by decide +kernel
theorem dJ5_init_d00df_38 : decode cJ5_init_d00df 38 = .ok (.return_, 1) := by decide +kernel
def o_J5_init : List Cond := [.methodLink RJ5 3 objectInit, .instanceMethod objectInit, .code objectInit ⟨#[0xb1]⟩ 1 none, .fieldLink RJ5 18 "java/lang/String" "COMPACT_STRINGS" "Z", .arrayClass .byte, .fieldLink RJ5 15 "java/lang/AbstractStringBuilder" "value" "[B", .fieldLink RJ5 22 "java/lang/AbstractStringBuilder" "coder" "B"]
def v_J5_init : List Cond := .code yJ5_init_d00df cJ5_init_d00df 2 none :: (o_J5_init ++ (wsJ40 ++ []))
theorem mow_J5_init : ∀ w ∈ o_J5_init, w ∈ v_J5_init := fun _ h => List.mem_cons_of_mem _ (List.mem_append_left _ h)
theorem mem_J5_init_0 : ∀ w ∈ wsJ40, w ∈ v_J5_init := fun _ h => List.mem_cons_of_mem _ (List.mem_append_right _ (List.mem_append_left _ h))
set_option maxRecDepth 20000 in
theorem gw_J5_init : v_J5_init.all goodWord = true := by decide +kernel
set_option maxHeartbeats 4000000 in
set_option maxRecDepth 100000 in
theorem c_J5_init (l : Launch) (dC : Nat → ClassId) (dI : Nat → Nat → Nat) (h0 : Nat) (sz : Nat) : Met l yJ5_init_d00df v_J5_init ({ frames := 1, cells := 1, slots := 16, locals := 12 }) (va_Pc [.ref h0, .int 16] (fun U => U.heap.size = sz ∧ va_P (dC, dI) vwQ [(h0, .inr (17, [.null, .int 0, .int 0, .int 0]))] U.heap ∧ va_K (dC, dI) vwQ [] U ∧ va_D (fun _ => True) [(h0, .inr (17, [.null, .int 0, .int 0, .int 0]))] ∧ va_Z "java/lang/String" "COMPACT_STRINGS" "Z" (.int 1) (va_A [(h0, .inr (17, [.null, .int 0, .int 0, .int 0]))] sz) U U.heap)) (va_Qv (fun _ : Unit => True) (fun (_ : Unit) (t : State) => ∃ (qn0_9 : Nat) (cn0_9 : ClassId) (nn0_9 : Nat) (an0_9 : Int → Int), ((∀ j : Int, -128 ≤ an0_9 j ∧ an0_9 j ≤ 127) ∧ ((nn0_9 : Int) = 16)) ∧ va_P (dC, dI) vwQ [(h0, .inr (17, [.ref qn0_9, .int 0, .int 0, .int 0])), (qn0_9, .inl (cn0_9, nn0_9, .inl (fun j : Nat => zI (an0_9 (j : Int)))))] t.heap ∧ va_K (dC, dI) vwQ [(cn0_9, .byte)] t ∧ va_D (va_A [(h0, .inr (17, [.null, .int 0, .int 0, .int 0]))] sz) [(h0, .inr (17, [.ref qn0_9, .int 0, .int 0, .int 0])), (qn0_9, .inl (cn0_9, nn0_9, .inl (fun j : Nat => zI (an0_9 (j : Int)))))]) (va_A [(h0, .inr (17, [.null, .int 0, .int 0, .int 0]))] sz)) 1 16 (va_A [(h0, .inr (17, [.null, .int 0, .int 0, .int 0]))] sz) := by
  refine Met.ofW (cc := cJ5_init_d00df) (maxL := 2) (ret := none) (by decide) rfl ?_
  intro p e s m args below meth c s₁ B hml hv
  obtain ⟨rfl, hsz, hP, hK, hD0, hp0⟩ := hv
  have hx := B.exec
  have hb := B.bytes
  have hr := B.returns
  have hts := atoms_spec (ws := v_J5_init) B.pre
  have hown : s.vm.findClass RJ5 = some m.cls := findClass_of_methodNamed B.named
  have hlocks := B.notSynchronized
  have ow : ∀ {k : Nat} {w : Cond}, o_J5_init[k]? = some w → w.before ([.ref h0, .int 16] : List Value).toArray s = true := fun h => hts _ (mow_J5_init _ (List.mem_of_getElem? h))
  have hin : meth.name = "<init>" := (name_of_methodNamed B.named B.method).1
  subst hsz
  have hD := hD0.self (sz := s.heap.size)
  generalize hAe : va_A [(h0, .inr (17, [.null, .int 0, .int 0, .int 0]))] s.heap.size = A at hD hp0 ⊢
  have hA : ∀ q : Nat, s.heap.size ≤ q → A q := fun q h => by rw [← hAe]; exact Or.inr h
  have hS : va_S A s.heap s.heap [] := va_S.rf
  have hP : va_P (dC, dI) vwQ [(h0, .inr (17, [.null, .int 0, .int 0, .int 0]))] s.heap := hP
  have hl := lv_entry ([.ref h0, .int 16]) (n := 2) (Nat.le_of_ble_eq_true rfl)
  rw [lg_entry_eq]
  generalize (lg_sl ([.ref h0, .int 16]) ++ List.replicate (2 - (lg_sl ([.ref h0, .int 16])).length) Slot.unset).toArray = ls at hl ⊢
  have hl : lv_has ls 2 [(0, .ref h0), (1, .int 16)] := hl
  obtain ⟨H, hH⟩ : ∃ H, H = s.heap := ⟨_, rfl⟩
  rw [← hH] at hP
  have hS : va_S A s.heap H [] := by rw [hH]; exact hS
  rw [← hH]
  refine zW_cap (fun Q hQ => ?_)
  refine lv_aload_n hx hb dJ5_init_d00df_0 rfl (lv_at hl 0 rfl) ?_
  refine W.objInit hx hb hown (ow (k := 0) rfl) (ow (k := 1) rfl) (ow (k := 2) rfl) rfl (by rw [hml]; exact hl.1) rfl dJ5_init_d00df_1 (Nat.le_of_ble_eq_true rfl) (Nat.le_of_ble_eq_true rfl) ?_
  refine W.eq (g2 := F0 m 4 ls []) rfl ?_
  refine va_gets (v := .int 1) hx hb hp0 hS hown (ow (k := 3) rfl) (fun _ h9 => h9) dJ5_init_d00df_4 ?_
  refine lv_if_eq (tgt := 25) hx hb dJ5_init_d00df_7 (by decide) (fun h9 => absurd h9 (by decide)) (fun _ => ?_)
  refine lv_aload_n hx hb dJ5_init_d00df_10 rfl (lv_at hl 0 rfl) ?_
  refine lv_iload_n hx hb dJ5_init_d00df_11 rfl (lv_at hl 1 rfl) ?_
  refine va_newa (ty := .byte) (n := 16) (N' := 16) (a0 := (16, .inl (fun _ => 0))) hx hb (ow (k := 4) rfl) rfl hK hP hD hS hA (fun _ => rfl) (by decide) (by decide) (by decide) (Nat.le_of_ble_eq_true rfl) (Nat.le_of_ble_eq_true rfl) dJ5_init_d00df_12 (fun q_1 cA_2 H hK hP hD hS => ?_)
  have hP : va_P (dC, dI) vwQ [(h0, .inr (17, [.null, .int 0, .int 0, .int 0])), (q_1, .inl (cA_2, 16, .inl (fun _ => 0)))] H := hP
  have hD : va_D A [(h0, .inr (17, [.null, .int 0, .int 0, .int 0])), (q_1, .inl (cA_2, 16, .inl (fun _ => 0)))] := hD
  have hK : va_K (dC, dI) vwQ [(cA_2, .byte)] s := hK
  refine W.widen (k := 1) (n := 16) (Nat.le_of_ble_eq_true rfl) (Nat.le_of_ble_eq_true rfl) ?_
  obtain ⟨az_3, eaz_3⟩ : ∃ f9 : Int → Int, f9 = (fun _ => 0) := ⟨_, rfl⟩
  rw [show (fun _ : Nat => (0 : Int32)) = (fun j : Nat => zI (az_3 (j : Int))) from (by rw [eaz_3]; rfl)] at hP hD
  have hP : va_P (dC, dI) vwQ [(h0, .inr (17, [.null, .int 0, .int 0, .int 0])), (q_1, .inl (cA_2, 16, .inl (fun j : Nat => zI (az_3 (j : Int)))))] H := hP
  have hD : va_D A [(h0, .inr (17, [.null, .int 0, .int 0, .int 0])), (q_1, .inl (cA_2, 16, .inl (fun j : Nat => zI (az_3 (j : Int)))))] := hD
  have raz_3 : ∀ j : Int, -128 ≤ az_3 j ∧ az_3 j ≤ 127 := (fun j => by rw [eaz_3]; show -128 ≤ (0 : Int) ∧ (0 : Int) ≤ 127; omega)
  refine va_put (D := (dC, dI)) (ci := 17) (v := .ref q_1) (ty := .array .byte) (C := RJ4) (T := TJ4) (N := 4) hx hb hts mem_J5_init_0 tyJ4 tyJ4_ok nmJ4 hown hK hP hD hS 0 rfl rfl 0 (by decide) (ow (k := 5) rfl) (fun _ h9 => h9) rfl (by decide +kernel) rfl rfl (Nat.le_of_ble_eq_true rfl) dJ5_init_d00df_14 (fun H locs hP hD hS => ?_)
  have hP : va_P (dC, dI) vwQ [(h0, .inr (17, [.ref q_1, .int 0, .int 0, .int 0])), (q_1, .inl (cA_2, 16, .inl (fun j : Nat => zI (az_3 (j : Int)))))] H := hP
  have hD : va_D A [(h0, .inr (17, [.ref q_1, .int 0, .int 0, .int 0])), (q_1, .inl (cA_2, 16, .inl (fun j : Nat => zI (az_3 (j : Int)))))] := hD
  refine lv_aload_n hx hb dJ5_init_d00df_17 rfl (lv_at hl 0 rfl) ?_
  refine lv_iconst (v := 0) hx hb dJ5_init_d00df_18 (by decide) ?_
  refine va_put (D := (dC, dI)) (ci := 17) (v := .int 0) (ty := .byte) (C := RJ4) (T := TJ4) (N := 4) hx hb hts mem_J5_init_0 tyJ4 tyJ4_ok nmJ4 hown hK hP hD hS 0 rfl rfl 1 (by decide) (ow (k := 6) rfl) (fun _ h9 => h9) rfl (by decide +kernel) rfl rfl (Nat.le_of_ble_eq_true rfl) dJ5_init_d00df_19 (fun H locs hP hD hS => ?_)
  have hP : va_P (dC, dI) vwQ [(h0, .inr (17, [.ref q_1, .int 0, .int 0, .int 0])), (q_1, .inl (cA_2, 16, .inl (fun j : Nat => zI (az_3 (j : Int)))))] H := hP
  have hD : va_D A [(h0, .inr (17, [.ref q_1, .int 0, .int 0, .int 0])), (q_1, .inl (cA_2, 16, .inl (fun j : Nat => zI (az_3 (j : Int)))))] := hD
  refine lv_goto (tgt := 38) hx hb dJ5_init_d00df_22 (by decide) ?_
  subst hQ
  refine W.widen (k := 1) (n := 16) (Nat.le_of_ble_eq_true rfl) (Nat.le_of_ble_eq_true rfl) ?_
  exact W.vret hx hb hr (fun t ht hW => ⟨⟨(), rfl, trivial, q_1, cA_2, 16, az_3, ⟨raz_3, rfl⟩, by rw [ht]; exact hP, va_K.moved hW.alike hK, hD⟩, hS.F ht⟩) hS.2.2 dJ5_init_d00df_38
theorem dJ4_init_da8c8_0 : decode cJ4_init_da8c8 0 = .ok (.aload_n 0, 1) := by decide +kernel
theorem dJ4_init_da8c8_1 : decode cJ4_init_da8c8 1 = .ok (.bipush 16, 2) := by decide +kernel
theorem dJ4_init_da8c8_3 : decode cJ4_init_da8c8 3 = .ok (.invokespecial 1, 3) := by decide +kernel
theorem dJ4_init_da8c8_6 : decode cJ4_init_da8c8 6 = .ok (.return_, 1) := by decide +kernel
def o_J4_init : List Cond := [.initialized RJ5, .methodLink RJ4 1 yJ5_init_d00df, .instanceMethod yJ5_init_d00df]
def v_J4_init : List Cond := .code yJ4_init_da8c8 cJ4_init_da8c8 1 none :: (o_J4_init ++ (v_J5_init ++ []))
theorem mow_J4_init : ∀ w ∈ o_J4_init, w ∈ v_J4_init := fun _ h => List.mem_cons_of_mem _ (List.mem_append_left _ h)
theorem mem_J4_init_0 : ∀ w ∈ v_J5_init, w ∈ v_J4_init := fun _ h => List.mem_cons_of_mem _ (List.mem_append_right _ (List.mem_append_left _ h))
set_option maxRecDepth 20000 in
theorem gw_J4_init : v_J4_init.all goodWord = true := by decide +kernel
set_option maxHeartbeats 4000000 in
set_option maxRecDepth 100000 in
theorem c_J4_init (l : Launch) (dC : Nat → ClassId) (dI : Nat → Nat → Nat) (h0 : Nat) (sz : Nat) : Met l yJ4_init_da8c8 v_J4_init ({ frames := 2, cells := 1, slots := 16, locals := 33 }) (va_Pc [.ref h0] (fun U => U.heap.size = sz ∧ va_P (dC, dI) vwQ [(h0, .inr (17, [.null, .int 0, .int 0, .int 0]))] U.heap ∧ va_K (dC, dI) vwQ [] U ∧ va_D (fun _ => True) [(h0, .inr (17, [.null, .int 0, .int 0, .int 0]))] ∧ va_Z "java/lang/String" "COMPACT_STRINGS" "Z" (.int 1) (va_A [(h0, .inr (17, [.null, .int 0, .int 0, .int 0]))] sz) U U.heap)) (va_Qv (fun _ : Unit => True) (fun (_ : Unit) (t : State) => ∃ (qn0_9 : Nat) (cn0_9 : ClassId) (nn0_9 : Nat) (an0_9 : Int → Int), ((∀ j : Int, -128 ≤ an0_9 j ∧ an0_9 j ≤ 127) ∧ ((nn0_9 : Int) = 16)) ∧ va_P (dC, dI) vwQ [(h0, .inr (17, [.ref qn0_9, .int 0, .int 0, .int 0])), (qn0_9, .inl (cn0_9, nn0_9, .inl (fun j : Nat => zI (an0_9 (j : Int)))))] t.heap ∧ va_K (dC, dI) vwQ [(cn0_9, .byte)] t ∧ va_D (va_A [(h0, .inr (17, [.null, .int 0, .int 0, .int 0]))] sz) [(h0, .inr (17, [.ref qn0_9, .int 0, .int 0, .int 0])), (qn0_9, .inl (cn0_9, nn0_9, .inl (fun j : Nat => zI (an0_9 (j : Int)))))]) (va_A [(h0, .inr (17, [.null, .int 0, .int 0, .int 0]))] sz)) 1 16 (va_A [(h0, .inr (17, [.null, .int 0, .int 0, .int 0]))] sz) := by
  refine Met.ofW (cc := cJ4_init_da8c8) (maxL := 1) (ret := none) (by decide) rfl ?_
  intro p e s m args below meth c s₁ B hml hv
  obtain ⟨rfl, hsz, hP, hK, hD0, hp0⟩ := hv
  have hx := B.exec
  have hb := B.bytes
  have hr := B.returns
  have hts := atoms_spec (ws := v_J4_init) B.pre
  have hown : s.vm.findClass RJ4 = some m.cls := findClass_of_methodNamed B.named
  have hlocks := B.notSynchronized
  have ow : ∀ {k : Nat} {w : Cond}, o_J4_init[k]? = some w → w.before ([.ref h0] : List Value).toArray s = true := fun h => hts _ (mow_J4_init _ (List.mem_of_getElem? h))
  have hin : meth.name = "<init>" := (name_of_methodNamed B.named B.method).1
  subst hsz
  have hD := hD0.self (sz := s.heap.size)
  generalize hAe : va_A [(h0, .inr (17, [.null, .int 0, .int 0, .int 0]))] s.heap.size = A at hD hp0 ⊢
  have hA : ∀ q : Nat, s.heap.size ≤ q → A q := fun q h => by rw [← hAe]; exact Or.inr h
  have hS : va_S A s.heap s.heap [] := va_S.rf
  have hP : va_P (dC, dI) vwQ [(h0, .inr (17, [.null, .int 0, .int 0, .int 0]))] s.heap := hP
  have hl := lv_entry ([.ref h0]) (n := 1) (Nat.le_of_ble_eq_true rfl)
  rw [lg_entry_eq]
  generalize (lg_sl ([.ref h0]) ++ List.replicate (1 - (lg_sl ([.ref h0])).length) Slot.unset).toArray = ls at hl ⊢
  have hl : lv_has ls 1 [(0, .ref h0)] := hl
  obtain ⟨H, hH⟩ : ∃ H, H = s.heap := ⟨_, rfl⟩
  rw [← hH] at hP
  have hS : va_S A s.heap H [] := by rw [hH]; exact hS
  rw [← hH]
  refine zW_cap (fun Q hQ => ?_)
  refine lv_aload_n hx hb dJ4_init_da8c8_0 rfl (lv_at hl 0 rfl) ?_
  refine lv_bipush (v := 16) hx hb dJ4_init_da8c8_1 (by decide) ?_
  have hPc := hP.sub (ws' := [(h0, .inr (17, [.null, .int 0, .int 0, .int 0]))]) [0] rfl
  have hDc := hD.sub (ws' := [(h0, .inr (17, [.null, .int 0, .int 0, .int 0]))]) [0] (by decide) rfl
  have hKc := hK.sub (tys' := []) [] rfl
  have hFc := va_free (wc := [(h0, .inr (17, [.null, .int 0, .int 0, .int 0]))]) hD hS hA [0] rfl
  refine va_callv (va_runI (As := [.int 16]) (rest := []) ⟨hx, hb, hml, hown, hts⟩ (c_J5_init l dC dI h0 H.size) (cwI 1 hts (goodIn_sub mem_J4_init_0 gw_J5_init) rfl rfl rfl (ow (k := 0) rfl) (ow (k := 1) rfl) (ow (k := 2) rfl) rfl (by decide +kernel) ⟨(Nat.le_of_ble_eq_true rfl), (Nat.le_of_ble_eq_true rfl)⟩) ⟨fun a U g mk q => by obtain ⟨q0, q1, qP, qK, qD, e0⟩ := q; exact ⟨q0, q1, qP, va_K.moved (u := U) (U := U.calling g mk a) (Vm.Alike.refl U.vm) qK, qD, va_Z.moved (u := U) (U := U.calling g mk a) (Vm.Alike.refl U.vm) e0⟩, fun U hU hW => ⟨rfl, by rw [hU], by rw [hU]; exact hPc, va_K.moved hW.alike hKc, hDc.weaken (fun _ _ _ _ => trivial), by rw [hU]; exact va_Z.narrow (va_Z.moved hW.alike (va_Z.kept hp0 hS.2.1)) hFc⟩⟩ rfl rfl hl.1 rfl (lv_room (Nat.le_of_ble_eq_true rfl)) dJ4_init_da8c8_3 ⟨(Nat.le_of_ble_eq_true rfl), (Nat.le_of_ble_eq_true rfl)⟩) hS (fun q _ h => hFc q h) hFc (fun  u t H1 locs ht hvm hw hB hz1 hk1 hS => ?_)
  obtain ⟨qn0_1, cn0_2, nn0_3, an0_4, hxt_4, hP1, hK1, hD1⟩ := hB
  rw [ht] at hP1
  have hK1 := va_K.moved hvm.symm hK1
  obtain ⟨hP, hD⟩ := va_join (wr := []) (w1 := [(h0, .inr (17, [.ref qn0_1, .int 0, .int 0, .int 0])), (qn0_1, .inl (cn0_2, nn0_3, .inl (fun j : Nat => zI (an0_4 (j : Int)))))]) hP hD [0] [] rfl rfl (by decide) (by decide) hk1 hFc hP1 hD1
  have hK := (hK.sub (tys' := []) [] rfl).app hK1
  generalize H1 = H at hP hS ⊢
  have hP : va_P (dC, dI) vwQ [(h0, .inr (17, [.ref qn0_1, .int 0, .int 0, .int 0])), (qn0_1, .inl (cn0_2, nn0_3, .inl (fun j : Nat => zI (an0_4 (j : Int)))))] H := hP
  have hD : va_D A [(h0, .inr (17, [.ref qn0_1, .int 0, .int 0, .int 0])), (qn0_1, .inl (cn0_2, nn0_3, .inl (fun j : Nat => zI (an0_4 (j : Int)))))] := hD
  have hK : va_K (dC, dI) vwQ [(cn0_2, .byte)] s := hK
  refine W.widen (k := 1) (n := 16) (Nat.le_of_ble_eq_true rfl) (Nat.le_of_ble_eq_true rfl) ?_
  obtain ⟨rk_5, hu_5⟩ := hxt_4
  subst hQ
  refine W.widen (k := 1) (n := 16) (Nat.le_of_ble_eq_true rfl) (Nat.le_of_ble_eq_true rfl) ?_
  exact W.vret hx hb hr (fun t ht hW => ⟨⟨(), rfl, trivial, qn0_1, cn0_2, nn0_3, an0_4, ⟨rk_5, hu_5⟩, by rw [ht]; exact hP, va_K.moved hW.alike hK, hD⟩, hS.F ht⟩) hS.2.2 dJ4_init_da8c8_6
theorem dJ1_equals_b5fdf_0 : decode cJ1_equals_b5fdf 0 = .ok (.aload_n 0, 1) := by decide +kernel
theorem dJ1_equals_b5fdf_1 : decode cJ1_equals_b5fdf 1 = .ok (.arraylength, 1) := by decide +kernel
theorem dJ1_equals_b5fdf_2 : decode cJ1_equals_b5fdf 2 = .ok (.aload_n 1, 1) := by decide +kernel
theorem dJ1_equals_b5fdf_3 : decode cJ1_equals_b5fdf 3 = .ok (.arraylength, 1) := by decide +kernel
theorem dJ1_equals_b5fdf_4 : decode cJ1_equals_b5fdf 4 = .ok (.if_icmp .ne 30, 3) := by decide +kernel
theorem dJ1_equals_b5fdf_34 : decode cJ1_equals_b5fdf 34 = .ok (.iconst 0, 1) := by decide +kernel
theorem dJ1_equals_b5fdf_35 : decode cJ1_equals_b5fdf 35 = .ok (.ireturn, 1) := by decide +kernel
theorem dJ1_equals_b5fdf_7 : decode cJ1_equals_b5fdf 7 = .ok (.iconst 0, 1) := by decide +kernel
theorem dJ1_equals_b5fdf_8 : decode cJ1_equals_b5fdf 8 = .ok (.istore_n 2, 1) := by decide +kernel
theorem dJ1_equals_b5fdf_9 : decode cJ1_equals_b5fdf 9 = .ok (.iload_n 2, 1) := by decide +kernel
theorem dJ1_equals_b5fdf_10 : decode cJ1_equals_b5fdf 10 = .ok (.aload_n 0, 1) := by decide +kernel
theorem dJ1_equals_b5fdf_11 : decode cJ1_equals_b5fdf 11 = .ok (.arraylength, 1) := by decide +kernel
theorem dJ1_equals_b5fdf_12 : decode cJ1_equals_b5fdf 12 = .ok (.if_icmp .ge 20, 3) := by decide +kernel
theorem dJ1_equals_b5fdf_32 : decode cJ1_equals_b5fdf 32 = .ok (.iconst 1, 1) := by decide +kernel
theorem dJ1_equals_b5fdf_33 : decode cJ1_equals_b5fdf 33 = .ok (.ireturn, 1) := by decide +kernel
theorem dJ1_equals_b5fdf_15 : decode cJ1_equals_b5fdf 15 = .ok (.aload_n 0, 1) := by decide +kernel
theorem dJ1_equals_b5fdf_16 : decode cJ1_equals_b5fdf 16 = .ok (.iload_n 2, 1) := by decide +kernel
theorem dJ1_equals_b5fdf_17 : decode cJ1_equals_b5fdf 17 = .ok (.baload, 1) := by decide +kernel
theorem dJ1_equals_b5fdf_18 : decode cJ1_equals_b5fdf 18 = .ok (.aload_n 1, 1) := by decide +kernel
theorem dJ1_equals_b5fdf_19 : decode cJ1_equals_b5fdf 19 = .ok (.iload_n 2, 1) := by decide +kernel
theorem dJ1_equals_b5fdf_20 : decode cJ1_equals_b5fdf 20 = .ok (.baload, 1) := by decide +kernel
theorem dJ1_equals_b5fdf_21 : decode cJ1_equals_b5fdf 21 = .ok (.if_icmp .eq 5, 3) := by decide +kernel
theorem dJ1_equals_b5fdf_26 : decode cJ1_equals_b5fdf 26 = .ok (.iinc 2 1, 3) := by decide +kernel
theorem dJ1_equals_b5fdf_29 : decode cJ1_equals_b5fdf 29 = .ok (.goto (-20), 3) := by decide +kernel
theorem dJ1_equals_b5fdf_24 : decode cJ1_equals_b5fdf 24 = .ok (.iconst 0, 1) := by decide +kernel
theorem dJ1_equals_b5fdf_25 : decode cJ1_equals_b5fdf 25 = .ok (.ireturn, 1) := by decide +kernel
def o_J1_equals : List Cond := []
def v_J1_equals : List Cond := .code yJ1_equals_b5fdf cJ1_equals_b5fdf 3 (some .boolean) :: (o_J1_equals ++ [])
theorem mow_J1_equals : ∀ w ∈ o_J1_equals, w ∈ v_J1_equals := fun _ h => List.mem_cons_of_mem _ (List.mem_append_left _ h)
set_option maxRecDepth 20000 in
theorem gw_J1_equals : v_J1_equals.all goodWord = true := by decide +kernel
set_option maxHeartbeats 4000000 in
set_option maxRecDepth 100000 in
theorem c_J1_equals (l : Launch) (dC : Nat → ClassId) (dI : Nat → Nat → Nat) (tv : Nat) (tn : Nat) (tf : Nat → Int32) (tw : Nat) (um : Nat) (uf : Nat → Int32) (hNtn : tn ≤ 1000000) (hNum : um ≤ 1000000) (sz : Nat) : Met l yJ1_equals_b5fdf v_J1_equals ({ frames := 0, cells := 0, slots := 0, locals := 0 }) (va_Pc [.ref tv, .ref tw] (fun U => U.heap.size = sz ∧ va_P (dC, dI) vwQ [] U.heap ∧ va_K (dC, dI) vwQ [] U ∧ va_D (fun _ => True) [] ∧ va_T .byte tv tn (fun j => .int (tf j)) (va_A [] sz) U U.heap ∧ va_T .byte tw um (fun j => .int (uf j)) (va_A [] sz) U U.heap)) (va_Qi (fun (r : Int32) (_ : Unit) => ∃ z : Int, r = zI z ∧ (0 ≤ z ∧ z ≤ 1)) (fun (_ : Unit) (t : State) => va_P (dC, dI) vwQ [] t.heap ∧ va_K (dC, dI) vwQ [] t ∧ va_D (va_A [] sz) []) (va_A [] sz)) 0 0 (va_A [] sz) := by
  refine Met.ofW (cc := cJ1_equals_b5fdf) (maxL := 3) (ret := (some .boolean)) (by decide) rfl ?_
  intro p e s m args below meth c s₁ B hml hv
  obtain ⟨rfl, hsz, hP, hK, hD0, hp0, hp1⟩ := hv
  have hx := B.exec
  have hb := B.bytes
  have hr := B.returns
  have hts := atoms_spec (ws := v_J1_equals) B.pre
  have hown : s.vm.findClass RJ1 = some m.cls := findClass_of_methodNamed B.named
  have hlocks := B.notSynchronized
  have ow : ∀ {k : Nat} {w : Cond}, o_J1_equals[k]? = some w → w.before ([.ref tv, .ref tw] : List Value).toArray s = true := fun h => hts _ (mow_J1_equals _ (List.mem_of_getElem? h))
  subst hsz
  have hD := hD0.self (sz := s.heap.size)
  generalize hAe : va_A [] s.heap.size = A at hD hp0 hp1 ⊢
  have hA : ∀ q : Nat, s.heap.size ≤ q → A q := fun q h => by rw [← hAe]; exact Or.inr h
  have hS : va_S A s.heap s.heap [] := va_S.rf
  have hP : va_P (dC, dI) vwQ [] s.heap := hP
  have hl := lv_entry ([.ref tv, .ref tw]) (n := 3) (Nat.le_of_ble_eq_true rfl)
  rw [lg_entry_eq]
  generalize (lg_sl ([.ref tv, .ref tw]) ++ List.replicate (3 - (lg_sl ([.ref tv, .ref tw])).length) Slot.unset).toArray = ls at hl ⊢
  have hl : lv_has ls 3 [(0, .ref tv), (1, .ref tw)] := hl
  obtain ⟨H, hH⟩ : ∃ H, H = s.heap := ⟨_, rfl⟩
  rw [← hH] at hP
  have hS : va_S A s.heap H [] := by rw [hH]; exact hS
  rw [← hH]
  refine zW_cap (fun Q hQ => ?_)
  refine lv_aload_n hx hb dJ1_equals_b5fdf_0 rfl (lv_at hl 0 rfl) ?_
  refine va_tlen (v := zI ((tn : Int))) hx hb hp0 hS (zI_ofNat tn) dJ1_equals_b5fdf_1 ?_
  refine lv_aload_n hx hb dJ1_equals_b5fdf_2 rfl (lv_at hl 1 rfl) ?_
  refine va_tlen (v := zI ((um : Int))) hx hb hp1 hS (zI_ofNat um) dJ1_equals_b5fdf_3 ?_
  refine lv_icmp_ne (tgt := 34) hx hb dJ1_equals_b5fdf_4 (by decide) (fun b4 => ?_) (fun b4 => ?_)
  · have yb4 : ¬ ((tn : Int) : Int) = ((um : Int) : Int) := fun q => b4 ((zI_eq (a := (tn : Int)) (b := (um : Int)) (by omega) (by omega) (by omega) (by omega)).mpr q)
    refine lv_iconst (v := 0) hx hb dJ1_equals_b5fdf_34 (by decide) ?_
    subst hQ
    refine W.widen (k := 0) (n := 0) (Nat.le_of_ble_eq_true rfl) (Nat.le_of_ble_eq_true rfl) ?_
    exact W.zret (v := 0) hx hb hr (by decide) (fun t ht hW => ⟨⟨0, (), rfl, ⟨0, rfl, by omega⟩, by rw [ht]; exact hP, va_K.moved hW.alike hK, hD⟩, hS.F ht⟩) hS.2.2 dJ1_equals_b5fdf_35
  · have yb4 : ((tn : Int) : Int) = ((um : Int) : Int) := (zI_eq (a := (tn : Int)) (b := (um : Int)) (by omega) (by omega) (by omega) (by omega)).mp b4
    refine lv_iconst (v := 0) hx hb dJ1_equals_b5fdf_7 (by decide) ?_
    refine lv_istore_n (lv' := [(2, .int 0), (0, .ref tv), (1, .ref tw)]) hx hb dJ1_equals_b5fdf_8 rfl hl (by decide) rfl (fun ls hl => ?_)
    have key9 : ∀ n9 : Nat, ∀ (d9_2 : Int) (ls : Array Slot) (H : Heap) (locs : List Loc), (0 ≤ d9_2 ∧ d9_2 ≤ (tn : Int)) → ((((tn : Int)) - (d9_2) : Int).toNat) < n9 → lv_has ls 3 [(0, .ref tv), (1, .ref tw), (2, .int (zI (d9_2)))] → va_P (dC, dI) vwQ [] H → va_D A [] → va_S A s.heap H locs → W p l e (headSpec v_J1_equals ({ frames := 0, cells := 0, slots := 0, locals := 0 })).room s m ([.ref tv, .ref tw] : List Value).toArray below meth c H locs 0 0 Q (F0 m 9 ls []) := by
      intro n9
      induction n9 with
      | zero => intro d9_2 ls H locs jd9_2 hm9; exact absurd hm9 (by omega)
      | succ n9 ih9 =>
        intro d9_2 ls H locs jd9_2 hm9 hl hP hD hS
        refine lv_iload_n hx hb dJ1_equals_b5fdf_9 rfl (lv_at hl 2 rfl) ?_
        refine lv_aload_n hx hb dJ1_equals_b5fdf_10 rfl (lv_at hl 0 rfl) ?_
        refine va_tlen (v := zI ((tn : Int))) hx hb hp0 hS (zI_ofNat tn) dJ1_equals_b5fdf_11 ?_
        refine lv_icmp_ge (tgt := 32) hx hb dJ1_equals_b5fdf_12 (by decide) (fun b12 => ?_) (fun b12 => ?_)
        · have yb12 : ((tn : Int) : Int) ≤ (d9_2 : Int) := (zI_le (a := (tn : Int)) (b := d9_2) (by omega) (by omega) (by omega) (by omega)).mp b12
          refine lv_iconst (v := 1) hx hb dJ1_equals_b5fdf_32 (by decide) ?_
          subst hQ
          refine W.widen (k := 0) (n := 0) (Nat.le_of_ble_eq_true rfl) (Nat.le_of_ble_eq_true rfl) ?_
          exact W.zret (v := 1) hx hb hr (by decide) (fun t ht hW => ⟨⟨1, (), rfl, ⟨1, rfl, by omega⟩, by rw [ht]; exact hP, va_K.moved hW.alike hK, hD⟩, hS.F ht⟩) hS.2.2 dJ1_equals_b5fdf_33
        · have yb12 : ¬ ((tn : Int) : Int) ≤ (d9_2 : Int) := fun q => b12 ((zI_le (a := (tn : Int)) (b := d9_2) (by omega) (by omega) (by omega) (by omega)).mpr q)
          refine lv_aload_n hx hb dJ1_equals_b5fdf_15 rfl (lv_at hl 0 rfl) ?_
          refine lv_iload_n hx hb dJ1_equals_b5fdf_16 rfl (lv_at hl 2 rfl) ?_
          refine va_tb hx hb hp0 hS (zI_in (a := d9_2) (n := tn) (by omega) (by omega) (by omega)) rfl dJ1_equals_b5fdf_17 ?_
          refine lv_topi (fun x_1 _ => ?_)
          refine lv_aload_n hx hb dJ1_equals_b5fdf_18 rfl (lv_at hl 1 rfl) ?_
          refine lv_iload_n hx hb dJ1_equals_b5fdf_19 rfl (lv_at hl 2 rfl) ?_
          refine va_tb hx hb hp1 hS (zI_in (a := d9_2) (n := um) (by omega) (by omega) (by omega)) rfl dJ1_equals_b5fdf_20 ?_
          refine lv_topi (fun x_2 _ => ?_)
          refine lv_icmp_eq (tgt := 26) hx hb dJ1_equals_b5fdf_21 (by decide) (fun b21 => ?_) (fun b21 => ?_)
          · refine lv_iinc (v := zI (d9_2 + 1)) (lv' := [(2, .int (zI (d9_2 + 1))), (0, .ref tv), (1, .ref tw)]) hx hb dJ1_equals_b5fdf_26 hl (k := 2) rfl (zI_add (d9_2) (1)) (by decide) rfl (fun ls hl => ?_)
            refine lv_goto (tgt := 9) hx hb dJ1_equals_b5fdf_29 (by decide) ?_
            exact ih9 (d9_2 + 1) ls H _ (by omega) (by omega) (lv_sub hl [1, 2, 0] rfl) hP hD hS
          · refine lv_iconst (v := 0) hx hb dJ1_equals_b5fdf_24 (by decide) ?_
            subst hQ
            refine W.widen (k := 0) (n := 0) (Nat.le_of_ble_eq_true rfl) (Nat.le_of_ble_eq_true rfl) ?_
            exact W.zret (v := 0) hx hb hr (by decide) (fun t ht hW => ⟨⟨0, (), rfl, ⟨0, rfl, by omega⟩, by rw [ht]; exact hP, va_K.moved hW.alike hK, hD⟩, hS.F ht⟩) hS.2.2 dJ1_equals_b5fdf_25
    exact key9 ((((tn : Int)) - (0) : Int).toNat + 1) 0 ls H _ (by omega) (by omega) (lv_sub hl [1, 2, 0] rfl) hP hD hS
theorem dJ0_equals_9ea2d_0 : decode cJ0_equals_9ea2d 0 = .ok (.aload_n 0, 1) := by decide +kernel
theorem dJ0_equals_9ea2d_1 : decode cJ0_equals_9ea2d 1 = .ok (.aload_n 1, 1) := by decide +kernel
theorem dJ0_equals_9ea2d_2 : decode cJ0_equals_9ea2d 2 = .ok (.if_acmp .ne 5, 3) := by decide +kernel
theorem dJ0_equals_9ea2d_7 : decode cJ0_equals_9ea2d 7 = .ok (.aload_n 1, 1) := by decide +kernel
theorem dJ0_equals_9ea2d_8 : decode cJ0_equals_9ea2d 8 = .ok (.instanceof 10, 3) := by decide +kernel
theorem dJ0_equals_9ea2d_11 : decode cJ0_equals_9ea2d 11 = .ok (.ifCond .eq 43, 3) := by decide +kernel
theorem dJ0_equals_9ea2d_14 : decode cJ0_equals_9ea2d 14 = .ok (.aload_n 1, 1) := by decide +kernel
theorem dJ0_equals_9ea2d_15 : decode cJ0_equals_9ea2d 15 = .ok (.checkcast 10, 3) := by decide +kernel
theorem dJ0_equals_9ea2d_18 : decode cJ0_equals_9ea2d 18 = .ok (.astore_n 2, 1) := by decide +kernel
theorem dJ0_equals_9ea2d_19 : decode cJ0_equals_9ea2d 19 = .ok (.getstatic 38, 3) := by decide +kernel
theorem dJ0_equals_9ea2d_22 : decode cJ0_equals_9ea2d 22 = .ok (.ifCond .eq 14, 3) := by decide +kernel
theorem dJ0_equals_9ea2d_25 : decode cJ0_equals_9ea2d 25 = .ok (.aload_n 0, 1) := by decide +kernel
theorem dJ0_equals_9ea2d_26 : decode cJ0_equals_9ea2d 26 = .ok (.getfield 15, 3) := by decide +kernel
theorem dJ0_equals_9ea2d_29 : decode cJ0_equals_9ea2d 29 = .ok (.aload_n 2, 1) := by decide +kernel
theorem dJ0_equals_9ea2d_30 : decode cJ0_equals_9ea2d 30 = .ok (.getfield 15, 3) := by decide +kernel
theorem dJ0_equals_9ea2d_33 : decode cJ0_equals_9ea2d 33 = .ok (.if_icmp .ne 21, 3) := by decide +kernel
theorem dJ0_equals_9ea2d_36 : decode cJ0_equals_9ea2d 36 = .ok (.aload_n 0, 1) := by decide +kernel
theorem dJ0_equals_9ea2d_37 : decode cJ0_equals_9ea2d 37 = .ok (.getfield 9, 3) := by decide +kernel
theorem dJ0_equals_9ea2d_40 : decode cJ0_equals_9ea2d 40 = .ok (.aload_n 2, 1) := by decide +kernel
theorem dJ0_equals_9ea2d_41 : decode cJ0_equals_9ea2d 41 = .ok (.getfield 9, 3) := by decide +kernel
theorem dJ0_equals_9ea2d_44 : decode cJ0_equals_9ea2d 44 = .ok (.invokestatic 541, 3) := by decide +kernel
theorem dJ0_equals_9ea2d_47 : decode cJ0_equals_9ea2d 47 = .ok (.ifCond .eq 7, 3) := by decide +kernel
theorem dJ0_equals_9ea2d_54 : decode cJ0_equals_9ea2d 54 = .ok (.iconst 0, 1) := by decide +kernel
theorem dJ0_equals_9ea2d_55 : decode cJ0_equals_9ea2d 55 = .ok (.ireturn, 1) := by decide +kernel
theorem dJ0_equals_9ea2d_50 : decode cJ0_equals_9ea2d 50 = .ok (.iconst 1, 1) := by decide +kernel
theorem dJ0_equals_9ea2d_51 : decode cJ0_equals_9ea2d 51 = .ok (.goto 4, 3) := by decide +kernel
theorem dJ0_equals_9ea2d_5 : decode cJ0_equals_9ea2d 5 = .ok (.iconst 1, 1) := by decide +kernel
theorem dJ0_equals_9ea2d_6 : decode cJ0_equals_9ea2d 6 = .ok (.ireturn, 1) := by decide +kernel
def o_J0_equals : List Cond := [.classLink RJ0 10 "java/lang/String", .fieldLink RJ0 38 "java/lang/String" "COMPACT_STRINGS" "Z", .fieldLink RJ0 15 "java/lang/String" "coder" "B", .fieldLink RJ0 9 "java/lang/String" "value" "[B", .methodLink RJ0 541 yJ1_equals_b5fdf, .static yJ1_equals_b5fdf, .initialized RJ1]
def v_J0_equals : List Cond := .code yJ0_equals_9ea2d cJ0_equals_9ea2d 3 (some .boolean) :: (o_J0_equals ++ (v_J1_equals ++ []))
theorem mow_J0_equals : ∀ w ∈ o_J0_equals, w ∈ v_J0_equals := fun _ h => List.mem_cons_of_mem _ (List.mem_append_left _ h)
theorem mem_J0_equals_0 : ∀ w ∈ v_J1_equals, w ∈ v_J0_equals := fun _ h => List.mem_cons_of_mem _ (List.mem_append_right _ (List.mem_append_left _ h))
set_option maxRecDepth 20000 in
theorem gw_J0_equals : v_J0_equals.all goodWord = true := by decide +kernel
set_option maxRecDepth 20000 in
theorem g_J0_equals_J1_equals : GoodIn v_J0_equals (va_wsS RJ0 541 yJ1_equals_b5fdf v_J1_equals) := goodIn_app (goodIn_sub (fun w h => mow_J0_equals w (by revert w h; decide +kernel)) (by decide +kernel)) (goodIn_sub mem_J0_equals_0 gw_J1_equals)
set_option maxHeartbeats 4000000 in
set_option maxRecDepth 100000 in
theorem c_J0_equals (l : Launch) (dC : Nat → ClassId) (dI : Nat → Nat → Nat) (tx : Nat) (tv : Nat) (tn : Nat) (tf : Nat → Int32) (tz : Nat) (tw : Nat) (um : Nat) (uf : Nat → Int32) (hNtn : tn ≤ 1000000) (hNum : um ≤ 1000000) (sz : Nat) : Met l yJ0_equals_9ea2d v_J0_equals ({ frames := 1, cells := 0, slots := 0, locals := 22 }) (va_Pc [.ref tx, .ref tz] (fun U => U.heap.size = sz ∧ va_P (dC, dI) vwQ [] U.heap ∧ va_K (dC, dI) vwQ [] U ∧ va_D (fun _ => True) [] ∧ vs_S tz tw um uf (va_A [] sz) U U.heap ∧ va_Z "java/lang/String" "COMPACT_STRINGS" "Z" (.int 1) (va_A [] sz) U U.heap ∧ vs_S tx tv tn tf (va_A [] sz) U U.heap)) (va_Qi (fun (r : Int32) (_ : Unit) => ∃ z : Int, r = zI z ∧ (0 ≤ z ∧ z ≤ 1)) (fun (_ : Unit) (t : State) => va_P (dC, dI) vwQ [] t.heap ∧ va_K (dC, dI) vwQ [] t ∧ va_D (va_A [] sz) []) (va_A [] sz)) 0 0 (va_A [] sz) := by
  refine Met.ofW (cc := cJ0_equals_9ea2d) (maxL := 3) (ret := (some .boolean)) (by decide) rfl ?_
  intro p e s m args below meth c s₁ B hml hv
  obtain ⟨rfl, hsz, hP, hK, hD0, hp0, hp1, hp2⟩ := hv
  have hx := B.exec
  have hb := B.bytes
  have hr := B.returns
  have hts := atoms_spec (ws := v_J0_equals) B.pre
  have hown : s.vm.findClass RJ0 = some m.cls := findClass_of_methodNamed B.named
  have hlocks := B.notSynchronized
  have ow : ∀ {k : Nat} {w : Cond}, o_J0_equals[k]? = some w → w.before ([.ref tx, .ref tz] : List Value).toArray s = true := fun h => hts _ (mow_J0_equals _ (List.mem_of_getElem? h))
  subst hsz
  have hD := hD0.self (sz := s.heap.size)
  generalize hAe : va_A [] s.heap.size = A at hD hp0 hp1 hp2 ⊢
  have hA : ∀ q : Nat, s.heap.size ≤ q → A q := fun q h => by rw [← hAe]; exact Or.inr h
  have hS : va_S A s.heap s.heap [] := va_S.rf
  have hP : va_P (dC, dI) vwQ [] s.heap := hP
  have hl := lv_entry ([.ref tx, .ref tz]) (n := 3) (Nat.le_of_ble_eq_true rfl)
  rw [lg_entry_eq]
  generalize (lg_sl ([.ref tx, .ref tz]) ++ List.replicate (3 - (lg_sl ([.ref tx, .ref tz])).length) Slot.unset).toArray = ls at hl ⊢
  have hl : lv_has ls 3 [(0, .ref tx), (1, .ref tz)] := hl
  obtain ⟨H, hH⟩ : ∃ H, H = s.heap := ⟨_, rfl⟩
  rw [← hH] at hP
  have hS : va_S A s.heap H [] := by rw [hH]; exact hS
  rw [← hH]
  refine zW_cap (fun Q hQ => ?_)
  refine lv_aload_n hx hb dJ0_equals_9ea2d_0 rfl (lv_at hl 0 rfl) ?_
  refine lv_aload_n hx hb dJ0_equals_9ea2d_1 rfl (lv_at hl 1 rfl) ?_
  refine lv_acmp_ne (rx := some tx) (ry := some tz) (tgt := 7) hx hb dJ0_equals_9ea2d_2 (by decide) (fun _ => ?_) (fun _ => ?_)
  · skip
    refine lv_aload_n hx hb dJ0_equals_9ea2d_7 rfl (lv_at hl 1 rfl) ?_
    refine va_instE hx hb hown (ow (k := 0) rfl) (vs_S.recv hp0 hS) dJ0_equals_9ea2d_8 ?_
    refine lv_if_eq (tgt := 54) hx hb dJ0_equals_9ea2d_11 (by decide) (fun h9 => absurd h9 (by decide)) (fun _ => ?_)
    refine lv_aload_n hx hb dJ0_equals_9ea2d_14 rfl (lv_at hl 1 rfl) ?_
    refine va_castE hx hb hown (ow (k := 0) rfl) (vs_S.recv hp0 hS) dJ0_equals_9ea2d_15 ?_
    refine lv_astore_n (lv' := [(2, .ref tz), (0, .ref tx), (1, .ref tz)]) hx hb dJ0_equals_9ea2d_18 rfl hl (by decide) rfl (fun ls hl => ?_)
    refine va_gets (v := .int 1) hx hb hp1 hS hown (ow (k := 1) rfl) (fun _ h9 => h9) dJ0_equals_9ea2d_19 ?_
    refine lv_if_eq (tgt := 36) hx hb dJ0_equals_9ea2d_22 (by decide) (fun h9 => absurd h9 (by decide)) (fun _ => ?_)
    refine lv_aload_n hx hb dJ0_equals_9ea2d_25 rfl (lv_at hl 1 rfl) ?_
    refine vk_getf (v := .int 0) hx hb hp2.2.1 hS hown (ow (k := 2) rfl) (fun _ h9 => h9) dJ0_equals_9ea2d_26 ?_
    refine lv_aload_n hx hb dJ0_equals_9ea2d_29 rfl (lv_at hl 0 rfl) ?_
    refine vk_getf (v := .int 0) hx hb hp0.2.1 hS hown (ow (k := 2) rfl) (fun _ h9 => h9) dJ0_equals_9ea2d_30 ?_
    refine lv_icmp_ne (tgt := 54) hx hb dJ0_equals_9ea2d_33 (by decide) (fun h9 => absurd h9 (by decide)) (fun _ => ?_)
    refine lv_aload_n hx hb dJ0_equals_9ea2d_36 rfl (lv_at hl 1 rfl) ?_
    refine vk_getf (v := .ref tv) hx hb hp2.2.2.1 hS hown (ow (k := 3) rfl) (fun _ h9 => h9) dJ0_equals_9ea2d_37 ?_
    refine lv_aload_n hx hb dJ0_equals_9ea2d_40 rfl (lv_at hl 0 rfl) ?_
    refine vk_getf (v := .ref tw) hx hb hp0.2.2.1 hS hown (ow (k := 3) rfl) (fun _ h9 => h9) dJ0_equals_9ea2d_41 ?_
    have hPc := hP.sub (ws' := []) [] rfl
    have hDc := hD.sub (ws' := []) [] (by decide) rfl
    have hKc := hK.sub (tys' := []) [] rfl
    have hFc := va_free (wc := []) hD hS hA [] rfl
    refine va_calli (va_runS (As := [.ref tv, .ref tw]) (rest := []) ⟨hx, hb, hml, hown, hts⟩ (c_J1_equals l dC dI tv tn tf tw um uf (by omega) (by omega) H.size) (va_cwS 2 hts g_J0_equals_J1_equals rfl rfl rfl (by decide +kernel) ⟨(Nat.le_of_ble_eq_true rfl), (Nat.le_of_ble_eq_true rfl)⟩) ⟨fun a U g mk q => by obtain ⟨q0, q1, qP, qK, qD, e0, e1⟩ := q; exact ⟨q0, q1, qP, va_K.moved (u := U) (U := U.calling g mk a) (Vm.Alike.refl U.vm) qK, qD, va_T.moved (u := U) (U := U.calling g mk a) (Vm.Alike.refl U.vm) e0, va_T.moved (u := U) (U := U.calling g mk a) (Vm.Alike.refl U.vm) e1⟩, fun U hU hW => ⟨rfl, by rw [hU], by rw [hU]; exact hPc, va_K.moved hW.alike hKc, hDc.weaken (fun _ _ _ _ => trivial), by rw [hU]; exact va_T.narrow (va_T.moved hW.alike (va_T.kept hp2.2.2.2 hS.2.1)) hFc, by rw [hU]; exact va_T.narrow (va_T.moved hW.alike (va_T.kept hp0.2.2.2 hS.2.1)) hFc⟩⟩ rfl rfl hl.1 rfl (lv_room (Nat.le_of_ble_eq_true rfl)) dJ0_equals_9ea2d_44 ⟨(Nat.le_of_ble_eq_true rfl), (Nat.le_of_ble_eq_true rfl)⟩) hS (fun q _ h => hFc q h) hFc (fun r_1 u t H1 locs ht hvm hw hB hz1 hk1 hS => ?_)
    obtain ⟨hP1, hK1, hD1⟩ := hB
    rw [ht] at hP1
    have hK1 := va_K.moved hvm.symm hK1
    obtain ⟨hP, hD⟩ := va_join (wr := []) (w1 := []) hP hD [] [] rfl rfl (by decide) (by decide) hk1 hFc hP1 hD1
    have hK := (hK.sub (tys' := []) [] rfl).app hK1
    generalize H1 = H at hP hS ⊢
    have hP : va_P (dC, dI) vwQ [] H := hP
    have hD : va_D A [] := hD
    have hK : va_K (dC, dI) vwQ [] s := hK
    refine W.widen (k := 0) (n := 0) (Nat.le_of_ble_eq_true rfl) (Nat.le_of_ble_eq_true rfl) ?_
    have hw_2 := hw
    obtain ⟨z_3, rfl, hzz_3⟩ := hw_2
    refine lv_if_eq (tgt := 54) hx hb dJ0_equals_9ea2d_47 (by decide) (fun b47 => ?_) (fun b47 => ?_)
    · have yb47 : (z_3 : Int) = (0 : Int) := (zI_eq (a := z_3) (b := 0) (by omega) (by omega) (by omega) (by omega)).mp b47
      refine lv_iconst (v := 0) hx hb dJ0_equals_9ea2d_54 (by decide) ?_
      subst hQ
      refine W.widen (k := 0) (n := 0) (Nat.le_of_ble_eq_true rfl) (Nat.le_of_ble_eq_true rfl) ?_
      exact W.zret (v := 0) hx hb hr (by decide) (fun t ht hW => ⟨⟨0, (), rfl, ⟨0, rfl, by omega⟩, by rw [ht]; exact hP, va_K.moved hW.alike hK, hD⟩, hS.F ht⟩) hS.2.2 dJ0_equals_9ea2d_55
    · have yb47 : ¬ (z_3 : Int) = (0 : Int) := fun q => b47 ((zI_eq (a := z_3) (b := 0) (by omega) (by omega) (by omega) (by omega)).mpr q)
      refine lv_iconst (v := 1) hx hb dJ0_equals_9ea2d_50 (by decide) ?_
      refine lv_goto (tgt := 55) hx hb dJ0_equals_9ea2d_51 (by decide) ?_
      subst hQ
      refine W.widen (k := 0) (n := 0) (Nat.le_of_ble_eq_true rfl) (Nat.le_of_ble_eq_true rfl) ?_
      exact W.zret (v := 1) hx hb hr (by decide) (fun t ht hW => ⟨⟨1, (), rfl, ⟨1, rfl, by omega⟩, by rw [ht]; exact hP, va_K.moved hW.alike hK, hD⟩, hS.F ht⟩) hS.2.2 dJ0_equals_9ea2d_55
  · skip
    refine lv_iconst (v := 1) hx hb dJ0_equals_9ea2d_5 (by decide) ?_
    subst hQ
    refine W.widen (k := 0) (n := 0) (Nat.le_of_ble_eq_true rfl) (Nat.le_of_ble_eq_true rfl) ?_
    exact W.zret (v := 1) hx hb hr (by decide) (fun t ht hW => ⟨⟨1, (), rfl, ⟨1, rfl, by omega⟩, by rw [ht]; exact hP, va_K.moved hW.alike hK, hD⟩, hS.F ht⟩) hS.2.2 dJ0_equals_9ea2d_6
