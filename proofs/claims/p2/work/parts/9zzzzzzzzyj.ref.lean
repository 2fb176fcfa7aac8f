theorem dX16_no_0 : decode cX16_no 0 = .ok (.new 124, 3) := by decide +kernel
theorem dX16_no_3 : decode cX16_no 3 = .ok (.dup, 1) := by decide +kernel
theorem dX16_no_4 : decode cX16_no 4 = .ok (.aload_n 0, 1) := by decide +kernel
theorem dX16_no_5 : decode cX16_no 5 = .ok (.getfield 47, 3) := by decide +kernel
theorem dX16_no_8 : decode cX16_no 8 = .ok (.invokespecial 126, 3) := by decide +kernel
theorem dX16_no_11 : decode cX16_no 11 = .ok (.areturn, 1) := by decide +kernel
def o_X16_no : List Cond := [.classLink RX16 124 RX18, .instantiable RX18 7, .initialized RX18, .fieldLink RX16 47 "SsaForgeModel$Reader" "place" "I", .methodLink RX16 126 yX18_init, .instanceMethod yX18_init]
def v_X16_no : List Cond := .code yX16_no cX16_no 1 (some (.object "SsaForgeModel$Wrong")) :: (o_X16_no ++ (wsX180 ++ (wsX160 ++ (v_X18_init ++ []))))
theorem mow_X16_no : ∀ w ∈ o_X16_no, w ∈ v_X16_no := fun _ h => List.mem_cons_of_mem _ (List.mem_append_left _ h)
theorem mem_X16_no_0 : ∀ w ∈ wsX180, w ∈ v_X16_no := fun _ h => List.mem_cons_of_mem _ (List.mem_append_right _ (List.mem_append_left _ h))
theorem mem_X16_no_1 : ∀ w ∈ wsX160, w ∈ v_X16_no := fun _ h => List.mem_cons_of_mem _ (List.mem_append_right _ (List.mem_append_right _ (List.mem_append_left _ h)))
theorem mem_X16_no_2 : ∀ w ∈ v_X18_init, w ∈ v_X16_no := fun _ h => List.mem_cons_of_mem _ (List.mem_append_right _ (List.mem_append_right _ (List.mem_append_right _ (List.mem_append_left _ h))))
set_option maxRecDepth 20000 in
theorem gw_X16_no : v_X16_no.all goodWord = true := by decide +kernel
set_option maxHeartbeats 4000000 in
set_option maxRecDepth 100000 in
theorem c_X16_no (l : Launch) (dC : Nat → ClassId) (dI : Nat → Nat → Nat) (h0 : Nat) (v16_0 : Value) (v16_1 : Value) (v16_2 : Value) (v16_3 : Value) (z16_place : Int) (v16_5 : Value) (v16_6 : Value) (v16_7 : Value) (v16_8 : Value) (v16_9 : Value) (v16_10 : Value) (v16_11 : Value) (v16_12 : Value) (v16_13 : Value) (hNz16_place : 0 ≤ z16_place ∧ z16_place ≤ 8192) (sz : Nat) : Met l yX16_no v_X16_no ({ frames := 5, cells := 1, slots := 7, locals := 105 }) (va_Pc [.ref h0] (fun U => U.heap.size = sz ∧ va_P (dC, dI) vwQ [(h0, .inr (14, [v16_0, v16_1, v16_2, v16_3, .int (zI (z16_place)), v16_5, v16_6, v16_7, v16_8, v16_9, v16_10, v16_11, v16_12, v16_13]))] U.heap ∧ va_K (dC, dI) vwQ [] U ∧ va_D (fun _ => True) [(h0, .inr (14, [v16_0, v16_1, v16_2, v16_3, .int (zI (z16_place)), v16_5, v16_6, v16_7, v16_8, v16_9, v16_10, v16_11, v16_12, v16_13]))] ∧ vx_Zq Bundle.tN "UNASSIGNED_STACK" Bundle.steD (va_A [(h0, .inr (14, [v16_0, v16_1, v16_2, v16_3, .int (zI (z16_place)), v16_5, v16_6, v16_7, v16_8, v16_9, v16_10, v16_11, v16_12, v16_13]))] sz) U U.heap ∧ vx_Zq Bundle.tN "SUPPRESSED_SENTINEL" Bundle.listD (va_A [(h0, .inr (14, [v16_0, v16_1, v16_2, v16_3, .int (zI (z16_place)), v16_5, v16_6, v16_7, v16_8, v16_9, v16_10, v16_11, v16_12, v16_13]))] sz) U U.heap)) (va_Qr (fun _ : Unit => True) (fun (_ : Unit) (rq : Nat) (t : State) => ∃ (zq_9 : Int), (0 ≤ zq_9 ∧ zq_9 ≤ 8192) ∧ va_P (dC, dI) vwQ [(h0, .inr (14, [v16_0, v16_1, v16_2, v16_3, .int (zI (z16_place)), v16_5, v16_6, v16_7, v16_8, v16_9, v16_10, v16_11, v16_12, v16_13])), (rq, .inr (15, [.null, .null, .null, .null, .null, .int 0, .int (zI (zq_9))]))] t.heap ∧ va_K (dC, dI) vwQ [] t ∧ va_D (va_A [(h0, .inr (14, [v16_0, v16_1, v16_2, v16_3, .int (zI (z16_place)), v16_5, v16_6, v16_7, v16_8, v16_9, v16_10, v16_11, v16_12, v16_13]))] sz) [(h0, .inr (14, [v16_0, v16_1, v16_2, v16_3, .int (zI (z16_place)), v16_5, v16_6, v16_7, v16_8, v16_9, v16_10, v16_11, v16_12, v16_13])), (rq, .inr (15, [.null, .null, .null, .null, .null, .int 0, .int (zI (zq_9))]))]) (va_A [(h0, .inr (14, [v16_0, v16_1, v16_2, v16_3, .int (zI (z16_place)), v16_5, v16_6, v16_7, v16_8, v16_9, v16_10, v16_11, v16_12, v16_13]))] sz)) 1 7 (va_A [(h0, .inr (14, [v16_0, v16_1, v16_2, v16_3, .int (zI (z16_place)), v16_5, v16_6, v16_7, v16_8, v16_9, v16_10, v16_11, v16_12, v16_13]))] sz) := by
  refine Met.ofW (cc := cX16_no) (maxL := 1) (ret := (some (.object "SsaForgeModel$Wrong"))) (by decide) rfl ?_
  intro p e s m args below meth c s₁ B hml hv
  obtain ⟨rfl, hsz, hP, hK, hD0, hp0, hp1⟩ := hv
  have hx := B.exec
  have hb := B.bytes
  have hr := B.returns
  have hts := atoms_spec (ws := v_X16_no) B.pre
  have hown : s.vm.findClass RX16 = some m.cls := findClass_of_methodNamed B.named
  have hlocks := B.notSynchronized
  have ow : ∀ {k : Nat} {w : Cond}, o_X16_no[k]? = some w → w.before ([.ref h0] : List Value).toArray s = true := fun h => hts _ (mow_X16_no _ (List.mem_of_getElem? h))
  subst hsz
  have hD := hD0.self (sz := s.heap.size)
  generalize hAe : va_A [(h0, .inr (14, [v16_0, v16_1, v16_2, v16_3, .int (zI (z16_place)), v16_5, v16_6, v16_7, v16_8, v16_9, v16_10, v16_11, v16_12, v16_13]))] s.heap.size = A at hD hp0 hp1 ⊢
  have hA : ∀ q : Nat, s.heap.size ≤ q → A q := fun q h => by rw [← hAe]; exact Or.inr h
  have hS : va_S A s.heap s.heap [] := va_S.rf
  have hP : va_P (dC, dI) vwQ [(h0, .inr (14, [v16_0, v16_1, v16_2, v16_3, .int (zI (z16_place)), v16_5, v16_6, v16_7, v16_8, v16_9, v16_10, v16_11, v16_12, v16_13]))] s.heap := hP
  have hl := lv_entry ([.ref h0]) (n := 1) (Nat.le_of_ble_eq_true rfl)
  rw [lg_entry_eq]
  generalize (lg_sl ([.ref h0]) ++ List.replicate (1 - (lg_sl ([.ref h0])).length) Slot.unset).toArray = ls at hl ⊢
  have hl : lv_has ls 1 [(0, .ref h0)] := hl
  obtain ⟨H, hH⟩ : ∃ H, H = s.heap := ⟨_, rfl⟩
  rw [← hH] at hP
  have hS : va_S A s.heap H [] := by rw [hH]; exact hS
  rw [← hH]
  refine zW_cap (fun Q hQ => ?_)
  refine va_new (ci := 15) (fs := [.null, .null, .null, .null, .null, .int 0, .int 0]) (C := RX18) (T := TX18) (N := 7) hx hb hts mem_X16_no_0 tyX18 tyX18_ok hown (ow (k := 0) rfl) (ow (k := 1) rfl) (ow (k := 2) rfl) hK hP hD hS hA rfl (df_X18) (Nat.le_of_ble_eq_true rfl) (Nat.le_of_ble_eq_true rfl) dX16_no_0 (fun q_1 H hP hD hS => ?_)
  have hP : va_P (dC, dI) vwQ [(h0, .inr (14, [v16_0, v16_1, v16_2, v16_3, .int (zI (z16_place)), v16_5, v16_6, v16_7, v16_8, v16_9, v16_10, v16_11, v16_12, v16_13])), (q_1, .inr (15, [.null, .null, .null, .null, .null, .int 0, .int 0]))] H := hP
  have hD : va_D A [(h0, .inr (14, [v16_0, v16_1, v16_2, v16_3, .int (zI (z16_place)), v16_5, v16_6, v16_7, v16_8, v16_9, v16_10, v16_11, v16_12, v16_13])), (q_1, .inr (15, [.null, .null, .null, .null, .null, .int 0, .int 0]))] := hD
  refine W.widen (k := 1) (n := 7) (Nat.le_of_ble_eq_true rfl) (Nat.le_of_ble_eq_true rfl) ?_
  refine lv_dup hx hb dX16_no_3 rfl ?_
  refine lv_aload_n hx hb dX16_no_4 rfl (lv_at hl 0 rfl) ?_
  refine va_get (D := (dC, dI)) (ci := 14) (v := .int (zI (z16_place))) (C := RX16) (T := TX16) (N := 14) hx hb hts mem_X16_no_1 hown hK hP 0 rfl rfl 4 (by decide) (ow (k := 3) rfl) (fun _ h9 => h9) rfl dX16_no_5 ?_
  have hPc := hP.sub (ws' := [(q_1, .inr (15, [.null, .null, .null, .null, .null, .int 0, .int 0]))]) [1] rfl
  have hDc := hD.sub (ws' := [(q_1, .inr (15, [.null, .null, .null, .null, .null, .int 0, .int 0]))]) [1] (by decide) rfl
  have hKc := hK.sub (tys' := []) [] rfl
  have hFc := va_free (wc := [(q_1, .inr (15, [.null, .null, .null, .null, .null, .int 0, .int 0]))]) hD hS hA [1] rfl
  refine va_callv (va_runI (As := [.int (zI (z16_place))]) (rest := [.ref q_1]) ⟨hx, hb, hml, hown, hts⟩ (c_X18_init l dC dI q_1 z16_place (by omega) H.size) (cwI 1 hts (goodIn_sub mem_X16_no_2 gw_X18_init) rfl rfl rfl (ow (k := 2) rfl) (ow (k := 4) rfl) (ow (k := 5) rfl) rfl (by decide +kernel) ⟨(Nat.le_of_ble_eq_true rfl), (Nat.le_of_ble_eq_true rfl)⟩) ⟨fun a U g mk q => by obtain ⟨q0, q1, qP, qK, qD, e0, e1⟩ := q; exact ⟨q0, q1, qP, va_K.moved (u := U) (U := U.calling g mk a) (Vm.Alike.refl U.vm) qK, qD, vx_Zq.moved (u := U) (U := U.calling g mk a) (Vm.Alike.refl U.vm) e0, vx_Zq.moved (u := U) (U := U.calling g mk a) (Vm.Alike.refl U.vm) e1⟩, fun U hU hW => ⟨rfl, by rw [hU], by rw [hU]; exact hPc, va_K.moved hW.alike hKc, hDc.weaken (fun _ _ _ _ => trivial), by rw [hU]; exact vx_Zq.narrow (vx_Zq.moved hW.alike (vx_Zq.kept hp0 hS.2.1)) hFc, by rw [hU]; exact vx_Zq.narrow (vx_Zq.moved hW.alike (vx_Zq.kept hp1 hS.2.1)) hFc⟩⟩ rfl rfl hl.1 rfl (lv_room (Nat.le_of_ble_eq_true rfl)) dX16_no_8 ⟨(Nat.le_of_ble_eq_true rfl), (Nat.le_of_ble_eq_true rfl)⟩) hS (fun q _ h => hFc q h) hFc (fun  u t H1 locs ht hvm hw hB hz1 hk1 hS => ?_)
  obtain ⟨z0_2, hxt_2, hP1, hK1, hD1⟩ := hB
  rw [ht] at hP1
  have hK1 := va_K.moved hvm.symm hK1
  obtain ⟨hP, hD⟩ := va_join (wr := [(h0, .inr (14, [v16_0, v16_1, v16_2, v16_3, .int (zI (z16_place)), v16_5, v16_6, v16_7, v16_8, v16_9, v16_10, v16_11, v16_12, v16_13]))]) (w1 := [(q_1, .inr (15, [.null, .null, .null, .null, .null, .int 0, .int (zI (z0_2))]))]) hP hD [1] [0] rfl rfl (by decide) (by decide) hk1 hFc hP1 hD1
  have hK := (hK.sub (tys' := []) [] rfl).app hK1
  generalize H1 = H at hP hS ⊢
  have hP : va_P (dC, dI) vwQ [(h0, .inr (14, [v16_0, v16_1, v16_2, v16_3, .int (zI (z16_place)), v16_5, v16_6, v16_7, v16_8, v16_9, v16_10, v16_11, v16_12, v16_13])), (q_1, .inr (15, [.null, .null, .null, .null, .null, .int 0, .int (zI (z0_2))]))] H := hP
  have hD : va_D A [(h0, .inr (14, [v16_0, v16_1, v16_2, v16_3, .int (zI (z16_place)), v16_5, v16_6, v16_7, v16_8, v16_9, v16_10, v16_11, v16_12, v16_13])), (q_1, .inr (15, [.null, .null, .null, .null, .null, .int 0, .int (zI (z0_2))]))] := hD
  have hK : va_K (dC, dI) vwQ [] s := hK
  refine W.widen (k := 1) (n := 7) (Nat.le_of_ble_eq_true rfl) (Nat.le_of_ble_eq_true rfl) ?_
  have rk_3 := hxt_2
  subst hQ
  refine W.widen (k := 1) (n := 7) (Nat.le_of_ble_eq_true rfl) (Nat.le_of_ble_eq_true rfl) ?_
  exact W.aret (v := .ref q_1) hx hb hr (Or.inl ⟨_, rfl⟩) (Or.inr ⟨_, rfl⟩) (fun t ht hW => ⟨⟨(), q_1, rfl, trivial, z0_2, (by omega), by rw [ht]; exact hP, va_K.moved hW.alike hK, hD⟩, hS.F ht⟩) hS.2.2 dX16_no_11
