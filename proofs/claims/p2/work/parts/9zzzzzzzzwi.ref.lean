theorem dJxa1e45_init_da8c8_0 : decode cJxa1e45_init_da8c8 0 = .ok (.aload_n 0, 1) := by decide +kernel
theorem dJxa1e45_init_da8c8_1 : decode cJxa1e45_init_da8c8 1 = .ok (.invokespecial 1, 3) := by decide +kernel
theorem dJxa1e45_init_da8c8_4 : decode cJxa1e45_init_da8c8 4 = .ok (.return_, 1) := by decide +kernel
def o_Jxa1e45_init : List Cond := [.methodLink RJxa1e45 1 objectInit, .instanceMethod objectInit, .code objectInit ⟨#[0xb1]⟩ 1 none]
def v_Jxa1e45_init : List Cond := .code yJxa1e45_init_da8c8 cJxa1e45_init_da8c8 1 none :: (o_Jxa1e45_init ++ [])
theorem mow_Jxa1e45_init : ∀ w ∈ o_Jxa1e45_init, w ∈ v_Jxa1e45_init := fun _ h => List.mem_cons_of_mem _ (List.mem_append_left _ h)
set_option maxRecDepth 20000 in
theorem gw_Jxa1e45_init : v_Jxa1e45_init.all goodWord = true := by decide +kernel
set_option maxHeartbeats 4000000 in
set_option maxRecDepth 100000 in
theorem c_Jxa1e45_init (l : Launch) (dC : Nat → ClassId) (dI : Nat → Nat → Nat) (h0 : Nat) (sz : Nat) : Met l yJxa1e45_init_da8c8 v_Jxa1e45_init ({ frames := 1, cells := 0, slots := 0, locals := 12 }) (va_Pc [.ref h0] (fun U => U.heap.size = sz ∧ va_P (dC, dI) vwQ [(h0, .inr (18, [.int 0, .null, .int 0]))] U.heap ∧ va_K (dC, dI) vwQ [] U ∧ va_D (fun _ => True) [(h0, .inr (18, [.int 0, .null, .int 0]))])) (va_Qv (fun _ : Unit => True) (fun (_ : Unit) (t : State) => va_P (dC, dI) vwQ [(h0, .inr (18, [.int 0, .null, .int 0]))] t.heap ∧ va_K (dC, dI) vwQ [] t ∧ va_D (va_A [(h0, .inr (18, [.int 0, .null, .int 0]))] sz) [(h0, .inr (18, [.int 0, .null, .int 0]))]) (va_A [(h0, .inr (18, [.int 0, .null, .int 0]))] sz)) 0 0 (va_A [(h0, .inr (18, [.int 0, .null, .int 0]))] sz) := by
  refine Met.ofW (cc := cJxa1e45_init_da8c8) (maxL := 1) (ret := none) (by decide) rfl ?_
  intro p e s m args below meth c s₁ B hml hv
  obtain ⟨rfl, hsz, hP, hK, hD0⟩ := hv
  have hx := B.exec
  have hb := B.bytes
  have hr := B.returns
  have hts := atoms_spec (ws := v_Jxa1e45_init) B.pre
  have hown : s.vm.findClass RJxa1e45 = some m.cls := findClass_of_methodNamed B.named
  have hlocks := B.notSynchronized
  have ow : ∀ {k : Nat} {w : Cond}, o_Jxa1e45_init[k]? = some w → w.before ([.ref h0] : List Value).toArray s = true := fun h => hts _ (mow_Jxa1e45_init _ (List.mem_of_getElem? h))
  have hin : meth.name = "<init>" := (name_of_methodNamed B.named B.method).1
  subst hsz
  have hD := hD0.self (sz := s.heap.size)
  generalize hAe : va_A [(h0, .inr (18, [.int 0, .null, .int 0]))] s.heap.size = A at hD ⊢
  have hA : ∀ q : Nat, s.heap.size ≤ q → A q := fun q h => by rw [← hAe]; exact Or.inr h
  have hS : va_S A s.heap s.heap [] := va_S.rf
  have hP : va_P (dC, dI) vwQ [(h0, .inr (18, [.int 0, .null, .int 0]))] s.heap := hP
  have hl := lv_entry ([.ref h0]) (n := 1) (Nat.le_of_ble_eq_true rfl)
  rw [lg_entry_eq]
  generalize (lg_sl ([.ref h0]) ++ List.replicate (1 - (lg_sl ([.ref h0])).length) Slot.unset).toArray = ls at hl ⊢
  have hl : lv_has ls 1 [(0, .ref h0)] := hl
  obtain ⟨H, hH⟩ : ∃ H, H = s.heap := ⟨_, rfl⟩
  rw [← hH] at hP
  have hS : va_S A s.heap H [] := by rw [hH]; exact hS
  rw [← hH]
  refine zW_cap (fun Q hQ => ?_)
  refine lv_aload_n hx hb dJxa1e45_init_da8c8_0 rfl (lv_at hl 0 rfl) ?_
  refine W.objInit hx hb hown (ow (k := 0) rfl) (ow (k := 1) rfl) (ow (k := 2) rfl) rfl (by rw [hml]; exact hl.1) rfl dJxa1e45_init_da8c8_1 (Nat.le_of_ble_eq_true rfl) (Nat.le_of_ble_eq_true rfl) ?_
  refine W.eq (g2 := F0 m 4 ls []) rfl ?_
  subst hQ
  refine W.widen (k := 0) (n := 0) (Nat.le_of_ble_eq_true rfl) (Nat.le_of_ble_eq_true rfl) ?_
  exact W.vret hx hb hr (fun t ht hW => ⟨⟨(), rfl, trivial, by rw [ht]; exact hP, va_K.moved hW.alike hK, hD⟩, hS.F ht⟩) hS.2.2 dJxa1e45_init_da8c8_4
theorem dJxc12de_init_da8c8_0 : decode cJxc12de_init_da8c8 0 = .ok (.aload_n 0, 1) := by decide +kernel
theorem dJxc12de_init_da8c8_1 : decode cJxc12de_init_da8c8 1 = .ok (.invokespecial 1, 3) := by decide +kernel
theorem dJxc12de_init_da8c8_4 : decode cJxc12de_init_da8c8 4 = .ok (.aload_n 0, 1) := by decide +kernel
theorem dJxc12de_init_da8c8_5 : decode cJxc12de_init_da8c8 5 = .ok (.iconst 0, 1) := by decide +kernel
theorem dJxc12de_init_da8c8_6 : decode cJxc12de_init_da8c8 6 = .ok (.putfield 7, 3) := by decide +kernel
theorem dJxc12de_init_da8c8_9 : decode cJxc12de_init_da8c8 9 = .ok (.return_, 1) := by decide +kernel
def o_Jxc12de_init : List Cond := [.initialized RJxa1e45, .methodLink RJxc12de 1 yJxa1e45_init_da8c8, .instanceMethod yJxa1e45_init_da8c8, .fieldLink RJxc12de 7 "java/util/AbstractList" "modCount" "I"]
def v_Jxc12de_init : List Cond := .code yJxc12de_init_da8c8 cJxc12de_init_da8c8 1 none :: (o_Jxc12de_init ++ (v_Jxa1e45_init ++ (wsJx4a65c0 ++ [])))
theorem mow_Jxc12de_init : ∀ w ∈ o_Jxc12de_init, w ∈ v_Jxc12de_init := fun _ h => List.mem_cons_of_mem _ (List.mem_append_left _ h)
theorem mem_Jxc12de_init_0 : ∀ w ∈ v_Jxa1e45_init, w ∈ v_Jxc12de_init := fun _ h => List.mem_cons_of_mem _ (List.mem_append_right _ (List.mem_append_left _ h))
theorem mem_Jxc12de_init_1 : ∀ w ∈ wsJx4a65c0, w ∈ v_Jxc12de_init := fun _ h => List.mem_cons_of_mem _ (List.mem_append_right _ (List.mem_append_right _ (List.mem_append_left _ h)))
set_option maxRecDepth 20000 in
theorem gw_Jxc12de_init : v_Jxc12de_init.all goodWord = true := by decide +kernel
set_option maxHeartbeats 4000000 in
set_option maxRecDepth 100000 in
theorem c_Jxc12de_init (l : Launch) (dC : Nat → ClassId) (dI : Nat → Nat → Nat) (h0 : Nat) (sz : Nat) : Met l yJxc12de_init_da8c8 v_Jxc12de_init ({ frames := 2, cells := 0, slots := 0, locals := 32 }) (va_Pc [.ref h0] (fun U => U.heap.size = sz ∧ va_P (dC, dI) vwQ [(h0, .inr (18, [.int 0, .null, .int 0]))] U.heap ∧ va_K (dC, dI) vwQ [] U ∧ va_D (fun _ => True) [(h0, .inr (18, [.int 0, .null, .int 0]))])) (va_Qv (fun _ : Unit => True) (fun (_ : Unit) (t : State) => va_P (dC, dI) vwQ [(h0, .inr (18, [.int 0, .null, .int 0]))] t.heap ∧ va_K (dC, dI) vwQ [] t ∧ va_D (va_A [(h0, .inr (18, [.int 0, .null, .int 0]))] sz) [(h0, .inr (18, [.int 0, .null, .int 0]))]) (va_A [(h0, .inr (18, [.int 0, .null, .int 0]))] sz)) 0 0 (va_A [(h0, .inr (18, [.int 0, .null, .int 0]))] sz) := by
  refine Met.ofW (cc := cJxc12de_init_da8c8) (maxL := 1) (ret := none) (by decide) rfl ?_
  intro p e s m args below meth c s₁ B hml hv
  obtain ⟨rfl, hsz, hP, hK, hD0⟩ := hv
  have hx := B.exec
  have hb := B.bytes
  have hr := B.returns
  have hts := atoms_spec (ws := v_Jxc12de_init) B.pre
  have hown : s.vm.findClass RJxc12de = some m.cls := findClass_of_methodNamed B.named
  have hlocks := B.notSynchronized
  have ow : ∀ {k : Nat} {w : Cond}, o_Jxc12de_init[k]? = some w → w.before ([.ref h0] : List Value).toArray s = true := fun h => hts _ (mow_Jxc12de_init _ (List.mem_of_getElem? h))
  have hin : meth.name = "<init>" := (name_of_methodNamed B.named B.method).1
  subst hsz
  have hD := hD0.self (sz := s.heap.size)
  generalize hAe : va_A [(h0, .inr (18, [.int 0, .null, .int 0]))] s.heap.size = A at hD ⊢
  have hA : ∀ q : Nat, s.heap.size ≤ q → A q := fun q h => by rw [← hAe]; exact Or.inr h
  have hS : va_S A s.heap s.heap [] := va_S.rf
  have hP : va_P (dC, dI) vwQ [(h0, .inr (18, [.int 0, .null, .int 0]))] s.heap := hP
  have hl := lv_entry ([.ref h0]) (n := 1) (Nat.le_of_ble_eq_true rfl)
  rw [lg_entry_eq]
  generalize (lg_sl ([.ref h0]) ++ List.replicate (1 - (lg_sl ([.ref h0])).length) Slot.unset).toArray = ls at hl ⊢
  have hl : lv_has ls 1 [(0, .ref h0)] := hl
  obtain ⟨H, hH⟩ : ∃ H, H = s.heap := ⟨_, rfl⟩
  rw [← hH] at hP
  have hS : va_S A s.heap H [] := by rw [hH]; exact hS
  rw [← hH]
  refine zW_cap (fun Q hQ => ?_)
  refine lv_aload_n hx hb dJxc12de_init_da8c8_0 rfl (lv_at hl 0 rfl) ?_
  have hPc := hP.sub (ws' := [(h0, .inr (18, [.int 0, .null, .int 0]))]) [0] rfl
  have hDc := hD.sub (ws' := [(h0, .inr (18, [.int 0, .null, .int 0]))]) [0] (by decide) rfl
  have hKc := hK.sub (tys' := []) [] rfl
  have hFc := va_free (wc := [(h0, .inr (18, [.int 0, .null, .int 0]))]) hD hS hA [0] rfl
  refine va_callv (va_runI (As := []) (rest := []) ⟨hx, hb, hml, hown, hts⟩ (c_Jxa1e45_init l dC dI h0 H.size) (cwI 0 hts (goodIn_sub mem_Jxc12de_init_0 gw_Jxa1e45_init) rfl rfl rfl (ow (k := 0) rfl) (ow (k := 1) rfl) (ow (k := 2) rfl) rfl (by decide +kernel) ⟨(Nat.le_of_ble_eq_true rfl), (Nat.le_of_ble_eq_true rfl)⟩) ⟨fun a U g mk q => by obtain ⟨q0, q1, qP, qK, qD⟩ := q; exact ⟨q0, q1, qP, va_K.moved (u := U) (U := U.calling g mk a) (Vm.Alike.refl U.vm) qK, qD⟩, fun U hU hW => ⟨rfl, by rw [hU], by rw [hU]; exact hPc, va_K.moved hW.alike hKc, hDc.weaken (fun _ _ _ _ => trivial)⟩⟩ rfl rfl hl.1 rfl (lv_room (Nat.le_of_ble_eq_true rfl)) dJxc12de_init_da8c8_1 ⟨(Nat.le_of_ble_eq_true rfl), (Nat.le_of_ble_eq_true rfl)⟩) hS (fun q _ h => hFc q h) hFc (fun  u t H1 locs ht hvm hw hB hz1 hk1 hS => ?_)
  obtain ⟨hP1, hK1, hD1⟩ := hB
  rw [ht] at hP1
  have hK1 := va_K.moved hvm.symm hK1
  obtain ⟨hP, hD⟩ := va_join (wr := []) (w1 := [(h0, .inr (18, [.int 0, .null, .int 0]))]) hP hD [0] [] rfl rfl (by decide) (by decide) hk1 hFc hP1 hD1
  have hK := (hK.sub (tys' := []) [] rfl).app hK1
  generalize H1 = H at hP hS ⊢
  have hP : va_P (dC, dI) vwQ [(h0, .inr (18, [.int 0, .null, .int 0]))] H := hP
  have hD : va_D A [(h0, .inr (18, [.int 0, .null, .int 0]))] := hD
  have hK : va_K (dC, dI) vwQ [] s := hK
  refine W.widen (k := 0) (n := 0) (Nat.le_of_ble_eq_true rfl) (Nat.le_of_ble_eq_true rfl) ?_
  refine lv_aload_n hx hb dJxc12de_init_da8c8_4 rfl (lv_at hl 0 rfl) ?_
  refine lv_iconst (v := 0) hx hb dJxc12de_init_da8c8_5 (by decide) ?_
  refine va_put (D := (dC, dI)) (ci := 18) (v := .int 0) (ty := .int) (C := RJx4a65c) (T := TJx4a65c) (N := 3) hx hb hts mem_Jxc12de_init_1 tyJx4a65c tyJx4a65c_ok nmJx4a65c hown hK hP hD hS 0 rfl rfl 0 (by decide) (ow (k := 3) rfl) (fun _ h9 => h9) rfl (by decide +kernel) rfl rfl (Nat.le_of_ble_eq_true rfl) dJxc12de_init_da8c8_6 (fun H locs hP hD hS => ?_)
  have hP : va_P (dC, dI) vwQ [(h0, .inr (18, [.int 0, .null, .int 0]))] H := hP
  have hD : va_D A [(h0, .inr (18, [.int 0, .null, .int 0]))] := hD
  subst hQ
  refine W.widen (k := 0) (n := 0) (Nat.le_of_ble_eq_true rfl) (Nat.le_of_ble_eq_true rfl) ?_
  exact W.vret hx hb hr (fun t ht hW => ⟨⟨(), rfl, trivial, by rw [ht]; exact hP, va_K.moved hW.alike hK, hD⟩, hS.F ht⟩) hS.2.2 dJxc12de_init_da8c8_9
theorem dJx4a65c_init_da8c8_0 : decode cJx4a65c_init_da8c8 0 = .ok (.aload_n 0, 1) := by decide +kernel
theorem dJx4a65c_init_da8c8_1 : decode cJx4a65c_init_da8c8 1 = .ok (.invokespecial 1, 3) := by decide +kernel
theorem dJx4a65c_init_da8c8_4 : decode cJx4a65c_init_da8c8 4 = .ok (.aload_n 0, 1) := by decide +kernel
theorem dJx4a65c_init_da8c8_5 : decode cJx4a65c_init_da8c8 5 = .ok (.getstatic 39, 3) := by decide +kernel
theorem dJx4a65c_init_da8c8_8 : decode cJx4a65c_init_da8c8 8 = .ok (.putfield 9, 3) := by decide +kernel
theorem dJx4a65c_init_da8c8_11 : decode cJx4a65c_init_da8c8 11 = .ok (.return_, 1) := by decide +kernel
def o_AL_init : List Cond := [.initialized RJxc12de, .methodLink RJx4a65c 1 yJxc12de_init_da8c8, .instanceMethod yJxc12de_init_da8c8, .fieldLink RJx4a65c 39 "java/util/ArrayList" "DEFAULTCAPACITY_EMPTY_ELEMENTDATA" "[Ljava/lang/Object;", .fieldLink RJx4a65c 9 "java/util/ArrayList" "elementData" "[Ljava/lang/Object;"]
def v_AL_init : List Cond := .code yJx4a65c_init_da8c8 cJx4a65c_init_da8c8 1 none :: (o_AL_init ++ (v_Jxc12de_init ++ (wsJx4a65c0 ++ [])))
theorem mow_AL_init : ∀ w ∈ o_AL_init, w ∈ v_AL_init := fun _ h => List.mem_cons_of_mem _ (List.mem_append_left _ h)
theorem mem_AL_init_0 : ∀ w ∈ v_Jxc12de_init, w ∈ v_AL_init := fun _ h => List.mem_cons_of_mem _ (List.mem_append_right _ (List.mem_append_left _ h))
theorem mem_AL_init_1 : ∀ w ∈ wsJx4a65c0, w ∈ v_AL_init := fun _ h => List.mem_cons_of_mem _ (List.mem_append_right _ (List.mem_append_right _ (List.mem_append_left _ h)))
set_option maxRecDepth 20000 in
theorem gw_AL_init : v_AL_init.all goodWord = true := by decide +kernel
set_option maxHeartbeats 4000000 in
set_option maxRecDepth 100000 in
theorem c_AL_init (l : Launch) (dC : Nat → ClassId) (dI : Nat → Nat → Nat) (h0 : Nat) (sx_ed : Nat) (sz : Nat) : Met l yJx4a65c_init_da8c8 v_AL_init ({ frames := 3, cells := 0, slots := 0, locals := 52 }) (va_Pc [.ref h0] (fun U => U.heap.size = sz ∧ va_P (dC, dI) vwQ [(h0, .inr (18, [.int 0, .null, .int 0]))] U.heap ∧ va_K (dC, dI) vwQ [] U ∧ va_D (fun _ => True) [(h0, .inr (18, [.int 0, .null, .int 0]))] ∧ va_Z "java/util/ArrayList" "DEFAULTCAPACITY_EMPTY_ELEMENTDATA" "[Ljava/lang/Object;" (.ref sx_ed) (va_A [(h0, .inr (18, [.int 0, .null, .int 0]))] sz) U U.heap)) (va_Qv (fun _ : Unit => True) (fun (_ : Unit) (t : State) => va_P (dC, dI) vwQ [(h0, .inr (18, [.int 0, .ref sx_ed, .int 0]))] t.heap ∧ va_K (dC, dI) vwQ [] t ∧ va_D (va_A [(h0, .inr (18, [.int 0, .null, .int 0]))] sz) [(h0, .inr (18, [.int 0, .ref sx_ed, .int 0]))]) (va_A [(h0, .inr (18, [.int 0, .null, .int 0]))] sz)) 0 0 (va_A [(h0, .inr (18, [.int 0, .null, .int 0]))] sz) := by
  refine Met.ofW (cc := cJx4a65c_init_da8c8) (maxL := 1) (ret := none) (by decide) rfl ?_
  intro p e s m args below meth c s₁ B hml hv
  obtain ⟨rfl, hsz, hP, hK, hD0, hp0⟩ := hv
  have hx := B.exec
  have hb := B.bytes
  have hr := B.returns
  have hts := atoms_spec (ws := v_AL_init) B.pre
  have hown : s.vm.findClass RJx4a65c = some m.cls := findClass_of_methodNamed B.named
  have hlocks := B.notSynchronized
  have ow : ∀ {k : Nat} {w : Cond}, o_AL_init[k]? = some w → w.before ([.ref h0] : List Value).toArray s = true := fun h => hts _ (mow_AL_init _ (List.mem_of_getElem? h))
  have hin : meth.name = "<init>" := (name_of_methodNamed B.named B.method).1
  subst hsz
  have hD := hD0.self (sz := s.heap.size)
  generalize hAe : va_A [(h0, .inr (18, [.int 0, .null, .int 0]))] s.heap.size = A at hD hp0 ⊢
  have hA : ∀ q : Nat, s.heap.size ≤ q → A q := fun q h => by rw [← hAe]; exact Or.inr h
  have hS : va_S A s.heap s.heap [] := va_S.rf
  have hP : va_P (dC, dI) vwQ [(h0, .inr (18, [.int 0, .null, .int 0]))] s.heap := hP
  have hl := lv_entry ([.ref h0]) (n := 1) (Nat.le_of_ble_eq_true rfl)
  rw [lg_entry_eq]
  generalize (lg_sl ([.ref h0]) ++ List.replicate (1 - (lg_sl ([.ref h0])).length) Slot.unset).toArray = ls at hl ⊢
  have hl : lv_has ls 1 [(0, .ref h0)] := hl
  obtain ⟨H, hH⟩ : ∃ H, H = s.heap := ⟨_, rfl⟩
  rw [← hH] at hP
  have hS : va_S A s.heap H [] := by rw [hH]; exact hS
  rw [← hH]
  refine zW_cap (fun Q hQ => ?_)
  refine lv_aload_n hx hb dJx4a65c_init_da8c8_0 rfl (lv_at hl 0 rfl) ?_
  have hPc := hP.sub (ws' := [(h0, .inr (18, [.int 0, .null, .int 0]))]) [0] rfl
  have hDc := hD.sub (ws' := [(h0, .inr (18, [.int 0, .null, .int 0]))]) [0] (by decide) rfl
  have hKc := hK.sub (tys' := []) [] rfl
  have hFc := va_free (wc := [(h0, .inr (18, [.int 0, .null, .int 0]))]) hD hS hA [0] rfl
  refine va_callv (va_runI (As := []) (rest := []) ⟨hx, hb, hml, hown, hts⟩ (c_Jxc12de_init l dC dI h0 H.size) (cwI 0 hts (goodIn_sub mem_AL_init_0 gw_Jxc12de_init) rfl rfl rfl (ow (k := 0) rfl) (ow (k := 1) rfl) (ow (k := 2) rfl) rfl (by decide +kernel) ⟨(Nat.le_of_ble_eq_true rfl), (Nat.le_of_ble_eq_true rfl)⟩) ⟨fun a U g mk q => by obtain ⟨q0, q1, qP, qK, qD⟩ := q; exact ⟨q0, q1, qP, va_K.moved (u := U) (U := U.calling g mk a) (Vm.Alike.refl U.vm) qK, qD⟩, fun U hU hW => ⟨rfl, by rw [hU], by rw [hU]; exact hPc, va_K.moved hW.alike hKc, hDc.weaken (fun _ _ _ _ => trivial)⟩⟩ rfl rfl hl.1 rfl (lv_room (Nat.le_of_ble_eq_true rfl)) dJx4a65c_init_da8c8_1 ⟨(Nat.le_of_ble_eq_true rfl), (Nat.le_of_ble_eq_true rfl)⟩) hS (fun q _ h => hFc q h) hFc (fun  u t H1 locs ht hvm hw hB hz1 hk1 hS => ?_)
  obtain ⟨hP1, hK1, hD1⟩ := hB
  rw [ht] at hP1
  have hK1 := va_K.moved hvm.symm hK1
  obtain ⟨hP, hD⟩ := va_join (wr := []) (w1 := [(h0, .inr (18, [.int 0, .null, .int 0]))]) hP hD [0] [] rfl rfl (by decide) (by decide) hk1 hFc hP1 hD1
  have hK := (hK.sub (tys' := []) [] rfl).app hK1
  generalize H1 = H at hP hS ⊢
  have hP : va_P (dC, dI) vwQ [(h0, .inr (18, [.int 0, .null, .int 0]))] H := hP
  have hD : va_D A [(h0, .inr (18, [.int 0, .null, .int 0]))] := hD
  have hK : va_K (dC, dI) vwQ [] s := hK
  refine W.widen (k := 0) (n := 0) (Nat.le_of_ble_eq_true rfl) (Nat.le_of_ble_eq_true rfl) ?_
  refine lv_aload_n hx hb dJx4a65c_init_da8c8_4 rfl (lv_at hl 0 rfl) ?_
  refine va_gets (v := .ref sx_ed) hx hb hp0 hS hown (ow (k := 3) rfl) (fun _ h9 => h9) dJx4a65c_init_da8c8_5 ?_
  refine va_put (D := (dC, dI)) (ci := 18) (v := .ref sx_ed) (ty := .array (.object "java/lang/Object")) (C := RJx4a65c) (T := TJx4a65c) (N := 3) hx hb hts mem_AL_init_1 tyJx4a65c tyJx4a65c_ok nmJx4a65c hown hK hP hD hS 0 rfl rfl 1 (by decide) (ow (k := 4) rfl) (fun _ h9 => h9) rfl (by decide +kernel) rfl rfl (Nat.le_of_ble_eq_true rfl) dJx4a65c_init_da8c8_8 (fun H locs hP hD hS => ?_)
  have hP : va_P (dC, dI) vwQ [(h0, .inr (18, [.int 0, .ref sx_ed, .int 0]))] H := hP
  have hD : va_D A [(h0, .inr (18, [.int 0, .ref sx_ed, .int 0]))] := hD
  subst hQ
  refine W.widen (k := 0) (n := 0) (Nat.le_of_ble_eq_true rfl) (Nat.le_of_ble_eq_true rfl) ?_
  exact W.vret hx hb hr (fun t ht hW => ⟨⟨(), rfl, trivial, by rw [ht]; exact hP, va_K.moved hW.alike hK, hD⟩, hS.F ht⟩) hS.2.2 dJx4a65c_init_da8c8_11
theorem dX12_init_0 : decode cX12_init 0 = .ok (.aload_n 0, 1) := by decide +kernel
theorem dX12_init_1 : decode cX12_init 1 = .ok (.invokespecial 3, 3) := by decide +kernel
theorem dX12_init_4 : decode cX12_init 4 = .ok (.aload_n 0, 1) := by decide +kernel
theorem dX12_init_5 : decode cX12_init 5 = .ok (.new 9, 3) := by decide +kernel
theorem dX12_init_8 : decode cX12_init 8 = .ok (.dup, 1) := by decide +kernel
theorem dX12_init_9 : decode cX12_init 9 = .ok (.invokespecial 11, 3) := by decide +kernel
theorem dX12_init_12 : decode cX12_init 12 = .ok (.putfield 12, 3) := by decide +kernel
theorem dX12_init_15 : decode cX12_init 15 = .ok (.aload_n 0, 1) := by decide +kernel
theorem dX12_init_16 : decode cX12_init 16 = .ok (.new 9, 3) := by decide +kernel
theorem dX12_init_19 : decode cX12_init 19 = .ok (.dup, 1) := by decide +kernel
theorem dX12_init_20 : decode cX12_init 20 = .ok (.invokespecial 11, 3) := by decide +kernel
theorem dX12_init_23 : decode cX12_init 23 = .ok (.putfield 18, 3) := by decide +kernel
theorem dX12_init_26 : decode cX12_init 26 = .ok (.aload_n 0, 1) := by decide +kernel
theorem dX12_init_27 : decode cX12_init 27 = .ok (.new 21, 3) := by decide +kernel
theorem dX12_init_30 : decode cX12_init 30 = .ok (.dup, 1) := by decide +kernel
theorem dX12_init_31 : decode cX12_init 31 = .ok (.invokespecial 23, 3) := by decide +kernel
theorem dX12_init_34 : decode cX12_init 34 = .ok (.putfield 24, 3) := by decide +kernel
theorem dX12_init_37 : decode cX12_init 37 = .ok (.return_, 1) := by decide +kernel
def o_X12_init : List Cond := [.methodLink RX12 3 objectInit, .instanceMethod objectInit, .code objectInit ⟨#[0xb1]⟩ 1 none, .classLink RX12 9 RJx4a65c, .instantiable RJx4a65c 3, .initialized RJx4a65c, .methodLink RX12 11 yJx4a65c_init_da8c8, .instanceMethod yJx4a65c_init_da8c8, .fieldLink RX12 12 "SsaForgeModel$Block" "phis" "Ljava/util/ArrayList;", .fieldLink RX12 18 "SsaForgeModel$Block" "rows" "Ljava/util/ArrayList;", .classLink RX12 21 RX17, .instantiable RX17 7, .initialized RX17, .instanceMethod yX17_init, .fieldLink RX12 24 "SsaForgeModel$Block" "end" "LSsaForgeModel$Row;"]
def v_X12_init : List Cond := .code yX12_init cX12_init 1 none :: (o_X12_init ++ (wsJx4a65c0 ++ (v_AL_init ++ (wsX120 ++ (wsX170 ++ (v_X17_init ++ []))))))
theorem mow_X12_init : ∀ w ∈ o_X12_init, w ∈ v_X12_init := fun _ h => List.mem_cons_of_mem _ (List.mem_append_left _ h)
theorem mem_X12_init_0 : ∀ w ∈ wsJx4a65c0, w ∈ v_X12_init := fun _ h => List.mem_cons_of_mem _ (List.mem_append_right _ (List.mem_append_left _ h))
theorem mem_X12_init_1 : ∀ w ∈ v_AL_init, w ∈ v_X12_init := fun _ h => List.mem_cons_of_mem _ (List.mem_append_right _ (List.mem_append_right _ (List.mem_append_left _ h)))
theorem mem_X12_init_2 : ∀ w ∈ wsX120, w ∈ v_X12_init := fun _ h => List.mem_cons_of_mem _ (List.mem_append_right _ (List.mem_append_right _ (List.mem_append_right _ (List.mem_append_left _ h))))
theorem mem_X12_init_3 : ∀ w ∈ wsX170, w ∈ v_X12_init := fun _ h => List.mem_cons_of_mem _ (List.mem_append_right _ (List.mem_append_right _ (List.mem_append_right _ (List.mem_append_right _ (List.mem_append_left _ h)))))
theorem mem_X12_init_4 : ∀ w ∈ v_X17_init, w ∈ v_X12_init := fun _ h => List.mem_cons_of_mem _ (List.mem_append_right _ (List.mem_append_right _ (List.mem_append_right _ (List.mem_append_right _ (List.mem_append_right _ (List.mem_append_left _ h))))))
set_option maxRecDepth 20000 in
theorem gw_X12_init : v_X12_init.all goodWord = true := by decide +kernel
set_option maxHeartbeats 4000000 in
set_option maxRecDepth 100000 in
theorem c_X12_init (l : Launch) (dC : Nat → ClassId) (dI : Nat → Nat → Nat) (cI : ClassId) (cZ : ClassId) (h0 : Nat) (cO : ClassId) (L : List Nat) (P : PO) (sx_ed : Nat) (sz : Nat) : Met l yX12_init v_X12_init ({ frames := 4, cells := 3, slots := 13, locals := 72 }) (va_Pc [.ref h0] (fun U => U.heap.size = sz ∧ va_P (dC, dI) vwQ ([(h0, .inr (19, [.null, .null, .null, .int 0, .int 0]))] ++ va_pl L (pE P)) U.heap ∧ va_K (dC, dI) vwQ [(cO, .object "java/lang/Object"), (cI, .int), (cZ, .boolean)] U ∧ va_D (fun _ => True) ([(h0, .inr (19, [.null, .null, .null, .int 0, .int 0]))] ++ va_pl L (pE P)) ∧ va_Z "java/util/ArrayList" "DEFAULTCAPACITY_EMPTY_ELEMENTDATA" "[Ljava/lang/Object;" (.ref sx_ed) (va_A ([(h0, .inr (19, [.null, .null, .null, .int 0, .int 0]))] ++ va_pl L (pE P)) sz) U U.heap ∧ va_Nw (.methodLinkNest RX12 23 yX17_init "SsaForgeModel") U)) (va_Qv (fun _ : Unit => True) (fun (_ : Unit) (t : State) => ∃ (q0_9 : Nat) (q1_9 : Nat) (q2_9 : Nat) (Ln_9 : List Nat) (Pn_9 : PO), ((EXT9 L P Ln_9 Pn_9 ∧ NWS L Ln_9 Pn_9 cO cI cZ sx_ed ∧ LSF9 Ln_9 Pn_9 q0_9 15 h0 sx_ed ∧ LSF9 Ln_9 Pn_9 q1_9 17 h0 sx_ed ∧ RWF9 Ln_9 Pn_9 q2_9 1)) ∧ va_P (dC, dI) vwQ ([(h0, .inr (19, [.ref q0_9, .ref q1_9, .ref q2_9, .int 0, .int 0]))] ++ va_pl Ln_9 (pE Pn_9)) t.heap ∧ va_K (dC, dI) vwQ [(cO, .object "java/lang/Object"), (cI, .int), (cZ, .boolean)] t ∧ va_D (va_A ([(h0, .inr (19, [.null, .null, .null, .int 0, .int 0]))] ++ va_pl L (pE P)) sz) ([(h0, .inr (19, [.ref q0_9, .ref q1_9, .ref q2_9, .int 0, .int 0]))] ++ va_pl Ln_9 (pE Pn_9))) (va_A ([(h0, .inr (19, [.null, .null, .null, .int 0, .int 0]))] ++ va_pl L (pE P)) sz)) 3 13 (va_A ([(h0, .inr (19, [.null, .null, .null, .int 0, .int 0]))] ++ va_pl L (pE P)) sz) := by
  refine Met.ofW (cc := cX12_init) (maxL := 1) (ret := none) (by decide) rfl ?_
  intro p e s m args below meth c s₁ B hml hv
  obtain ⟨rfl, hsz, hP, hK, hD0, hp0, hp1⟩ := hv
  have hx := B.exec
  have hb := B.bytes
  have hr := B.returns
  have hts := atoms_spec (ws := v_X12_init) B.pre
  have hown : s.vm.findClass RX12 = some m.cls := findClass_of_methodNamed B.named
  have hlocks := B.notSynchronized
  have ow : ∀ {k : Nat} {w : Cond}, o_X12_init[k]? = some w → w.before ([.ref h0] : List Value).toArray s = true := fun h => hts _ (mow_X12_init _ (List.mem_of_getElem? h))
  have hin : meth.name = "<init>" := (name_of_methodNamed B.named B.method).1
  subst hsz
  have hD := hD0.self (sz := s.heap.size)
  generalize hAe : va_A ([(h0, .inr (19, [.null, .null, .null, .int 0, .int 0]))] ++ va_pl L (pE P)) s.heap.size = A at hD hp0 ⊢
  have hA : ∀ q : Nat, s.heap.size ≤ q → A q := fun q h => by rw [← hAe]; exact Or.inr h
  have hS : va_S A s.heap s.heap [] := va_S.rf
  have hP : va_P (dC, dI) vwQ ([(h0, .inr (19, [.null, .null, .null, .int 0, .int 0]))] ++ va_pl L (pE P)) s.heap := hP
  have hl := lv_entry ([.ref h0]) (n := 1) (Nat.le_of_ble_eq_true rfl)
  rw [lg_entry_eq]
  generalize (lg_sl ([.ref h0]) ++ List.replicate (1 - (lg_sl ([.ref h0])).length) Slot.unset).toArray = ls at hl ⊢
  have hl : lv_has ls 1 [(0, .ref h0)] := hl
  obtain ⟨H, hH⟩ : ∃ H, H = s.heap := ⟨_, rfl⟩
  rw [← hH] at hP
  have hS : va_S A s.heap H [] := by rw [hH]; exact hS
  rw [← hH]
  refine zW_cap (fun Q hQ => ?_)
  refine lv_aload_n hx hb dX12_init_0 rfl (lv_at hl 0 rfl) ?_
  refine W.objInit hx hb hown (ow (k := 0) rfl) (ow (k := 1) rfl) (ow (k := 2) rfl) rfl (by rw [hml]; exact hl.1) rfl dX12_init_1 (Nat.le_of_ble_eq_true rfl) (Nat.le_of_ble_eq_true rfl) ?_
  refine W.eq (g2 := F0 m 4 ls []) rfl ?_
  refine lv_aload_n hx hb dX12_init_4 rfl (lv_at hl 0 rfl) ?_
  refine va_new (ci := 18) (fs := [.int 0, .null, .int 0]) (C := RJx4a65c) (T := TJx4a65c) (N := 3) hx hb hts mem_X12_init_0 tyJx4a65c tyJx4a65c_ok hown (ow (k := 3) rfl) (ow (k := 4) rfl) (ow (k := 5) rfl) hK hP hD hS hA rfl (df_Jx4a65c) (Nat.le_of_ble_eq_true rfl) (Nat.le_of_ble_eq_true rfl) dX12_init_5 (fun q_1 H hP hD hS => ?_)
  have hP := pl_Pp (pl_new (X := [(h0, .inr (19, [.null, .null, .null, .int 0, .int 0]))]) (pl := va_pl L (pE P))) hP
  have hD := pl_Dp (pl_new (X := [(h0, .inr (19, [.null, .null, .null, .int 0, .int 0]))]) (pl := va_pl L (pE P))) hD
  have hP : va_P (dC, dI) vwQ ([(h0, .inr (19, [.null, .null, .null, .int 0, .int 0])), (q_1, .inr (18, [.int 0, .null, .int 0]))] ++ va_pl L (pE P)) H := hP
  have hD : va_D A ([(h0, .inr (19, [.null, .null, .null, .int 0, .int 0])), (q_1, .inr (18, [.int 0, .null, .int 0]))] ++ va_pl L (pE P)) := hD
  refine W.widen (k := 1) (n := 3) (Nat.le_of_ble_eq_true rfl) (Nat.le_of_ble_eq_true rfl) ?_
  refine lv_dup hx hb dX12_init_8 rfl ?_
  have hPc := hP.sub (ws' := [(q_1, .inr (18, [.int 0, .null, .int 0]))]) [1] rfl
  have hDc := hD.sub (ws' := [(q_1, .inr (18, [.int 0, .null, .int 0]))]) [1] (by decide) rfl
  have hKc := hK.sub (tys' := []) [] rfl
  have hFc := va_free (wc := [(q_1, .inr (18, [.int 0, .null, .int 0]))]) hD hS hA [1] rfl
  refine va_callv (va_runI (As := []) (rest := [.ref q_1, .ref h0]) ⟨hx, hb, hml, hown, hts⟩ (c_AL_init l dC dI q_1 sx_ed H.size) (cwI 0 hts (goodIn_sub mem_X12_init_1 gw_AL_init) rfl rfl rfl (ow (k := 5) rfl) (ow (k := 6) rfl) (ow (k := 7) rfl) rfl (by decide +kernel) ⟨(Nat.le_of_ble_eq_true rfl), (Nat.le_of_ble_eq_true rfl)⟩) ⟨fun a U g mk q => by obtain ⟨q0, q1, qP, qK, qD, e0⟩ := q; exact ⟨q0, q1, qP, va_K.moved (u := U) (U := U.calling g mk a) (Vm.Alike.refl U.vm) qK, qD, va_Z.moved (u := U) (U := U.calling g mk a) (Vm.Alike.refl U.vm) e0⟩, fun U hU hW => ⟨rfl, by rw [hU], by rw [hU]; exact hPc, va_K.moved hW.alike hKc, hDc.weaken (fun _ _ _ _ => trivial), by rw [hU]; exact va_Z.narrow (va_Z.moved hW.alike (va_Z.kept hp0 hS.2.1)) hFc⟩⟩ rfl rfl hl.1 rfl (lv_room (Nat.le_of_ble_eq_true rfl)) dX12_init_9 ⟨(Nat.le_of_ble_eq_true rfl), (Nat.le_of_ble_eq_true rfl)⟩) hS (fun q _ h => hFc q h) hFc (fun  u t H1 locs ht hvm hw hB hz1 hk1 hS => ?_)
  obtain ⟨hP1, hK1, hD1⟩ := hB
  rw [ht] at hP1
  have hK1 := va_K.moved hvm.symm hK1
  obtain ⟨hP, hD⟩ := va_joinQ (X := [(h0, .inr (19, [.null, .null, .null, .int 0, .int 0])), (q_1, .inr (18, [.int 0, .null, .int 0]))]) (cx := [(q_1, .inr (18, [.int 0, .null, .int 0]))]) (wr := [(h0, .inr (19, [.null, .null, .null, .int 0, .int 0]))]) (w1 := [(q_1, .inr (18, [.int 0, .ref sx_ed, .int 0]))]) (pl := va_pl L (pE P)) hP hD [1] [0] rfl rfl (by decide) (by decide) hk1 hFc hP1 hD1
  have hK := (hK.sub (tys' := [(cO, .object "java/lang/Object"), (cI, .int), (cZ, .boolean)]) [0, 1, 2] rfl).app hK1
  generalize H1 = H at hP hS ⊢
  have hP : va_P (dC, dI) vwQ ([(h0, .inr (19, [.null, .null, .null, .int 0, .int 0])), (q_1, .inr (18, [.int 0, .ref sx_ed, .int 0]))] ++ va_pl L (pE P)) H := hP
  have hD : va_D A ([(h0, .inr (19, [.null, .null, .null, .int 0, .int 0])), (q_1, .inr (18, [.int 0, .ref sx_ed, .int 0]))] ++ va_pl L (pE P)) := hD
  have hK : va_K (dC, dI) vwQ [(cO, .object "java/lang/Object"), (cI, .int), (cZ, .boolean)] s := hK
  refine W.widen (k := 1) (n := 3) (Nat.le_of_ble_eq_true rfl) (Nat.le_of_ble_eq_true rfl) ?_
  refine va_putF (D := (dC, dI)) (ci := 19) (v := .ref q_1) (ty := .object "java/util/ArrayList") (C := RX12) (T := TX12) (N := 5) hx hb hts mem_X12_init_2 tyX12 tyX12_ok nmX12 hown hK hP hD hS 0 rfl rfl 0 (by decide) (ow (k := 8) rfl) (fun _ h9 => h9) rfl hin rfl (by decide +kernel) rfl rfl (Nat.le_of_ble_eq_true rfl) dX12_init_12 (fun H locs hP hD hS => ?_)
  have hP : va_P (dC, dI) vwQ ([(h0, .inr (19, [.ref q_1, .null, .null, .int 0, .int 0])), (q_1, .inr (18, [.int 0, .ref sx_ed, .int 0]))] ++ va_pl L (pE P)) H := hP
  have hD : va_D A ([(h0, .inr (19, [.ref q_1, .null, .null, .int 0, .int 0])), (q_1, .inr (18, [.int 0, .ref sx_ed, .int 0]))] ++ va_pl L (pE P)) := hD
  refine lv_aload_n hx hb dX12_init_15 rfl (lv_at hl 0 rfl) ?_
  refine va_new (ci := 18) (fs := [.int 0, .null, .int 0]) (C := RJx4a65c) (T := TJx4a65c) (N := 3) hx hb hts mem_X12_init_0 tyJx4a65c tyJx4a65c_ok hown (ow (k := 3) rfl) (ow (k := 4) rfl) (ow (k := 5) rfl) hK hP hD hS hA rfl (df_Jx4a65c) (Nat.le_of_ble_eq_true rfl) (Nat.le_of_ble_eq_true rfl) dX12_init_16 (fun q_2 H hP hD hS => ?_)
  have hP := pl_Pp (pl_new (X := [(h0, .inr (19, [.ref q_1, .null, .null, .int 0, .int 0])), (q_1, .inr (18, [.int 0, .ref sx_ed, .int 0]))]) (pl := va_pl L (pE P))) hP
  have hD := pl_Dp (pl_new (X := [(h0, .inr (19, [.ref q_1, .null, .null, .int 0, .int 0])), (q_1, .inr (18, [.int 0, .ref sx_ed, .int 0]))]) (pl := va_pl L (pE P))) hD
  have hP : va_P (dC, dI) vwQ ([(h0, .inr (19, [.ref q_1, .null, .null, .int 0, .int 0])), (q_1, .inr (18, [.int 0, .ref sx_ed, .int 0])), (q_2, .inr (18, [.int 0, .null, .int 0]))] ++ va_pl L (pE P)) H := hP
  have hD : va_D A ([(h0, .inr (19, [.ref q_1, .null, .null, .int 0, .int 0])), (q_1, .inr (18, [.int 0, .ref sx_ed, .int 0])), (q_2, .inr (18, [.int 0, .null, .int 0]))] ++ va_pl L (pE P)) := hD
  refine W.widen (k := 2) (n := 6) (Nat.le_of_ble_eq_true rfl) (Nat.le_of_ble_eq_true rfl) ?_
  refine lv_dup hx hb dX12_init_19 rfl ?_
  have hPc := hP.sub (ws' := [(q_2, .inr (18, [.int 0, .null, .int 0]))]) [2] rfl
  have hDc := hD.sub (ws' := [(q_2, .inr (18, [.int 0, .null, .int 0]))]) [2] (by decide) rfl
  have hKc := hK.sub (tys' := []) [] rfl
  have hFc := va_free (wc := [(q_2, .inr (18, [.int 0, .null, .int 0]))]) hD hS hA [2] rfl
  refine va_callv (va_runI (As := []) (rest := [.ref q_2, .ref h0]) ⟨hx, hb, hml, hown, hts⟩ (c_AL_init l dC dI q_2 sx_ed H.size) (cwI 0 hts (goodIn_sub mem_X12_init_1 gw_AL_init) rfl rfl rfl (ow (k := 5) rfl) (ow (k := 6) rfl) (ow (k := 7) rfl) rfl (by decide +kernel) ⟨(Nat.le_of_ble_eq_true rfl), (Nat.le_of_ble_eq_true rfl)⟩) ⟨fun a U g mk q => by obtain ⟨q0, q1, qP, qK, qD, e0⟩ := q; exact ⟨q0, q1, qP, va_K.moved (u := U) (U := U.calling g mk a) (Vm.Alike.refl U.vm) qK, qD, va_Z.moved (u := U) (U := U.calling g mk a) (Vm.Alike.refl U.vm) e0⟩, fun U hU hW => ⟨rfl, by rw [hU], by rw [hU]; exact hPc, va_K.moved hW.alike hKc, hDc.weaken (fun _ _ _ _ => trivial), by rw [hU]; exact va_Z.narrow (va_Z.moved hW.alike (va_Z.kept hp0 hS.2.1)) hFc⟩⟩ rfl rfl hl.1 rfl (lv_room (Nat.le_of_ble_eq_true rfl)) dX12_init_20 ⟨(Nat.le_of_ble_eq_true rfl), (Nat.le_of_ble_eq_true rfl)⟩) hS (fun q _ h => hFc q h) hFc (fun  u t H1 locs ht hvm hw hB hz1 hk1 hS => ?_)
  obtain ⟨hP1, hK1, hD1⟩ := hB
  rw [ht] at hP1
  have hK1 := va_K.moved hvm.symm hK1
  obtain ⟨hP, hD⟩ := va_joinQ (X := [(h0, .inr (19, [.ref q_1, .null, .null, .int 0, .int 0])), (q_1, .inr (18, [.int 0, .ref sx_ed, .int 0])), (q_2, .inr (18, [.int 0, .null, .int 0]))]) (cx := [(q_2, .inr (18, [.int 0, .null, .int 0]))]) (wr := [(h0, .inr (19, [.ref q_1, .null, .null, .int 0, .int 0])), (q_1, .inr (18, [.int 0, .ref sx_ed, .int 0]))]) (w1 := [(q_2, .inr (18, [.int 0, .ref sx_ed, .int 0]))]) (pl := va_pl L (pE P)) hP hD [2] [0, 1] rfl rfl (by decide) (by decide) hk1 hFc hP1 hD1
  have hK := (hK.sub (tys' := [(cO, .object "java/lang/Object"), (cI, .int), (cZ, .boolean)]) [0, 1, 2] rfl).app hK1
  generalize H1 = H at hP hS ⊢
  have hP : va_P (dC, dI) vwQ ([(h0, .inr (19, [.ref q_1, .null, .null, .int 0, .int 0])), (q_1, .inr (18, [.int 0, .ref sx_ed, .int 0])), (q_2, .inr (18, [.int 0, .ref sx_ed, .int 0]))] ++ va_pl L (pE P)) H := hP
  have hD : va_D A ([(h0, .inr (19, [.ref q_1, .null, .null, .int 0, .int 0])), (q_1, .inr (18, [.int 0, .ref sx_ed, .int 0])), (q_2, .inr (18, [.int 0, .ref sx_ed, .int 0]))] ++ va_pl L (pE P)) := hD
  have hK : va_K (dC, dI) vwQ [(cO, .object "java/lang/Object"), (cI, .int), (cZ, .boolean)] s := hK
  refine W.widen (k := 2) (n := 6) (Nat.le_of_ble_eq_true rfl) (Nat.le_of_ble_eq_true rfl) ?_
  refine va_putF (D := (dC, dI)) (ci := 19) (v := .ref q_2) (ty := .object "java/util/ArrayList") (C := RX12) (T := TX12) (N := 5) hx hb hts mem_X12_init_2 tyX12 tyX12_ok nmX12 hown hK hP hD hS 0 rfl rfl 1 (by decide) (ow (k := 9) rfl) (fun _ h9 => h9) rfl hin rfl (by decide +kernel) rfl rfl (Nat.le_of_ble_eq_true rfl) dX12_init_23 (fun H locs hP hD hS => ?_)
  have hP : va_P (dC, dI) vwQ ([(h0, .inr (19, [.ref q_1, .ref q_2, .null, .int 0, .int 0])), (q_1, .inr (18, [.int 0, .ref sx_ed, .int 0])), (q_2, .inr (18, [.int 0, .ref sx_ed, .int 0]))] ++ va_pl L (pE P)) H := hP
  have hD : va_D A ([(h0, .inr (19, [.ref q_1, .ref q_2, .null, .int 0, .int 0])), (q_1, .inr (18, [.int 0, .ref sx_ed, .int 0])), (q_2, .inr (18, [.int 0, .ref sx_ed, .int 0]))] ++ va_pl L (pE P)) := hD
  refine lv_aload_n hx hb dX12_init_26 rfl (lv_at hl 0 rfl) ?_
  refine va_new (ci := 21) (fs := [.int 0, .int 0, .int 0, .int 0, .int 0, .int 0, .int 0]) (C := RX17) (T := TX17) (N := 7) hx hb hts mem_X12_init_3 tyX17 tyX17_ok hown (ow (k := 10) rfl) (ow (k := 11) rfl) (ow (k := 12) rfl) hK hP hD hS hA rfl (df_X17) (Nat.le_of_ble_eq_true rfl) (Nat.le_of_ble_eq_true rfl) dX12_init_27 (fun q_3 H hP hD hS => ?_)
  have hP := pl_Pp (pl_new (X := [(h0, .inr (19, [.ref q_1, .ref q_2, .null, .int 0, .int 0])), (q_1, .inr (18, [.int 0, .ref sx_ed, .int 0])), (q_2, .inr (18, [.int 0, .ref sx_ed, .int 0]))]) (pl := va_pl L (pE P))) hP
  have hD := pl_Dp (pl_new (X := [(h0, .inr (19, [.ref q_1, .ref q_2, .null, .int 0, .int 0])), (q_1, .inr (18, [.int 0, .ref sx_ed, .int 0])), (q_2, .inr (18, [.int 0, .ref sx_ed, .int 0]))]) (pl := va_pl L (pE P))) hD
  have hP : va_P (dC, dI) vwQ ([(h0, .inr (19, [.ref q_1, .ref q_2, .null, .int 0, .int 0])), (q_1, .inr (18, [.int 0, .ref sx_ed, .int 0])), (q_2, .inr (18, [.int 0, .ref sx_ed, .int 0])), (q_3, .inr (21, [.int 0, .int 0, .int 0, .int 0, .int 0, .int 0, .int 0]))] ++ va_pl L (pE P)) H := hP
  have hD : va_D A ([(h0, .inr (19, [.ref q_1, .ref q_2, .null, .int 0, .int 0])), (q_1, .inr (18, [.int 0, .ref sx_ed, .int 0])), (q_2, .inr (18, [.int 0, .ref sx_ed, .int 0])), (q_3, .inr (21, [.int 0, .int 0, .int 0, .int 0, .int 0, .int 0, .int 0]))] ++ va_pl L (pE P)) := hD
  refine W.widen (k := 3) (n := 13) (Nat.le_of_ble_eq_true rfl) (Nat.le_of_ble_eq_true rfl) ?_
  refine lv_dup hx hb dX12_init_30 rfl ?_
  have hPc := hP.sub (ws' := [(q_3, .inr (21, [.int 0, .int 0, .int 0, .int 0, .int 0, .int 0, .int 0]))]) [3] rfl
  have hDc := hD.sub (ws' := [(q_3, .inr (21, [.int 0, .int 0, .int 0, .int 0, .int 0, .int 0, .int 0]))]) [3] (by decide) rfl
  have hKc := hK.sub (tys' := []) [] rfl
  have hFc := va_free (wc := [(q_3, .inr (21, [.int 0, .int 0, .int 0, .int 0, .int 0, .int 0, .int 0]))]) hD hS hA [3] rfl
  refine va_callv (va_runIN (As := []) (rest := [.ref q_3, .ref h0]) ⟨hx, hb, hml, hown, hts⟩ (c_X17_init l dC dI q_3 (.int 0) (.int 0) (.int 0) (.int 0) (.int 0) (.int 0) (.int 0) H.size) ⟨va_cnB 0 hts (goodIn_sub mem_X12_init_4 gw_X17_init) rfl rfl rfl hp1 (ow (k := 12) rfl) (by decide +kernel) ⟨(Nat.le_of_ble_eq_true rfl), (Nat.le_of_ble_eq_true rfl)⟩, rfl, (ow (k := 13) rfl)⟩ ⟨fun a U g mk q => by obtain ⟨q0, q1, qP, qK, qD⟩ := q; exact ⟨q0, q1, qP, va_K.moved (u := U) (U := U.calling g mk a) (Vm.Alike.refl U.vm) qK, qD⟩, fun U hU hW => ⟨rfl, by rw [hU], by rw [hU]; exact hPc, va_K.moved hW.alike hKc, hDc.weaken (fun _ _ _ _ => trivial)⟩⟩ rfl rfl hl.1 rfl (lv_room (Nat.le_of_ble_eq_true rfl)) dX12_init_31 ⟨(Nat.le_of_ble_eq_true rfl), (Nat.le_of_ble_eq_true rfl)⟩) hS (fun q _ h => hFc q h) hFc (fun  u t H1 locs ht hvm hw hB hz1 hk1 hS => ?_)
  obtain ⟨hP1, hK1, hD1⟩ := hB
  rw [ht] at hP1
  have hK1 := va_K.moved hvm.symm hK1
  obtain ⟨hP, hD⟩ := va_joinQ (X := [(h0, .inr (19, [.ref q_1, .ref q_2, .null, .int 0, .int 0])), (q_1, .inr (18, [.int 0, .ref sx_ed, .int 0])), (q_2, .inr (18, [.int 0, .ref sx_ed, .int 0])), (q_3, .inr (21, [.int 0, .int 0, .int 0, .int 0, .int 0, .int 0, .int 0]))]) (cx := [(q_3, .inr (21, [.int 0, .int 0, .int 0, .int 0, .int 0, .int 0, .int 0]))]) (wr := [(h0, .inr (19, [.ref q_1, .ref q_2, .null, .int 0, .int 0])), (q_1, .inr (18, [.int 0, .ref sx_ed, .int 0])), (q_2, .inr (18, [.int 0, .ref sx_ed, .int 0]))]) (w1 := [(q_3, .inr (21, [.int 0, .int 0, .int 0, .int 0, .int 0, .int 0, .int 0]))]) (pl := va_pl L (pE P)) hP hD [3] [0, 1, 2] rfl rfl (by decide) (by decide) hk1 hFc hP1 hD1
  have hK := (hK.sub (tys' := [(cO, .object "java/lang/Object"), (cI, .int), (cZ, .boolean)]) [0, 1, 2] rfl).app hK1
  generalize H1 = H at hP hS ⊢
  have hP : va_P (dC, dI) vwQ ([(h0, .inr (19, [.ref q_1, .ref q_2, .null, .int 0, .int 0])), (q_1, .inr (18, [.int 0, .ref sx_ed, .int 0])), (q_2, .inr (18, [.int 0, .ref sx_ed, .int 0])), (q_3, .inr (21, [.int 0, .int 0, .int 0, .int 0, .int 0, .int 0, .int 0]))] ++ va_pl L (pE P)) H := hP
  have hD : va_D A ([(h0, .inr (19, [.ref q_1, .ref q_2, .null, .int 0, .int 0])), (q_1, .inr (18, [.int 0, .ref sx_ed, .int 0])), (q_2, .inr (18, [.int 0, .ref sx_ed, .int 0])), (q_3, .inr (21, [.int 0, .int 0, .int 0, .int 0, .int 0, .int 0, .int 0]))] ++ va_pl L (pE P)) := hD
  have hK : va_K (dC, dI) vwQ [(cO, .object "java/lang/Object"), (cI, .int), (cZ, .boolean)] s := hK
  refine W.widen (k := 3) (n := 13) (Nat.le_of_ble_eq_true rfl) (Nat.le_of_ble_eq_true rfl) ?_
  refine va_putF (D := (dC, dI)) (ci := 19) (v := .ref q_3) (ty := .object "SsaForgeModel$Row") (C := RX12) (T := TX12) (N := 5) hx hb hts mem_X12_init_2 tyX12 tyX12_ok nmX12 hown hK hP hD hS 0 rfl rfl 2 (by decide) (ow (k := 14) rfl) (fun _ h9 => h9) rfl hin rfl (by decide +kernel) rfl rfl (Nat.le_of_ble_eq_true rfl) dX12_init_34 (fun H locs hP hD hS => ?_)
  have hP : va_P (dC, dI) vwQ ([(h0, .inr (19, [.ref q_1, .ref q_2, .ref q_3, .int 0, .int 0])), (q_1, .inr (18, [.int 0, .ref sx_ed, .int 0])), (q_2, .inr (18, [.int 0, .ref sx_ed, .int 0])), (q_3, .inr (21, [.int 0, .int 0, .int 0, .int 0, .int 0, .int 0, .int 0]))] ++ va_pl L (pE P)) H := hP
  have hD : va_D A ([(h0, .inr (19, [.ref q_1, .ref q_2, .ref q_3, .int 0, .int 0])), (q_1, .inr (18, [.int 0, .ref sx_ed, .int 0])), (q_2, .inr (18, [.int 0, .ref sx_ed, .int 0])), (q_3, .inr (21, [.int 0, .int 0, .int 0, .int 0, .int 0, .int 0, .int 0]))] ++ va_pl L (pE P)) := hD
  subst hQ
  have hP := hP.part (X := [(h0, .inr (19, [.ref q_1, .ref q_2, .ref q_3, .int 0, .int 0])), (q_1, .inr (18, [.int 0, .ref sx_ed, .int 0])), (q_2, .inr (18, [.int 0, .ref sx_ed, .int 0])), (q_3, .inr (21, [.int 0, .int 0, .int 0, .int 0, .int 0, .int 0, .int 0]))]) (cx := [(h0, .inr (19, [.ref q_1, .ref q_2, .ref q_3, .int 0, .int 0])), (q_2, .inr (18, [.int 0, .ref sx_ed, .int 0])), (q_3, .inr (21, [.int 0, .int 0, .int 0, .int 0, .int 0, .int 0, .int 0])), (q_1, .inr (18, [.int 0, .ref sx_ed, .int 0]))]) (pl := va_pl L (pE P)) [0, 2, 3, 1] rfl
  have hD := hD.part (X := [(h0, .inr (19, [.ref q_1, .ref q_2, .ref q_3, .int 0, .int 0])), (q_1, .inr (18, [.int 0, .ref sx_ed, .int 0])), (q_2, .inr (18, [.int 0, .ref sx_ed, .int 0])), (q_3, .inr (21, [.int 0, .int 0, .int 0, .int 0, .int 0, .int 0, .int 0]))]) (cx := [(h0, .inr (19, [.ref q_1, .ref q_2, .ref q_3, .int 0, .int 0])), (q_2, .inr (18, [.int 0, .ref sx_ed, .int 0])), (q_3, .inr (21, [.int 0, .int 0, .int 0, .int 0, .int 0, .int 0, .int 0])), (q_1, .inr (18, [.int 0, .ref sx_ed, .int 0]))]) (pl := va_pl L (pE P)) [0, 2, 3, 1] (by decide) rfl
  have hqn_6 : q_1 ∉ L := pl_notin (X := [(h0, .inr (19, [.ref q_1, .ref q_2, .ref q_3, .int 0, .int 0])), (q_2, .inr (18, [.int 0, .ref sx_ed, .int 0])), (q_3, .inr (21, [.int 0, .int 0, .int 0, .int 0, .int 0, .int 0, .int 0]))]) hD
  obtain ⟨Pm_4, ePm_4⟩ : ∃ Q9 : PO, Q9 = P.mlist q_1 15 h0 sx_ed := ⟨_, rfl⟩
  obtain ⟨Lm_5, eLm_5⟩ : ∃ l9 : List Nat, l9 = q_1 :: L := ⟨_, rfl⟩
  obtain ⟨hP, hD⟩ := pool_new (X := [(h0, .inr (19, [.ref q_1, .ref q_2, .ref q_3, .int 0, .int 0])), (q_2, .inr (18, [.int 0, .ref sx_ed, .int 0])), (q_3, .inr (21, [.int 0, .int 0, .int 0, .int 0, .int 0, .int 0, .int 0]))]) (P' := Pm_4) (by rw [ePm_4]; exact pE_mlist _ _ _ _ _) hP hD
  rw [← eLm_5] at hP hD
  have hex_7 : EXT9 L P Lm_5 Pm_4 := (by rw [eLm_5, ePm_4]; exact EXT9.one hqn_6)
  have hP : va_P (dC, dI) vwQ ([(h0, .inr (19, [.ref q_1, .ref q_2, .ref q_3, .int 0, .int 0])), (q_2, .inr (18, [.int 0, .ref sx_ed, .int 0])), (q_3, .inr (21, [.int 0, .int 0, .int 0, .int 0, .int 0, .int 0, .int 0]))] ++ va_pl Lm_5 (pE Pm_4)) H := hP
  have hD : va_D A ([(h0, .inr (19, [.ref q_1, .ref q_2, .ref q_3, .int 0, .int 0])), (q_2, .inr (18, [.int 0, .ref sx_ed, .int 0])), (q_3, .inr (21, [.int 0, .int 0, .int 0, .int 0, .int 0, .int 0, .int 0]))] ++ va_pl Lm_5 (pE Pm_4)) := hD
  have hfa_8 : LSF9 Lm_5 Pm_4 q_1 15 h0 sx_ed := (by rw [eLm_5, ePm_4]; exact mlist_lsf _ _ _ _ _ _)
  have hP := hP.part (X := [(h0, .inr (19, [.ref q_1, .ref q_2, .ref q_3, .int 0, .int 0])), (q_2, .inr (18, [.int 0, .ref sx_ed, .int 0])), (q_3, .inr (21, [.int 0, .int 0, .int 0, .int 0, .int 0, .int 0, .int 0]))]) (cx := [(h0, .inr (19, [.ref q_1, .ref q_2, .ref q_3, .int 0, .int 0])), (q_3, .inr (21, [.int 0, .int 0, .int 0, .int 0, .int 0, .int 0, .int 0])), (q_2, .inr (18, [.int 0, .ref sx_ed, .int 0]))]) (pl := va_pl Lm_5 (pE Pm_4)) [0, 2, 1] rfl
  have hD := hD.part (X := [(h0, .inr (19, [.ref q_1, .ref q_2, .ref q_3, .int 0, .int 0])), (q_2, .inr (18, [.int 0, .ref sx_ed, .int 0])), (q_3, .inr (21, [.int 0, .int 0, .int 0, .int 0, .int 0, .int 0, .int 0]))]) (cx := [(h0, .inr (19, [.ref q_1, .ref q_2, .ref q_3, .int 0, .int 0])), (q_3, .inr (21, [.int 0, .int 0, .int 0, .int 0, .int 0, .int 0, .int 0])), (q_2, .inr (18, [.int 0, .ref sx_ed, .int 0]))]) (pl := va_pl Lm_5 (pE Pm_4)) [0, 2, 1] (by decide) rfl
  have hqn_11 : q_2 ∉ Lm_5 := pl_notin (X := [(h0, .inr (19, [.ref q_1, .ref q_2, .ref q_3, .int 0, .int 0])), (q_3, .inr (21, [.int 0, .int 0, .int 0, .int 0, .int 0, .int 0, .int 0]))]) hD
  obtain ⟨Pm_9, ePm_9⟩ : ∃ Q9 : PO, Q9 = Pm_4.mlist q_2 17 h0 sx_ed := ⟨_, rfl⟩
  obtain ⟨Lm_10, eLm_10⟩ : ∃ l9 : List Nat, l9 = q_2 :: Lm_5 := ⟨_, rfl⟩
  obtain ⟨hP, hD⟩ := pool_new (X := [(h0, .inr (19, [.ref q_1, .ref q_2, .ref q_3, .int 0, .int 0])), (q_3, .inr (21, [.int 0, .int 0, .int 0, .int 0, .int 0, .int 0, .int 0]))]) (P' := Pm_9) (by rw [ePm_9]; exact pE_mlist _ _ _ _ _) hP hD
  rw [← eLm_10] at hP hD
  have hex_12 : EXT9 Lm_5 Pm_4 Lm_10 Pm_9 := (by rw [eLm_10, ePm_9]; exact EXT9.one hqn_11)
  have hP : va_P (dC, dI) vwQ ([(h0, .inr (19, [.ref q_1, .ref q_2, .ref q_3, .int 0, .int 0])), (q_3, .inr (21, [.int 0, .int 0, .int 0, .int 0, .int 0, .int 0, .int 0]))] ++ va_pl Lm_10 (pE Pm_9)) H := hP
  have hD : va_D A ([(h0, .inr (19, [.ref q_1, .ref q_2, .ref q_3, .int 0, .int 0])), (q_3, .inr (21, [.int 0, .int 0, .int 0, .int 0, .int 0, .int 0, .int 0]))] ++ va_pl Lm_10 (pE Pm_9)) := hD
  have hex_13 := hex_7.trans hex_12
  have hfa_14 := hex_12.lsf hfa_8
  have hfa_15 : LSF9 Lm_10 Pm_9 q_2 17 h0 sx_ed := (by rw [eLm_10, ePm_9]; exact mlist_lsf _ _ _ _ _ _)
  have hqn_18 : q_3 ∉ Lm_10 := pl_notin (X := [(h0, .inr (19, [.ref q_1, .ref q_2, .ref q_3, .int 0, .int 0]))]) hD
  obtain ⟨Pm_16, ePm_16⟩ : ∃ Q9 : PO, Q9 = Pm_9.mrow q_3 1 := ⟨_, rfl⟩
  obtain ⟨Lm_17, eLm_17⟩ : ∃ l9 : List Nat, l9 = q_3 :: Lm_10 := ⟨_, rfl⟩
  obtain ⟨hP, hD⟩ := pool_new (X := [(h0, .inr (19, [.ref q_1, .ref q_2, .ref q_3, .int 0, .int 0]))]) (P' := Pm_16) (by rw [ePm_16]; exact pE_mrow _ _ _) hP hD
  rw [← eLm_17] at hP hD
  have hex_19 : EXT9 Lm_10 Pm_9 Lm_17 Pm_16 := (by rw [eLm_17, ePm_16]; exact EXT9.one hqn_18)
  have hP : va_P (dC, dI) vwQ ([(h0, .inr (19, [.ref q_1, .ref q_2, .ref q_3, .int 0, .int 0]))] ++ va_pl Lm_17 (pE Pm_16)) H := hP
  have hD : va_D A ([(h0, .inr (19, [.ref q_1, .ref q_2, .ref q_3, .int 0, .int 0]))] ++ va_pl Lm_17 (pE Pm_16)) := hD
  have hex_20 := hex_13.trans hex_19
  have hfa_21 := hex_19.lsf hfa_14
  have hfa_22 := hex_19.lsf hfa_15
  have hfa_23 : RWF9 Lm_17 Pm_16 q_3 1 := (by rw [eLm_17, ePm_16]; exact mrow_rwf _ _ _ _)
  refine W.widen (k := 3) (n := 13) (Nat.le_of_ble_eq_true rfl) (Nat.le_of_ble_eq_true rfl) ?_
  exact W.vret hx hb hr (fun t ht hW => ⟨⟨(), rfl, trivial, q_1, q_2, q_3, Lm_17, Pm_16, ⟨hex_20, (fun z m n => by rw [eLm_17, eLm_10, eLm_5] at m; rcases List.mem_cons.mp m with e | m; rw [e]; exact hfa_23.new; rcases List.mem_cons.mp m with e | m; rw [e]; exact hfa_22.new (by decide); rcases List.mem_cons.mp m with e | m; rw [e]; exact hfa_21.new (by decide); exact absurd m n), hfa_21, hfa_22, hfa_23⟩, by rw [ht]; exact hP, va_K.moved hW.alike hK, hD⟩, hS.F ht⟩) hS.2.2 dX12_init_37
