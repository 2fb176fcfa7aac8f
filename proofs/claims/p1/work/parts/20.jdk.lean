theorem dJxa1e45_init_da8c8_0 : decode cJxa1e45_init_da8c8 0 = .ok (.aload_n 0, 1) := by decide +kernel
theorem dJxa1e45_init_da8c8_1 : decode cJxa1e45_init_da8c8 1 = .ok (.invokespecial 1, 3) := by decide +kernel
theorem dJxa1e45_init_da8c8_4 : decode cJxa1e45_init_da8c8 4 = .ok (.return_, 1) := by decide +kernel
def o_Jxa1e45_init : List Cond := [.methodLink RJxa1e45 1 objectInit, .instanceMethod objectInit, .code objectInit ⟨#[0xb1]⟩ 1 none]
def v_Jxa1e45_init : List Cond := .code yJxa1e45_init_da8c8 cJxa1e45_init_da8c8 1 none :: (o_Jxa1e45_init ++ [])
theorem mow_Jxa1e45_init : ∀ w ∈ o_Jxa1e45_init, w ∈ v_Jxa1e45_init := fun _ h => List.mem_cons_of_mem _ (List.mem_append_left _ h)
set_option maxRecDepth 20000 in
theorem gw_Jxa1e45_init : v_Jxa1e45_init.all goodWord = true := by decide +kernel
set_option maxHeartbeats 4000000 in
set_option maxRecDepth 100000 in
theorem c_Jxa1e45_init (l : Launch) (dC : Nat → ClassId) (dI : Nat → Nat → Nat) (h0 : Nat) (sz : Nat) : Met l yJxa1e45_init_da8c8 v_Jxa1e45_init ({ frames := 1, cells := 0, slots := 0, locals := 12 }) (va_Pc [.ref h0] (fun U => U.heap.size = sz ∧ va_P (dC, dI) vwP [(h0, .inr (18, [.int 0, .null, .int 0]))] U.heap ∧ va_K (dC, dI) vwP [] U ∧ va_D (fun _ => True) [(h0, .inr (18, [.int 0, .null, .int 0]))])) (va_Qv (fun _ : Unit => True) (fun (_ : Unit) (t : State) => va_P (dC, dI) vwP [(h0, .inr (18, [.int 0, .null, .int 0]))] t.heap ∧ va_K (dC, dI) vwP [] t ∧ va_D (va_A [(h0, .inr (18, [.int 0, .null, .int 0]))] sz) [(h0, .inr (18, [.int 0, .null, .int 0]))]) (va_A [(h0, .inr (18, [.int 0, .null, .int 0]))] sz)) 0 0 (va_A [(h0, .inr (18, [.int 0, .null, .int 0]))] sz) := by
  refine Met.ofW (cc := cJxa1e45_init_da8c8) (maxL := 1) (ret := none) (by decide) rfl ?_
  intro p e s m args below meth c s₁ B hml hv
  obtain ⟨rfl, hsz, hP, hK, hD0⟩ := hv
  have hx := B.exec
  have hb := B.bytes
  have hr := B.returns
  have hts := atoms_spec (ws := v_Jxa1e45_init) B.pre
  have hown : s.vm.findClass RJxa1e45 = some m.cls := findClass_of_methodNamed B.named
  have hlocks := B.notSynchronized
  have ow : ∀ {k : Nat} {w : Cond}, o_Jxa1e45_init[k]? = some w → w.before ([.ref h0] : List Value).toArray s = true := fun h => hts _ (mow_Jxa1e45_init _ (List.mem_of_getElem? h))
  have hin : meth.name = "<init>" := (name_of_methodNamed B.named B.method).1
  subst hsz
  have hD := hD0.self (sz := s.heap.size)
  generalize hAe : va_A [(h0, .inr (18, [.int 0, .null, .int 0]))] s.heap.size = A at hD ⊢
  have hA : ∀ q : Nat, s.heap.size ≤ q → A q := fun q h => by rw [← hAe]; exact Or.inr h
  have hS : va_S A s.heap s.heap [] := va_S.rf
  have hP : va_P (dC, dI) vwP [(h0, .inr (18, [.int 0, .null, .int 0]))] s.heap := hP
  have hl := lv_entry ([.ref h0]) (n := 1) (Nat.le_of_ble_eq_true rfl)
  rw [lg_entry_eq]
  generalize (lg_sl ([.ref h0]) ++ List.replicate (1 - (lg_sl ([.ref h0])).length) Slot.unset).toArray = ls at hl ⊢
  have hl : lv_has ls 1 [(0, .ref h0)] := hl
  obtain ⟨H, hH⟩ : ∃ H, H = s.heap := ⟨_, rfl⟩
  rw [← hH] at hP
  have hS : va_S A s.heap H [] := by rw [hH]; exact hS
  rw [← hH]
  refine lv_aload_n hx hb dJxa1e45_init_da8c8_0 rfl (lv_at hl 0 rfl) ?_
  refine W.objInit hx hb hown (ow (k := 0) rfl) (ow (k := 1) rfl) (ow (k := 2) rfl) rfl (by rw [hml]; exact hl.1) rfl dJxa1e45_init_da8c8_1 (Nat.le_of_ble_eq_true rfl) (Nat.le_of_ble_eq_true rfl) ?_
  refine W.eq (g2 := F0 m 4 ls []) rfl ?_
  refine W.widen (k := 0) (n := 0) (Nat.le_of_ble_eq_true rfl) (Nat.le_of_ble_eq_true rfl) ?_
  exact W.vret hx hb hr (fun t ht hW => ⟨⟨(), rfl, trivial, by rw [ht]; exact hP, va_K.moved hW.alike hK, hD⟩, hS.F ht⟩) hS.2.2 dJxa1e45_init_da8c8_4
theorem dJxc12de_init_da8c8_0 : decode cJxc12de_init_da8c8 0 = .ok (.aload_n 0, 1) := by decide +kernel
theorem dJxc12de_init_da8c8_1 : decode cJxc12de_init_da8c8 1 = .ok (.invokespecial 1, 3) := by decide +kernel
theorem dJxc12de_init_da8c8_4 : decode cJxc12de_init_da8c8 4 = .ok (.aload_n 0, 1) := by decide +kernel
theorem dJxc12de_init_da8c8_5 : decode cJxc12de_init_da8c8 5 = .ok (.iconst 0, 1) := by decide +kernel
theorem dJxc12de_init_da8c8_6 : decode cJxc12de_init_da8c8 6 = .ok (.putfield 7, 3) := by decide +kernel
theorem dJxc12de_init_da8c8_9 : decode cJxc12de_init_da8c8 9 = .ok (.return_, 1) := by decide +kernel
def o_Jxc12de_init : List Cond := [.initialized RJxa1e45, .methodLink RJxc12de 1 yJxa1e45_init_da8c8, .instanceMethod yJxa1e45_init_da8c8, .fieldLink RJxc12de 7 "java/util/AbstractList" "modCount" "I"]
def v_Jxc12de_init : List Cond := .code yJxc12de_init_da8c8 cJxc12de_init_da8c8 1 none :: (o_Jxc12de_init ++ (v_Jxa1e45_init ++ (wsJx4a65c0 ++ [])))
theorem mow_Jxc12de_init : ∀ w ∈ o_Jxc12de_init, w ∈ v_Jxc12de_init := fun _ h => List.mem_cons_of_mem _ (List.mem_append_left _ h)
theorem mem_Jxc12de_init_0 : ∀ w ∈ v_Jxa1e45_init, w ∈ v_Jxc12de_init := fun _ h => List.mem_cons_of_mem _ (List.mem_append_right _ (List.mem_append_left _ h))
theorem mem_Jxc12de_init_1 : ∀ w ∈ wsJx4a65c0, w ∈ v_Jxc12de_init := fun _ h => List.mem_cons_of_mem _ (List.mem_append_right _ (List.mem_append_right _ (List.mem_append_left _ h)))
set_option maxRecDepth 20000 in
theorem gw_Jxc12de_init : v_Jxc12de_init.all goodWord = true := by decide +kernel
set_option maxHeartbeats 4000000 in
set_option maxRecDepth 100000 in
theorem c_Jxc12de_init (l : Launch) (dC : Nat → ClassId) (dI : Nat → Nat → Nat) (h0 : Nat) (sz : Nat) : Met l yJxc12de_init_da8c8 v_Jxc12de_init ({ frames := 2, cells := 0, slots := 0, locals := 32 }) (va_Pc [.ref h0] (fun U => U.heap.size = sz ∧ va_P (dC, dI) vwP [(h0, .inr (18, [.int 0, .null, .int 0]))] U.heap ∧ va_K (dC, dI) vwP [] U ∧ va_D (fun _ => True) [(h0, .inr (18, [.int 0, .null, .int 0]))])) (va_Qv (fun _ : Unit => True) (fun (_ : Unit) (t : State) => va_P (dC, dI) vwP [(h0, .inr (18, [.int 0, .null, .int 0]))] t.heap ∧ va_K (dC, dI) vwP [] t ∧ va_D (va_A [(h0, .inr (18, [.int 0, .null, .int 0]))] sz) [(h0, .inr (18, [.int 0, .null, .int 0]))]) (va_A [(h0, .inr (18, [.int 0, .null, .int 0]))] sz)) 0 0 (va_A [(h0, .inr (18, [.int 0, .null, .int 0]))] sz) := by
  refine Met.ofW (cc := cJxc12de_init_da8c8) (maxL := 1) (ret := none) (by decide) rfl ?_
  intro p e s m args below meth c s₁ B hml hv
  obtain ⟨rfl, hsz, hP, hK, hD0⟩ := hv
  have hx := B.exec
  have hb := B.bytes
  have hr := B.returns
  have hts := atoms_spec (ws := v_Jxc12de_init) B.pre
  have hown : s.vm.findClass RJxc12de = some m.cls := findClass_of_methodNamed B.named
  have hlocks := B.notSynchronized
  have ow : ∀ {k : Nat} {w : Cond}, o_Jxc12de_init[k]? = some w → w.before ([.ref h0] : List Value).toArray s = true := fun h => hts _ (mow_Jxc12de_init _ (List.mem_of_getElem? h))
  have hin : meth.name = "<init>" := (name_of_methodNamed B.named B.method).1
  subst hsz
  have hD := hD0.self (sz := s.heap.size)
  generalize hAe : va_A [(h0, .inr (18, [.int 0, .null, .int 0]))] s.heap.size = A at hD ⊢
  have hA : ∀ q : Nat, s.heap.size ≤ q → A q := fun q h => by rw [← hAe]; exact Or.inr h
  have hS : va_S A s.heap s.heap [] := va_S.rf
  have hP : va_P (dC, dI) vwP [(h0, .inr (18, [.int 0, .null, .int 0]))] s.heap := hP
  have hl := lv_entry ([.ref h0]) (n := 1) (Nat.le_of_ble_eq_true rfl)
  rw [lg_entry_eq]
  generalize (lg_sl ([.ref h0]) ++ List.replicate (1 - (lg_sl ([.ref h0])).length) Slot.unset).toArray = ls at hl ⊢
  have hl : lv_has ls 1 [(0, .ref h0)] := hl
  obtain ⟨H, hH⟩ : ∃ H, H = s.heap := ⟨_, rfl⟩
  rw [← hH] at hP
  have hS : va_S A s.heap H [] := by rw [hH]; exact hS
  rw [← hH]
  refine lv_aload_n hx hb dJxc12de_init_da8c8_0 rfl (lv_at hl 0 rfl) ?_
  have hPc := hP.sub (ws' := [(h0, .inr (18, [.int 0, .null, .int 0]))]) [0] rfl
  have hDc := hD.sub (ws' := [(h0, .inr (18, [.int 0, .null, .int 0]))]) [0] (by decide) rfl
  have hKc := hK.sub (tys' := []) [] rfl
  have hFc := va_free (wc := [(h0, .inr (18, [.int 0, .null, .int 0]))]) hD hS hA [0] rfl
  refine va_callv (va_runI (As := []) (rest := []) ⟨hx, hb, hml, hown, hts⟩ (c_Jxa1e45_init l dC dI h0 H.size) (cwI 0 hts (goodIn_sub mem_Jxc12de_init_0 gw_Jxa1e45_init) rfl rfl rfl (ow (k := 0) rfl) (ow (k := 1) rfl) (ow (k := 2) rfl) rfl (by decide +kernel) ⟨(Nat.le_of_ble_eq_true rfl), (Nat.le_of_ble_eq_true rfl)⟩) ⟨fun a U g mk q => by obtain ⟨q0, q1, qP, qK, qD⟩ := q; exact ⟨q0, q1, qP, va_K.moved (u := U) (U := U.calling g mk a) (Vm.Alike.refl U.vm) qK, qD⟩, fun U hU hW => ⟨rfl, by rw [hU], by rw [hU]; exact hPc, va_K.moved hW.alike hKc, hDc.weaken (fun _ _ _ _ => trivial)⟩⟩ rfl rfl hl.1 rfl (lv_room (Nat.le_of_ble_eq_true rfl)) dJxc12de_init_da8c8_1 ⟨(Nat.le_of_ble_eq_true rfl), (Nat.le_of_ble_eq_true rfl)⟩) hS (fun q _ h => hFc q h) hFc (fun  u t H1 locs ht hvm hw hB hz1 hk1 hS => ?_)
  obtain ⟨hP1, hK1, hD1⟩ := hB
  rw [ht] at hP1
  have hK1 := va_K.moved hvm.symm hK1
  obtain ⟨hP, hD⟩ := va_join (wr := []) (w1 := [(h0, .inr (18, [.int 0, .null, .int 0]))]) hP hD [0] [] rfl rfl (by decide) (by decide) hk1 hFc hP1 hD1
  have hK := (hK.sub (tys' := []) [] rfl).app hK1
  generalize H1 = H at hP hS ⊢
  have hP : va_P (dC, dI) vwP [(h0, .inr (18, [.int 0, .null, .int 0]))] H := hP
  have hD : va_D A [(h0, .inr (18, [.int 0, .null, .int 0]))] := hD
  have hK : va_K (dC, dI) vwP [] s := hK
  refine W.widen (k := 0) (n := 0) (Nat.le_of_ble_eq_true rfl) (Nat.le_of_ble_eq_true rfl) ?_
  refine lv_aload_n hx hb dJxc12de_init_da8c8_4 rfl (lv_at hl 0 rfl) ?_
  refine lv_iconst (v := 0) hx hb dJxc12de_init_da8c8_5 (by decide) ?_
  refine va_put (D := (dC, dI)) (ci := 18) (v := .int 0) (ty := .int) (C := RJx4a65c) (T := TJx4a65c) (N := 3) hx hb hts mem_Jxc12de_init_1 tyJx4a65c tyJx4a65c_ok nmJx4a65c hown hK hP hD hS 0 rfl rfl 0 (by decide) (ow (k := 3) rfl) (fun _ h9 => h9) rfl (by decide +kernel) rfl rfl (Nat.le_of_ble_eq_true rfl) dJxc12de_init_da8c8_6 (fun H locs hP hD hS => ?_)
  have hP : va_P (dC, dI) vwP [(h0, .inr (18, [.int 0, .null, .int 0]))] H := hP
  have hD : va_D A [(h0, .inr (18, [.int 0, .null, .int 0]))] := hD
  refine W.widen (k := 0) (n := 0) (Nat.le_of_ble_eq_true rfl) (Nat.le_of_ble_eq_true rfl) ?_
  exact W.vret hx hb hr (fun t ht hW => ⟨⟨(), rfl, trivial, by rw [ht]; exact hP, va_K.moved hW.alike hK, hD⟩, hS.F ht⟩) hS.2.2 dJxc12de_init_da8c8_9
theorem dJx4a65c_init_da8c8_0 : decode cJx4a65c_init_da8c8 0 = .ok (.aload_n 0, 1) := by decide +kernel
theorem dJx4a65c_init_da8c8_1 : decode cJx4a65c_init_da8c8 1 = .ok (.invokespecial 1, 3) := by decide +kernel
theorem dJx4a65c_init_da8c8_4 : decode cJx4a65c_init_da8c8 4 = .ok (.aload_n 0, 1) := by decide +kernel
theorem dJx4a65c_init_da8c8_5 : decode cJx4a65c_init_da8c8 5 = .ok (.getstatic 39, 3) := by decide +kernel
theorem dJx4a65c_init_da8c8_8 : decode cJx4a65c_init_da8c8 8 = .ok (.putfield 9, 3) := by decide +kernel
theorem dJx4a65c_init_da8c8_11 : decode cJx4a65c_init_da8c8 11 = .ok (.return_, 1) := by decide +kernel
def o_Jx4a65c_init : List Cond := [.initialized RJxc12de, .methodLink RJx4a65c 1 yJxc12de_init_da8c8, .instanceMethod yJxc12de_init_da8c8, .fieldLink RJx4a65c 39 "java/util/ArrayList" "DEFAULTCAPACITY_EMPTY_ELEMENTDATA" "[Ljava/lang/Object;", .fieldLink RJx4a65c 9 "java/util/ArrayList" "elementData" "[Ljava/lang/Object;"]
def v_Jx4a65c_init : List Cond := .code yJx4a65c_init_da8c8 cJx4a65c_init_da8c8 1 none :: (o_Jx4a65c_init ++ (v_Jxc12de_init ++ (wsJx4a65c0 ++ [])))
theorem mow_Jx4a65c_init : ∀ w ∈ o_Jx4a65c_init, w ∈ v_Jx4a65c_init := fun _ h => List.mem_cons_of_mem _ (List.mem_append_left _ h)
theorem mem_Jx4a65c_init_0 : ∀ w ∈ v_Jxc12de_init, w ∈ v_Jx4a65c_init := fun _ h => List.mem_cons_of_mem _ (List.mem_append_right _ (List.mem_append_left _ h))
theorem mem_Jx4a65c_init_1 : ∀ w ∈ wsJx4a65c0, w ∈ v_Jx4a65c_init := fun _ h => List.mem_cons_of_mem _ (List.mem_append_right _ (List.mem_append_right _ (List.mem_append_left _ h)))
set_option maxRecDepth 20000 in
theorem gw_Jx4a65c_init : v_Jx4a65c_init.all goodWord = true := by decide +kernel
set_option maxHeartbeats 4000000 in
set_option maxRecDepth 100000 in
theorem c_Jx4a65c_init (l : Launch) (dC : Nat → ClassId) (dI : Nat → Nat → Nat) (h0 : Nat) (sz : Nat) (sx_ed : Nat) : Met l yJx4a65c_init_da8c8 v_Jx4a65c_init ({ frames := 3, cells := 0, slots := 0, locals := 52 }) (va_Pc [.ref h0] (fun U => U.heap.size = sz ∧ va_P (dC, dI) vwP [(h0, .inr (18, [.int 0, .null, .int 0]))] U.heap ∧ va_K (dC, dI) vwP [] U ∧ va_D (fun _ => True) [(h0, .inr (18, [.int 0, .null, .int 0]))] ∧ va_Z "java/util/ArrayList" "DEFAULTCAPACITY_EMPTY_ELEMENTDATA" "[Ljava/lang/Object;" (.ref sx_ed) (va_A [(h0, .inr (18, [.int 0, .null, .int 0]))] sz) U U.heap)) (va_Qv (fun _ : Unit => True) (fun (_ : Unit) (t : State) => va_P (dC, dI) vwP [(h0, .inr (18, [.int 0, .ref sx_ed, .int 0]))] t.heap ∧ va_K (dC, dI) vwP [] t ∧ va_D (va_A [(h0, .inr (18, [.int 0, .null, .int 0]))] sz) [(h0, .inr (18, [.int 0, .ref sx_ed, .int 0]))]) (va_A [(h0, .inr (18, [.int 0, .null, .int 0]))] sz)) 0 0 (va_A [(h0, .inr (18, [.int 0, .null, .int 0]))] sz) := by
  refine Met.ofW (cc := cJx4a65c_init_da8c8) (maxL := 1) (ret := none) (by decide) rfl ?_
  intro p e s m args below meth c s₁ B hml hv
  obtain ⟨rfl, hsz, hP, hK, hD0, hp0⟩ := hv
  have hx := B.exec
  have hb := B.bytes
  have hr := B.returns
  have hts := atoms_spec (ws := v_Jx4a65c_init) B.pre
  have hown : s.vm.findClass RJx4a65c = some m.cls := findClass_of_methodNamed B.named
  have hlocks := B.notSynchronized
  have ow : ∀ {k : Nat} {w : Cond}, o_Jx4a65c_init[k]? = some w → w.before ([.ref h0] : List Value).toArray s = true := fun h => hts _ (mow_Jx4a65c_init _ (List.mem_of_getElem? h))
  have hin : meth.name = "<init>" := (name_of_methodNamed B.named B.method).1
  subst hsz
  have hD := hD0.self (sz := s.heap.size)
  generalize hAe : va_A [(h0, .inr (18, [.int 0, .null, .int 0]))] s.heap.size = A at hD hp0 ⊢
  have hA : ∀ q : Nat, s.heap.size ≤ q → A q := fun q h => by rw [← hAe]; exact Or.inr h
  have hS : va_S A s.heap s.heap [] := va_S.rf
  have hP : va_P (dC, dI) vwP [(h0, .inr (18, [.int 0, .null, .int 0]))] s.heap := hP
  have hl := lv_entry ([.ref h0]) (n := 1) (Nat.le_of_ble_eq_true rfl)
  rw [lg_entry_eq]
  generalize (lg_sl ([.ref h0]) ++ List.replicate (1 - (lg_sl ([.ref h0])).length) Slot.unset).toArray = ls at hl ⊢
  have hl : lv_has ls 1 [(0, .ref h0)] := hl
  obtain ⟨H, hH⟩ : ∃ H, H = s.heap := ⟨_, rfl⟩
  rw [← hH] at hP
  have hS : va_S A s.heap H [] := by rw [hH]; exact hS
  rw [← hH]
  refine lv_aload_n hx hb dJx4a65c_init_da8c8_0 rfl (lv_at hl 0 rfl) ?_
  have hPc := hP.sub (ws' := [(h0, .inr (18, [.int 0, .null, .int 0]))]) [0] rfl
  have hDc := hD.sub (ws' := [(h0, .inr (18, [.int 0, .null, .int 0]))]) [0] (by decide) rfl
  have hKc := hK.sub (tys' := []) [] rfl
  have hFc := va_free (wc := [(h0, .inr (18, [.int 0, .null, .int 0]))]) hD hS hA [0] rfl
  refine va_callv (va_runI (As := []) (rest := []) ⟨hx, hb, hml, hown, hts⟩ (c_Jxc12de_init l dC dI h0 H.size) (cwI 0 hts (goodIn_sub mem_Jx4a65c_init_0 gw_Jxc12de_init) rfl rfl rfl (ow (k := 0) rfl) (ow (k := 1) rfl) (ow (k := 2) rfl) rfl (by decide +kernel) ⟨(Nat.le_of_ble_eq_true rfl), (Nat.le_of_ble_eq_true rfl)⟩) ⟨fun a U g mk q => by obtain ⟨q0, q1, qP, qK, qD⟩ := q; exact ⟨q0, q1, qP, va_K.moved (u := U) (U := U.calling g mk a) (Vm.Alike.refl U.vm) qK, qD⟩, fun U hU hW => ⟨rfl, by rw [hU], by rw [hU]; exact hPc, va_K.moved hW.alike hKc, hDc.weaken (fun _ _ _ _ => trivial)⟩⟩ rfl rfl hl.1 rfl (lv_room (Nat.le_of_ble_eq_true rfl)) dJx4a65c_init_da8c8_1 ⟨(Nat.le_of_ble_eq_true rfl), (Nat.le_of_ble_eq_true rfl)⟩) hS (fun q _ h => hFc q h) hFc (fun  u t H1 locs ht hvm hw hB hz1 hk1 hS => ?_)
  obtain ⟨hP1, hK1, hD1⟩ := hB
  rw [ht] at hP1
  have hK1 := va_K.moved hvm.symm hK1
  obtain ⟨hP, hD⟩ := va_join (wr := []) (w1 := [(h0, .inr (18, [.int 0, .null, .int 0]))]) hP hD [0] [] rfl rfl (by decide) (by decide) hk1 hFc hP1 hD1
  have hK := (hK.sub (tys' := []) [] rfl).app hK1
  generalize H1 = H at hP hS ⊢
  have hP : va_P (dC, dI) vwP [(h0, .inr (18, [.int 0, .null, .int 0]))] H := hP
  have hD : va_D A [(h0, .inr (18, [.int 0, .null, .int 0]))] := hD
  have hK : va_K (dC, dI) vwP [] s := hK
  refine W.widen (k := 0) (n := 0) (Nat.le_of_ble_eq_true rfl) (Nat.le_of_ble_eq_true rfl) ?_
  refine lv_aload_n hx hb dJx4a65c_init_da8c8_4 rfl (lv_at hl 0 rfl) ?_
  refine va_gets (v := .ref sx_ed) hx hb hp0 hS hown (ow (k := 3) rfl) (fun _ h9 => h9) dJx4a65c_init_da8c8_5 ?_
  refine va_put (D := (dC, dI)) (ci := 18) (v := .ref sx_ed) (ty := .array (.object "java/lang/Object")) (C := RJx4a65c) (T := TJx4a65c) (N := 3) hx hb hts mem_Jx4a65c_init_1 tyJx4a65c tyJx4a65c_ok nmJx4a65c hown hK hP hD hS 0 rfl rfl 1 (by decide) (ow (k := 4) rfl) (fun _ h9 => h9) rfl (by decide +kernel) rfl rfl (Nat.le_of_ble_eq_true rfl) dJx4a65c_init_da8c8_8 (fun H locs hP hD hS => ?_)
  have hP : va_P (dC, dI) vwP [(h0, .inr (18, [.int 0, .ref sx_ed, .int 0]))] H := hP
  have hD : va_D A [(h0, .inr (18, [.int 0, .ref sx_ed, .int 0]))] := hD
  refine W.widen (k := 0) (n := 0) (Nat.le_of_ble_eq_true rfl) (Nat.le_of_ble_eq_true rfl) ?_
  exact W.vret hx hb hr (fun t ht hW => ⟨⟨(), rfl, trivial, by rw [ht]; exact hP, va_K.moved hW.alike hK, hD⟩, hS.F ht⟩) hS.2.2 dJx4a65c_init_da8c8_11
theorem dJ5_init_d00df_0 : decode cJ5_init_d00df 0 = .ok (.aload_n 0, 1) := by decide +kernel
theorem dJ5_init_d00df_1 : decode cJ5_init_d00df 1 = .ok (.invokespecial 3, 3) := by decide +kernel
theorem dJ5_init_d00df_4 : decode cJ5_init_d00df 4 = .ok (.getstatic 18, 3) := by decide +kernel
theorem dJ5_init_d00df_7 : decode cJ5_init_d00df 7 = .ok (.ifCond .eq 18, 3) := by decide +kernel
theorem dJ5_init_d00df_10 : decode cJ5_init_d00df 10 = .ok (.aload_n 0, 1) := by decide +kernel
theorem dJ5_init_d00df_11 : decode cJ5_init_d00df 11 = .ok (.iload_n 1, 1) := by decide +kernel
theorem dJ5_init_d00df_12 : decode cJ5_init_d00df 12 = .ok (.newarray .byte, 2) := by decide +kernel
theorem dJ5_init_d00df_14 : decode cJ5_init_d00df 14 = .ok (.putfield 15, 3) := by decide +kernel
theorem dJ5_init_d00df_17 : decode cJ5_init_d00df 17 = .ok (.aload_n 0, 1) := by decide +kernel
theorem dJ5_init_d00df_18 : decode cJ5_init_d00df 18 = .ok (.iconst 0, 1) := by decide +kernel
theorem dJ5_init_d00df_19 : decode cJ5_init_d00df 19 = .ok (.putfield 22, 3) := by decide +kernel
theorem dJ5_init_d00df_22 : decode cJ5_init_d00df 22 = .ok (.goto 16, 3) := by decide +kernel
theorem dJ5_init_d00df_38 : decode cJ5_init_d00df 38 = .ok (.return_, 1) := by decide +kernel
def o_J5_init : List Cond := [.methodLink RJ5 3 objectInit, .instanceMethod objectInit, .code objectInit ⟨#[0xb1]⟩ 1 none, .fieldLink RJ5 18 "java/lang/String" "COMPACT_STRINGS" "Z", .arrayClass .byte, .fieldLink RJ5 15 "java/lang/AbstractStringBuilder" "value" "[B", .fieldLink RJ5 22 "java/lang/AbstractStringBuilder" "coder" "B"]
def v_J5_init : List Cond := .code yJ5_init_d00df cJ5_init_d00df 2 none :: (o_J5_init ++ (wsJ40 ++ []))
theorem mow_J5_init : ∀ w ∈ o_J5_init, w ∈ v_J5_init := fun _ h => List.mem_cons_of_mem _ (List.mem_append_left _ h)
theorem mem_J5_init_0 : ∀ w ∈ wsJ40, w ∈ v_J5_init := fun _ h => List.mem_cons_of_mem _ (List.mem_append_right _ (List.mem_append_left _ h))
set_option maxRecDepth 20000 in
theorem gw_J5_init : v_J5_init.all goodWord = true := by decide +kernel
set_option maxHeartbeats 4000000 in
set_option maxRecDepth 100000 in
theorem c_J5_init (l : Launch) (dC : Nat → ClassId) (dI : Nat → Nat → Nat) (h0 : Nat) (sz : Nat) : Met l yJ5_init_d00df v_J5_init ({ frames := 1, cells := 1, slots := 16, locals := 12 }) (va_Pc [.ref h0, .int 16] (fun U => U.heap.size = sz ∧ va_P (dC, dI) vwP [(h0, .inr (17, [.null, .int 0, .int 0, .int 0]))] U.heap ∧ va_K (dC, dI) vwP [] U ∧ va_D (fun _ => True) [(h0, .inr (17, [.null, .int 0, .int 0, .int 0]))] ∧ va_Z "java/lang/String" "COMPACT_STRINGS" "Z" (.int 1) (va_A [(h0, .inr (17, [.null, .int 0, .int 0, .int 0]))] sz) U U.heap)) (va_Qv (fun _ : Unit => True) (fun (_ : Unit) (t : State) => ∃ (q_1 : Nat) (cA_2 : ClassId), va_P (dC, dI) vwP [(h0, .inr (17, [.ref q_1, .int 0, .int 0, .int 0])), (q_1, .inl (cA_2, 16, .inl (fun _ => 0)))] t.heap ∧ va_K (dC, dI) vwP [(cA_2, .byte)] t ∧ va_D (va_A [(h0, .inr (17, [.null, .int 0, .int 0, .int 0]))] sz) [(h0, .inr (17, [.ref q_1, .int 0, .int 0, .int 0])), (q_1, .inl (cA_2, 16, .inl (fun _ => 0)))]) (va_A [(h0, .inr (17, [.null, .int 0, .int 0, .int 0]))] sz)) 1 16 (va_A [(h0, .inr (17, [.null, .int 0, .int 0, .int 0]))] sz) := by
  refine Met.ofW (cc := cJ5_init_d00df) (maxL := 2) (ret := none) (by decide) rfl ?_
  intro p e s m args below meth c s₁ B hml hv
  obtain ⟨rfl, hsz, hP, hK, hD0, hp0⟩ := hv
  have hx := B.exec
  have hb := B.bytes
  have hr := B.returns
  have hts := atoms_spec (ws := v_J5_init) B.pre
  have hown : s.vm.findClass RJ5 = some m.cls := findClass_of_methodNamed B.named
  have hlocks := B.notSynchronized
  have ow : ∀ {k : Nat} {w : Cond}, o_J5_init[k]? = some w → w.before ([.ref h0, .int 16] : List Value).toArray s = true := fun h => hts _ (mow_J5_init _ (List.mem_of_getElem? h))
  have hin : meth.name = "<init>" := (name_of_methodNamed B.named B.method).1
  subst hsz
  have hD := hD0.self (sz := s.heap.size)
  generalize hAe : va_A [(h0, .inr (17, [.null, .int 0, .int 0, .int 0]))] s.heap.size = A at hD hp0 ⊢
  have hA : ∀ q : Nat, s.heap.size ≤ q → A q := fun q h => by rw [← hAe]; exact Or.inr h
  have hS : va_S A s.heap s.heap [] := va_S.rf
  have hP : va_P (dC, dI) vwP [(h0, .inr (17, [.null, .int 0, .int 0, .int 0]))] s.heap := hP
  have hl := lv_entry ([.ref h0, .int 16]) (n := 2) (Nat.le_of_ble_eq_true rfl)
  rw [lg_entry_eq]
  generalize (lg_sl ([.ref h0, .int 16]) ++ List.replicate (2 - (lg_sl ([.ref h0, .int 16])).length) Slot.unset).toArray = ls at hl ⊢
  have hl : lv_has ls 2 [(0, .ref h0), (1, .int 16)] := hl
  obtain ⟨H, hH⟩ : ∃ H, H = s.heap := ⟨_, rfl⟩
  rw [← hH] at hP
  have hS : va_S A s.heap H [] := by rw [hH]; exact hS
  rw [← hH]
  refine lv_aload_n hx hb dJ5_init_d00df_0 rfl (lv_at hl 0 rfl) ?_
  refine W.objInit hx hb hown (ow (k := 0) rfl) (ow (k := 1) rfl) (ow (k := 2) rfl) rfl (by rw [hml]; exact hl.1) rfl dJ5_init_d00df_1 (Nat.le_of_ble_eq_true rfl) (Nat.le_of_ble_eq_true rfl) ?_
  refine W.eq (g2 := F0 m 4 ls []) rfl ?_
  refine va_gets (v := .int 1) hx hb hp0 hS hown (ow (k := 3) rfl) (fun _ h9 => h9) dJ5_init_d00df_4 ?_
  refine lv_if_eq (tgt := 25) hx hb dJ5_init_d00df_7 (by decide) (fun h9 => absurd h9 (by decide)) (fun _ => ?_)
  refine lv_aload_n hx hb dJ5_init_d00df_10 rfl (lv_at hl 0 rfl) ?_
  refine lv_iload_n hx hb dJ5_init_d00df_11 rfl (lv_at hl 1 rfl) ?_
  refine va_newa (ty := .byte) (n := 16) (N' := 16) (a0 := (16, .inl (fun _ => 0))) hx hb (ow (k := 4) rfl) rfl hK hP hD hS hA (fun _ => rfl) (by decide) (by decide) (by decide) (Nat.le_of_ble_eq_true rfl) (Nat.le_of_ble_eq_true rfl) dJ5_init_d00df_12 (fun q_1 cA_2 H hK hP hD hS => ?_)
  have hP : va_P (dC, dI) vwP [(h0, .inr (17, [.null, .int 0, .int 0, .int 0])), (q_1, .inl (cA_2, 16, .inl (fun _ => 0)))] H := hP
  have hD : va_D A [(h0, .inr (17, [.null, .int 0, .int 0, .int 0])), (q_1, .inl (cA_2, 16, .inl (fun _ => 0)))] := hD
  have hK : va_K (dC, dI) vwP [(cA_2, .byte)] s := hK
  refine W.widen (k := 1) (n := 16) (Nat.le_of_ble_eq_true rfl) (Nat.le_of_ble_eq_true rfl) ?_
  refine va_put (D := (dC, dI)) (ci := 17) (v := .ref q_1) (ty := .array .byte) (C := RJ4) (T := TJ4) (N := 4) hx hb hts mem_J5_init_0 tyJ4 tyJ4_ok nmJ4 hown hK hP hD hS 0 rfl rfl 0 (by decide) (ow (k := 5) rfl) (fun _ h9 => h9) rfl (by decide +kernel) rfl rfl (Nat.le_of_ble_eq_true rfl) dJ5_init_d00df_14 (fun H locs hP hD hS => ?_)
  have hP : va_P (dC, dI) vwP [(h0, .inr (17, [.ref q_1, .int 0, .int 0, .int 0])), (q_1, .inl (cA_2, 16, .inl (fun _ => 0)))] H := hP
  have hD : va_D A [(h0, .inr (17, [.ref q_1, .int 0, .int 0, .int 0])), (q_1, .inl (cA_2, 16, .inl (fun _ => 0)))] := hD
  refine lv_aload_n hx hb dJ5_init_d00df_17 rfl (lv_at hl 0 rfl) ?_
  refine lv_iconst (v := 0) hx hb dJ5_init_d00df_18 (by decide) ?_
  refine va_put (D := (dC, dI)) (ci := 17) (v := .int 0) (ty := .byte) (C := RJ4) (T := TJ4) (N := 4) hx hb hts mem_J5_init_0 tyJ4 tyJ4_ok nmJ4 hown hK hP hD hS 0 rfl rfl 1 (by decide) (ow (k := 6) rfl) (fun _ h9 => h9) rfl (by decide +kernel) rfl rfl (Nat.le_of_ble_eq_true rfl) dJ5_init_d00df_19 (fun H locs hP hD hS => ?_)
  have hP : va_P (dC, dI) vwP [(h0, .inr (17, [.ref q_1, .int 0, .int 0, .int 0])), (q_1, .inl (cA_2, 16, .inl (fun _ => 0)))] H := hP
  have hD : va_D A [(h0, .inr (17, [.ref q_1, .int 0, .int 0, .int 0])), (q_1, .inl (cA_2, 16, .inl (fun _ => 0)))] := hD
  refine lv_goto (tgt := 38) hx hb dJ5_init_d00df_22 (by decide) ?_
  refine W.widen (k := 1) (n := 16) (Nat.le_of_ble_eq_true rfl) (Nat.le_of_ble_eq_true rfl) ?_
  exact W.vret hx hb hr (fun t ht hW => ⟨⟨(), rfl, trivial, q_1, cA_2, by rw [ht]; exact hP, va_K.moved hW.alike hK, hD⟩, hS.F ht⟩) hS.2.2 dJ5_init_d00df_38
theorem dJ4_init_da8c8_0 : decode cJ4_init_da8c8 0 = .ok (.aload_n 0, 1) := by decide +kernel
theorem dJ4_init_da8c8_1 : decode cJ4_init_da8c8 1 = .ok (.bipush 16, 2) := by decide +kernel
theorem dJ4_init_da8c8_3 : decode cJ4_init_da8c8 3 = .ok (.invokespecial 1, 3) := by decide +kernel
theorem dJ4_init_da8c8_6 : decode cJ4_init_da8c8 6 = .ok (.return_, 1) := by decide +kernel
def o_J4_init : List Cond := [.initialized RJ5, .methodLink RJ4 1 yJ5_init_d00df, .instanceMethod yJ5_init_d00df]
def v_J4_init : List Cond := .code yJ4_init_da8c8 cJ4_init_da8c8 1 none :: (o_J4_init ++ (v_J5_init ++ []))
theorem mow_J4_init : ∀ w ∈ o_J4_init, w ∈ v_J4_init := fun _ h => List.mem_cons_of_mem _ (List.mem_append_left _ h)
theorem mem_J4_init_0 : ∀ w ∈ v_J5_init, w ∈ v_J4_init := fun _ h => List.mem_cons_of_mem _ (List.mem_append_right _ (List.mem_append_left _ h))
set_option maxRecDepth 20000 in
theorem gw_J4_init : v_J4_init.all goodWord = true := by decide +kernel
set_option maxHeartbeats 4000000 in
set_option maxRecDepth 100000 in
theorem c_J4_init (l : Launch) (dC : Nat → ClassId) (dI : Nat → Nat → Nat) (h0 : Nat) (sz : Nat) : Met l yJ4_init_da8c8 v_J4_init ({ frames := 2, cells := 1, slots := 16, locals := 33 }) (va_Pc [.ref h0] (fun U => U.heap.size = sz ∧ va_P (dC, dI) vwP [(h0, .inr (17, [.null, .int 0, .int 0, .int 0]))] U.heap ∧ va_K (dC, dI) vwP [] U ∧ va_D (fun _ => True) [(h0, .inr (17, [.null, .int 0, .int 0, .int 0]))] ∧ va_Z "java/lang/String" "COMPACT_STRINGS" "Z" (.int 1) (va_A [(h0, .inr (17, [.null, .int 0, .int 0, .int 0]))] sz) U U.heap)) (va_Qv (fun _ : Unit => True) (fun (_ : Unit) (t : State) => ∃ (q_1 : Nat) (cA_2 : ClassId), va_P (dC, dI) vwP [(h0, .inr (17, [.ref q_1, .int 0, .int 0, .int 0])), (q_1, .inl (cA_2, 16, .inl (fun _ => 0)))] t.heap ∧ va_K (dC, dI) vwP [(cA_2, .byte)] t ∧ va_D (va_A [(h0, .inr (17, [.null, .int 0, .int 0, .int 0]))] sz) [(h0, .inr (17, [.ref q_1, .int 0, .int 0, .int 0])), (q_1, .inl (cA_2, 16, .inl (fun _ => 0)))]) (va_A [(h0, .inr (17, [.null, .int 0, .int 0, .int 0]))] sz)) 1 16 (va_A [(h0, .inr (17, [.null, .int 0, .int 0, .int 0]))] sz) := by
  refine Met.ofW (cc := cJ4_init_da8c8) (maxL := 1) (ret := none) (by decide) rfl ?_
  intro p e s m args below meth c s₁ B hml hv
  obtain ⟨rfl, hsz, hP, hK, hD0, hp0⟩ := hv
  have hx := B.exec
  have hb := B.bytes
  have hr := B.returns
  have hts := atoms_spec (ws := v_J4_init) B.pre
  have hown : s.vm.findClass RJ4 = some m.cls := findClass_of_methodNamed B.named
  have hlocks := B.notSynchronized
  have ow : ∀ {k : Nat} {w : Cond}, o_J4_init[k]? = some w → w.before ([.ref h0] : List Value).toArray s = true := fun h => hts _ (mow_J4_init _ (List.mem_of_getElem? h))
  have hin : meth.name = "<init>" := (name_of_methodNamed B.named B.method).1
  subst hsz
  have hD := hD0.self (sz := s.heap.size)
  generalize hAe : va_A [(h0, .inr (17, [.null, .int 0, .int 0, .int 0]))] s.heap.size = A at hD hp0 ⊢
  have hA : ∀ q : Nat, s.heap.size ≤ q → A q := fun q h => by rw [← hAe]; exact Or.inr h
  have hS : va_S A s.heap s.heap [] := va_S.rf
  have hP : va_P (dC, dI) vwP [(h0, .inr (17, [.null, .int 0, .int 0, .int 0]))] s.heap := hP
  have hl := lv_entry ([.ref h0]) (n := 1) (Nat.le_of_ble_eq_true rfl)
  rw [lg_entry_eq]
  generalize (lg_sl ([.ref h0]) ++ List.replicate (1 - (lg_sl ([.ref h0])).length) Slot.unset).toArray = ls at hl ⊢
  have hl : lv_has ls 1 [(0, .ref h0)] := hl
  obtain ⟨H, hH⟩ : ∃ H, H = s.heap := ⟨_, rfl⟩
  rw [← hH] at hP
  have hS : va_S A s.heap H [] := by rw [hH]; exact hS
  rw [← hH]
  refine lv_aload_n hx hb dJ4_init_da8c8_0 rfl (lv_at hl 0 rfl) ?_
  refine lv_bipush (v := 16) hx hb dJ4_init_da8c8_1 (by decide) ?_
  have hPc := hP.sub (ws' := [(h0, .inr (17, [.null, .int 0, .int 0, .int 0]))]) [0] rfl
  have hDc := hD.sub (ws' := [(h0, .inr (17, [.null, .int 0, .int 0, .int 0]))]) [0] (by decide) rfl
  have hKc := hK.sub (tys' := []) [] rfl
  have hFc := va_free (wc := [(h0, .inr (17, [.null, .int 0, .int 0, .int 0]))]) hD hS hA [0] rfl
  refine va_callv (va_runI (As := [.int 16]) (rest := []) ⟨hx, hb, hml, hown, hts⟩ (c_J5_init l dC dI h0 H.size) (cwI 1 hts (goodIn_sub mem_J4_init_0 gw_J5_init) rfl rfl rfl (ow (k := 0) rfl) (ow (k := 1) rfl) (ow (k := 2) rfl) rfl (by decide +kernel) ⟨(Nat.le_of_ble_eq_true rfl), (Nat.le_of_ble_eq_true rfl)⟩) ⟨fun a U g mk q => by obtain ⟨q0, q1, qP, qK, qD, e0⟩ := q; exact ⟨q0, q1, qP, va_K.moved (u := U) (U := U.calling g mk a) (Vm.Alike.refl U.vm) qK, qD, va_Z.moved (u := U) (U := U.calling g mk a) (Vm.Alike.refl U.vm) e0⟩, fun U hU hW => ⟨rfl, by rw [hU], by rw [hU]; exact hPc, va_K.moved hW.alike hKc, hDc.weaken (fun _ _ _ _ => trivial), by rw [hU]; exact va_Z.narrow (va_Z.moved hW.alike (va_Z.kept hp0 hS.2.1)) hFc⟩⟩ rfl rfl hl.1 rfl (lv_room (Nat.le_of_ble_eq_true rfl)) dJ4_init_da8c8_3 ⟨(Nat.le_of_ble_eq_true rfl), (Nat.le_of_ble_eq_true rfl)⟩) hS (fun q _ h => hFc q h) hFc (fun  u t H1 locs ht hvm hw hB hz1 hk1 hS => ?_)
  obtain ⟨q_1, cA_2, hP1, hK1, hD1⟩ := hB
  rw [ht] at hP1
  have hK1 := va_K.moved hvm.symm hK1
  obtain ⟨hP, hD⟩ := va_join (wr := []) (w1 := [(h0, .inr (17, [.ref q_1, .int 0, .int 0, .int 0])), (q_1, .inl (cA_2, 16, .inl (fun _ => 0)))]) hP hD [0] [] rfl rfl (by decide) (by decide) hk1 hFc hP1 hD1
  have hK := (hK.sub (tys' := []) [] rfl).app hK1
  generalize H1 = H at hP hS ⊢
  have hP : va_P (dC, dI) vwP [(h0, .inr (17, [.ref q_1, .int 0, .int 0, .int 0])), (q_1, .inl (cA_2, 16, .inl (fun _ => 0)))] H := hP
  have hD : va_D A [(h0, .inr (17, [.ref q_1, .int 0, .int 0, .int 0])), (q_1, .inl (cA_2, 16, .inl (fun _ => 0)))] := hD
  have hK : va_K (dC, dI) vwP [(cA_2, .byte)] s := hK
  refine W.widen (k := 1) (n := 16) (Nat.le_of_ble_eq_true rfl) (Nat.le_of_ble_eq_true rfl) ?_
  refine W.widen (k := 1) (n := 16) (Nat.le_of_ble_eq_true rfl) (Nat.le_of_ble_eq_true rfl) ?_
  exact W.vret hx hb hr (fun t ht hW => ⟨⟨(), rfl, trivial, q_1, cA_2, by rw [ht]; exact hP, va_K.moved hW.alike hK, hD⟩, hS.F ht⟩) hS.2.2 dJ4_init_da8c8_6
theorem dJx4a65c_clear_da8c8_0 : decode cJx4a65c_clear_da8c8 0 = .ok (.aload_n 0, 1) := by decide +kernel
theorem dJx4a65c_clear_da8c8_1 : decode cJx4a65c_clear_da8c8 1 = .ok (.dup, 1) := by decide +kernel
theorem dJx4a65c_clear_da8c8_2 : decode cJx4a65c_clear_da8c8 2 = .ok (.getfield 63, 3) := by decide +kernel
theorem dJx4a65c_clear_da8c8_5 : decode cJx4a65c_clear_da8c8 5 = .ok (.iconst 1, 1) := by decide +kernel
theorem dJx4a65c_clear_da8c8_6 : decode cJx4a65c_clear_da8c8 6 = .ok (.iadd, 1) := by decide +kernel
theorem dJx4a65c_clear_da8c8_7 : decode cJx4a65c_clear_da8c8 7 = .ok (.putfield 63, 3) := by decide +kernel
theorem dJx4a65c_clear_da8c8_10 : decode cJx4a65c_clear_da8c8 10 = .ok (.aload_n 0, 1) := by decide +kernel
theorem dJx4a65c_clear_da8c8_11 : decode cJx4a65c_clear_da8c8 11 = .ok (.getfield 9, 3) := by decide +kernel
theorem dJx4a65c_clear_da8c8_14 : decode cJx4a65c_clear_da8c8 14 = .ok (.astore_n 1, 1) := by decide +kernel
theorem dJx4a65c_clear_da8c8_15 : decode cJx4a65c_clear_da8c8 15 = .ok (.aload_n 0, 1) := by decide +kernel
theorem dJx4a65c_clear_da8c8_16 : decode cJx4a65c_clear_da8c8 16 = .ok (.getfield 48, 3) := by decide +kernel
theorem dJx4a65c_clear_da8c8_19 : decode cJx4a65c_clear_da8c8 19 = .ok (.istore_n 2, 1) := by decide +kernel
theorem dJx4a65c_clear_da8c8_20 : decode cJx4a65c_clear_da8c8 20 = .ok (.aload_n 0, 1) := by decide +kernel
theorem dJx4a65c_clear_da8c8_21 : decode cJx4a65c_clear_da8c8 21 = .ok (.iconst 0, 1) := by decide +kernel
theorem dJx4a65c_clear_da8c8_22 : decode cJx4a65c_clear_da8c8 22 = .ok (.dup_x1, 1) := by decide +kernel
theorem dJx4a65c_clear_da8c8_23 : decode cJx4a65c_clear_da8c8 23 = .ok (.putfield 48, 3) := by decide +kernel
theorem dJx4a65c_clear_da8c8_26 : decode cJx4a65c_clear_da8c8 26 = .ok (.istore_n 3, 1) := by decide +kernel
theorem dJx4a65c_clear_da8c8_27 : decode cJx4a65c_clear_da8c8 27 = .ok (.iload_n 3, 1) := by decide +kernel
theorem dJx4a65c_clear_da8c8_28 : decode cJx4a65c_clear_da8c8 28 = .ok (.iload_n 2, 1) := by decide +kernel
theorem dJx4a65c_clear_da8c8_29 : decode cJx4a65c_clear_da8c8 29 = .ok (.if_icmp .ge 13, 3) := by decide +kernel
theorem dJx4a65c_clear_da8c8_42 : decode cJx4a65c_clear_da8c8 42 = .ok (.return_, 1) := by decide +kernel
def o_AL_clear : List Cond := [.fieldLink RJx4a65c 63 "java/util/ArrayList" "modCount" "I", .sameField "java/util/ArrayList" "java/util/AbstractList" "modCount" "I", .fieldLink RJx4a65c 9 "java/util/ArrayList" "elementData" "[Ljava/lang/Object;", .fieldLink RJx4a65c 48 "java/util/ArrayList" "size" "I"]
def v_AL_clear : List Cond := .code yJx4a65c_clear_da8c8 cJx4a65c_clear_da8c8 4 none :: (o_AL_clear ++ (wsJx4a65c0 ++ []))
theorem mow_AL_clear : ∀ w ∈ o_AL_clear, w ∈ v_AL_clear := fun _ h => List.mem_cons_of_mem _ (List.mem_append_left _ h)
theorem mem_AL_clear_0 : ∀ w ∈ wsJx4a65c0, w ∈ v_AL_clear := fun _ h => List.mem_cons_of_mem _ (List.mem_append_right _ (List.mem_append_left _ h))
set_option maxRecDepth 20000 in
theorem gw_AL_clear : v_AL_clear.all goodWord = true := by decide +kernel
set_option maxHeartbeats 4000000 in
set_option maxRecDepth 100000 in
theorem c_AL_clear (l : Launch) (dC : Nat → ClassId) (dI : Nat → Nat → Nat) (h0 : Nat) (sx_ed : Nat) (sz : Nat) : Met l yJx4a65c_clear_da8c8 v_AL_clear ({ frames := 0, cells := 0, slots := 0, locals := 0 }) (va_Pc [.ref h0] (fun U => U.heap.size = sz ∧ va_P (dC, dI) vwP [(h0, .inr (18, [.int 0, .ref sx_ed, .int 0]))] U.heap ∧ va_K (dC, dI) vwP [] U ∧ va_D (fun _ => True) [(h0, .inr (18, [.int 0, .ref sx_ed, .int 0]))])) (va_Qv (fun _ : Unit => True) (fun (_ : Unit) (t : State) => va_P (dC, dI) vwP [(h0, .inr (18, [.int 1, .ref sx_ed, .int 0]))] t.heap ∧ va_K (dC, dI) vwP [] t ∧ va_D (va_A [(h0, .inr (18, [.int 0, .ref sx_ed, .int 0]))] sz) [(h0, .inr (18, [.int 1, .ref sx_ed, .int 0]))]) (va_A [(h0, .inr (18, [.int 0, .ref sx_ed, .int 0]))] sz)) 0 0 (va_A [(h0, .inr (18, [.int 0, .ref sx_ed, .int 0]))] sz) := by
  refine Met.ofW (cc := cJx4a65c_clear_da8c8) (maxL := 4) (ret := none) (by decide) rfl ?_
  intro p e s m args below meth c s₁ B hml hv
  obtain ⟨rfl, hsz, hP, hK, hD0⟩ := hv
  have hx := B.exec
  have hb := B.bytes
  have hr := B.returns
  have hts := atoms_spec (ws := v_AL_clear) B.pre
  have hown : s.vm.findClass RJx4a65c = some m.cls := findClass_of_methodNamed B.named
  have hlocks := B.notSynchronized
  have ow : ∀ {k : Nat} {w : Cond}, o_AL_clear[k]? = some w → w.before ([.ref h0] : List Value).toArray s = true := fun h => hts _ (mow_AL_clear _ (List.mem_of_getElem? h))
  subst hsz
  have hD := hD0.self (sz := s.heap.size)
  generalize hAe : va_A [(h0, .inr (18, [.int 0, .ref sx_ed, .int 0]))] s.heap.size = A at hD ⊢
  have hA : ∀ q : Nat, s.heap.size ≤ q → A q := fun q h => by rw [← hAe]; exact Or.inr h
  have hS : va_S A s.heap s.heap [] := va_S.rf
  have hP : va_P (dC, dI) vwP [(h0, .inr (18, [.int 0, .ref sx_ed, .int 0]))] s.heap := hP
  have hl := lv_entry ([.ref h0]) (n := 4) (Nat.le_of_ble_eq_true rfl)
  rw [lg_entry_eq]
  generalize (lg_sl ([.ref h0]) ++ List.replicate (4 - (lg_sl ([.ref h0])).length) Slot.unset).toArray = ls at hl ⊢
  have hl : lv_has ls 4 [(0, .ref h0)] := hl
  obtain ⟨H, hH⟩ : ∃ H, H = s.heap := ⟨_, rfl⟩
  rw [← hH] at hP
  have hS : va_S A s.heap H [] := by rw [hH]; exact hS
  rw [← hH]
  refine lv_aload_n hx hb dJx4a65c_clear_da8c8_0 rfl (lv_at hl 0 rfl) ?_
  refine lv_dup hx hb dJx4a65c_clear_da8c8_1 rfl ?_
  refine va_get (D := (dC, dI)) (ci := 18) (v := .int 0) (C := RJx4a65c) (T := TJx4a65c) (N := 3) hx hb hts mem_AL_clear_0 hown hK hP 0 rfl rfl 0 (by decide) (ow (k := 0) rfl) (fun x9 h9 => u_same (ow (k := 1) rfl) x9 h9) rfl dJx4a65c_clear_da8c8_2 ?_
  refine lv_iconst (v := 1) hx hb dJx4a65c_clear_da8c8_5 (by decide) ?_
  refine lv_iadd hx hb dJx4a65c_clear_da8c8_6 ?_
  refine lv_topi (fun z ez => ?_)
  obtain rfl : z = 1 := by rw [ez]; decide
  refine va_put (D := (dC, dI)) (ci := 18) (v := .int 1) (ty := .int) (C := RJx4a65c) (T := TJx4a65c) (N := 3) hx hb hts mem_AL_clear_0 tyJx4a65c tyJx4a65c_ok nmJx4a65c hown hK hP hD hS 0 rfl rfl 0 (by decide) (ow (k := 0) rfl) (fun x9 h9 => u_same (ow (k := 1) rfl) x9 h9) rfl (by decide +kernel) rfl rfl (Nat.le_of_ble_eq_true rfl) dJx4a65c_clear_da8c8_7 (fun H locs hP hD hS => ?_)
  have hP : va_P (dC, dI) vwP [(h0, .inr (18, [.int 1, .ref sx_ed, .int 0]))] H := hP
  have hD : va_D A [(h0, .inr (18, [.int 1, .ref sx_ed, .int 0]))] := hD
  refine lv_aload_n hx hb dJx4a65c_clear_da8c8_10 rfl (lv_at hl 0 rfl) ?_
  refine va_get (D := (dC, dI)) (ci := 18) (v := .ref sx_ed) (C := RJx4a65c) (T := TJx4a65c) (N := 3) hx hb hts mem_AL_clear_0 hown hK hP 0 rfl rfl 1 (by decide) (ow (k := 2) rfl) (fun _ h9 => h9) rfl dJx4a65c_clear_da8c8_11 ?_
  refine lv_astore_n (lv' := [(1, .ref sx_ed), (0, .ref h0)]) hx hb dJx4a65c_clear_da8c8_14 rfl hl (by decide) rfl (fun ls hl => ?_)
  refine lv_aload_n hx hb dJx4a65c_clear_da8c8_15 rfl (lv_at hl 1 rfl) ?_
  refine va_get (D := (dC, dI)) (ci := 18) (v := .int 0) (C := RJx4a65c) (T := TJx4a65c) (N := 3) hx hb hts mem_AL_clear_0 hown hK hP 0 rfl rfl 2 (by decide) (ow (k := 3) rfl) (fun _ h9 => h9) rfl dJx4a65c_clear_da8c8_16 ?_
  refine lv_istore_n (lv' := [(2, .int 0), (1, .ref sx_ed), (0, .ref h0)]) hx hb dJx4a65c_clear_da8c8_19 rfl hl (by decide) rfl (fun ls hl => ?_)
  refine lv_aload_n hx hb dJx4a65c_clear_da8c8_20 rfl (lv_at hl 2 rfl) ?_
  refine lv_iconst (v := 0) hx hb dJx4a65c_clear_da8c8_21 (by decide) ?_
  refine lv_dup_x1 hx hb dJx4a65c_clear_da8c8_22 rfl rfl ?_
  refine va_put (D := (dC, dI)) (ci := 18) (v := .int 0) (ty := .int) (C := RJx4a65c) (T := TJx4a65c) (N := 3) hx hb hts mem_AL_clear_0 tyJx4a65c tyJx4a65c_ok nmJx4a65c hown hK hP hD hS 0 rfl rfl 2 (by decide) (ow (k := 3) rfl) (fun _ h9 => h9) rfl (by decide +kernel) rfl rfl (Nat.le_of_ble_eq_true rfl) dJx4a65c_clear_da8c8_23 (fun H locs hP hD hS => ?_)
  have hP : va_P (dC, dI) vwP [(h0, .inr (18, [.int 1, .ref sx_ed, .int 0]))] H := hP
  have hD : va_D A [(h0, .inr (18, [.int 1, .ref sx_ed, .int 0]))] := hD
  refine lv_istore_n (lv' := [(3, .int 0), (2, .int 0), (1, .ref sx_ed), (0, .ref h0)]) hx hb dJx4a65c_clear_da8c8_26 rfl hl (by decide) rfl (fun ls hl => ?_)
  refine lv_iload_n hx hb dJx4a65c_clear_da8c8_27 rfl (lv_at hl 0 rfl) ?_
  refine lv_iload_n hx hb dJx4a65c_clear_da8c8_28 rfl (lv_at hl 1 rfl) ?_
  refine lv_icmp_ge (tgt := 42) hx hb dJx4a65c_clear_da8c8_29 (by decide) (fun _ => ?_) (fun h9 => absurd h9 (by decide))
  refine W.widen (k := 0) (n := 0) (Nat.le_of_ble_eq_true rfl) (Nat.le_of_ble_eq_true rfl) ?_
  exact W.vret hx hb hr (fun t ht hW => ⟨⟨(), rfl, trivial, by rw [ht]; exact hP, va_K.moved hW.alike hK, hD⟩, hS.F ht⟩) hS.2.2 dJx4a65c_clear_da8c8_42
theorem dT3_init_0 : decode cT3_init 0 = .ok (.aload_n 0, 1) := by decide +kernel
theorem dT3_init_1 : decode cT3_init 1 = .ok (.invokespecial 1, 3) := by decide +kernel
theorem dT3_init_4 : decode cT3_init 4 = .ok (.aload_n 0, 1) := by decide +kernel
theorem dT3_init_5 : decode cT3_init 5 = .ok (.aload_n 0, 1) := by decide +kernel
theorem dT3_init_6 : decode cT3_init 6 = .ok (.putfield 7, 3) := by decide +kernel
theorem dT3_init_9 : decode cT3_init 9 = .ok (.aload_n 0, 1) := by decide +kernel
theorem dT3_init_10 : decode cT3_init 10 = .ok (.getstatic 13, 3) := by decide +kernel
theorem dT3_init_13 : decode cT3_init 13 = .ok (.putfield 17, 3) := by decide +kernel
theorem dT3_init_16 : decode cT3_init 16 = .ok (.aload_n 0, 1) := by decide +kernel
theorem dT3_init_17 : decode cT3_init 17 = .ok (.getstatic 20, 3) := by decide +kernel
theorem dT3_init_20 : decode cT3_init 20 = .ok (.putfield 24, 3) := by decide +kernel
theorem dT3_init_23 : decode cT3_init 23 = .ok (.iload 4, 2) := by decide +kernel
theorem dT3_init_25 : decode cT3_init 25 = .ok (.ifCond .eq 11, 3) := by decide +kernel
theorem dT3_init_36 : decode cT3_init 36 = .ok (.aload_n 0, 1) := by decide +kernel
theorem dT3_init_37 : decode cT3_init 37 = .ok (.aconst_null, 1) := by decide +kernel
theorem dT3_init_38 : decode cT3_init 38 = .ok (.putfield 17, 3) := by decide +kernel
theorem dT3_init_41 : decode cT3_init 41 = .ok (.aload_n 0, 1) := by decide +kernel
theorem dT3_init_42 : decode cT3_init 42 = .ok (.aload_n 1, 1) := by decide +kernel
theorem dT3_init_43 : decode cT3_init 43 = .ok (.putfield 31, 3) := by decide +kernel
theorem dT3_init_46 : decode cT3_init 46 = .ok (.aload_n 0, 1) := by decide +kernel
theorem dT3_init_47 : decode cT3_init 47 = .ok (.aload_n 2, 1) := by decide +kernel
theorem dT3_init_48 : decode cT3_init 48 = .ok (.putfield 7, 3) := by decide +kernel
theorem dT3_init_51 : decode cT3_init 51 = .ok (.iload_n 3, 1) := by decide +kernel
theorem dT3_init_52 : decode cT3_init 52 = .ok (.ifCond .ne 8, 3) := by decide +kernel
theorem dT3_init_55 : decode cT3_init 55 = .ok (.aload_n 0, 1) := by decide +kernel
theorem dT3_init_56 : decode cT3_init 56 = .ok (.aconst_null, 1) := by decide +kernel
theorem dT3_init_57 : decode cT3_init 57 = .ok (.putfield 24, 3) := by decide +kernel
theorem dT3_init_60 : decode cT3_init 60 = .ok (.return_, 1) := by decide +kernel
def o_T3_init : List Cond := [.methodLink RT3 1 objectInit, .instanceMethod objectInit, .code objectInit ⟨#[0xb1]⟩ 1 none, .fieldLink RT3 7 "java/lang/Throwable" "cause" "Ljava/lang/Throwable;", .fieldLink RT3 13 "java/lang/Throwable" "UNASSIGNED_STACK" "[Ljava/lang/StackTraceElement;", .fieldLink RT3 17 "java/lang/Throwable" "stackTrace" "[Ljava/lang/StackTraceElement;", .fieldLink RT3 20 "java/lang/Throwable" "SUPPRESSED_SENTINEL" "Ljava/util/List;", .fieldLink RT3 24 "java/lang/Throwable" "suppressedExceptions" "Ljava/util/List;", .fieldLink RT3 31 "java/lang/Throwable" "detailMessage" "Ljava/lang/String;"]
def v_T3_init : List Cond := .code yT3_init cT3_init 5 none :: (o_T3_init ++ (wsX180 ++ []))
theorem mow_T3_init : ∀ w ∈ o_T3_init, w ∈ v_T3_init := fun _ h => List.mem_cons_of_mem _ (List.mem_append_left _ h)
theorem mem_T3_init_0 : ∀ w ∈ wsX180, w ∈ v_T3_init := fun _ h => List.mem_cons_of_mem _ (List.mem_append_right _ (List.mem_append_left _ h))
set_option maxRecDepth 20000 in
theorem gw_T3_init : v_T3_init.all goodWord = true := by decide +kernel
set_option maxHeartbeats 4000000 in
set_option maxRecDepth 100000 in
theorem c_T3_init (l : Launch) (dC : Nat → ClassId) (dI : Nat → Nat → Nat) (h0 : Nat) (sz : Nat) : Met l yT3_init v_T3_init ({ frames := 1, cells := 0, slots := 0, locals := 12 }) (va_Pc [.ref h0, .null, .null, .int 0, .int 0] (fun U => U.heap.size = sz ∧ va_P (dC, dI) vwP [(h0, .inr (15, [.null, .null, .null, .null, .null, .int 0, .int 0]))] U.heap ∧ va_K (dC, dI) vwP [] U ∧ va_D (fun _ => True) [(h0, .inr (15, [.null, .null, .null, .null, .null, .int 0, .int 0]))] ∧ vx_Zq Bundle.tN "UNASSIGNED_STACK" Bundle.steD (va_A [(h0, .inr (15, [.null, .null, .null, .null, .null, .int 0, .int 0]))] sz) U U.heap ∧ vx_Zq Bundle.tN "SUPPRESSED_SENTINEL" Bundle.listD (va_A [(h0, .inr (15, [.null, .null, .null, .null, .null, .int 0, .int 0]))] sz) U U.heap)) (va_Qv (fun _ : Unit => True) (fun (_ : Unit) (t : State) => va_P (dC, dI) vwP [(h0, .inr (15, [.null, .null, .null, .null, .null, .int 0, .int 0]))] t.heap ∧ va_K (dC, dI) vwP [] t ∧ va_D (va_A [(h0, .inr (15, [.null, .null, .null, .null, .null, .int 0, .int 0]))] sz) [(h0, .inr (15, [.null, .null, .null, .null, .null, .int 0, .int 0]))]) (va_A [(h0, .inr (15, [.null, .null, .null, .null, .null, .int 0, .int 0]))] sz)) 0 0 (va_A [(h0, .inr (15, [.null, .null, .null, .null, .null, .int 0, .int 0]))] sz) := by
  refine Met.ofW (cc := cT3_init) (maxL := 5) (ret := none) (by decide) rfl ?_
  intro p e s m args below meth c s₁ B hml hv
  obtain ⟨rfl, hsz, hP, hK, hD0, hp0, hp1⟩ := hv
  have hx := B.exec
  have hb := B.bytes
  have hr := B.returns
  have hts := atoms_spec (ws := v_T3_init) B.pre
  have hown : s.vm.findClass RT3 = some m.cls := findClass_of_methodNamed B.named
  have hlocks := B.notSynchronized
  have ow : ∀ {k : Nat} {w : Cond}, o_T3_init[k]? = some w → w.before ([.ref h0, .null, .null, .int 0, .int 0] : List Value).toArray s = true := fun h => hts _ (mow_T3_init _ (List.mem_of_getElem? h))
  have hin : meth.name = "<init>" := (name_of_methodNamed B.named B.method).1
  subst hsz
  have hD := hD0.self (sz := s.heap.size)
  generalize hAe : va_A [(h0, .inr (15, [.null, .null, .null, .null, .null, .int 0, .int 0]))] s.heap.size = A at hD hp0 hp1 ⊢
  have hA : ∀ q : Nat, s.heap.size ≤ q → A q := fun q h => by rw [← hAe]; exact Or.inr h
  have hS : va_S A s.heap s.heap [] := va_S.rf
  have hP : va_P (dC, dI) vwP [(h0, .inr (15, [.null, .null, .null, .null, .null, .int 0, .int 0]))] s.heap := hP
  have hl := lv_entry ([.ref h0, .null, .null, .int 0, .int 0]) (n := 5) (Nat.le_of_ble_eq_true rfl)
  rw [lg_entry_eq]
  generalize (lg_sl ([.ref h0, .null, .null, .int 0, .int 0]) ++ List.replicate (5 - (lg_sl ([.ref h0, .null, .null, .int 0, .int 0])).length) Slot.unset).toArray = ls at hl ⊢
  have hl : lv_has ls 5 [(0, .ref h0), (1, .null), (2, .null), (3, .int 0), (4, .int 0)] := hl
  obtain ⟨H, hH⟩ : ∃ H, H = s.heap := ⟨_, rfl⟩
  rw [← hH] at hP
  have hS : va_S A s.heap H [] := by rw [hH]; exact hS
  rw [← hH]
  refine lv_aload_n hx hb dT3_init_0 rfl (lv_at hl 0 rfl) ?_
  refine W.objInit hx hb hown (ow (k := 0) rfl) (ow (k := 1) rfl) (ow (k := 2) rfl) rfl (by rw [hml]; exact hl.1) rfl dT3_init_1 (Nat.le_of_ble_eq_true rfl) (Nat.le_of_ble_eq_true rfl) ?_
  refine W.eq (g2 := F0 m 4 ls []) rfl ?_
  refine lv_aload_n hx hb dT3_init_4 rfl (lv_at hl 0 rfl) ?_
  refine lv_aload_n hx hb dT3_init_5 rfl (lv_at hl 0 rfl) ?_
  refine va_put (D := (dC, dI)) (ci := 15) (v := .ref h0) (ty := .object "java/lang/Throwable") (C := RX18) (T := TX18) (N := 7) hx hb hts mem_T3_init_0 tyX18 tyX18_ok nmX18 hown hK hP hD hS 0 rfl rfl 0 (by decide) (ow (k := 3) rfl) (fun _ h9 => h9) rfl (by decide +kernel) rfl rfl (Nat.le_of_ble_eq_true rfl) dT3_init_6 (fun H locs hP hD hS => ?_)
  have hP : va_P (dC, dI) vwP [(h0, .inr (15, [.ref h0, .null, .null, .null, .null, .int 0, .int 0]))] H := hP
  have hD : va_D A [(h0, .inr (15, [.ref h0, .null, .null, .null, .null, .int 0, .int 0]))] := hD
  refine lv_aload_n hx hb dT3_init_9 rfl (lv_at hl 0 rfl) ?_
  rcases hp0.1 with hz_2 | ⟨tz_1, hz_2⟩
  · refine va_gets (v := .null) hx hb hz_2 hS hown (ow (k := 4) rfl) (fun _ h9 => h9) dT3_init_10 ?_
    refine va_put (D := (dC, dI)) (ci := 15) (v := .null) (ty := .array (.object "java/lang/StackTraceElement")) (C := RX18) (T := TX18) (N := 7) hx hb hts mem_T3_init_0 tyX18 tyX18_ok nmX18 hown hK hP hD hS 0 rfl rfl 1 (by decide) (ow (k := 5) rfl) (fun _ h9 => h9) rfl (by decide +kernel) rfl rfl (Nat.le_of_ble_eq_true rfl) dT3_init_13 (fun H locs hP hD hS => ?_)
    have hP : va_P (dC, dI) vwP [(h0, .inr (15, [.ref h0, .null, .null, .null, .null, .int 0, .int 0]))] H := hP
    have hD : va_D A [(h0, .inr (15, [.ref h0, .null, .null, .null, .null, .int 0, .int 0]))] := hD
    refine lv_aload_n hx hb dT3_init_16 rfl (lv_at hl 0 rfl) ?_
    rcases hp1.1 with hz_4 | ⟨tz_3, hz_4⟩
    · refine va_gets (v := .null) hx hb hz_4 hS hown (ow (k := 6) rfl) (fun _ h9 => h9) dT3_init_17 ?_
      refine va_put (D := (dC, dI)) (ci := 15) (v := .null) (ty := .object "java/util/List") (C := RX18) (T := TX18) (N := 7) hx hb hts mem_T3_init_0 tyX18 tyX18_ok nmX18 hown hK hP hD hS 0 rfl rfl 2 (by decide) (ow (k := 7) rfl) (fun _ h9 => h9) rfl (by decide +kernel) rfl rfl (Nat.le_of_ble_eq_true rfl) dT3_init_20 (fun H locs hP hD hS => ?_)
      have hP : va_P (dC, dI) vwP [(h0, .inr (15, [.ref h0, .null, .null, .null, .null, .int 0, .int 0]))] H := hP
      have hD : va_D A [(h0, .inr (15, [.ref h0, .null, .null, .null, .null, .int 0, .int 0]))] := hD
      refine lv_iload hx hb dT3_init_23 (lv_at hl 4 rfl) ?_
      refine lv_if_eq (tgt := 36) hx hb dT3_init_25 (by decide) (fun _ => ?_) (fun h9 => absurd h9 (by decide))
      refine lv_aload_n hx hb dT3_init_36 rfl (lv_at hl 0 rfl) ?_
      refine lv_null hx hb dT3_init_37 ?_
      refine va_put (D := (dC, dI)) (ci := 15) (v := .null) (ty := .array (.object "java/lang/StackTraceElement")) (C := RX18) (T := TX18) (N := 7) hx hb hts mem_T3_init_0 tyX18 tyX18_ok nmX18 hown hK hP hD hS 0 rfl rfl 1 (by decide) (ow (k := 5) rfl) (fun _ h9 => h9) rfl (by decide +kernel) rfl rfl (Nat.le_of_ble_eq_true rfl) dT3_init_38 (fun H locs hP hD hS => ?_)
      have hP : va_P (dC, dI) vwP [(h0, .inr (15, [.ref h0, .null, .null, .null, .null, .int 0, .int 0]))] H := hP
      have hD : va_D A [(h0, .inr (15, [.ref h0, .null, .null, .null, .null, .int 0, .int 0]))] := hD
      refine lv_aload_n hx hb dT3_init_41 rfl (lv_at hl 0 rfl) ?_
      refine lv_aload_nN hx hb dT3_init_42 rfl (lv_at hl 1 rfl) ?_
      refine va_put (D := (dC, dI)) (ci := 15) (v := .null) (ty := .object "java/lang/String") (C := RX18) (T := TX18) (N := 7) hx hb hts mem_T3_init_0 tyX18 tyX18_ok nmX18 hown hK hP hD hS 0 rfl rfl 3 (by decide) (ow (k := 8) rfl) (fun _ h9 => h9) rfl (by decide +kernel) rfl rfl (Nat.le_of_ble_eq_true rfl) dT3_init_43 (fun H locs hP hD hS => ?_)
      have hP : va_P (dC, dI) vwP [(h0, .inr (15, [.ref h0, .null, .null, .null, .null, .int 0, .int 0]))] H := hP
      have hD : va_D A [(h0, .inr (15, [.ref h0, .null, .null, .null, .null, .int 0, .int 0]))] := hD
      refine lv_aload_n hx hb dT3_init_46 rfl (lv_at hl 0 rfl) ?_
      refine lv_aload_nN hx hb dT3_init_47 rfl (lv_at hl 2 rfl) ?_
      refine va_put (D := (dC, dI)) (ci := 15) (v := .null) (ty := .object "java/lang/Throwable") (C := RX18) (T := TX18) (N := 7) hx hb hts mem_T3_init_0 tyX18 tyX18_ok nmX18 hown hK hP hD hS 0 rfl rfl 0 (by decide) (ow (k := 3) rfl) (fun _ h9 => h9) rfl (by decide +kernel) rfl rfl (Nat.le_of_ble_eq_true rfl) dT3_init_48 (fun H locs hP hD hS => ?_)
      have hP : va_P (dC, dI) vwP [(h0, .inr (15, [.null, .null, .null, .null, .null, .int 0, .int 0]))] H := hP
      have hD : va_D A [(h0, .inr (15, [.null, .null, .null, .null, .null, .int 0, .int 0]))] := hD
      refine lv_iload_n hx hb dT3_init_51 rfl (lv_at hl 3 rfl) ?_
      refine lv_if_ne (tgt := 60) hx hb dT3_init_52 (by decide) (fun h9 => absurd h9 (by decide)) (fun _ => ?_)
      refine lv_aload_n hx hb dT3_init_55 rfl (lv_at hl 0 rfl) ?_
      refine lv_null hx hb dT3_init_56 ?_
      refine va_put (D := (dC, dI)) (ci := 15) (v := .null) (ty := .object "java/util/List") (C := RX18) (T := TX18) (N := 7) hx hb hts mem_T3_init_0 tyX18 tyX18_ok nmX18 hown hK hP hD hS 0 rfl rfl 2 (by decide) (ow (k := 7) rfl) (fun _ h9 => h9) rfl (by decide +kernel) rfl rfl (Nat.le_of_ble_eq_true rfl) dT3_init_57 (fun H locs hP hD hS => ?_)
      have hP : va_P (dC, dI) vwP [(h0, .inr (15, [.null, .null, .null, .null, .null, .int 0, .int 0]))] H := hP
      have hD : va_D A [(h0, .inr (15, [.null, .null, .null, .null, .null, .int 0, .int 0]))] := hD
      refine W.widen (k := 0) (n := 0) (Nat.le_of_ble_eq_true rfl) (Nat.le_of_ble_eq_true rfl) ?_
      exact W.vret hx hb hr (fun t ht hW => ⟨⟨(), rfl, trivial, by rw [ht]; exact hP, va_K.moved hW.alike hK, hD⟩, hS.F ht⟩) hS.2.2 dT3_init_60
    · refine va_gets (v := .ref tz_3) hx hb hz_4 hS hown (ow (k := 6) rfl) (fun _ h9 => h9) dT3_init_17 ?_
      refine va_put (D := (dC, dI)) (ci := 15) (v := .ref tz_3) (ty := .object "java/util/List") (C := RX18) (T := TX18) (N := 7) hx hb hts mem_T3_init_0 tyX18 tyX18_ok nmX18 hown hK hP hD hS 0 rfl rfl 2 (by decide) (ow (k := 7) rfl) (fun _ h9 => h9) rfl (by decide +kernel) rfl rfl (Nat.le_of_ble_eq_true rfl) dT3_init_20 (fun H locs hP hD hS => ?_)
      have hP : va_P (dC, dI) vwP [(h0, .inr (15, [.ref h0, .null, .ref tz_3, .null, .null, .int 0, .int 0]))] H := hP
      have hD : va_D A [(h0, .inr (15, [.ref h0, .null, .ref tz_3, .null, .null, .int 0, .int 0]))] := hD
      refine lv_iload hx hb dT3_init_23 (lv_at hl 4 rfl) ?_
      refine lv_if_eq (tgt := 36) hx hb dT3_init_25 (by decide) (fun _ => ?_) (fun h9 => absurd h9 (by decide))
      refine lv_aload_n hx hb dT3_init_36 rfl (lv_at hl 0 rfl) ?_
      refine lv_null hx hb dT3_init_37 ?_
      refine va_put (D := (dC, dI)) (ci := 15) (v := .null) (ty := .array (.object "java/lang/StackTraceElement")) (C := RX18) (T := TX18) (N := 7) hx hb hts mem_T3_init_0 tyX18 tyX18_ok nmX18 hown hK hP hD hS 0 rfl rfl 1 (by decide) (ow (k := 5) rfl) (fun _ h9 => h9) rfl (by decide +kernel) rfl rfl (Nat.le_of_ble_eq_true rfl) dT3_init_38 (fun H locs hP hD hS => ?_)
      have hP : va_P (dC, dI) vwP [(h0, .inr (15, [.ref h0, .null, .ref tz_3, .null, .null, .int 0, .int 0]))] H := hP
      have hD : va_D A [(h0, .inr (15, [.ref h0, .null, .ref tz_3, .null, .null, .int 0, .int 0]))] := hD
      refine lv_aload_n hx hb dT3_init_41 rfl (lv_at hl 0 rfl) ?_
      refine lv_aload_nN hx hb dT3_init_42 rfl (lv_at hl 1 rfl) ?_
      refine va_put (D := (dC, dI)) (ci := 15) (v := .null) (ty := .object "java/lang/String") (C := RX18) (T := TX18) (N := 7) hx hb hts mem_T3_init_0 tyX18 tyX18_ok nmX18 hown hK hP hD hS 0 rfl rfl 3 (by decide) (ow (k := 8) rfl) (fun _ h9 => h9) rfl (by decide +kernel) rfl rfl (Nat.le_of_ble_eq_true rfl) dT3_init_43 (fun H locs hP hD hS => ?_)
      have hP : va_P (dC, dI) vwP [(h0, .inr (15, [.ref h0, .null, .ref tz_3, .null, .null, .int 0, .int 0]))] H := hP
      have hD : va_D A [(h0, .inr (15, [.ref h0, .null, .ref tz_3, .null, .null, .int 0, .int 0]))] := hD
      refine lv_aload_n hx hb dT3_init_46 rfl (lv_at hl 0 rfl) ?_
      refine lv_aload_nN hx hb dT3_init_47 rfl (lv_at hl 2 rfl) ?_
      refine va_put (D := (dC, dI)) (ci := 15) (v := .null) (ty := .object "java/lang/Throwable") (C := RX18) (T := TX18) (N := 7) hx hb hts mem_T3_init_0 tyX18 tyX18_ok nmX18 hown hK hP hD hS 0 rfl rfl 0 (by decide) (ow (k := 3) rfl) (fun _ h9 => h9) rfl (by decide +kernel) rfl rfl (Nat.le_of_ble_eq_true rfl) dT3_init_48 (fun H locs hP hD hS => ?_)
      have hP : va_P (dC, dI) vwP [(h0, .inr (15, [.null, .null, .ref tz_3, .null, .null, .int 0, .int 0]))] H := hP
      have hD : va_D A [(h0, .inr (15, [.null, .null, .ref tz_3, .null, .null, .int 0, .int 0]))] := hD
      refine lv_iload_n hx hb dT3_init_51 rfl (lv_at hl 3 rfl) ?_
      refine lv_if_ne (tgt := 60) hx hb dT3_init_52 (by decide) (fun h9 => absurd h9 (by decide)) (fun _ => ?_)
      refine lv_aload_n hx hb dT3_init_55 rfl (lv_at hl 0 rfl) ?_
      refine lv_null hx hb dT3_init_56 ?_
      refine va_put (D := (dC, dI)) (ci := 15) (v := .null) (ty := .object "java/util/List") (C := RX18) (T := TX18) (N := 7) hx hb hts mem_T3_init_0 tyX18 tyX18_ok nmX18 hown hK hP hD hS 0 rfl rfl 2 (by decide) (ow (k := 7) rfl) (fun _ h9 => h9) rfl (by decide +kernel) rfl rfl (Nat.le_of_ble_eq_true rfl) dT3_init_57 (fun H locs hP hD hS => ?_)
      have hP : va_P (dC, dI) vwP [(h0, .inr (15, [.null, .null, .null, .null, .null, .int 0, .int 0]))] H := hP
      have hD : va_D A [(h0, .inr (15, [.null, .null, .null, .null, .null, .int 0, .int 0]))] := hD
      refine W.widen (k := 0) (n := 0) (Nat.le_of_ble_eq_true rfl) (Nat.le_of_ble_eq_true rfl) ?_
      exact W.vret hx hb hr (fun t ht hW => ⟨⟨(), rfl, trivial, by rw [ht]; exact hP, va_K.moved hW.alike hK, hD⟩, hS.F ht⟩) hS.2.2 dT3_init_60
  · refine va_gets (v := .ref tz_1) hx hb hz_2 hS hown (ow (k := 4) rfl) (fun _ h9 => h9) dT3_init_10 ?_
    refine va_put (D := (dC, dI)) (ci := 15) (v := .ref tz_1) (ty := .array (.object "java/lang/StackTraceElement")) (C := RX18) (T := TX18) (N := 7) hx hb hts mem_T3_init_0 tyX18 tyX18_ok nmX18 hown hK hP hD hS 0 rfl rfl 1 (by decide) (ow (k := 5) rfl) (fun _ h9 => h9) rfl (by decide +kernel) rfl rfl (Nat.le_of_ble_eq_true rfl) dT3_init_13 (fun H locs hP hD hS => ?_)
    have hP : va_P (dC, dI) vwP [(h0, .inr (15, [.ref h0, .ref tz_1, .null, .null, .null, .int 0, .int 0]))] H := hP
    have hD : va_D A [(h0, .inr (15, [.ref h0, .ref tz_1, .null, .null, .null, .int 0, .int 0]))] := hD
    refine lv_aload_n hx hb dT3_init_16 rfl (lv_at hl 0 rfl) ?_
    rcases hp1.1 with hz_6 | ⟨tz_5, hz_6⟩
    · refine va_gets (v := .null) hx hb hz_6 hS hown (ow (k := 6) rfl) (fun _ h9 => h9) dT3_init_17 ?_
      refine va_put (D := (dC, dI)) (ci := 15) (v := .null) (ty := .object "java/util/List") (C := RX18) (T := TX18) (N := 7) hx hb hts mem_T3_init_0 tyX18 tyX18_ok nmX18 hown hK hP hD hS 0 rfl rfl 2 (by decide) (ow (k := 7) rfl) (fun _ h9 => h9) rfl (by decide +kernel) rfl rfl (Nat.le_of_ble_eq_true rfl) dT3_init_20 (fun H locs hP hD hS => ?_)
      have hP : va_P (dC, dI) vwP [(h0, .inr (15, [.ref h0, .ref tz_1, .null, .null, .null, .int 0, .int 0]))] H := hP
      have hD : va_D A [(h0, .inr (15, [.ref h0, .ref tz_1, .null, .null, .null, .int 0, .int 0]))] := hD
      refine lv_iload hx hb dT3_init_23 (lv_at hl 4 rfl) ?_
      refine lv_if_eq (tgt := 36) hx hb dT3_init_25 (by decide) (fun _ => ?_) (fun h9 => absurd h9 (by decide))
      refine lv_aload_n hx hb dT3_init_36 rfl (lv_at hl 0 rfl) ?_
      refine lv_null hx hb dT3_init_37 ?_
      refine va_put (D := (dC, dI)) (ci := 15) (v := .null) (ty := .array (.object "java/lang/StackTraceElement")) (C := RX18) (T := TX18) (N := 7) hx hb hts mem_T3_init_0 tyX18 tyX18_ok nmX18 hown hK hP hD hS 0 rfl rfl 1 (by decide) (ow (k := 5) rfl) (fun _ h9 => h9) rfl (by decide +kernel) rfl rfl (Nat.le_of_ble_eq_true rfl) dT3_init_38 (fun H locs hP hD hS => ?_)
      have hP : va_P (dC, dI) vwP [(h0, .inr (15, [.ref h0, .null, .null, .null, .null, .int 0, .int 0]))] H := hP
      have hD : va_D A [(h0, .inr (15, [.ref h0, .null, .null, .null, .null, .int 0, .int 0]))] := hD
      refine lv_aload_n hx hb dT3_init_41 rfl (lv_at hl 0 rfl) ?_
      refine lv_aload_nN hx hb dT3_init_42 rfl (lv_at hl 1 rfl) ?_
      refine va_put (D := (dC, dI)) (ci := 15) (v := .null) (ty := .object "java/lang/String") (C := RX18) (T := TX18) (N := 7) hx hb hts mem_T3_init_0 tyX18 tyX18_ok nmX18 hown hK hP hD hS 0 rfl rfl 3 (by decide) (ow (k := 8) rfl) (fun _ h9 => h9) rfl (by decide +kernel) rfl rfl (Nat.le_of_ble_eq_true rfl) dT3_init_43 (fun H locs hP hD hS => ?_)
      have hP : va_P (dC, dI) vwP [(h0, .inr (15, [.ref h0, .null, .null, .null, .null, .int 0, .int 0]))] H := hP
      have hD : va_D A [(h0, .inr (15, [.ref h0, .null, .null, .null, .null, .int 0, .int 0]))] := hD
      refine lv_aload_n hx hb dT3_init_46 rfl (lv_at hl 0 rfl) ?_
      refine lv_aload_nN hx hb dT3_init_47 rfl (lv_at hl 2 rfl) ?_
      refine va_put (D := (dC, dI)) (ci := 15) (v := .null) (ty := .object "java/lang/Throwable") (C := RX18) (T := TX18) (N := 7) hx hb hts mem_T3_init_0 tyX18 tyX18_ok nmX18 hown hK hP hD hS 0 rfl rfl 0 (by decide) (ow (k := 3) rfl) (fun _ h9 => h9) rfl (by decide +kernel) rfl rfl (Nat.le_of_ble_eq_true rfl) dT3_init_48 (fun H locs hP hD hS => ?_)
      have hP : va_P (dC, dI) vwP [(h0, .inr (15, [.null, .null, .null, .null, .null, .int 0, .int 0]))] H := hP
      have hD : va_D A [(h0, .inr (15, [.null, .null, .null, .null, .null, .int 0, .int 0]))] := hD
      refine lv_iload_n hx hb dT3_init_51 rfl (lv_at hl 3 rfl) ?_
      refine lv_if_ne (tgt := 60) hx hb dT3_init_52 (by decide) (fun h9 => absurd h9 (by decide)) (fun _ => ?_)
      refine lv_aload_n hx hb dT3_init_55 rfl (lv_at hl 0 rfl) ?_
      refine lv_null hx hb dT3_init_56 ?_
      refine va_put (D := (dC, dI)) (ci := 15) (v := .null) (ty := .object "java/util/List") (C := RX18) (T := TX18) (N := 7) hx hb hts mem_T3_init_0 tyX18 tyX18_ok nmX18 hown hK hP hD hS 0 rfl rfl 2 (by decide) (ow (k := 7) rfl) (fun _ h9 => h9) rfl (by decide +kernel) rfl rfl (Nat.le_of_ble_eq_true rfl) dT3_init_57 (fun H locs hP hD hS => ?_)
      have hP : va_P (dC, dI) vwP [(h0, .inr (15, [.null, .null, .null, .null, .null, .int 0, .int 0]))] H := hP
      have hD : va_D A [(h0, .inr (15, [.null, .null, .null, .null, .null, .int 0, .int 0]))] := hD
      refine W.widen (k := 0) (n := 0) (Nat.le_of_ble_eq_true rfl) (Nat.le_of_ble_eq_true rfl) ?_
      exact W.vret hx hb hr (fun t ht hW => ⟨⟨(), rfl, trivial, by rw [ht]; exact hP, va_K.moved hW.alike hK, hD⟩, hS.F ht⟩) hS.2.2 dT3_init_60
    · refine va_gets (v := .ref tz_5) hx hb hz_6 hS hown (ow (k := 6) rfl) (fun _ h9 => h9) dT3_init_17 ?_
      refine va_put (D := (dC, dI)) (ci := 15) (v := .ref tz_5) (ty := .object "java/util/List") (C := RX18) (T := TX18) (N := 7) hx hb hts mem_T3_init_0 tyX18 tyX18_ok nmX18 hown hK hP hD hS 0 rfl rfl 2 (by decide) (ow (k := 7) rfl) (fun _ h9 => h9) rfl (by decide +kernel) rfl rfl (Nat.le_of_ble_eq_true rfl) dT3_init_20 (fun H locs hP hD hS => ?_)
      have hP : va_P (dC, dI) vwP [(h0, .inr (15, [.ref h0, .ref tz_1, .ref tz_5, .null, .null, .int 0, .int 0]))] H := hP
      have hD : va_D A [(h0, .inr (15, [.ref h0, .ref tz_1, .ref tz_5, .null, .null, .int 0, .int 0]))] := hD
      refine lv_iload hx hb dT3_init_23 (lv_at hl 4 rfl) ?_
      refine lv_if_eq (tgt := 36) hx hb dT3_init_25 (by decide) (fun _ => ?_) (fun h9 => absurd h9 (by decide))
      refine lv_aload_n hx hb dT3_init_36 rfl (lv_at hl 0 rfl) ?_
      refine lv_null hx hb dT3_init_37 ?_
      refine va_put (D := (dC, dI)) (ci := 15) (v := .null) (ty := .array (.object "java/lang/StackTraceElement")) (C := RX18) (T := TX18) (N := 7) hx hb hts mem_T3_init_0 tyX18 tyX18_ok nmX18 hown hK hP hD hS 0 rfl rfl 1 (by decide) (ow (k := 5) rfl) (fun _ h9 => h9) rfl (by decide +kernel) rfl rfl (Nat.le_of_ble_eq_true rfl) dT3_init_38 (fun H locs hP hD hS => ?_)
      have hP : va_P (dC, dI) vwP [(h0, .inr (15, [.ref h0, .null, .ref tz_5, .null, .null, .int 0, .int 0]))] H := hP
      have hD : va_D A [(h0, .inr (15, [.ref h0, .null, .ref tz_5, .null, .null, .int 0, .int 0]))] := hD
      refine lv_aload_n hx hb dT3_init_41 rfl (lv_at hl 0 rfl) ?_
      refine lv_aload_nN hx hb dT3_init_42 rfl (lv_at hl 1 rfl) ?_
      refine va_put (D := (dC, dI)) (ci := 15) (v := .null) (ty := .object "java/lang/String") (C := RX18) (T := TX18) (N := 7) hx hb hts mem_T3_init_0 tyX18 tyX18_ok nmX18 hown hK hP hD hS 0 rfl rfl 3 (by decide) (ow (k := 8) rfl) (fun _ h9 => h9) rfl (by decide +kernel) rfl rfl (Nat.le_of_ble_eq_true rfl) dT3_init_43 (fun H locs hP hD hS => ?_)
      have hP : va_P (dC, dI) vwP [(h0, .inr (15, [.ref h0, .null, .ref tz_5, .null, .null, .int 0, .int 0]))] H := hP
      have hD : va_D A [(h0, .inr (15, [.ref h0, .null, .ref tz_5, .null, .null, .int 0, .int 0]))] := hD
      refine lv_aload_n hx hb dT3_init_46 rfl (lv_at hl 0 rfl) ?_
      refine lv_aload_nN hx hb dT3_init_47 rfl (lv_at hl 2 rfl) ?_
      refine va_put (D := (dC, dI)) (ci := 15) (v := .null) (ty := .object "java/lang/Throwable") (C := RX18) (T := TX18) (N := 7) hx hb hts mem_T3_init_0 tyX18 tyX18_ok nmX18 hown hK hP hD hS 0 rfl rfl 0 (by decide) (ow (k := 3) rfl) (fun _ h9 => h9) rfl (by decide +kernel) rfl rfl (Nat.le_of_ble_eq_true rfl) dT3_init_48 (fun H locs hP hD hS => ?_)
      have hP : va_P (dC, dI) vwP [(h0, .inr (15, [.null, .null, .ref tz_5, .null, .null, .int 0, .int 0]))] H := hP
      have hD : va_D A [(h0, .inr (15, [.null, .null, .ref tz_5, .null, .null, .int 0, .int 0]))] := hD
      refine lv_iload_n hx hb dT3_init_51 rfl (lv_at hl 3 rfl) ?_
      refine lv_if_ne (tgt := 60) hx hb dT3_init_52 (by decide) (fun h9 => absurd h9 (by decide)) (fun _ => ?_)
      refine lv_aload_n hx hb dT3_init_55 rfl (lv_at hl 0 rfl) ?_
      refine lv_null hx hb dT3_init_56 ?_
      refine va_put (D := (dC, dI)) (ci := 15) (v := .null) (ty := .object "java/util/List") (C := RX18) (T := TX18) (N := 7) hx hb hts mem_T3_init_0 tyX18 tyX18_ok nmX18 hown hK hP hD hS 0 rfl rfl 2 (by decide) (ow (k := 7) rfl) (fun _ h9 => h9) rfl (by decide +kernel) rfl rfl (Nat.le_of_ble_eq_true rfl) dT3_init_57 (fun H locs hP hD hS => ?_)
      have hP : va_P (dC, dI) vwP [(h0, .inr (15, [.null, .null, .null, .null, .null, .int 0, .int 0]))] H := hP
      have hD : va_D A [(h0, .inr (15, [.null, .null, .null, .null, .null, .int 0, .int 0]))] := hD
      refine W.widen (k := 0) (n := 0) (Nat.le_of_ble_eq_true rfl) (Nat.le_of_ble_eq_true rfl) ?_
      exact W.vret hx hb hr (fun t ht hW => ⟨⟨(), rfl, trivial, by rw [ht]; exact hP, va_K.moved hW.alike hK, hD⟩, hS.F ht⟩) hS.2.2 dT3_init_60
theorem dT2_init_0 : decode cT2_init 0 = .ok (.aload_n 0, 1) := by decide +kernel
theorem dT2_init_1 : decode cT2_init 1 = .ok (.aload_n 1, 1) := by decide +kernel
theorem dT2_init_2 : decode cT2_init 2 = .ok (.aload_n 2, 1) := by decide +kernel
theorem dT2_init_3 : decode cT2_init 3 = .ok (.iload_n 3, 1) := by decide +kernel
theorem dT2_init_4 : decode cT2_init 4 = .ok (.iload 4, 2) := by decide +kernel
theorem dT2_init_6 : decode cT2_init 6 = .ok (.invokespecial 16, 3) := by decide +kernel
theorem dT2_init_9 : decode cT2_init 9 = .ok (.return_, 1) := by decide +kernel
def o_T2_init : List Cond := [.initialized RT3, .methodLink RT2 16 yT3_init, .instanceMethod yT3_init]
def v_T2_init : List Cond := .code yT2_init cT2_init 5 none :: (o_T2_init ++ (v_T3_init ++ []))
theorem mow_T2_init : ∀ w ∈ o_T2_init, w ∈ v_T2_init := fun _ h => List.mem_cons_of_mem _ (List.mem_append_left _ h)
theorem mem_T2_init_0 : ∀ w ∈ v_T3_init, w ∈ v_T2_init := fun _ h => List.mem_cons_of_mem _ (List.mem_append_right _ (List.mem_append_left _ h))
set_option maxRecDepth 20000 in
theorem gw_T2_init : v_T2_init.all goodWord = true := by decide +kernel
set_option maxHeartbeats 4000000 in
set_option maxRecDepth 100000 in
theorem c_T2_init (l : Launch) (dC : Nat → ClassId) (dI : Nat → Nat → Nat) (h0 : Nat) (sz : Nat) : Met l yT2_init v_T2_init ({ frames := 2, cells := 0, slots := 0, locals := 36 }) (va_Pc [.ref h0, .null, .null, .int 0, .int 0] (fun U => U.heap.size = sz ∧ va_P (dC, dI) vwP [(h0, .inr (15, [.null, .null, .null, .null, .null, .int 0, .int 0]))] U.heap ∧ va_K (dC, dI) vwP [] U ∧ va_D (fun _ => True) [(h0, .inr (15, [.null, .null, .null, .null, .null, .int 0, .int 0]))] ∧ vx_Zq Bundle.tN "UNASSIGNED_STACK" Bundle.steD (va_A [(h0, .inr (15, [.null, .null, .null, .null, .null, .int 0, .int 0]))] sz) U U.heap ∧ vx_Zq Bundle.tN "SUPPRESSED_SENTINEL" Bundle.listD (va_A [(h0, .inr (15, [.null, .null, .null, .null, .null, .int 0, .int 0]))] sz) U U.heap)) (va_Qv (fun _ : Unit => True) (fun (_ : Unit) (t : State) => va_P (dC, dI) vwP [(h0, .inr (15, [.null, .null, .null, .null, .null, .int 0, .int 0]))] t.heap ∧ va_K (dC, dI) vwP [] t ∧ va_D (va_A [(h0, .inr (15, [.null, .null, .null, .null, .null, .int 0, .int 0]))] sz) [(h0, .inr (15, [.null, .null, .null, .null, .null, .int 0, .int 0]))]) (va_A [(h0, .inr (15, [.null, .null, .null, .null, .null, .int 0, .int 0]))] sz)) 0 0 (va_A [(h0, .inr (15, [.null, .null, .null, .null, .null, .int 0, .int 0]))] sz) := by
  refine Met.ofW (cc := cT2_init) (maxL := 5) (ret := none) (by decide) rfl ?_
  intro p e s m args below meth c s₁ B hml hv
  obtain ⟨rfl, hsz, hP, hK, hD0, hp0, hp1⟩ := hv
  have hx := B.exec
  have hb := B.bytes
  have hr := B.returns
  have hts := atoms_spec (ws := v_T2_init) B.pre
  have hown : s.vm.findClass RT2 = some m.cls := findClass_of_methodNamed B.named
  have hlocks := B.notSynchronized
  have ow : ∀ {k : Nat} {w : Cond}, o_T2_init[k]? = some w → w.before ([.ref h0, .null, .null, .int 0, .int 0] : List Value).toArray s = true := fun h => hts _ (mow_T2_init _ (List.mem_of_getElem? h))
  have hin : meth.name = "<init>" := (name_of_methodNamed B.named B.method).1
  subst hsz
  have hD := hD0.self (sz := s.heap.size)
  generalize hAe : va_A [(h0, .inr (15, [.null, .null, .null, .null, .null, .int 0, .int 0]))] s.heap.size = A at hD hp0 hp1 ⊢
  have hA : ∀ q : Nat, s.heap.size ≤ q → A q := fun q h => by rw [← hAe]; exact Or.inr h
  have hS : va_S A s.heap s.heap [] := va_S.rf
  have hP : va_P (dC, dI) vwP [(h0, .inr (15, [.null, .null, .null, .null, .null, .int 0, .int 0]))] s.heap := hP
  have hl := lv_entry ([.ref h0, .null, .null, .int 0, .int 0]) (n := 5) (Nat.le_of_ble_eq_true rfl)
  rw [lg_entry_eq]
  generalize (lg_sl ([.ref h0, .null, .null, .int 0, .int 0]) ++ List.replicate (5 - (lg_sl ([.ref h0, .null, .null, .int 0, .int 0])).length) Slot.unset).toArray = ls at hl ⊢
  have hl : lv_has ls 5 [(0, .ref h0), (1, .null), (2, .null), (3, .int 0), (4, .int 0)] := hl
  obtain ⟨H, hH⟩ : ∃ H, H = s.heap := ⟨_, rfl⟩
  rw [← hH] at hP
  have hS : va_S A s.heap H [] := by rw [hH]; exact hS
  rw [← hH]
  refine lv_aload_n hx hb dT2_init_0 rfl (lv_at hl 0 rfl) ?_
  refine lv_aload_nN hx hb dT2_init_1 rfl (lv_at hl 1 rfl) ?_
  refine lv_aload_nN hx hb dT2_init_2 rfl (lv_at hl 2 rfl) ?_
  refine lv_iload_n hx hb dT2_init_3 rfl (lv_at hl 3 rfl) ?_
  refine lv_iload hx hb dT2_init_4 (lv_at hl 4 rfl) ?_
  have hPc := hP.sub (ws' := [(h0, .inr (15, [.null, .null, .null, .null, .null, .int 0, .int 0]))]) [0] rfl
  have hDc := hD.sub (ws' := [(h0, .inr (15, [.null, .null, .null, .null, .null, .int 0, .int 0]))]) [0] (by decide) rfl
  have hKc := hK.sub (tys' := []) [] rfl
  have hFc := va_free (wc := [(h0, .inr (15, [.null, .null, .null, .null, .null, .int 0, .int 0]))]) hD hS hA [0] rfl
  refine va_callv (va_runI (As := [.null, .null, .int 0, .int 0]) (rest := []) ⟨hx, hb, hml, hown, hts⟩ (c_T3_init l dC dI h0 H.size) (cwI 4 hts (goodIn_sub mem_T2_init_0 gw_T3_init) rfl rfl rfl (ow (k := 0) rfl) (ow (k := 1) rfl) (ow (k := 2) rfl) rfl (by decide +kernel) ⟨(Nat.le_of_ble_eq_true rfl), (Nat.le_of_ble_eq_true rfl)⟩) ⟨fun a U g mk q => by obtain ⟨q0, q1, qP, qK, qD, e0, e1⟩ := q; exact ⟨q0, q1, qP, va_K.moved (u := U) (U := U.calling g mk a) (Vm.Alike.refl U.vm) qK, qD, vx_Zq.moved (u := U) (U := U.calling g mk a) (Vm.Alike.refl U.vm) e0, vx_Zq.moved (u := U) (U := U.calling g mk a) (Vm.Alike.refl U.vm) e1⟩, fun U hU hW => ⟨rfl, by rw [hU], by rw [hU]; exact hPc, va_K.moved hW.alike hKc, hDc.weaken (fun _ _ _ _ => trivial), by rw [hU]; exact vx_Zq.narrow (vx_Zq.moved hW.alike (vx_Zq.kept hp0 hS.2.1)) hFc, by rw [hU]; exact vx_Zq.narrow (vx_Zq.moved hW.alike (vx_Zq.kept hp1 hS.2.1)) hFc⟩⟩ rfl rfl hl.1 rfl (lv_room (Nat.le_of_ble_eq_true rfl)) dT2_init_6 ⟨(Nat.le_of_ble_eq_true rfl), (Nat.le_of_ble_eq_true rfl)⟩) hS (fun q _ h => hFc q h) hFc (fun  u t H1 locs ht hvm hw hB hz1 hk1 hS => ?_)
  obtain ⟨hP1, hK1, hD1⟩ := hB
  rw [ht] at hP1
  have hK1 := va_K.moved hvm.symm hK1
  obtain ⟨hP, hD⟩ := va_join (wr := []) (w1 := [(h0, .inr (15, [.null, .null, .null, .null, .null, .int 0, .int 0]))]) hP hD [0] [] rfl rfl (by decide) (by decide) hk1 hFc hP1 hD1
  have hK := (hK.sub (tys' := []) [] rfl).app hK1
  generalize H1 = H at hP hS ⊢
  have hP : va_P (dC, dI) vwP [(h0, .inr (15, [.null, .null, .null, .null, .null, .int 0, .int 0]))] H := hP
  have hD : va_D A [(h0, .inr (15, [.null, .null, .null, .null, .null, .int 0, .int 0]))] := hD
  have hK : va_K (dC, dI) vwP [] s := hK
  refine W.widen (k := 0) (n := 0) (Nat.le_of_ble_eq_true rfl) (Nat.le_of_ble_eq_true rfl) ?_
  refine W.widen (k := 0) (n := 0) (Nat.le_of_ble_eq_true rfl) (Nat.le_of_ble_eq_true rfl) ?_
  exact W.vret hx hb hr (fun t ht hW => ⟨⟨(), rfl, trivial, by rw [ht]; exact hP, va_K.moved hW.alike hK, hD⟩, hS.F ht⟩) hS.2.2 dT2_init_9
theorem dT1_init_0 : decode cT1_init 0 = .ok (.aload_n 0, 1) := by decide +kernel
theorem dT1_init_1 : decode cT1_init 1 = .ok (.aload_n 1, 1) := by decide +kernel
theorem dT1_init_2 : decode cT1_init 2 = .ok (.aload_n 2, 1) := by decide +kernel
theorem dT1_init_3 : decode cT1_init 3 = .ok (.iload_n 3, 1) := by decide +kernel
theorem dT1_init_4 : decode cT1_init 4 = .ok (.iload 4, 2) := by decide +kernel
theorem dT1_init_6 : decode cT1_init 6 = .ok (.invokespecial 16, 3) := by decide +kernel
theorem dT1_init_9 : decode cT1_init 9 = .ok (.return_, 1) := by decide +kernel
def o_T1_init : List Cond := [.initialized RT2, .methodLink RT1 16 yT2_init, .instanceMethod yT2_init]
def v_T1_init : List Cond := .code yT1_init cT1_init 5 none :: (o_T1_init ++ (v_T2_init ++ []))
theorem mow_T1_init : ∀ w ∈ o_T1_init, w ∈ v_T1_init := fun _ h => List.mem_cons_of_mem _ (List.mem_append_left _ h)
theorem mem_T1_init_0 : ∀ w ∈ v_T2_init, w ∈ v_T1_init := fun _ h => List.mem_cons_of_mem _ (List.mem_append_right _ (List.mem_append_left _ h))
set_option maxRecDepth 20000 in
theorem gw_T1_init : v_T1_init.all goodWord = true := by decide +kernel
set_option maxHeartbeats 4000000 in
set_option maxRecDepth 100000 in
theorem c_T1_init (l : Launch) (dC : Nat → ClassId) (dI : Nat → Nat → Nat) (h0 : Nat) (sz : Nat) : Met l yT1_init v_T1_init ({ frames := 3, cells := 0, slots := 0, locals := 60 }) (va_Pc [.ref h0, .null, .null, .int 0, .int 0] (fun U => U.heap.size = sz ∧ va_P (dC, dI) vwP [(h0, .inr (15, [.null, .null, .null, .null, .null, .int 0, .int 0]))] U.heap ∧ va_K (dC, dI) vwP [] U ∧ va_D (fun _ => True) [(h0, .inr (15, [.null, .null, .null, .null, .null, .int 0, .int 0]))] ∧ vx_Zq Bundle.tN "UNASSIGNED_STACK" Bundle.steD (va_A [(h0, .inr (15, [.null, .null, .null, .null, .null, .int 0, .int 0]))] sz) U U.heap ∧ vx_Zq Bundle.tN "SUPPRESSED_SENTINEL" Bundle.listD (va_A [(h0, .inr (15, [.null, .null, .null, .null, .null, .int 0, .int 0]))] sz) U U.heap)) (va_Qv (fun _ : Unit => True) (fun (_ : Unit) (t : State) => va_P (dC, dI) vwP [(h0, .inr (15, [.null, .null, .null, .null, .null, .int 0, .int 0]))] t.heap ∧ va_K (dC, dI) vwP [] t ∧ va_D (va_A [(h0, .inr (15, [.null, .null, .null, .null, .null, .int 0, .int 0]))] sz) [(h0, .inr (15, [.null, .null, .null, .null, .null, .int 0, .int 0]))]) (va_A [(h0, .inr (15, [.null, .null, .null, .null, .null, .int 0, .int 0]))] sz)) 0 0 (va_A [(h0, .inr (15, [.null, .null, .null, .null, .null, .int 0, .int 0]))] sz) := by
  refine Met.ofW (cc := cT1_init) (maxL := 5) (ret := none) (by decide) rfl ?_
  intro p e s m args below meth c s₁ B hml hv
  obtain ⟨rfl, hsz, hP, hK, hD0, hp0, hp1⟩ := hv
  have hx := B.exec
  have hb := B.bytes
  have hr := B.returns
  have hts := atoms_spec (ws := v_T1_init) B.pre
  have hown : s.vm.findClass RT1 = some m.cls := findClass_of_methodNamed B.named
  have hlocks := B.notSynchronized
  have ow : ∀ {k : Nat} {w : Cond}, o_T1_init[k]? = some w → w.before ([.ref h0, .null, .null, .int 0, .int 0] : List Value).toArray s = true := fun h => hts _ (mow_T1_init _ (List.mem_of_getElem? h))
  have hin : meth.name = "<init>" := (name_of_methodNamed B.named B.method).1
  subst hsz
  have hD := hD0.self (sz := s.heap.size)
  generalize hAe : va_A [(h0, .inr (15, [.null, .null, .null, .null, .null, .int 0, .int 0]))] s.heap.size = A at hD hp0 hp1 ⊢
  have hA : ∀ q : Nat, s.heap.size ≤ q → A q := fun q h => by rw [← hAe]; exact Or.inr h
  have hS : va_S A s.heap s.heap [] := va_S.rf
  have hP : va_P (dC, dI) vwP [(h0, .inr (15, [.null, .null, .null, .null, .null, .int 0, .int 0]))] s.heap := hP
  have hl := lv_entry ([.ref h0, .null, .null, .int 0, .int 0]) (n := 5) (Nat.le_of_ble_eq_true rfl)
  rw [lg_entry_eq]
  generalize (lg_sl ([.ref h0, .null, .null, .int 0, .int 0]) ++ List.replicate (5 - (lg_sl ([.ref h0, .null, .null, .int 0, .int 0])).length) Slot.unset).toArray = ls at hl ⊢
  have hl : lv_has ls 5 [(0, .ref h0), (1, .null), (2, .null), (3, .int 0), (4, .int 0)] := hl
  obtain ⟨H, hH⟩ : ∃ H, H = s.heap := ⟨_, rfl⟩
  rw [← hH] at hP
  have hS : va_S A s.heap H [] := by rw [hH]; exact hS
  rw [← hH]
  refine lv_aload_n hx hb dT1_init_0 rfl (lv_at hl 0 rfl) ?_
  refine lv_aload_nN hx hb dT1_init_1 rfl (lv_at hl 1 rfl) ?_
  refine lv_aload_nN hx hb dT1_init_2 rfl (lv_at hl 2 rfl) ?_
  refine lv_iload_n hx hb dT1_init_3 rfl (lv_at hl 3 rfl) ?_
  refine lv_iload hx hb dT1_init_4 (lv_at hl 4 rfl) ?_
  have hPc := hP.sub (ws' := [(h0, .inr (15, [.null, .null, .null, .null, .null, .int 0, .int 0]))]) [0] rfl
  have hDc := hD.sub (ws' := [(h0, .inr (15, [.null, .null, .null, .null, .null, .int 0, .int 0]))]) [0] (by decide) rfl
  have hKc := hK.sub (tys' := []) [] rfl
  have hFc := va_free (wc := [(h0, .inr (15, [.null, .null, .null, .null, .null, .int 0, .int 0]))]) hD hS hA [0] rfl
  refine va_callv (va_runI (As := [.null, .null, .int 0, .int 0]) (rest := []) ⟨hx, hb, hml, hown, hts⟩ (c_T2_init l dC dI h0 H.size) (cwI 4 hts (goodIn_sub mem_T1_init_0 gw_T2_init) rfl rfl rfl (ow (k := 0) rfl) (ow (k := 1) rfl) (ow (k := 2) rfl) rfl (by decide +kernel) ⟨(Nat.le_of_ble_eq_true rfl), (Nat.le_of_ble_eq_true rfl)⟩) ⟨fun a U g mk q => by obtain ⟨q0, q1, qP, qK, qD, e0, e1⟩ := q; exact ⟨q0, q1, qP, va_K.moved (u := U) (U := U.calling g mk a) (Vm.Alike.refl U.vm) qK, qD, vx_Zq.moved (u := U) (U := U.calling g mk a) (Vm.Alike.refl U.vm) e0, vx_Zq.moved (u := U) (U := U.calling g mk a) (Vm.Alike.refl U.vm) e1⟩, fun U hU hW => ⟨rfl, by rw [hU], by rw [hU]; exact hPc, va_K.moved hW.alike hKc, hDc.weaken (fun _ _ _ _ => trivial), by rw [hU]; exact vx_Zq.narrow (vx_Zq.moved hW.alike (vx_Zq.kept hp0 hS.2.1)) hFc, by rw [hU]; exact vx_Zq.narrow (vx_Zq.moved hW.alike (vx_Zq.kept hp1 hS.2.1)) hFc⟩⟩ rfl rfl hl.1 rfl (lv_room (Nat.le_of_ble_eq_true rfl)) dT1_init_6 ⟨(Nat.le_of_ble_eq_true rfl), (Nat.le_of_ble_eq_true rfl)⟩) hS (fun q _ h => hFc q h) hFc (fun  u t H1 locs ht hvm hw hB hz1 hk1 hS => ?_)
  obtain ⟨hP1, hK1, hD1⟩ := hB
  rw [ht] at hP1
  have hK1 := va_K.moved hvm.symm hK1
  obtain ⟨hP, hD⟩ := va_join (wr := []) (w1 := [(h0, .inr (15, [.null, .null, .null, .null, .null, .int 0, .int 0]))]) hP hD [0] [] rfl rfl (by decide) (by decide) hk1 hFc hP1 hD1
  have hK := (hK.sub (tys' := []) [] rfl).app hK1
  generalize H1 = H at hP hS ⊢
  have hP : va_P (dC, dI) vwP [(h0, .inr (15, [.null, .null, .null, .null, .null, .int 0, .int 0]))] H := hP
  have hD : va_D A [(h0, .inr (15, [.null, .null, .null, .null, .null, .int 0, .int 0]))] := hD
  have hK : va_K (dC, dI) vwP [] s := hK
  refine W.widen (k := 0) (n := 0) (Nat.le_of_ble_eq_true rfl) (Nat.le_of_ble_eq_true rfl) ?_
  refine W.widen (k := 0) (n := 0) (Nat.le_of_ble_eq_true rfl) (Nat.le_of_ble_eq_true rfl) ?_
  exact W.vret hx hb hr (fun t ht hW => ⟨⟨(), rfl, trivial, by rw [ht]; exact hP, va_K.moved hW.alike hK, hD⟩, hS.F ht⟩) hS.2.2 dT1_init_9
theorem dX18_init_0 : decode cX18_init 0 = .ok (.aload_n 0, 1) := by decide +kernel
theorem dX18_init_1 : decode cX18_init 1 = .ok (.aconst_null, 1) := by decide +kernel
theorem dX18_init_2 : decode cX18_init 2 = .ok (.aconst_null, 1) := by decide +kernel
theorem dX18_init_3 : decode cX18_init 3 = .ok (.iconst 0, 1) := by decide +kernel
theorem dX18_init_4 : decode cX18_init 4 = .ok (.iconst 0, 1) := by decide +kernel
theorem dX18_init_5 : decode cX18_init 5 = .ok (.invokespecial 1, 3) := by decide +kernel
theorem dX18_init_8 : decode cX18_init 8 = .ok (.aload_n 0, 1) := by decide +kernel
theorem dX18_init_9 : decode cX18_init 9 = .ok (.iload_n 1, 1) := by decide +kernel
theorem dX18_init_10 : decode cX18_init 10 = .ok (.putfield 7, 3) := by decide +kernel
theorem dX18_init_13 : decode cX18_init 13 = .ok (.return_, 1) := by decide +kernel
def o_X18_init : List Cond := [.initialized RT1, .methodLink RX18 1 yT1_init, .instanceMethod yT1_init, .fieldLink RX18 7 "SsaForgeModel$Wrong" "place" "I"]
def v_X18_init : List Cond := .code yX18_init cX18_init 2 none :: (o_X18_init ++ (v_T1_init ++ (wsX180 ++ [])))
theorem mow_X18_init : ∀ w ∈ o_X18_init, w ∈ v_X18_init := fun _ h => List.mem_cons_of_mem _ (List.mem_append_left _ h)
theorem mem_X18_init_0 : ∀ w ∈ v_T1_init, w ∈ v_X18_init := fun _ h => List.mem_cons_of_mem _ (List.mem_append_right _ (List.mem_append_left _ h))
theorem mem_X18_init_1 : ∀ w ∈ wsX180, w ∈ v_X18_init := fun _ h => List.mem_cons_of_mem _ (List.mem_append_right _ (List.mem_append_right _ (List.mem_append_left _ h)))
set_option maxRecDepth 20000 in
theorem gw_X18_init : v_X18_init.all goodWord = true := by decide +kernel
set_option maxHeartbeats 4000000 in
set_option maxRecDepth 100000 in
theorem c_X18_init (l : Launch) (dC : Nat → ClassId) (dI : Nat → Nat → Nat) (h0 : Nat) (sz : Nat) : Met l yX18_init v_X18_init ({ frames := 4, cells := 0, slots := 0, locals := 84 }) (va_Pc [.ref h0, .int 0] (fun U => U.heap.size = sz ∧ va_P (dC, dI) vwP [(h0, .inr (15, [.null, .null, .null, .null, .null, .int 0, .int 0]))] U.heap ∧ va_K (dC, dI) vwP [] U ∧ va_D (fun _ => True) [(h0, .inr (15, [.null, .null, .null, .null, .null, .int 0, .int 0]))] ∧ vx_Zq Bundle.tN "UNASSIGNED_STACK" Bundle.steD (va_A [(h0, .inr (15, [.null, .null, .null, .null, .null, .int 0, .int 0]))] sz) U U.heap ∧ vx_Zq Bundle.tN "SUPPRESSED_SENTINEL" Bundle.listD (va_A [(h0, .inr (15, [.null, .null, .null, .null, .null, .int 0, .int 0]))] sz) U U.heap)) (va_Qv (fun _ : Unit => True) (fun (_ : Unit) (t : State) => va_P (dC, dI) vwP [(h0, .inr (15, [.null, .null, .null, .null, .null, .int 0, .int 0]))] t.heap ∧ va_K (dC, dI) vwP [] t ∧ va_D (va_A [(h0, .inr (15, [.null, .null, .null, .null, .null, .int 0, .int 0]))] sz) [(h0, .inr (15, [.null, .null, .null, .null, .null, .int 0, .int 0]))]) (va_A [(h0, .inr (15, [.null, .null, .null, .null, .null, .int 0, .int 0]))] sz)) 0 0 (va_A [(h0, .inr (15, [.null, .null, .null, .null, .null, .int 0, .int 0]))] sz) := by
  refine Met.ofW (cc := cX18_init) (maxL := 2) (ret := none) (by decide) rfl ?_
  intro p e s m args below meth c s₁ B hml hv
  obtain ⟨rfl, hsz, hP, hK, hD0, hp0, hp1⟩ := hv
  have hx := B.exec
  have hb := B.bytes
  have hr := B.returns
  have hts := atoms_spec (ws := v_X18_init) B.pre
  have hown : s.vm.findClass RX18 = some m.cls := findClass_of_methodNamed B.named
  have hlocks := B.notSynchronized
  have ow : ∀ {k : Nat} {w : Cond}, o_X18_init[k]? = some w → w.before ([.ref h0, .int 0] : List Value).toArray s = true := fun h => hts _ (mow_X18_init _ (List.mem_of_getElem? h))
  have hin : meth.name = "<init>" := (name_of_methodNamed B.named B.method).1
  subst hsz
  have hD := hD0.self (sz := s.heap.size)
  generalize hAe : va_A [(h0, .inr (15, [.null, .null, .null, .null, .null, .int 0, .int 0]))] s.heap.size = A at hD hp0 hp1 ⊢
  have hA : ∀ q : Nat, s.heap.size ≤ q → A q := fun q h => by rw [← hAe]; exact Or.inr h
  have hS : va_S A s.heap s.heap [] := va_S.rf
  have hP : va_P (dC, dI) vwP [(h0, .inr (15, [.null, .null, .null, .null, .null, .int 0, .int 0]))] s.heap := hP
  have hl := lv_entry ([.ref h0, .int 0]) (n := 2) (Nat.le_of_ble_eq_true rfl)
  rw [lg_entry_eq]
  generalize (lg_sl ([.ref h0, .int 0]) ++ List.replicate (2 - (lg_sl ([.ref h0, .int 0])).length) Slot.unset).toArray = ls at hl ⊢
  have hl : lv_has ls 2 [(0, .ref h0), (1, .int 0)] := hl
  obtain ⟨H, hH⟩ : ∃ H, H = s.heap := ⟨_, rfl⟩
  rw [← hH] at hP
  have hS : va_S A s.heap H [] := by rw [hH]; exact hS
  rw [← hH]
  refine lv_aload_n hx hb dX18_init_0 rfl (lv_at hl 0 rfl) ?_
  refine lv_null hx hb dX18_init_1 ?_
  refine lv_null hx hb dX18_init_2 ?_
  refine lv_iconst (v := 0) hx hb dX18_init_3 (by decide) ?_
  refine lv_iconst (v := 0) hx hb dX18_init_4 (by decide) ?_
  have hPc := hP.sub (ws' := [(h0, .inr (15, [.null, .null, .null, .null, .null, .int 0, .int 0]))]) [0] rfl
  have hDc := hD.sub (ws' := [(h0, .inr (15, [.null, .null, .null, .null, .null, .int 0, .int 0]))]) [0] (by decide) rfl
  have hKc := hK.sub (tys' := []) [] rfl
  have hFc := va_free (wc := [(h0, .inr (15, [.null, .null, .null, .null, .null, .int 0, .int 0]))]) hD hS hA [0] rfl
  refine va_callv (va_runI (As := [.null, .null, .int 0, .int 0]) (rest := []) ⟨hx, hb, hml, hown, hts⟩ (c_T1_init l dC dI h0 H.size) (cwI 4 hts (goodIn_sub mem_X18_init_0 gw_T1_init) rfl rfl rfl (ow (k := 0) rfl) (ow (k := 1) rfl) (ow (k := 2) rfl) rfl (by decide +kernel) ⟨(Nat.le_of_ble_eq_true rfl), (Nat.le_of_ble_eq_true rfl)⟩) ⟨fun a U g mk q => by obtain ⟨q0, q1, qP, qK, qD, e0, e1⟩ := q; exact ⟨q0, q1, qP, va_K.moved (u := U) (U := U.calling g mk a) (Vm.Alike.refl U.vm) qK, qD, vx_Zq.moved (u := U) (U := U.calling g mk a) (Vm.Alike.refl U.vm) e0, vx_Zq.moved (u := U) (U := U.calling g mk a) (Vm.Alike.refl U.vm) e1⟩, fun U hU hW => ⟨rfl, by rw [hU], by rw [hU]; exact hPc, va_K.moved hW.alike hKc, hDc.weaken (fun _ _ _ _ => trivial), by rw [hU]; exact vx_Zq.narrow (vx_Zq.moved hW.alike (vx_Zq.kept hp0 hS.2.1)) hFc, by rw [hU]; exact vx_Zq.narrow (vx_Zq.moved hW.alike (vx_Zq.kept hp1 hS.2.1)) hFc⟩⟩ rfl rfl hl.1 rfl (lv_room (Nat.le_of_ble_eq_true rfl)) dX18_init_5 ⟨(Nat.le_of_ble_eq_true rfl), (Nat.le_of_ble_eq_true rfl)⟩) hS (fun q _ h => hFc q h) hFc (fun  u t H1 locs ht hvm hw hB hz1 hk1 hS => ?_)
  obtain ⟨hP1, hK1, hD1⟩ := hB
  rw [ht] at hP1
  have hK1 := va_K.moved hvm.symm hK1
  obtain ⟨hP, hD⟩ := va_join (wr := []) (w1 := [(h0, .inr (15, [.null, .null, .null, .null, .null, .int 0, .int 0]))]) hP hD [0] [] rfl rfl (by decide) (by decide) hk1 hFc hP1 hD1
  have hK := (hK.sub (tys' := []) [] rfl).app hK1
  generalize H1 = H at hP hS ⊢
  have hP : va_P (dC, dI) vwP [(h0, .inr (15, [.null, .null, .null, .null, .null, .int 0, .int 0]))] H := hP
  have hD : va_D A [(h0, .inr (15, [.null, .null, .null, .null, .null, .int 0, .int 0]))] := hD
  have hK : va_K (dC, dI) vwP [] s := hK
  refine W.widen (k := 0) (n := 0) (Nat.le_of_ble_eq_true rfl) (Nat.le_of_ble_eq_true rfl) ?_
  refine lv_aload_n hx hb dX18_init_8 rfl (lv_at hl 0 rfl) ?_
  refine lv_iload_n hx hb dX18_init_9 rfl (lv_at hl 1 rfl) ?_
  refine va_putF (D := (dC, dI)) (ci := 15) (v := .int 0) (ty := .int) (C := RX18) (T := TX18) (N := 7) hx hb hts mem_X18_init_1 tyX18 tyX18_ok nmX18 hown hK hP hD hS 0 rfl rfl 6 (by decide) (ow (k := 3) rfl) (fun _ h9 => h9) rfl hin rfl (by decide +kernel) rfl rfl (Nat.le_of_ble_eq_true rfl) dX18_init_10 (fun H locs hP hD hS => ?_)
  have hP : va_P (dC, dI) vwP [(h0, .inr (15, [.null, .null, .null, .null, .null, .int 0, .int 0]))] H := hP
  have hD : va_D A [(h0, .inr (15, [.null, .null, .null, .null, .null, .int 0, .int 0]))] := hD
  refine W.widen (k := 0) (n := 0) (Nat.le_of_ble_eq_true rfl) (Nat.le_of_ble_eq_true rfl) ?_
  exact W.vret hx hb hr (fun t ht hW => ⟨⟨(), rfl, trivial, by rw [ht]; exact hP, va_K.moved hW.alike hK, hD⟩, hS.F ht⟩) hS.2.2 dX18_init_13
