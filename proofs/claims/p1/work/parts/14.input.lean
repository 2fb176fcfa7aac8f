theorem dX5_takeInput_0 : decode cX5_takeInput 0 = .ok (.aload_n 0, 1) := by decide +kernel
theorem dX5_takeInput_1 : decode cX5_takeInput 1 = .ok (.iload_n 2, 1) := by decide +kernel
theorem dX5_takeInput_2 : decode cX5_takeInput 2 = .ok (.iconst 4, 1) := by decide +kernel
theorem dX5_takeInput_3 : decode cX5_takeInput 3 = .ok (.idiv, 1) := by decide +kernel
theorem dX5_takeInput_4 : decode cX5_takeInput 4 = .ok (.putfield 9, 3) := by decide +kernel
theorem dX5_takeInput_7 : decode cX5_takeInput 7 = .ok (.iconst 0, 1) := by decide +kernel
theorem dX5_takeInput_8 : decode cX5_takeInput 8 = .ok (.istore_n 3, 1) := by decide +kernel
theorem dX5_takeInput_9 : decode cX5_takeInput 9 = .ok (.iload_n 3, 1) := by decide +kernel
theorem dX5_takeInput_10 : decode cX5_takeInput 10 = .ok (.aload_n 0, 1) := by decide +kernel
theorem dX5_takeInput_11 : decode cX5_takeInput 11 = .ok (.getfield 9, 3) := by decide +kernel
theorem dX5_takeInput_14 : decode cX5_takeInput 14 = .ok (.if_icmp .ge 73, 3) := by decide +kernel
theorem dX5_takeInput_87 : decode cX5_takeInput 87 = .ok (.return_, 1) := by decide +kernel
def o_X5_takeInput : List Cond := [.fieldLink RX5 9 "SsaForge$Machine" "inputLength" "I"]
def v_X5_takeInput : List Cond := .code yX5_takeInput cX5_takeInput 5 none :: (o_X5_takeInput ++ (wsX50 ++ []))
theorem mow_X5_takeInput : ∀ w ∈ o_X5_takeInput, w ∈ v_X5_takeInput := fun _ h => List.mem_cons_of_mem _ (List.mem_append_left _ h)
theorem mem_X5_takeInput_0 : ∀ w ∈ wsX50, w ∈ v_X5_takeInput := fun _ h => List.mem_cons_of_mem _ (List.mem_append_right _ (List.mem_append_left _ h))
set_option maxRecDepth 20000 in
theorem gw_X5_takeInput : v_X5_takeInput.all goodWord = true := by decide +kernel
set_option maxHeartbeats 4000000 in
set_option maxRecDepth 100000 in
theorem c_X5_takeInput (l : Launch) (dC : Nat → ClassId) (dI : Nat → Nat → Nat) (q_102 : Nat) (q_103 : Nat) (q_104 : Nat) (q_105 : Nat) (q_106 : Nat) (q_1 : Nat) (sz : Nat) : Met l yX5_takeInput v_X5_takeInput ({ frames := 0, cells := 0, slots := 0, locals := 0 }) (va_Pc [.ref q_102, .ref q_1, .int 0] (fun U => U.heap.size = sz ∧ va_P (dC, dI) vwP [(q_102, .inr (5, [.int 0, .int 0, .int 0, .int 0, .int 0, .int (-1), .ref q_103, .ref q_104, .ref q_105, .ref q_106, .int 0]))] U.heap ∧ va_K (dC, dI) vwP [] U ∧ va_D (fun _ => True) [(q_102, .inr (5, [.int 0, .int 0, .int 0, .int 0, .int 0, .int (-1), .ref q_103, .ref q_104, .ref q_105, .ref q_106, .int 0]))])) (va_Qv (fun _ : Unit => True) (fun (_ : Unit) (t : State) => va_P (dC, dI) vwP [(q_102, .inr (5, [.int 0, .int 0, .int 0, .int 0, .int 0, .int (-1), .ref q_103, .ref q_104, .ref q_105, .ref q_106, .int 0]))] t.heap ∧ va_K (dC, dI) vwP [] t ∧ va_D (va_A [(q_102, .inr (5, [.int 0, .int 0, .int 0, .int 0, .int 0, .int (-1), .ref q_103, .ref q_104, .ref q_105, .ref q_106, .int 0]))] sz) [(q_102, .inr (5, [.int 0, .int 0, .int 0, .int 0, .int 0, .int (-1), .ref q_103, .ref q_104, .ref q_105, .ref q_106, .int 0]))]) (va_A [(q_102, .inr (5, [.int 0, .int 0, .int 0, .int 0, .int 0, .int (-1), .ref q_103, .ref q_104, .ref q_105, .ref q_106, .int 0]))] sz)) 0 0 (va_A [(q_102, .inr (5, [.int 0, .int 0, .int 0, .int 0, .int 0, .int (-1), .ref q_103, .ref q_104, .ref q_105, .ref q_106, .int 0]))] sz) := by
  refine Met.ofW (cc := cX5_takeInput) (maxL := 5) (ret := none) (by decide) rfl ?_
  intro p e s m args below meth c s₁ B hml hv
  obtain ⟨rfl, hsz, hP, hK, hD0⟩ := hv
  have hx := B.exec
  have hb := B.bytes
  have hr := B.returns
  have hts := atoms_spec (ws := v_X5_takeInput) B.pre
  have hown : s.vm.findClass RX5 = some m.cls := findClass_of_methodNamed B.named
  have hlocks := B.notSynchronized
  have ow : ∀ {k : Nat} {w : Cond}, o_X5_takeInput[k]? = some w → w.before ([.ref q_102, .ref q_1, .int 0] : List Value).toArray s = true := fun h => hts _ (mow_X5_takeInput _ (List.mem_of_getElem? h))
  subst hsz
  have hD := hD0.self (sz := s.heap.size)
  generalize hAe : va_A [(q_102, .inr (5, [.int 0, .int 0, .int 0, .int 0, .int 0, .int (-1), .ref q_103, .ref q_104, .ref q_105, .ref q_106, .int 0]))] s.heap.size = A at hD ⊢
  have hA : ∀ q : Nat, s.heap.size ≤ q → A q := fun q h => by rw [← hAe]; exact Or.inr h
  have hS : va_S A s.heap s.heap [] := va_S.rf
  have hP : va_P (dC, dI) vwP [(q_102, .inr (5, [.int 0, .int 0, .int 0, .int 0, .int 0, .int (-1), .ref q_103, .ref q_104, .ref q_105, .ref q_106, .int 0]))] s.heap := hP
  have hl := lv_entry ([.ref q_102, .ref q_1, .int 0]) (n := 5) (Nat.le_of_ble_eq_true rfl)
  rw [lg_entry_eq]
  generalize (lg_sl ([.ref q_102, .ref q_1, .int 0]) ++ List.replicate (5 - (lg_sl ([.ref q_102, .ref q_1, .int 0])).length) Slot.unset).toArray = ls at hl ⊢
  have hl : lv_has ls 5 [(0, .ref q_102), (1, .ref q_1), (2, .int 0)] := hl
  obtain ⟨H, hH⟩ : ∃ H, H = s.heap := ⟨_, rfl⟩
  rw [← hH] at hP
  have hS : va_S A s.heap H [] := by rw [hH]; exact hS
  rw [← hH]
  refine lv_aload_n hx hb dX5_takeInput_0 rfl (lv_at hl 0 rfl) ?_
  refine lv_iload_n hx hb dX5_takeInput_1 rfl (lv_at hl 2 rfl) ?_
  refine lv_iconst (v := 4) hx hb dX5_takeInput_2 (by decide) ?_
  refine lv_idiv hx hb dX5_takeInput_3 (by decide) ?_
  refine lv_topi (fun z ez => ?_)
  obtain rfl : z = 0 := by rw [ez]; decide
  refine va_put (D := (dC, dI)) (ci := 5) (v := .int 0) (ty := .int) (C := RX5) (T := TX5) (N := 11) hx hb hts mem_X5_takeInput_0 tyX5 tyX5_ok nmX5 hown hK hP hD hS 0 rfl rfl 0 (by decide) (ow (k := 0) rfl) (fun _ h9 => h9) rfl (by decide +kernel) rfl rfl (Nat.le_of_ble_eq_true rfl) dX5_takeInput_4 (fun H locs hP hD hS => ?_)
  have hP : va_P (dC, dI) vwP [(q_102, .inr (5, [.int 0, .int 0, .int 0, .int 0, .int 0, .int (-1), .ref q_103, .ref q_104, .ref q_105, .ref q_106, .int 0]))] H := hP
  have hD : va_D A [(q_102, .inr (5, [.int 0, .int 0, .int 0, .int 0, .int 0, .int (-1), .ref q_103, .ref q_104, .ref q_105, .ref q_106, .int 0]))] := hD
  refine lv_iconst (v := 0) hx hb dX5_takeInput_7 (by decide) ?_
  refine lv_istore_n (lv' := [(3, .int 0), (0, .ref q_102), (1, .ref q_1), (2, .int 0)]) hx hb dX5_takeInput_8 rfl hl (by decide) rfl (fun ls hl => ?_)
  refine lv_iload_n hx hb dX5_takeInput_9 rfl (lv_at hl 0 rfl) ?_
  refine lv_aload_n hx hb dX5_takeInput_10 rfl (lv_at hl 1 rfl) ?_
  refine va_get (D := (dC, dI)) (ci := 5) (v := .int 0) (C := RX5) (T := TX5) (N := 11) hx hb hts mem_X5_takeInput_0 hown hK hP 0 rfl rfl 0 (by decide) (ow (k := 0) rfl) (fun _ h9 => h9) rfl dX5_takeInput_11 ?_
  refine lv_icmp_ge (tgt := 87) hx hb dX5_takeInput_14 (by decide) (fun _ => ?_) (fun h9 => absurd h9 (by decide))
  refine W.widen (k := 0) (n := 0) (Nat.le_of_ble_eq_true rfl) (Nat.le_of_ble_eq_true rfl) ?_
  exact W.vret hx hb hr (fun t ht hW => ⟨⟨(), rfl, trivial, by rw [ht]; exact hP, va_K.moved hW.alike hK, hD⟩, hS.F ht⟩) hS.2.2 dX5_takeInput_87
theorem dX11_input_0 : decode cX11_input 0 = .ok (.aload_n 0, 1) := by decide +kernel
theorem dX11_input_1 : decode cX11_input 1 = .ok (.getfield 96, 3) := by decide +kernel
theorem dX11_input_4 : decode cX11_input 4 = .ok (.aload_n 0, 1) := by decide +kernel
theorem dX11_input_5 : decode cX11_input 5 = .ok (.getfield 9, 3) := by decide +kernel
theorem dX11_input_8 : decode cX11_input 8 = .ok (.aload_n 0, 1) := by decide +kernel
theorem dX11_input_9 : decode cX11_input 9 = .ok (.getfield 13, 3) := by decide +kernel
theorem dX11_input_12 : decode cX11_input 12 = .ok (.invokevirtual 127, 3) := by decide +kernel
theorem dX11_input_15 : decode cX11_input 15 = .ok (.aload_n 0, 1) := by decide +kernel
theorem dX11_input_16 : decode cX11_input 16 = .ok (.iconst 0, 1) := by decide +kernel
theorem dX11_input_17 : decode cX11_input 17 = .ok (.putfield 13, 3) := by decide +kernel
theorem dX11_input_20 : decode cX11_input 20 = .ok (.aload_n 0, 1) := by decide +kernel
theorem dX11_input_21 : decode cX11_input 21 = .ok (.getfield 96, 3) := by decide +kernel
theorem dX11_input_24 : decode cX11_input 24 = .ok (.getfield 131, 3) := by decide +kernel
theorem dX11_input_27 : decode cX11_input 27 = .ok (.ireturn, 1) := by decide +kernel
def o_X11_input : List Cond := [.fieldLink RX11 96 "SsaForge" "machine" "LSsaForge$Machine;", .fieldLink RX11 9 "SsaForge" "tape" "[B", .fieldLink RX11 13 "SsaForge" "tapeLength" "I", .methodLink RX11 127 yX5_takeInput, .instanceMethod yX5_takeInput, .selects RX5 yX5_takeInput yX5_takeInput, .initialized RX5, .fieldLink RX11 131 "SsaForge$Machine" "inputLength" "I"]
def v_X11_input : List Cond := .code yX11_input cX11_input 1 (some .int) :: (o_X11_input ++ (wsX110 ++ (v_X5_takeInput ++ (wsX50 ++ []))))
theorem mow_X11_input : ∀ w ∈ o_X11_input, w ∈ v_X11_input := fun _ h => List.mem_cons_of_mem _ (List.mem_append_left _ h)
theorem mem_X11_input_0 : ∀ w ∈ wsX110, w ∈ v_X11_input := fun _ h => List.mem_cons_of_mem _ (List.mem_append_right _ (List.mem_append_left _ h))
theorem mem_X11_input_1 : ∀ w ∈ v_X5_takeInput, w ∈ v_X11_input := fun _ h => List.mem_cons_of_mem _ (List.mem_append_right _ (List.mem_append_right _ (List.mem_append_left _ h)))
theorem mem_X11_input_2 : ∀ w ∈ wsX50, w ∈ v_X11_input := fun _ h => List.mem_cons_of_mem _ (List.mem_append_right _ (List.mem_append_right _ (List.mem_append_right _ (List.mem_append_left _ h))))
set_option maxRecDepth 20000 in
theorem gw_X11_input : v_X11_input.all goodWord = true := by decide +kernel
set_option maxRecDepth 20000 in
theorem g_X11_input_X5_takeInput : GoodIn v_X11_input (wsV RX11 127 RX5 yX5_takeInput v_X5_takeInput) := goodIn_app (goodIn_sub (fun w h => mow_X11_input w (by revert w h; decide +kernel)) (by decide +kernel)) (goodIn_sub mem_X11_input_1 gw_X5_takeInput)
set_option maxHeartbeats 4000000 in
set_option maxRecDepth 100000 in
theorem c_X11_input (l : Launch) (dC : Nat → ClassId) (dI : Nat → Nat → Nat) (h0 : Nat) (q_1 : Nat) (q_3 : Nat) (q_21 : Nat) (q_39 : Nat) (q_52 : Nat) (q_60 : Nat) (q_66 : Nat) (q_73 : Nat) (q_79 : Nat) (q_84 : Nat) (q_92 : Nat) (q_102 : Nat) (q_107 : Nat) (q_103 : Nat) (q_104 : Nat) (q_105 : Nat) (q_106 : Nat) (sz : Nat) : Met l yX11_input v_X11_input ({ frames := 1, cells := 0, slots := 0, locals := 24 }) (va_Pc [.ref h0] (fun U => U.heap.size = sz ∧ va_P (dC, dI) vwP [(h0, .inr (11, [.ref q_1, .int 0, .int (-1), .ref q_3, .ref q_21, .ref q_39, .int 0, .ref q_52, .int 0, .ref q_60, .ref q_66, .ref q_73, .ref q_79, .ref q_84, .ref q_92, .ref q_102, .ref q_107])), (q_102, .inr (5, [.int 0, .int 0, .int 0, .int 0, .int 0, .int (-1), .ref q_103, .ref q_104, .ref q_105, .ref q_106, .int 0]))] U.heap ∧ va_K (dC, dI) vwP [] U ∧ va_D (fun _ => True) [(h0, .inr (11, [.ref q_1, .int 0, .int (-1), .ref q_3, .ref q_21, .ref q_39, .int 0, .ref q_52, .int 0, .ref q_60, .ref q_66, .ref q_73, .ref q_79, .ref q_84, .ref q_92, .ref q_102, .ref q_107])), (q_102, .inr (5, [.int 0, .int 0, .int 0, .int 0, .int 0, .int (-1), .ref q_103, .ref q_104, .ref q_105, .ref q_106, .int 0]))])) (va_Qi (fun (r : Int32) (_ : Unit) => r = 0) (fun (_ : Unit) (t : State) => va_P (dC, dI) vwP [] t.heap ∧ va_K (dC, dI) vwP [] t ∧ va_D (va_A [(h0, .inr (11, [.ref q_1, .int 0, .int (-1), .ref q_3, .ref q_21, .ref q_39, .int 0, .ref q_52, .int 0, .ref q_60, .ref q_66, .ref q_73, .ref q_79, .ref q_84, .ref q_92, .ref q_102, .ref q_107])), (q_102, .inr (5, [.int 0, .int 0, .int 0, .int 0, .int 0, .int (-1), .ref q_103, .ref q_104, .ref q_105, .ref q_106, .int 0]))] sz) []) (va_A [(h0, .inr (11, [.ref q_1, .int 0, .int (-1), .ref q_3, .ref q_21, .ref q_39, .int 0, .ref q_52, .int 0, .ref q_60, .ref q_66, .ref q_73, .ref q_79, .ref q_84, .ref q_92, .ref q_102, .ref q_107])), (q_102, .inr (5, [.int 0, .int 0, .int 0, .int 0, .int 0, .int (-1), .ref q_103, .ref q_104, .ref q_105, .ref q_106, .int 0]))] sz)) 0 0 (va_A [(h0, .inr (11, [.ref q_1, .int 0, .int (-1), .ref q_3, .ref q_21, .ref q_39, .int 0, .ref q_52, .int 0, .ref q_60, .ref q_66, .ref q_73, .ref q_79, .ref q_84, .ref q_92, .ref q_102, .ref q_107])), (q_102, .inr (5, [.int 0, .int 0, .int 0, .int 0, .int 0, .int (-1), .ref q_103, .ref q_104, .ref q_105, .ref q_106, .int 0]))] sz) := by
  refine Met.ofW (cc := cX11_input) (maxL := 1) (ret := (some .int)) (by decide) rfl ?_
  intro p e s m args below meth c s₁ B hml hv
  obtain ⟨rfl, hsz, hP, hK, hD0⟩ := hv
  have hx := B.exec
  have hb := B.bytes
  have hr := B.returns
  have hts := atoms_spec (ws := v_X11_input) B.pre
  have hown : s.vm.findClass RX11 = some m.cls := findClass_of_methodNamed B.named
  have hlocks := B.notSynchronized
  have ow : ∀ {k : Nat} {w : Cond}, o_X11_input[k]? = some w → w.before ([.ref h0] : List Value).toArray s = true := fun h => hts _ (mow_X11_input _ (List.mem_of_getElem? h))
  subst hsz
  have hD := hD0.self (sz := s.heap.size)
  generalize hAe : va_A [(h0, .inr (11, [.ref q_1, .int 0, .int (-1), .ref q_3, .ref q_21, .ref q_39, .int 0, .ref q_52, .int 0, .ref q_60, .ref q_66, .ref q_73, .ref q_79, .ref q_84, .ref q_92, .ref q_102, .ref q_107])), (q_102, .inr (5, [.int 0, .int 0, .int 0, .int 0, .int 0, .int (-1), .ref q_103, .ref q_104, .ref q_105, .ref q_106, .int 0]))] s.heap.size = A at hD ⊢
  have hA : ∀ q : Nat, s.heap.size ≤ q → A q := fun q h => by rw [← hAe]; exact Or.inr h
  have hS : va_S A s.heap s.heap [] := va_S.rf
  have hP : va_P (dC, dI) vwP [(h0, .inr (11, [.ref q_1, .int 0, .int (-1), .ref q_3, .ref q_21, .ref q_39, .int 0, .ref q_52, .int 0, .ref q_60, .ref q_66, .ref q_73, .ref q_79, .ref q_84, .ref q_92, .ref q_102, .ref q_107])), (q_102, .inr (5, [.int 0, .int 0, .int 0, .int 0, .int 0, .int (-1), .ref q_103, .ref q_104, .ref q_105, .ref q_106, .int 0]))] s.heap := hP
  have hl := lv_entry ([.ref h0]) (n := 1) (Nat.le_of_ble_eq_true rfl)
  rw [lg_entry_eq]
  generalize (lg_sl ([.ref h0]) ++ List.replicate (1 - (lg_sl ([.ref h0])).length) Slot.unset).toArray = ls at hl ⊢
  have hl : lv_has ls 1 [(0, .ref h0)] := hl
  obtain ⟨H, hH⟩ : ∃ H, H = s.heap := ⟨_, rfl⟩
  rw [← hH] at hP
  have hS : va_S A s.heap H [] := by rw [hH]; exact hS
  rw [← hH]
  refine lv_aload_n hx hb dX11_input_0 rfl (lv_at hl 0 rfl) ?_
  refine va_get (D := (dC, dI)) (ci := 11) (v := .ref q_102) (C := RX11) (T := TX11) (N := 17) hx hb hts mem_X11_input_0 hown hK hP 0 rfl rfl 15 (by decide) (ow (k := 0) rfl) (fun _ h9 => h9) rfl dX11_input_1 ?_
  refine lv_aload_n hx hb dX11_input_4 rfl (lv_at hl 0 rfl) ?_
  refine va_get (D := (dC, dI)) (ci := 11) (v := .ref q_1) (C := RX11) (T := TX11) (N := 17) hx hb hts mem_X11_input_0 hown hK hP 0 rfl rfl 0 (by decide) (ow (k := 1) rfl) (fun _ h9 => h9) rfl dX11_input_5 ?_
  refine lv_aload_n hx hb dX11_input_8 rfl (lv_at hl 0 rfl) ?_
  refine va_get (D := (dC, dI)) (ci := 11) (v := .int 0) (C := RX11) (T := TX11) (N := 17) hx hb hts mem_X11_input_0 hown hK hP 0 rfl rfl 1 (by decide) (ow (k := 2) rfl) (fun _ h9 => h9) rfl dX11_input_9 ?_
  have hPc := hP.sub (ws' := [(q_102, .inr (5, [.int 0, .int 0, .int 0, .int 0, .int 0, .int (-1), .ref q_103, .ref q_104, .ref q_105, .ref q_106, .int 0]))]) [1] rfl
  have hDc := hD.sub (ws' := [(q_102, .inr (5, [.int 0, .int 0, .int 0, .int 0, .int 0, .int (-1), .ref q_103, .ref q_104, .ref q_105, .ref q_106, .int 0]))]) [1] (by decide) rfl
  have hKc := hK.sub (tys' := []) [] rfl
  have hFc := va_free (wc := [(q_102, .inr (5, [.int 0, .int 0, .int 0, .int 0, .int 0, .int (-1), .ref q_103, .ref q_104, .ref q_105, .ref q_106, .int 0]))]) hD hS hA [1] rfl
  refine va_callv (va_runV (As := [.ref q_1, .int 0]) (rest := []) ⟨hx, hb, hml, hown, hts⟩ (c_X5_takeInput l dC dI q_102 q_103 q_104 q_105 q_106 q_1 H.size) (cwV 2 hts g_X11_input_X5_takeInput rfl rfl rfl (by decide +kernel) ⟨(Nat.le_of_ble_eq_true rfl), (Nat.le_of_ble_eq_true rfl)⟩) ⟨fun a U g mk q => by obtain ⟨q0, q1, qP, qK, qD⟩ := q; exact ⟨q0, q1, qP, va_K.moved (u := U) (U := U.calling g mk a) (Vm.Alike.refl U.vm) qK, qD⟩, va_recv hKc hPc (ci := 5) (q0 := 0) rfl rfl, fun U hU hW => ⟨rfl, by rw [hU], by rw [hU]; exact hPc, va_K.moved hW.alike hKc, hDc.weaken (fun _ _ _ _ => trivial)⟩⟩ rfl rfl hl.1 rfl (lv_room (Nat.le_of_ble_eq_true rfl)) dX11_input_12 ⟨(Nat.le_of_ble_eq_true rfl), (Nat.le_of_ble_eq_true rfl)⟩) hS (fun q _ h => hFc q h) hFc (fun  u t H1 locs ht hvm hw hB hz1 hk1 hS => ?_)
  obtain ⟨hP1, hK1, hD1⟩ := hB
  rw [ht] at hP1
  have hK1 := va_K.moved hvm.symm hK1
  obtain ⟨hP, hD⟩ := va_join (wr := [(h0, .inr (11, [.ref q_1, .int 0, .int (-1), .ref q_3, .ref q_21, .ref q_39, .int 0, .ref q_52, .int 0, .ref q_60, .ref q_66, .ref q_73, .ref q_79, .ref q_84, .ref q_92, .ref q_102, .ref q_107]))]) (w1 := [(q_102, .inr (5, [.int 0, .int 0, .int 0, .int 0, .int 0, .int (-1), .ref q_103, .ref q_104, .ref q_105, .ref q_106, .int 0]))]) hP hD [1] [0] rfl rfl (by decide) (by decide) hk1 hFc hP1 hD1
  have hK := (hK.sub (tys' := []) [] rfl).app hK1
  generalize H1 = H at hP hS ⊢
  have hP : va_P (dC, dI) vwP [(h0, .inr (11, [.ref q_1, .int 0, .int (-1), .ref q_3, .ref q_21, .ref q_39, .int 0, .ref q_52, .int 0, .ref q_60, .ref q_66, .ref q_73, .ref q_79, .ref q_84, .ref q_92, .ref q_102, .ref q_107])), (q_102, .inr (5, [.int 0, .int 0, .int 0, .int 0, .int 0, .int (-1), .ref q_103, .ref q_104, .ref q_105, .ref q_106, .int 0]))] H := hP
  have hD : va_D A [(h0, .inr (11, [.ref q_1, .int 0, .int (-1), .ref q_3, .ref q_21, .ref q_39, .int 0, .ref q_52, .int 0, .ref q_60, .ref q_66, .ref q_73, .ref q_79, .ref q_84, .ref q_92, .ref q_102, .ref q_107])), (q_102, .inr (5, [.int 0, .int 0, .int 0, .int 0, .int 0, .int (-1), .ref q_103, .ref q_104, .ref q_105, .ref q_106, .int 0]))] := hD
  have hK : va_K (dC, dI) vwP [] s := hK
  refine W.widen (k := 0) (n := 0) (Nat.le_of_ble_eq_true rfl) (Nat.le_of_ble_eq_true rfl) ?_
  refine lv_aload_n hx hb dX11_input_15 rfl (lv_at hl 0 rfl) ?_
  refine lv_iconst (v := 0) hx hb dX11_input_16 (by decide) ?_
  refine va_put (D := (dC, dI)) (ci := 11) (v := .int 0) (ty := .int) (C := RX11) (T := TX11) (N := 17) hx hb hts mem_X11_input_0 tyX11 tyX11_ok nmX11 hown hK hP hD hS 0 rfl rfl 1 (by decide) (ow (k := 2) rfl) (fun _ h9 => h9) rfl (by decide +kernel) rfl rfl (Nat.le_of_ble_eq_true rfl) dX11_input_17 (fun H locs hP hD hS => ?_)
  have hP : va_P (dC, dI) vwP [(h0, .inr (11, [.ref q_1, .int 0, .int (-1), .ref q_3, .ref q_21, .ref q_39, .int 0, .ref q_52, .int 0, .ref q_60, .ref q_66, .ref q_73, .ref q_79, .ref q_84, .ref q_92, .ref q_102, .ref q_107])), (q_102, .inr (5, [.int 0, .int 0, .int 0, .int 0, .int 0, .int (-1), .ref q_103, .ref q_104, .ref q_105, .ref q_106, .int 0]))] H := hP
  have hD : va_D A [(h0, .inr (11, [.ref q_1, .int 0, .int (-1), .ref q_3, .ref q_21, .ref q_39, .int 0, .ref q_52, .int 0, .ref q_60, .ref q_66, .ref q_73, .ref q_79, .ref q_84, .ref q_92, .ref q_102, .ref q_107])), (q_102, .inr (5, [.int 0, .int 0, .int 0, .int 0, .int 0, .int (-1), .ref q_103, .ref q_104, .ref q_105, .ref q_106, .int 0]))] := hD
  refine lv_aload_n hx hb dX11_input_20 rfl (lv_at hl 0 rfl) ?_
  refine va_get (D := (dC, dI)) (ci := 11) (v := .ref q_102) (C := RX11) (T := TX11) (N := 17) hx hb hts mem_X11_input_0 hown hK hP 0 rfl rfl 15 (by decide) (ow (k := 0) rfl) (fun _ h9 => h9) rfl dX11_input_21 ?_
  refine va_get (D := (dC, dI)) (ci := 5) (v := .int 0) (C := RX5) (T := TX5) (N := 11) hx hb hts mem_X11_input_2 hown hK hP 1 rfl rfl 0 (by decide) (ow (k := 7) rfl) (fun _ h9 => h9) rfl dX11_input_24 ?_
  have hP := hP.sub (ws' := []) [] rfl
  have hD := hD.sub (ws' := []) [] (by decide) rfl
  refine W.widen (k := 0) (n := 0) (Nat.le_of_ble_eq_true rfl) (Nat.le_of_ble_eq_true rfl) ?_
  exact W.iret (v := 0) hx hb hr (fun t ht hW => ⟨⟨0, (), rfl, rfl, by rw [ht]; exact hP, va_K.moved hW.alike hK, hD⟩, hS.F ht⟩) hS.2.2 dX11_input_27
