theorem dX17_init_0 : decode cX17_init 0 = .ok (.aload_n 0, 1) := by decide +kernel
theorem dX17_init_1 : decode cX17_init 1 = .ok (.invokespecial 3, 3) := by decide +kernel
theorem dX17_init_4 : decode cX17_init 4 = .ok (.return_, 1) := by decide +kernel
def o_X17_init : List Cond := [.methodLink RX17 3 objectInit, .instanceMethod objectInit, .code objectInit ⟨#[0xb1]⟩ 1 none]
def v_X17_init : List Cond := .code yX17_init cX17_init 1 none :: (o_X17_init ++ [])
theorem mow_X17_init : ∀ w ∈ o_X17_init, w ∈ v_X17_init := fun _ h => List.mem_cons_of_mem _ (List.mem_append_left _ h)
set_option maxRecDepth 20000 in
theorem gw_X17_init : v_X17_init.all goodWord = true := by decide +kernel
set_option maxHeartbeats 4000000 in
set_option maxRecDepth 100000 in
theorem c_X17_init (l : Launch) (dC : Nat → ClassId) (dI : Nat → Nat → Nat) (h0 : Nat) (v17_0 : Value) (v17_1 : Value) (v17_2 : Value) (v17_3 : Value) (v17_4 : Value) (v17_5 : Value) (v17_6 : Value) (sz : Nat) : Met l yX17_init v_X17_init ({ frames := 1, cells := 0, slots := 0, locals := 12 }) (va_Pc [.ref h0] (fun U => U.heap.size = sz ∧ va_P (dC, dI) vwQ [(h0, .inr (21, [v17_0, v17_1, v17_2, v17_3, v17_4, v17_5, v17_6]))] U.heap ∧ va_K (dC, dI) vwQ [] U ∧ va_D (fun _ => True) [(h0, .inr (21, [v17_0, v17_1, v17_2, v17_3, v17_4, v17_5, v17_6]))])) (va_Qv (fun _ : Unit => True) (fun (_ : Unit) (t : State) => va_P (dC, dI) vwQ [(h0, .inr (21, [v17_0, v17_1, v17_2, v17_3, v17_4, v17_5, v17_6]))] t.heap ∧ va_K (dC, dI) vwQ [] t ∧ va_D (va_A [(h0, .inr (21, [v17_0, v17_1, v17_2, v17_3, v17_4, v17_5, v17_6]))] sz) [(h0, .inr (21, [v17_0, v17_1, v17_2, v17_3, v17_4, v17_5, v17_6]))]) (va_A [(h0, .inr (21, [v17_0, v17_1, v17_2, v17_3, v17_4, v17_5, v17_6]))] sz)) 0 0 (va_A [(h0, .inr (21, [v17_0, v17_1, v17_2, v17_3, v17_4, v17_5, v17_6]))] sz) := by
  refine Met.ofW (cc := cX17_init) (maxL := 1) (ret := none) (by decide) rfl ?_
  intro p e s m args below meth c s₁ B hml hv
  obtain ⟨rfl, hsz, hP, hK, hD0⟩ := hv
  have hx := B.exec
  have hb := B.bytes
  have hr := B.returns
  have hts := atoms_spec (ws := v_X17_init) B.pre
  have hown : s.vm.findClass RX17 = some m.cls := findClass_of_methodNamed B.named
  have hlocks := B.notSynchronized
  have ow : ∀ {k : Nat} {w : Cond}, o_X17_init[k]? = some w → w.before ([.ref h0] : List Value).toArray s = true := fun h => hts _ (mow_X17_init _ (List.mem_of_getElem? h))
  have hin : meth.name = "<init>" := (name_of_methodNamed B.named B.method).1
  subst hsz
  have hD := hD0.self (sz := s.heap.size)
  generalize hAe : va_A [(h0, .inr (21, [v17_0, v17_1, v17_2, v17_3, v17_4, v17_5, v17_6]))] s.heap.size = A at hD ⊢
  have hA : ∀ q : Nat, s.heap.size ≤ q → A q := fun q h => by rw [← hAe]; exact Or.inr h
  have hS : va_S A s.heap s.heap [] := va_S.rf
  have hP : va_P (dC, dI) vwQ [(h0, .inr (21, [v17_0, v17_1, v17_2, v17_3, v17_4, v17_5, v17_6]))] s.heap := hP
  have hl := lv_entry ([.ref h0]) (n := 1) (Nat.le_of_ble_eq_true rfl)
  rw [lg_entry_eq]
  generalize (lg_sl ([.ref h0]) ++ List.replicate (1 - (lg_sl ([.ref h0])).length) Slot.unset).toArray = ls at hl ⊢
  have hl : lv_has ls 1 [(0, .ref h0)] := hl
  obtain ⟨H, hH⟩ : ∃ H, H = s.heap := ⟨_, rfl⟩
  rw [← hH] at hP
  have hS : va_S A s.heap H [] := by rw [hH]; exact hS
  rw [← hH]
  refine zW_cap (fun Q hQ => ?_)
  refine lv_aload_n hx hb dX17_init_0 rfl (lv_at hl 0 rfl) ?_
  refine W.objInit hx hb hown (ow (k := 0) rfl) (ow (k := 1) rfl) (ow (k := 2) rfl) rfl (by rw [hml]; exact hl.1) rfl dX17_init_1 (Nat.le_of_ble_eq_true rfl) (Nat.le_of_ble_eq_true rfl) ?_
  refine W.eq (g2 := F0 m 4 ls []) rfl ?_
  subst hQ
  refine W.widen (k := 0) (n := 0) (Nat.le_of_ble_eq_true rfl) (Nat.le_of_ble_eq_true rfl) ?_
  exact W.vret hx hb hr (fun t ht hW => ⟨⟨(), rfl, trivial, by rw [ht]; exact hP, va_K.moved hW.alike hK, hD⟩, hS.F ht⟩) hS.2.2 dX17_init_4
