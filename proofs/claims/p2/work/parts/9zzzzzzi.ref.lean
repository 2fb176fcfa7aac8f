def o_PR_sets : List Cond := [.fieldLink RX17 9 "SsaForgeModel$Row" "op" "I"]
def v_PR_sets : List Cond := .code yX17_sets cX17_sets 1 (some .boolean) :: (o_PR_sets ++ (wsX170 ++ []))
theorem mow_PR_sets : ∀ w ∈ o_PR_sets, w ∈ v_PR_sets := fun _ h => List.mem_cons_of_mem _ (List.mem_append_left _ h)
theorem mem_PR_sets_0 : ∀ w ∈ wsX170, w ∈ v_PR_sets := fun _ h => List.mem_cons_of_mem _ (List.mem_append_right _ (List.mem_append_left _ h))
set_option maxRecDepth 20000 in
theorem gw_PR_sets : v_PR_sets.all goodWord = true := by decide +kernel
set_option maxHeartbeats 4000000 in
set_option maxRecDepth 100000 in
theorem c_PR_sets (l : Launch) (dC : Nat → ClassId) (dI : Nat → Nat → Nat) (cO : ClassId) (L : List Nat) (P : PO) (xr : Nat) (hX_x : xr ∈ L) (hX_k : P.kd xr = 17) (hNo : 0 ≤ P.ro xr ∧ P.ro xr ≤ 40) (sz : Nat) : Met l yX17_sets v_PR_sets ({ frames := 0, cells := 0, slots := 0, locals := 0 }) (va_Pc [.ref xr] (fun U => U.heap.size = sz ∧ va_P (dC, dI) vwQ ([] ++ va_pl L (pE P)) U.heap ∧ va_K (dC, dI) vwQ [(cO, .object "java/lang/Object")] U ∧ va_D (fun _ => True) ([] ++ va_pl L (pE P)))) (va_Qi (fun (r : Int32) (_ : Unit) => r = zI (rSets (P.ro xr))) (fun (_ : Unit) (t : State) => va_P (dC, dI) vwQ ([] ++ va_pl L (pE P)) t.heap ∧ va_K (dC, dI) vwQ [(cO, .object "java/lang/Object")] t ∧ va_D (va_A ([] ++ va_pl L (pE P)) sz) ([] ++ va_pl L (pE P))) (va_A ([] ++ va_pl L (pE P)) sz)) 0 0 (va_A ([] ++ va_pl L (pE P)) sz) := by
  refine Met.ofW (cc := cX17_sets) (maxL := 1) (ret := (some .boolean)) (by decide) rfl ?_
  intro p e s m args below meth c s₁ B hml hv
  obtain ⟨rfl, hsz, hP, hK, hD0⟩ := hv
  have hx := B.exec
  have hb := B.bytes
  have hr := B.returns
  have hts := atoms_spec (ws := v_PR_sets) B.pre
  have hown : s.vm.findClass RX17 = some m.cls := findClass_of_methodNamed B.named
  have hlocks := B.notSynchronized
  have ow : ∀ {k : Nat} {w : Cond}, o_PR_sets[k]? = some w → w.before ([.ref xr] : List Value).toArray s = true := fun h => hts _ (mow_PR_sets _ (List.mem_of_getElem? h))
  subst hsz
  have hD := hD0.self (sz := s.heap.size)
  generalize hAe : va_A ([] ++ va_pl L (pE P)) s.heap.size = A at hD ⊢
  have hA : ∀ q : Nat, s.heap.size ≤ q → A q := fun q h => by rw [← hAe]; exact Or.inr h
  have hS : va_S A s.heap s.heap [] := va_S.rf
  have hP : va_P (dC, dI) vwQ ([] ++ va_pl L (pE P)) s.heap := hP
  have hl := lv_entry ([.ref xr]) (n := 1) (Nat.le_of_ble_eq_true rfl)
  rw [lg_entry_eq]
  generalize (lg_sl ([.ref xr]) ++ List.replicate (1 - (lg_sl ([.ref xr])).length) Slot.unset).toArray = ls at hl ⊢
  have hl : lv_has ls 1 [(0, .ref xr)] := hl
  obtain ⟨H, hH⟩ : ∃ H, H = s.heap := ⟨_, rfl⟩
  rw [← hH] at hP
  have hS : va_S A s.heap H [] := by rw [hH]; exact hS
  rw [← hH]
  refine zW_cap (fun Q hQ => ?_)
  refine lv_aload_n hx hb dX17_sets_0 rfl (lv_at hl 0 rfl) ?_
  obtain ⟨kp_1, hkp_1⟩ := va_pl_get (X := []) (f := pE P) hX_x
  rw [pE_row hX_k] at hkp_1
  refine va_get (D := (dC, dI)) (ci := 21) (v := .int (zI (P.ro xr))) (C := RX17) (T := TX17) (N := 7) hx hb hts mem_PR_sets_0 hown hK hP kp_1 hkp_1 rfl 0 (by decide) (ow (k := 0) rfl) (fun _ h9 => h9) rfl dX17_sets_1 ?_
  refine lv_bipush (v := 20) hx hb dX17_sets_4 (by decide) ?_
  refine lv_icmp_gt (tgt := 13) hx hb dX17_sets_6 (by decide) (fun b6 => ?_) (fun b6 => ?_)
  · have yb6 : (20 : Int) < (P.ro xr : Int) := (zI_lt (a := 20) (b := P.ro xr) (by omega) (by omega) (by omega) (by omega)).mp b6
    refine lv_iconst (v := 0) hx hb dX17_sets_13 (by decide) ?_
    subst hQ
    refine W.widen (k := 0) (n := 0) (Nat.le_of_ble_eq_true rfl) (Nat.le_of_ble_eq_true rfl) ?_
    exact W.zret (v := 0) hx hb hr (by decide) (fun t ht hW => ⟨⟨0, (), rfl, (congrArg zI (show (0 : Int) = rSets (P.ro xr) by unfold rSets; (repeat' split) <;> omega)), by rw [ht]; exact hP, va_K.moved hW.alike hK, hD⟩, hS.F ht⟩) hS.2.2 dX17_sets_14
  · have yb6 : ¬ (20 : Int) < (P.ro xr : Int) := fun q => b6 ((zI_lt (a := 20) (b := P.ro xr) (by omega) (by omega) (by omega) (by omega)).mpr q)
    refine lv_iconst (v := 1) hx hb dX17_sets_9 (by decide) ?_
    refine lv_goto (tgt := 14) hx hb dX17_sets_10 (by decide) ?_
    subst hQ
    refine W.widen (k := 0) (n := 0) (Nat.le_of_ble_eq_true rfl) (Nat.le_of_ble_eq_true rfl) ?_
    exact W.zret (v := 1) hx hb hr (by decide) (fun t ht hW => ⟨⟨1, (), rfl, (congrArg zI (show (1 : Int) = rSets (P.ro xr) by unfold rSets; (repeat' split) <;> omega)), by rw [ht]; exact hP, va_K.moved hW.alike hK, hD⟩, hS.F ht⟩) hS.2.2 dX17_sets_14
