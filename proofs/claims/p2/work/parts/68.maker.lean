theorem dX8_giveNew_0 : decode cX8_giveNew 0 = .ok (.aload_n 0, 1) := by decide +kernel
theorem dX8_giveNew_1 : decode cX8_giveNew 1 = .ok (.getfield 31, 3) := by decide +kernel
theorem dX8_giveNew_4 : decode cX8_giveNew 4 = .ok (.sipush 1000, 3) := by decide +kernel
theorem dX8_giveNew_7 : decode cX8_giveNew 7 = .ok (.if_icmp .ge 38, 3) := by decide +kernel
theorem dX8_giveNew_45 : decode cX8_giveNew 45 = .ok (.aload_n 0, 1) := by decide +kernel
theorem dX8_giveNew_46 : decode cX8_giveNew 46 = .ok (.getfield 15, 3) := by decide +kernel
theorem dX8_giveNew_49 : decode cX8_giveNew 49 = .ok (.iload_n 1, 1) := by decide +kernel
theorem dX8_giveNew_50 : decode cX8_giveNew 50 = .ok (.aload_n 0, 1) := by decide +kernel
theorem dX8_giveNew_51 : decode cX8_giveNew 51 = .ok (.getfield 35, 3) := by decide +kernel
theorem dX8_giveNew_54 : decode cX8_giveNew 54 = .ok (.iastore, 1) := by decide +kernel
theorem dX8_giveNew_55 : decode cX8_giveNew 55 = .ok (.aload_n 0, 1) := by decide +kernel
theorem dX8_giveNew_56 : decode cX8_giveNew 56 = .ok (.dup, 1) := by decide +kernel
theorem dX8_giveNew_57 : decode cX8_giveNew 57 = .ok (.getfield 35, 3) := by decide +kernel
theorem dX8_giveNew_60 : decode cX8_giveNew 60 = .ok (.iconst 1, 1) := by decide +kernel
theorem dX8_giveNew_61 : decode cX8_giveNew 61 = .ok (.iadd, 1) := by decide +kernel
theorem dX8_giveNew_62 : decode cX8_giveNew 62 = .ok (.putfield 35, 3) := by decide +kernel
theorem dX8_giveNew_65 : decode cX8_giveNew 65 = .ok (.aload_n 0, 1) := by decide +kernel
theorem dX8_giveNew_66 : decode cX8_giveNew 66 = .ok (.getfield 15, 3) := by decide +kernel
theorem dX8_giveNew_69 : decode cX8_giveNew 69 = .ok (.iload_n 1, 1) := by decide +kernel
theorem dX8_giveNew_70 : decode cX8_giveNew 70 = .ok (.iaload, 1) := by decide +kernel
theorem dX8_giveNew_71 : decode cX8_giveNew 71 = .ok (.ireturn, 1) := by decide +kernel
theorem dX8_giveNew_10 : decode cX8_giveNew 10 = .ok (.aload_n 0, 1) := by decide +kernel
theorem dX8_giveNew_11 : decode cX8_giveNew 11 = .ok (.getfield 25, 3) := by decide +kernel
theorem dX8_giveNew_14 : decode cX8_giveNew 14 = .ok (.aload_n 0, 1) := by decide +kernel
theorem dX8_giveNew_15 : decode cX8_giveNew 15 = .ok (.getfield 31, 3) := by decide +kernel
theorem dX8_giveNew_18 : decode cX8_giveNew 18 = .ok (.iload_n 1, 1) := by decide +kernel
theorem dX8_giveNew_19 : decode cX8_giveNew 19 = .ok (.iastore, 1) := by decide +kernel
theorem dX8_giveNew_20 : decode cX8_giveNew 20 = .ok (.aload_n 0, 1) := by decide +kernel
theorem dX8_giveNew_21 : decode cX8_giveNew 21 = .ok (.getfield 28, 3) := by decide +kernel
theorem dX8_giveNew_24 : decode cX8_giveNew 24 = .ok (.aload_n 0, 1) := by decide +kernel
theorem dX8_giveNew_25 : decode cX8_giveNew 25 = .ok (.getfield 31, 3) := by decide +kernel
theorem dX8_giveNew_28 : decode cX8_giveNew 28 = .ok (.aload_n 0, 1) := by decide +kernel
theorem dX8_giveNew_29 : decode cX8_giveNew 29 = .ok (.getfield 15, 3) := by decide +kernel
theorem dX8_giveNew_32 : decode cX8_giveNew 32 = .ok (.iload_n 1, 1) := by decide +kernel
theorem dX8_giveNew_33 : decode cX8_giveNew 33 = .ok (.iaload, 1) := by decide +kernel
theorem dX8_giveNew_34 : decode cX8_giveNew 34 = .ok (.iastore, 1) := by decide +kernel
theorem dX8_giveNew_35 : decode cX8_giveNew 35 = .ok (.aload_n 0, 1) := by decide +kernel
theorem dX8_giveNew_36 : decode cX8_giveNew 36 = .ok (.dup, 1) := by decide +kernel
theorem dX8_giveNew_37 : decode cX8_giveNew 37 = .ok (.getfield 31, 3) := by decide +kernel
theorem dX8_giveNew_40 : decode cX8_giveNew 40 = .ok (.iconst 1, 1) := by decide +kernel
theorem dX8_giveNew_41 : decode cX8_giveNew 41 = .ok (.iadd, 1) := by decide +kernel
theorem dX8_giveNew_42 : decode cX8_giveNew 42 = .ok (.putfield 31, 3) := by decide +kernel
def o_X8_giveNew : List Cond := [.fieldLink RX8 31 "SsaForge$SsaMaker" "hidden" "I", .fieldLink RX8 15 "SsaForge$SsaMaker" "latest" "[I", .fieldLink RX8 35 "SsaForge$SsaMaker" "given" "I", .fieldLink RX8 25 "SsaForge$SsaMaker" "hiddenRegister" "[I", .fieldLink RX8 28 "SsaForge$SsaMaker" "hiddenLatest" "[I"]
def v_X8_giveNew : List Cond := .code yX8_giveNew cX8_giveNew 2 (some .int) :: (o_X8_giveNew ++ (wsX80 ++ []))
theorem mow_X8_giveNew : ∀ w ∈ o_X8_giveNew, w ∈ v_X8_giveNew := fun _ h => List.mem_cons_of_mem _ (List.mem_append_left _ h)
theorem mem_X8_giveNew_0 : ∀ w ∈ wsX80, w ∈ v_X8_giveNew := fun _ h => List.mem_cons_of_mem _ (List.mem_append_right _ (List.mem_append_left _ h))
set_option maxRecDepth 20000 in
theorem gw_X8_giveNew : v_X8_giveNew.all goodWord = true := by decide +kernel
set_option maxHeartbeats 4000000 in
set_option maxRecDepth 100000 in
theorem c_X8_giveNew (l : Launch) (dC : Nat → ClassId) (dI : Nat → Nat → Nat) (h0 : Nat) (v8_0 : Value) (q_801 : Nat) (cA_801 : ClassId) (a8_latest : Int → Int) (v8_2 : Value) (v8_3 : Value) (q_804 : Nat) (cA_804 : ClassId) (a8_hiddenRegister : Int → Int) (q_805 : Nat) (cA_805 : ClassId) (a8_hiddenLatest : Int → Int) (z8_hidden : Int) (z8_given : Int) (r0 : Int) (hR_a8_latest : ∀ j : Int, -1 ≤ a8_latest j ∧ a8_latest j ≤ 1023) (hR_a8_hiddenRegister : ∀ j : Int, 0 ≤ a8_hiddenRegister j ∧ a8_hiddenRegister j ≤ 1023) (hR_a8_hiddenLatest : ∀ j : Int, -1 ≤ a8_hiddenLatest j ∧ a8_hiddenLatest j ≤ 1023) (hNz8_hidden : 0 ≤ z8_hidden ∧ z8_hidden ≤ 1000) (hNz8_given : 0 ≤ z8_given ∧ z8_given ≤ 1023) (hNr : 0 ≤ r0 ∧ r0 ≤ 1023) (hNh : z8_hidden < 1000 ∧ z8_given < 1000) (sz : Nat) : Met l yX8_giveNew v_X8_giveNew ({ frames := 0, cells := 0, slots := 0, locals := 0 }) (va_Pc [.ref h0, .int (zI (r0))] (fun U => U.heap.size = sz ∧ va_P (dC, dI) vwP [(h0, .inr (8, [v8_0, .ref q_801, v8_2, v8_3, .ref q_804, .ref q_805, .int (zI (z8_hidden)), .int (zI (z8_given))])), (q_801, .inl (cA_801, 1024, .inl (fun j : Nat => zI (a8_latest (j : Int))))), (q_804, .inl (cA_804, 1000, .inl (fun j : Nat => zI (a8_hiddenRegister (j : Int))))), (q_805, .inl (cA_805, 1000, .inl (fun j : Nat => zI (a8_hiddenLatest (j : Int)))))] U.heap ∧ va_K (dC, dI) vwP [(cA_801, .int), (cA_804, .int), (cA_805, .int)] U ∧ va_D (fun _ => True) [(h0, .inr (8, [v8_0, .ref q_801, v8_2, v8_3, .ref q_804, .ref q_805, .int (zI (z8_hidden)), .int (zI (z8_given))])), (q_801, .inl (cA_801, 1024, .inl (fun j : Nat => zI (a8_latest (j : Int))))), (q_804, .inl (cA_804, 1000, .inl (fun j : Nat => zI (a8_hiddenRegister (j : Int))))), (q_805, .inl (cA_805, 1000, .inl (fun j : Nat => zI (a8_hiddenLatest (j : Int)))))])) (va_Qi (fun (r : Int32) (_ : Unit) => r = zI (z8_given)) (fun (_ : Unit) (t : State) => ∃ (z0_9 : Int) (z1_9 : Int) (a2_9 : Int → Int) (a3_9 : Int → Int) (a4_9 : Int → Int), ((0 ≤ z0_9 ∧ z0_9 ≤ 1000) ∧ (0 ≤ z1_9 ∧ z1_9 ≤ 1023) ∧ (∀ j : Int, -1 ≤ a2_9 j ∧ a2_9 j ≤ 1023) ∧ (∀ j : Int, 0 ≤ a3_9 j ∧ a3_9 j ≤ 1023) ∧ (∀ j : Int, -1 ≤ a4_9 j ∧ a4_9 j ≤ 1023) ∧ (a2_9 = zup a8_latest r0 z8_given ∧ a3_9 = zup a8_hiddenRegister z8_hidden r0 ∧ a4_9 = zup a8_hiddenLatest z8_hidden (a8_latest r0) ∧ z0_9 = z8_hidden + 1 ∧ z1_9 = z8_given + 1)) ∧ va_P (dC, dI) vwP [(h0, .inr (8, [v8_0, .ref q_801, v8_2, v8_3, .ref q_804, .ref q_805, .int (zI (z0_9)), .int (zI (z1_9))])), (q_801, .inl (cA_801, 1024, .inl (fun j : Nat => zI (a2_9 (j : Int))))), (q_804, .inl (cA_804, 1000, .inl (fun j : Nat => zI (a3_9 (j : Int))))), (q_805, .inl (cA_805, 1000, .inl (fun j : Nat => zI (a4_9 (j : Int)))))] t.heap ∧ va_K (dC, dI) vwP [(cA_801, .int), (cA_804, .int), (cA_805, .int)] t ∧ va_D (va_A [(h0, .inr (8, [v8_0, .ref q_801, v8_2, v8_3, .ref q_804, .ref q_805, .int (zI (z8_hidden)), .int (zI (z8_given))])), (q_801, .inl (cA_801, 1024, .inl (fun j : Nat => zI (a8_latest (j : Int))))), (q_804, .inl (cA_804, 1000, .inl (fun j : Nat => zI (a8_hiddenRegister (j : Int))))), (q_805, .inl (cA_805, 1000, .inl (fun j : Nat => zI (a8_hiddenLatest (j : Int)))))] sz) [(h0, .inr (8, [v8_0, .ref q_801, v8_2, v8_3, .ref q_804, .ref q_805, .int (zI (z0_9)), .int (zI (z1_9))])), (q_801, .inl (cA_801, 1024, .inl (fun j : Nat => zI (a2_9 (j : Int))))), (q_804, .inl (cA_804, 1000, .inl (fun j : Nat => zI (a3_9 (j : Int))))), (q_805, .inl (cA_805, 1000, .inl (fun j : Nat => zI (a4_9 (j : Int)))))]) (va_A [(h0, .inr (8, [v8_0, .ref q_801, v8_2, v8_3, .ref q_804, .ref q_805, .int (zI (z8_hidden)), .int (zI (z8_given))])), (q_801, .inl (cA_801, 1024, .inl (fun j : Nat => zI (a8_latest (j : Int))))), (q_804, .inl (cA_804, 1000, .inl (fun j : Nat => zI (a8_hiddenRegister (j : Int))))), (q_805, .inl (cA_805, 1000, .inl (fun j : Nat => zI (a8_hiddenLatest (j : Int)))))] sz)) 0 0 (va_A [(h0, .inr (8, [v8_0, .ref q_801, v8_2, v8_3, .ref q_804, .ref q_805, .int (zI (z8_hidden)), .int (zI (z8_given))])), (q_801, .inl (cA_801, 1024, .inl (fun j : Nat => zI (a8_latest (j : Int))))), (q_804, .inl (cA_804, 1000, .inl (fun j : Nat => zI (a8_hiddenRegister (j : Int))))), (q_805, .inl (cA_805, 1000, .inl (fun j : Nat => zI (a8_hiddenLatest (j : Int)))))] sz) := by
  refine Met.ofW (cc := cX8_giveNew) (maxL := 2) (ret := (some .int)) (by decide) rfl ?_
  intro p e s m args below meth c s₁ B hml hv
  obtain ⟨rfl, hsz, hP, hK, hD0⟩ := hv
  have hx := B.exec
  have hb := B.bytes
  have hr := B.returns
  have hts := atoms_spec (ws := v_X8_giveNew) B.pre
  have hown : s.vm.findClass RX8 = some m.cls := findClass_of_methodNamed B.named
  have hlocks := B.notSynchronized
  have ow : ∀ {k : Nat} {w : Cond}, o_X8_giveNew[k]? = some w → w.before ([.ref h0, .int (zI (r0))] : List Value).toArray s = true := fun h => hts _ (mow_X8_giveNew _ (List.mem_of_getElem? h))
  subst hsz
  have hD := hD0.self (sz := s.heap.size)
  generalize hAe : va_A [(h0, .inr (8, [v8_0, .ref q_801, v8_2, v8_3, .ref q_804, .ref q_805, .int (zI (z8_hidden)), .int (zI (z8_given))])), (q_801, .inl (cA_801, 1024, .inl (fun j : Nat => zI (a8_latest (j : Int))))), (q_804, .inl (cA_804, 1000, .inl (fun j : Nat => zI (a8_hiddenRegister (j : Int))))), (q_805, .inl (cA_805, 1000, .inl (fun j : Nat => zI (a8_hiddenLatest (j : Int)))))] s.heap.size = A at hD ⊢
  have hA : ∀ q : Nat, s.heap.size ≤ q → A q := fun q h => by rw [← hAe]; exact Or.inr h
  have hS : va_S A s.heap s.heap [] := va_S.rf
  have hP : va_P (dC, dI) vwP [(h0, .inr (8, [v8_0, .ref q_801, v8_2, v8_3, .ref q_804, .ref q_805, .int (zI (z8_hidden)), .int (zI (z8_given))])), (q_801, .inl (cA_801, 1024, .inl (fun j : Nat => zI (a8_latest (j : Int))))), (q_804, .inl (cA_804, 1000, .inl (fun j : Nat => zI (a8_hiddenRegister (j : Int))))), (q_805, .inl (cA_805, 1000, .inl (fun j : Nat => zI (a8_hiddenLatest (j : Int)))))] s.heap := hP
  have hl := lv_entry ([.ref h0, .int (zI (r0))]) (n := 2) (Nat.le_of_ble_eq_true rfl)
  rw [lg_entry_eq]
  generalize (lg_sl ([.ref h0, .int (zI (r0))]) ++ List.replicate (2 - (lg_sl ([.ref h0, .int (zI (r0))])).length) Slot.unset).toArray = ls at hl ⊢
  have hl : lv_has ls 2 [(0, .ref h0), (1, .int (zI (r0)))] := hl
  obtain ⟨H, hH⟩ : ∃ H, H = s.heap := ⟨_, rfl⟩
  rw [← hH] at hP
  have hS : va_S A s.heap H [] := by rw [hH]; exact hS
  rw [← hH]
  refine zW_cap (fun Q hQ => ?_)
  refine lv_aload_n hx hb dX8_giveNew_0 rfl (lv_at hl 0 rfl) ?_
  refine va_get (D := (dC, dI)) (ci := 8) (v := .int (zI (z8_hidden))) (C := RX8) (T := TX8) (N := 8) hx hb hts mem_X8_giveNew_0 hown hK hP 0 rfl rfl 6 (by decide) (ow (k := 0) rfl) (fun _ h9 => h9) rfl dX8_giveNew_1 ?_
  refine lv_sipush (v := 1000) hx hb dX8_giveNew_4 (by decide) ?_
  refine lv_icmp_ge (tgt := 45) hx hb dX8_giveNew_7 (by decide) (fun b7 => ?_) (fun b7 => ?_)
  · have yb7 : (1000 : Int) ≤ (z8_hidden : Int) := (zI_le (a := 1000) (b := z8_hidden) (by omega) (by omega) (by omega) (by omega)).mp b7
    refine lv_aload_n hx hb dX8_giveNew_45 rfl (lv_at hl 0 rfl) ?_
    refine va_get (D := (dC, dI)) (ci := 8) (v := .ref q_801) (C := RX8) (T := TX8) (N := 8) hx hb hts mem_X8_giveNew_0 hown hK hP 0 rfl rfl 1 (by decide) (ow (k := 1) rfl) (fun _ h9 => h9) rfl dX8_giveNew_46 ?_
    refine lv_iload_n hx hb dX8_giveNew_49 rfl (lv_at hl 1 rfl) ?_
    refine lv_aload_n hx hb dX8_giveNew_50 rfl (lv_at hl 0 rfl) ?_
    refine va_get (D := (dC, dI)) (ci := 8) (v := .int (zI (z8_given))) (C := RX8) (T := TX8) (N := 8) hx hb hts mem_X8_giveNew_0 hown hK hP 0 rfl rfl 7 (by decide) (ow (k := 2) rfl) (fun _ h9 => h9) rfl dX8_giveNew_51 ?_
    refine va_iast (i := zI (r0)) hx hb hK hP hD hS 1 0 rfl rfl (zI_in (a := r0) (n := 1024) (by omega) (by omega) (by decide)) dX8_giveNew_54 (fun H locs hP hD hS => ?_)
    have eQ : upd (fun j : Nat => zI (a8_latest (j : Int))) (zI (r0)).toNatClampNeg (zI (z8_given)) = (fun j : Nat => zI (zup a8_latest (r0) (z8_given) (j : Int))) := zI_st a8_latest (e := r0) (v := z8_given) (by omega) (by omega)
    rw [eQ] at hP hD
    clear eQ
    have ra_2001 : ∀ j : Int, -1 ≤ zup a8_latest (r0) (z8_given) j ∧ zup a8_latest (r0) (z8_given) j ≤ 1023 := zup_P (P := fun x9 => -1 ≤ x9 ∧ x9 ≤ 1023) hR_a8_latest (show -1 ≤ (z8_given) ∧ (z8_given) ≤ 1023 by omega)
    obtain ⟨a_2001, ea_2001⟩ : ∃ a9 : Int → Int, a9 = zup a8_latest (r0) (z8_given) := ⟨_, rfl⟩
    rw [← ea_2001] at hP hD ra_2001
    have hP : va_P (dC, dI) vwP [(h0, .inr (8, [v8_0, .ref q_801, v8_2, v8_3, .ref q_804, .ref q_805, .int (zI (z8_hidden)), .int (zI (z8_given))])), (q_801, .inl (cA_801, 1024, .inl (fun j : Nat => zI (a_2001 (j : Int))))), (q_804, .inl (cA_804, 1000, .inl (fun j : Nat => zI (a8_hiddenRegister (j : Int))))), (q_805, .inl (cA_805, 1000, .inl (fun j : Nat => zI (a8_hiddenLatest (j : Int)))))] H := hP
    have hD : va_D A [(h0, .inr (8, [v8_0, .ref q_801, v8_2, v8_3, .ref q_804, .ref q_805, .int (zI (z8_hidden)), .int (zI (z8_given))])), (q_801, .inl (cA_801, 1024, .inl (fun j : Nat => zI (a_2001 (j : Int))))), (q_804, .inl (cA_804, 1000, .inl (fun j : Nat => zI (a8_hiddenRegister (j : Int))))), (q_805, .inl (cA_805, 1000, .inl (fun j : Nat => zI (a8_hiddenLatest (j : Int)))))] := hD
    refine lv_aload_n hx hb dX8_giveNew_55 rfl (lv_at hl 0 rfl) ?_
    refine lv_dup hx hb dX8_giveNew_56 rfl ?_
    refine va_get (D := (dC, dI)) (ci := 8) (v := .int (zI (z8_given))) (C := RX8) (T := TX8) (N := 8) hx hb hts mem_X8_giveNew_0 hown hK hP 0 rfl rfl 7 (by decide) (ow (k := 2) rfl) (fun _ h9 => h9) rfl dX8_giveNew_57 ?_
    refine lv_iconst (v := 1) hx hb dX8_giveNew_60 (by decide) ?_
    refine lv_iadd hx hb dX8_giveNew_61 ?_
    refine lv_topi (fun z ez => ?_)
    obtain rfl : z = zI (z8_given + 1) := ez.trans (zI_add (z8_given) (1))
    refine va_put (D := (dC, dI)) (ci := 8) (v := .int (zI (z8_given + 1))) (ty := .int) (C := RX8) (T := TX8) (N := 8) hx hb hts mem_X8_giveNew_0 tyX8 tyX8_ok nmX8 hown hK hP hD hS 0 rfl rfl 7 (by decide) (ow (k := 2) rfl) (fun _ h9 => h9) rfl (by decide +kernel) rfl rfl (Nat.le_of_ble_eq_true rfl) dX8_giveNew_62 (fun H locs hP hD hS => ?_)
    have hP : va_P (dC, dI) vwP [(h0, .inr (8, [v8_0, .ref q_801, v8_2, v8_3, .ref q_804, .ref q_805, .int (zI (z8_hidden)), .int (zI (z8_given + 1))])), (q_801, .inl (cA_801, 1024, .inl (fun j : Nat => zI (a_2001 (j : Int))))), (q_804, .inl (cA_804, 1000, .inl (fun j : Nat => zI (a8_hiddenRegister (j : Int))))), (q_805, .inl (cA_805, 1000, .inl (fun j : Nat => zI (a8_hiddenLatest (j : Int)))))] H := hP
    have hD : va_D A [(h0, .inr (8, [v8_0, .ref q_801, v8_2, v8_3, .ref q_804, .ref q_805, .int (zI (z8_hidden)), .int (zI (z8_given + 1))])), (q_801, .inl (cA_801, 1024, .inl (fun j : Nat => zI (a_2001 (j : Int))))), (q_804, .inl (cA_804, 1000, .inl (fun j : Nat => zI (a8_hiddenRegister (j : Int))))), (q_805, .inl (cA_805, 1000, .inl (fun j : Nat => zI (a8_hiddenLatest (j : Int)))))] := hD
    obtain ⟨z_2002, ez_2002⟩ : ∃ z9 : Int, z9 = z8_given + 1 := ⟨_, rfl⟩
    rw [← ez_2002] at hP hD
    have hP : va_P (dC, dI) vwP [(h0, .inr (8, [v8_0, .ref q_801, v8_2, v8_3, .ref q_804, .ref q_805, .int (zI (z8_hidden)), .int (zI (z_2002))])), (q_801, .inl (cA_801, 1024, .inl (fun j : Nat => zI (a_2001 (j : Int))))), (q_804, .inl (cA_804, 1000, .inl (fun j : Nat => zI (a8_hiddenRegister (j : Int))))), (q_805, .inl (cA_805, 1000, .inl (fun j : Nat => zI (a8_hiddenLatest (j : Int)))))] H := hP
    have hD : va_D A [(h0, .inr (8, [v8_0, .ref q_801, v8_2, v8_3, .ref q_804, .ref q_805, .int (zI (z8_hidden)), .int (zI (z_2002))])), (q_801, .inl (cA_801, 1024, .inl (fun j : Nat => zI (a_2001 (j : Int))))), (q_804, .inl (cA_804, 1000, .inl (fun j : Nat => zI (a8_hiddenRegister (j : Int))))), (q_805, .inl (cA_805, 1000, .inl (fun j : Nat => zI (a8_hiddenLatest (j : Int)))))] := hD
    refine lv_aload_n hx hb dX8_giveNew_65 rfl (lv_at hl 0 rfl) ?_
    refine va_get (D := (dC, dI)) (ci := 8) (v := .ref q_801) (C := RX8) (T := TX8) (N := 8) hx hb hts mem_X8_giveNew_0 hown hK hP 0 rfl rfl 1 (by decide) (ow (k := 1) rfl) (fun _ h9 => h9) rfl dX8_giveNew_66 ?_
    refine lv_iload_n hx hb dX8_giveNew_69 rfl (lv_at hl 1 rfl) ?_
    refine va_iald hx hb hK hP 1 0 rfl rfl (zI_in (a := r0) (n := 1024) (by omega) (by omega) (by decide)) dX8_giveNew_70 ?_
    refine lv_topi (fun z ez => ?_)
    obtain rfl : z = zI (a_2001 (r0)) := ez.trans (zI_ld (a_2001) (by omega) (by omega))
    have k1 := ra_2001 (r0)
    subst hQ
    refine W.widen (k := 0) (n := 0) (Nat.le_of_ble_eq_true rfl) (Nat.le_of_ble_eq_true rfl) ?_
    exact W.iret (v := (zI (a_2001 (r0)))) hx hb hr (fun t ht hW => ⟨⟨(zI (a_2001 (r0))), (), rfl, (by rw [ea_2001, zup_eq]), z8_hidden, z_2002, a_2001, a8_hiddenRegister, a8_hiddenLatest, ⟨(by omega), (by omega), ra_2001, hR_a8_hiddenRegister, hR_a8_hiddenLatest, (by exfalso; omega)⟩, by rw [ht]; exact hP, va_K.moved hW.alike hK, hD⟩, hS.F ht⟩) hS.2.2 dX8_giveNew_71
  · have yb7 : ¬ (1000 : Int) ≤ (z8_hidden : Int) := fun q => b7 ((zI_le (a := 1000) (b := z8_hidden) (by omega) (by omega) (by omega) (by omega)).mpr q)
    refine lv_aload_n hx hb dX8_giveNew_10 rfl (lv_at hl 0 rfl) ?_
    refine va_get (D := (dC, dI)) (ci := 8) (v := .ref q_804) (C := RX8) (T := TX8) (N := 8) hx hb hts mem_X8_giveNew_0 hown hK hP 0 rfl rfl 4 (by decide) (ow (k := 3) rfl) (fun _ h9 => h9) rfl dX8_giveNew_11 ?_
    refine lv_aload_n hx hb dX8_giveNew_14 rfl (lv_at hl 0 rfl) ?_
    refine va_get (D := (dC, dI)) (ci := 8) (v := .int (zI (z8_hidden))) (C := RX8) (T := TX8) (N := 8) hx hb hts mem_X8_giveNew_0 hown hK hP 0 rfl rfl 6 (by decide) (ow (k := 0) rfl) (fun _ h9 => h9) rfl dX8_giveNew_15 ?_
    refine lv_iload_n hx hb dX8_giveNew_18 rfl (lv_at hl 1 rfl) ?_
    refine va_iast (i := zI (z8_hidden)) hx hb hK hP hD hS 2 1 rfl rfl (zI_in (a := z8_hidden) (n := 1000) (by omega) (by omega) (by decide)) dX8_giveNew_19 (fun H locs hP hD hS => ?_)
    have eQ : upd (fun j : Nat => zI (a8_hiddenRegister (j : Int))) (zI (z8_hidden)).toNatClampNeg (zI (r0)) = (fun j : Nat => zI (zup a8_hiddenRegister (z8_hidden) (r0) (j : Int))) := zI_st a8_hiddenRegister (e := z8_hidden) (v := r0) (by omega) (by omega)
    rw [eQ] at hP hD
    clear eQ
    have ra_2003 : ∀ j : Int, 0 ≤ zup a8_hiddenRegister (z8_hidden) (r0) j ∧ zup a8_hiddenRegister (z8_hidden) (r0) j ≤ 1023 := zup_P (P := fun x9 => 0 ≤ x9 ∧ x9 ≤ 1023) hR_a8_hiddenRegister (show 0 ≤ (r0) ∧ (r0) ≤ 1023 by omega)
    obtain ⟨a_2003, ea_2003⟩ : ∃ a9 : Int → Int, a9 = zup a8_hiddenRegister (z8_hidden) (r0) := ⟨_, rfl⟩
    rw [← ea_2003] at hP hD ra_2003
    have hP : va_P (dC, dI) vwP [(h0, .inr (8, [v8_0, .ref q_801, v8_2, v8_3, .ref q_804, .ref q_805, .int (zI (z8_hidden)), .int (zI (z8_given))])), (q_801, .inl (cA_801, 1024, .inl (fun j : Nat => zI (a8_latest (j : Int))))), (q_804, .inl (cA_804, 1000, .inl (fun j : Nat => zI (a_2003 (j : Int))))), (q_805, .inl (cA_805, 1000, .inl (fun j : Nat => zI (a8_hiddenLatest (j : Int)))))] H := hP
    have hD : va_D A [(h0, .inr (8, [v8_0, .ref q_801, v8_2, v8_3, .ref q_804, .ref q_805, .int (zI (z8_hidden)), .int (zI (z8_given))])), (q_801, .inl (cA_801, 1024, .inl (fun j : Nat => zI (a8_latest (j : Int))))), (q_804, .inl (cA_804, 1000, .inl (fun j : Nat => zI (a_2003 (j : Int))))), (q_805, .inl (cA_805, 1000, .inl (fun j : Nat => zI (a8_hiddenLatest (j : Int)))))] := hD
    refine lv_aload_n hx hb dX8_giveNew_20 rfl (lv_at hl 0 rfl) ?_
    refine va_get (D := (dC, dI)) (ci := 8) (v := .ref q_805) (C := RX8) (T := TX8) (N := 8) hx hb hts mem_X8_giveNew_0 hown hK hP 0 rfl rfl 5 (by decide) (ow (k := 4) rfl) (fun _ h9 => h9) rfl dX8_giveNew_21 ?_
    refine lv_aload_n hx hb dX8_giveNew_24 rfl (lv_at hl 0 rfl) ?_
    refine va_get (D := (dC, dI)) (ci := 8) (v := .int (zI (z8_hidden))) (C := RX8) (T := TX8) (N := 8) hx hb hts mem_X8_giveNew_0 hown hK hP 0 rfl rfl 6 (by decide) (ow (k := 0) rfl) (fun _ h9 => h9) rfl dX8_giveNew_25 ?_
    refine lv_aload_n hx hb dX8_giveNew_28 rfl (lv_at hl 0 rfl) ?_
    refine va_get (D := (dC, dI)) (ci := 8) (v := .ref q_801) (C := RX8) (T := TX8) (N := 8) hx hb hts mem_X8_giveNew_0 hown hK hP 0 rfl rfl 1 (by decide) (ow (k := 1) rfl) (fun _ h9 => h9) rfl dX8_giveNew_29 ?_
    refine lv_iload_n hx hb dX8_giveNew_32 rfl (lv_at hl 1 rfl) ?_
    refine va_iald hx hb hK hP 1 0 rfl rfl (zI_in (a := r0) (n := 1024) (by omega) (by omega) (by decide)) dX8_giveNew_33 ?_
    refine lv_topi (fun z ez => ?_)
    obtain rfl : z = zI (a8_latest (r0)) := ez.trans (zI_ld (a8_latest) (by omega) (by omega))
    have k2 := hR_a8_latest (r0)
    refine va_iast (i := zI (z8_hidden)) hx hb hK hP hD hS 3 2 rfl rfl (zI_in (a := z8_hidden) (n := 1000) (by omega) (by omega) (by decide)) dX8_giveNew_34 (fun H locs hP hD hS => ?_)
    have eQ : upd (fun j : Nat => zI (a8_hiddenLatest (j : Int))) (zI (z8_hidden)).toNatClampNeg (zI (a8_latest (r0))) = (fun j : Nat => zI (zup a8_hiddenLatest (z8_hidden) (a8_latest (r0)) (j : Int))) := zI_st a8_hiddenLatest (e := z8_hidden) (v := a8_latest (r0)) (by omega) (by omega)
    rw [eQ] at hP hD
    clear eQ
    have ra_2004 : ∀ j : Int, -1 ≤ zup a8_hiddenLatest (z8_hidden) (a8_latest (r0)) j ∧ zup a8_hiddenLatest (z8_hidden) (a8_latest (r0)) j ≤ 1023 := zup_P (P := fun x9 => -1 ≤ x9 ∧ x9 ≤ 1023) hR_a8_hiddenLatest (show -1 ≤ (a8_latest (r0)) ∧ (a8_latest (r0)) ≤ 1023 by omega)
    obtain ⟨a_2004, ea_2004⟩ : ∃ a9 : Int → Int, a9 = zup a8_hiddenLatest (z8_hidden) (a8_latest (r0)) := ⟨_, rfl⟩
    rw [← ea_2004] at hP hD ra_2004
    have hP : va_P (dC, dI) vwP [(h0, .inr (8, [v8_0, .ref q_801, v8_2, v8_3, .ref q_804, .ref q_805, .int (zI (z8_hidden)), .int (zI (z8_given))])), (q_801, .inl (cA_801, 1024, .inl (fun j : Nat => zI (a8_latest (j : Int))))), (q_804, .inl (cA_804, 1000, .inl (fun j : Nat => zI (a_2003 (j : Int))))), (q_805, .inl (cA_805, 1000, .inl (fun j : Nat => zI (a_2004 (j : Int)))))] H := hP
    have hD : va_D A [(h0, .inr (8, [v8_0, .ref q_801, v8_2, v8_3, .ref q_804, .ref q_805, .int (zI (z8_hidden)), .int (zI (z8_given))])), (q_801, .inl (cA_801, 1024, .inl (fun j : Nat => zI (a8_latest (j : Int))))), (q_804, .inl (cA_804, 1000, .inl (fun j : Nat => zI (a_2003 (j : Int))))), (q_805, .inl (cA_805, 1000, .inl (fun j : Nat => zI (a_2004 (j : Int)))))] := hD
    refine lv_aload_n hx hb dX8_giveNew_35 rfl (lv_at hl 0 rfl) ?_
    refine lv_dup hx hb dX8_giveNew_36 rfl ?_
    refine va_get (D := (dC, dI)) (ci := 8) (v := .int (zI (z8_hidden))) (C := RX8) (T := TX8) (N := 8) hx hb hts mem_X8_giveNew_0 hown hK hP 0 rfl rfl 6 (by decide) (ow (k := 0) rfl) (fun _ h9 => h9) rfl dX8_giveNew_37 ?_
    refine lv_iconst (v := 1) hx hb dX8_giveNew_40 (by decide) ?_
    refine lv_iadd hx hb dX8_giveNew_41 ?_
    refine lv_topi (fun z ez => ?_)
    obtain rfl : z = zI (z8_hidden + 1) := ez.trans (zI_add (z8_hidden) (1))
    refine va_put (D := (dC, dI)) (ci := 8) (v := .int (zI (z8_hidden + 1))) (ty := .int) (C := RX8) (T := TX8) (N := 8) hx hb hts mem_X8_giveNew_0 tyX8 tyX8_ok nmX8 hown hK hP hD hS 0 rfl rfl 6 (by decide) (ow (k := 0) rfl) (fun _ h9 => h9) rfl (by decide +kernel) rfl rfl (Nat.le_of_ble_eq_true rfl) dX8_giveNew_42 (fun H locs hP hD hS => ?_)
    have hP : va_P (dC, dI) vwP [(h0, .inr (8, [v8_0, .ref q_801, v8_2, v8_3, .ref q_804, .ref q_805, .int (zI (z8_hidden + 1)), .int (zI (z8_given))])), (q_801, .inl (cA_801, 1024, .inl (fun j : Nat => zI (a8_latest (j : Int))))), (q_804, .inl (cA_804, 1000, .inl (fun j : Nat => zI (a_2003 (j : Int))))), (q_805, .inl (cA_805, 1000, .inl (fun j : Nat => zI (a_2004 (j : Int)))))] H := hP
    have hD : va_D A [(h0, .inr (8, [v8_0, .ref q_801, v8_2, v8_3, .ref q_804, .ref q_805, .int (zI (z8_hidden + 1)), .int (zI (z8_given))])), (q_801, .inl (cA_801, 1024, .inl (fun j : Nat => zI (a8_latest (j : Int))))), (q_804, .inl (cA_804, 1000, .inl (fun j : Nat => zI (a_2003 (j : Int))))), (q_805, .inl (cA_805, 1000, .inl (fun j : Nat => zI (a_2004 (j : Int)))))] := hD
    obtain ⟨z_2005, ez_2005⟩ : ∃ z9 : Int, z9 = z8_hidden + 1 := ⟨_, rfl⟩
    rw [← ez_2005] at hP hD
    have hP : va_P (dC, dI) vwP [(h0, .inr (8, [v8_0, .ref q_801, v8_2, v8_3, .ref q_804, .ref q_805, .int (zI (z_2005)), .int (zI (z8_given))])), (q_801, .inl (cA_801, 1024, .inl (fun j : Nat => zI (a8_latest (j : Int))))), (q_804, .inl (cA_804, 1000, .inl (fun j : Nat => zI (a_2003 (j : Int))))), (q_805, .inl (cA_805, 1000, .inl (fun j : Nat => zI (a_2004 (j : Int)))))] H := hP
    have hD : va_D A [(h0, .inr (8, [v8_0, .ref q_801, v8_2, v8_3, .ref q_804, .ref q_805, .int (zI (z_2005)), .int (zI (z8_given))])), (q_801, .inl (cA_801, 1024, .inl (fun j : Nat => zI (a8_latest (j : Int))))), (q_804, .inl (cA_804, 1000, .inl (fun j : Nat => zI (a_2003 (j : Int))))), (q_805, .inl (cA_805, 1000, .inl (fun j : Nat => zI (a_2004 (j : Int)))))] := hD
    refine lv_aload_n hx hb dX8_giveNew_45 rfl (lv_at hl 0 rfl) ?_
    refine va_get (D := (dC, dI)) (ci := 8) (v := .ref q_801) (C := RX8) (T := TX8) (N := 8) hx hb hts mem_X8_giveNew_0 hown hK hP 0 rfl rfl 1 (by decide) (ow (k := 1) rfl) (fun _ h9 => h9) rfl dX8_giveNew_46 ?_
    refine lv_iload_n hx hb dX8_giveNew_49 rfl (lv_at hl 1 rfl) ?_
    refine lv_aload_n hx hb dX8_giveNew_50 rfl (lv_at hl 0 rfl) ?_
    refine va_get (D := (dC, dI)) (ci := 8) (v := .int (zI (z8_given))) (C := RX8) (T := TX8) (N := 8) hx hb hts mem_X8_giveNew_0 hown hK hP 0 rfl rfl 7 (by decide) (ow (k := 2) rfl) (fun _ h9 => h9) rfl dX8_giveNew_51 ?_
    refine va_iast (i := zI (r0)) hx hb hK hP hD hS 1 0 rfl rfl (zI_in (a := r0) (n := 1024) (by omega) (by omega) (by decide)) dX8_giveNew_54 (fun H locs hP hD hS => ?_)
    have eQ : upd (fun j : Nat => zI (a8_latest (j : Int))) (zI (r0)).toNatClampNeg (zI (z8_given)) = (fun j : Nat => zI (zup a8_latest (r0) (z8_given) (j : Int))) := zI_st a8_latest (e := r0) (v := z8_given) (by omega) (by omega)
    rw [eQ] at hP hD
    clear eQ
    have ra_2006 : ∀ j : Int, -1 ≤ zup a8_latest (r0) (z8_given) j ∧ zup a8_latest (r0) (z8_given) j ≤ 1023 := zup_P (P := fun x9 => -1 ≤ x9 ∧ x9 ≤ 1023) hR_a8_latest (show -1 ≤ (z8_given) ∧ (z8_given) ≤ 1023 by omega)
    obtain ⟨a_2006, ea_2006⟩ : ∃ a9 : Int → Int, a9 = zup a8_latest (r0) (z8_given) := ⟨_, rfl⟩
    rw [← ea_2006] at hP hD ra_2006
    have hP : va_P (dC, dI) vwP [(h0, .inr (8, [v8_0, .ref q_801, v8_2, v8_3, .ref q_804, .ref q_805, .int (zI (z_2005)), .int (zI (z8_given))])), (q_801, .inl (cA_801, 1024, .inl (fun j : Nat => zI (a_2006 (j : Int))))), (q_804, .inl (cA_804, 1000, .inl (fun j : Nat => zI (a_2003 (j : Int))))), (q_805, .inl (cA_805, 1000, .inl (fun j : Nat => zI (a_2004 (j : Int)))))] H := hP
    have hD : va_D A [(h0, .inr (8, [v8_0, .ref q_801, v8_2, v8_3, .ref q_804, .ref q_805, .int (zI (z_2005)), .int (zI (z8_given))])), (q_801, .inl (cA_801, 1024, .inl (fun j : Nat => zI (a_2006 (j : Int))))), (q_804, .inl (cA_804, 1000, .inl (fun j : Nat => zI (a_2003 (j : Int))))), (q_805, .inl (cA_805, 1000, .inl (fun j : Nat => zI (a_2004 (j : Int)))))] := hD
    refine lv_aload_n hx hb dX8_giveNew_55 rfl (lv_at hl 0 rfl) ?_
    refine lv_dup hx hb dX8_giveNew_56 rfl ?_
    refine va_get (D := (dC, dI)) (ci := 8) (v := .int (zI (z8_given))) (C := RX8) (T := TX8) (N := 8) hx hb hts mem_X8_giveNew_0 hown hK hP 0 rfl rfl 7 (by decide) (ow (k := 2) rfl) (fun _ h9 => h9) rfl dX8_giveNew_57 ?_
    refine lv_iconst (v := 1) hx hb dX8_giveNew_60 (by decide) ?_
    refine lv_iadd hx hb dX8_giveNew_61 ?_
    refine lv_topi (fun z ez => ?_)
    obtain rfl : z = zI (z8_given + 1) := ez.trans (zI_add (z8_given) (1))
    refine va_put (D := (dC, dI)) (ci := 8) (v := .int (zI (z8_given + 1))) (ty := .int) (C := RX8) (T := TX8) (N := 8) hx hb hts mem_X8_giveNew_0 tyX8 tyX8_ok nmX8 hown hK hP hD hS 0 rfl rfl 7 (by decide) (ow (k := 2) rfl) (fun _ h9 => h9) rfl (by decide +kernel) rfl rfl (Nat.le_of_ble_eq_true rfl) dX8_giveNew_62 (fun H locs hP hD hS => ?_)
    have hP : va_P (dC, dI) vwP [(h0, .inr (8, [v8_0, .ref q_801, v8_2, v8_3, .ref q_804, .ref q_805, .int (zI (z_2005)), .int (zI (z8_given + 1))])), (q_801, .inl (cA_801, 1024, .inl (fun j : Nat => zI (a_2006 (j : Int))))), (q_804, .inl (cA_804, 1000, .inl (fun j : Nat => zI (a_2003 (j : Int))))), (q_805, .inl (cA_805, 1000, .inl (fun j : Nat => zI (a_2004 (j : Int)))))] H := hP
    have hD : va_D A [(h0, .inr (8, [v8_0, .ref q_801, v8_2, v8_3, .ref q_804, .ref q_805, .int (zI (z_2005)), .int (zI (z8_given + 1))])), (q_801, .inl (cA_801, 1024, .inl (fun j : Nat => zI (a_2006 (j : Int))))), (q_804, .inl (cA_804, 1000, .inl (fun j : Nat => zI (a_2003 (j : Int))))), (q_805, .inl (cA_805, 1000, .inl (fun j : Nat => zI (a_2004 (j : Int)))))] := hD
    obtain ⟨z_2007, ez_2007⟩ : ∃ z9 : Int, z9 = z8_given + 1 := ⟨_, rfl⟩
    rw [← ez_2007] at hP hD
    have hP : va_P (dC, dI) vwP [(h0, .inr (8, [v8_0, .ref q_801, v8_2, v8_3, .ref q_804, .ref q_805, .int (zI (z_2005)), .int (zI (z_2007))])), (q_801, .inl (cA_801, 1024, .inl (fun j : Nat => zI (a_2006 (j : Int))))), (q_804, .inl (cA_804, 1000, .inl (fun j : Nat => zI (a_2003 (j : Int))))), (q_805, .inl (cA_805, 1000, .inl (fun j : Nat => zI (a_2004 (j : Int)))))] H := hP
    have hD : va_D A [(h0, .inr (8, [v8_0, .ref q_801, v8_2, v8_3, .ref q_804, .ref q_805, .int (zI (z_2005)), .int (zI (z_2007))])), (q_801, .inl (cA_801, 1024, .inl (fun j : Nat => zI (a_2006 (j : Int))))), (q_804, .inl (cA_804, 1000, .inl (fun j : Nat => zI (a_2003 (j : Int))))), (q_805, .inl (cA_805, 1000, .inl (fun j : Nat => zI (a_2004 (j : Int)))))] := hD
    refine lv_aload_n hx hb dX8_giveNew_65 rfl (lv_at hl 0 rfl) ?_
    refine va_get (D := (dC, dI)) (ci := 8) (v := .ref q_801) (C := RX8) (T := TX8) (N := 8) hx hb hts mem_X8_giveNew_0 hown hK hP 0 rfl rfl 1 (by decide) (ow (k := 1) rfl) (fun _ h9 => h9) rfl dX8_giveNew_66 ?_
    refine lv_iload_n hx hb dX8_giveNew_69 rfl (lv_at hl 1 rfl) ?_
    refine va_iald hx hb hK hP 1 0 rfl rfl (zI_in (a := r0) (n := 1024) (by omega) (by omega) (by decide)) dX8_giveNew_70 ?_
    refine lv_topi (fun z ez => ?_)
    obtain rfl : z = zI (a_2006 (r0)) := ez.trans (zI_ld (a_2006) (by omega) (by omega))
    have k3 := ra_2006 (r0)
    subst hQ
    refine W.widen (k := 0) (n := 0) (Nat.le_of_ble_eq_true rfl) (Nat.le_of_ble_eq_true rfl) ?_
    exact W.iret (v := (zI (a_2006 (r0)))) hx hb hr (fun t ht hW => ⟨⟨(zI (a_2006 (r0))), (), rfl, (by rw [ea_2006, zup_eq]), z_2005, z_2007, a_2006, a_2003, a_2004, ⟨(by omega), (by omega), ra_2006, ra_2003, ra_2004, ⟨ea_2006, ea_2003, ea_2004, by omega, by omega⟩⟩, by rw [ht]; exact hP, va_K.moved hW.alike hK, hD⟩, hS.F ht⟩) hS.2.2 dX8_giveNew_71
theorem dX8_renamed_0 : decode cX8_renamed 0 = .ok (.lload_n 1, 1) := by decide +kernel
theorem dX8_renamed_1 : decode cX8_renamed 1 = .ok (.invokestatic 197, 3) := by decide +kernel
theorem dX8_renamed_4 : decode cX8_renamed 4 = .ok (.ifCond .eq 20, 3) := by decide +kernel
theorem dX8_renamed_24 : decode cX8_renamed 24 = .ok (.lload_n 1, 1) := by decide +kernel
theorem dX8_renamed_25 : decode cX8_renamed 25 = .ok (.lreturn, 1) := by decide +kernel
theorem dX8_renamed_7 : decode cX8_renamed 7 = .ok (.ldc2_w 148, 3) := by decide +kernel
theorem dX8_renamed_10 : decode cX8_renamed 10 = .ok (.aload_n 0, 1) := by decide +kernel
theorem dX8_renamed_11 : decode cX8_renamed 11 = .ok (.getfield 15, 3) := by decide +kernel
theorem dX8_renamed_14 : decode cX8_renamed 14 = .ok (.lload_n 1, 1) := by decide +kernel
theorem dX8_renamed_15 : decode cX8_renamed 15 = .ok (.invokestatic 201, 3) := by decide +kernel
theorem dX8_renamed_18 : decode cX8_renamed 18 = .ok (.iaload, 1) := by decide +kernel
theorem dX8_renamed_19 : decode cX8_renamed 19 = .ok (.i2l, 1) := by decide +kernel
theorem dX8_renamed_20 : decode cX8_renamed 20 = .ok (.ladd, 1) := by decide +kernel
theorem dX8_renamed_21 : decode cX8_renamed 21 = .ok (.goto 4, 3) := by decide +kernel
def o_X8_renamed : List Cond := [.initialized RX11, .static yX11_isRegister, .constantLong RX8 148 (4294967296), .fieldLink RX8 15 "SsaForge$SsaMaker" "latest" "[I", .static yX11_registerOf]
def v_X8_renamed : List Cond := .code yX8_renamed cX8_renamed 3 (some .long) :: (o_X8_renamed ++ (v_X11_isRegister ++ (wsX80 ++ (v_X11_registerOf ++ []))))
theorem mow_X8_renamed : ∀ w ∈ o_X8_renamed, w ∈ v_X8_renamed := fun _ h => List.mem_cons_of_mem _ (List.mem_append_left _ h)
theorem mem_X8_renamed_0 : ∀ w ∈ v_X11_isRegister, w ∈ v_X8_renamed := fun _ h => List.mem_cons_of_mem _ (List.mem_append_right _ (List.mem_append_left _ h))
theorem mem_X8_renamed_1 : ∀ w ∈ wsX80, w ∈ v_X8_renamed := fun _ h => List.mem_cons_of_mem _ (List.mem_append_right _ (List.mem_append_right _ (List.mem_append_left _ h)))
theorem mem_X8_renamed_2 : ∀ w ∈ v_X11_registerOf, w ∈ v_X8_renamed := fun _ h => List.mem_cons_of_mem _ (List.mem_append_right _ (List.mem_append_right _ (List.mem_append_right _ (List.mem_append_left _ h))))
set_option maxRecDepth 20000 in
theorem gw_X8_renamed : v_X8_renamed.all goodWord = true := by decide +kernel
set_option maxHeartbeats 4000000 in
set_option maxRecDepth 100000 in
theorem c_X8_renamed (l : Launch) (dC : Nat → ClassId) (dI : Nat → Nat → Nat) (h0 : Nat) (v8_0 : Value) (q_801 : Nat) (cA_801 : ClassId) (a8_latest : Int → Int) (v8_2 : Value) (v8_3 : Value) (v8_4 : Value) (v8_5 : Value) (v8_6 : Value) (v8_7 : Value) (x : Int) (hR_a8_latest : ∀ j : Int, -1 ≤ a8_latest j ∧ a8_latest j ≤ 1023) (hNx : ((-2147483648 ≤ x ∧ x ≤ 4294968319) ∨ x = 1099511627776)) (sz : Nat) : Met l yX8_renamed v_X8_renamed ({ frames := 1, cells := 0, slots := 0, locals := 21 }) (va_Pc [.ref h0, .long (lI (x))] (fun U => U.heap.size = sz ∧ va_P (dC, dI) vwP [(h0, .inr (8, [v8_0, .ref q_801, v8_2, v8_3, v8_4, v8_5, v8_6, v8_7])), (q_801, .inl (cA_801, 1024, .inl (fun j : Nat => zI (a8_latest (j : Int)))))] U.heap ∧ va_K (dC, dI) vwP [(cA_801, .int)] U ∧ va_D (fun _ => True) [(h0, .inr (8, [v8_0, .ref q_801, v8_2, v8_3, v8_4, v8_5, v8_6, v8_7])), (q_801, .inl (cA_801, 1024, .inl (fun j : Nat => zI (a8_latest (j : Int)))))] ∧ va_Nw (.methodLinkNest RX8 197 yX11_isRegister "SsaForge") U ∧ va_Nw (.methodLinkNest RX8 201 yX11_registerOf "SsaForge") U)) (va_Ql (fun (r : Int64) (_ : Unit) => r = lI (RNF a8_latest (x))) (fun (_ : Unit) (t : State) => va_P (dC, dI) vwP [(h0, .inr (8, [v8_0, .ref q_801, v8_2, v8_3, v8_4, v8_5, v8_6, v8_7])), (q_801, .inl (cA_801, 1024, .inl (fun j : Nat => zI (a8_latest (j : Int)))))] t.heap ∧ va_K (dC, dI) vwP [(cA_801, .int)] t ∧ va_D (va_A [(h0, .inr (8, [v8_0, .ref q_801, v8_2, v8_3, v8_4, v8_5, v8_6, v8_7])), (q_801, .inl (cA_801, 1024, .inl (fun j : Nat => zI (a8_latest (j : Int)))))] sz) [(h0, .inr (8, [v8_0, .ref q_801, v8_2, v8_3, v8_4, v8_5, v8_6, v8_7])), (q_801, .inl (cA_801, 1024, .inl (fun j : Nat => zI (a8_latest (j : Int)))))]) (va_A [(h0, .inr (8, [v8_0, .ref q_801, v8_2, v8_3, v8_4, v8_5, v8_6, v8_7])), (q_801, .inl (cA_801, 1024, .inl (fun j : Nat => zI (a8_latest (j : Int)))))] sz)) 0 0 (va_A [(h0, .inr (8, [v8_0, .ref q_801, v8_2, v8_3, v8_4, v8_5, v8_6, v8_7])), (q_801, .inl (cA_801, 1024, .inl (fun j : Nat => zI (a8_latest (j : Int)))))] sz) := by
  refine Met.ofW (cc := cX8_renamed) (maxL := 3) (ret := (some .long)) (by decide) rfl ?_
  intro p e s m args below meth c s₁ B hml hv
  obtain ⟨rfl, hsz, hP, hK, hD0, hp0, hp1⟩ := hv
  have hx := B.exec
  have hb := B.bytes
  have hr := B.returns
  have hts := atoms_spec (ws := v_X8_renamed) B.pre
  have hown : s.vm.findClass RX8 = some m.cls := findClass_of_methodNamed B.named
  have hlocks := B.notSynchronized
  have ow : ∀ {k : Nat} {w : Cond}, o_X8_renamed[k]? = some w → w.before ([.ref h0, .long (lI (x))] : List Value).toArray s = true := fun h => hts _ (mow_X8_renamed _ (List.mem_of_getElem? h))
  subst hsz
  have hD := hD0.self (sz := s.heap.size)
  generalize hAe : va_A [(h0, .inr (8, [v8_0, .ref q_801, v8_2, v8_3, v8_4, v8_5, v8_6, v8_7])), (q_801, .inl (cA_801, 1024, .inl (fun j : Nat => zI (a8_latest (j : Int)))))] s.heap.size = A at hD ⊢
  have hA : ∀ q : Nat, s.heap.size ≤ q → A q := fun q h => by rw [← hAe]; exact Or.inr h
  have hS : va_S A s.heap s.heap [] := va_S.rf
  have hP : va_P (dC, dI) vwP [(h0, .inr (8, [v8_0, .ref q_801, v8_2, v8_3, v8_4, v8_5, v8_6, v8_7])), (q_801, .inl (cA_801, 1024, .inl (fun j : Nat => zI (a8_latest (j : Int)))))] s.heap := hP
  have hl := lv_entry ([.ref h0, .long (lI (x))]) (n := 3) (Nat.le_of_ble_eq_true rfl)
  rw [lg_entry_eq]
  generalize (lg_sl ([.ref h0, .long (lI (x))]) ++ List.replicate (3 - (lg_sl ([.ref h0, .long (lI (x))])).length) Slot.unset).toArray = ls at hl ⊢
  have hl : lv_has ls 3 [(0, .ref h0), (1, .long (lI (x)))] := hl
  obtain ⟨H, hH⟩ : ∃ H, H = s.heap := ⟨_, rfl⟩
  rw [← hH] at hP
  have hS : va_S A s.heap H [] := by rw [hH]; exact hS
  rw [← hH]
  refine zW_cap (fun Q hQ => ?_)
  refine lv_lload_n hx hb dX8_renamed_0 rfl (lv_at hl 1 rfl) ?_
  have hPc := hP.sub (ws' := []) [] rfl
  have hDc := hD.sub (ws' := []) [] (by decide) rfl
  have hKc := hK.sub (tys' := []) [] rfl
  have hFc := va_free (wc := []) hD hS hA [] rfl
  refine va_calli (va_runSN (As := [.long (lI (x))]) (rest := []) ⟨hx, hb, hml, hown, hts⟩ (c_X11_isRegister l dC dI x (by omega) H.size) ⟨va_cnB 1 hts (goodIn_sub mem_X8_renamed_0 gw_X11_isRegister) rfl rfl rfl hp0 (ow (k := 0) rfl) (by decide +kernel) ⟨(Nat.le_of_ble_eq_true rfl), (Nat.le_of_ble_eq_true rfl)⟩, (ow (k := 1) rfl), trivial⟩ ⟨fun a U g mk q => by obtain ⟨q0, q1, qP, qK, qD⟩ := q; exact ⟨q0, q1, qP, va_K.moved (u := U) (U := U.calling g mk a) (Vm.Alike.refl U.vm) qK, qD⟩, fun U hU hW => ⟨rfl, by rw [hU], by rw [hU]; exact hPc, va_K.moved hW.alike hKc, hDc.weaken (fun _ _ _ _ => trivial)⟩⟩ rfl rfl hl.1 rfl (lv_room (Nat.le_of_ble_eq_true rfl)) dX8_renamed_1 ⟨(Nat.le_of_ble_eq_true rfl), (Nat.le_of_ble_eq_true rfl)⟩) hS (fun q _ h => hFc q h) hFc (fun r_2001 u t H1 locs ht hvm hw hB hz1 hk1 hS => ?_)
  obtain ⟨hP1, hK1, hD1⟩ := hB
  rw [ht] at hP1
  have hK1 := va_K.moved hvm.symm hK1
  obtain ⟨hP, hD⟩ := va_join (wr := [(h0, .inr (8, [v8_0, .ref q_801, v8_2, v8_3, v8_4, v8_5, v8_6, v8_7])), (q_801, .inl (cA_801, 1024, .inl (fun j : Nat => zI (a8_latest (j : Int)))))]) (w1 := []) hP hD [] [0, 1] rfl rfl (by decide) (by decide) hk1 hFc hP1 hD1
  have hK := (hK.sub (tys' := [(cA_801, .int)]) [0] rfl).app hK1
  generalize H1 = H at hP hS ⊢
  have hP : va_P (dC, dI) vwP [(h0, .inr (8, [v8_0, .ref q_801, v8_2, v8_3, v8_4, v8_5, v8_6, v8_7])), (q_801, .inl (cA_801, 1024, .inl (fun j : Nat => zI (a8_latest (j : Int)))))] H := hP
  have hD : va_D A [(h0, .inr (8, [v8_0, .ref q_801, v8_2, v8_3, v8_4, v8_5, v8_6, v8_7])), (q_801, .inl (cA_801, 1024, .inl (fun j : Nat => zI (a8_latest (j : Int)))))] := hD
  have hK : va_K (dC, dI) vwP [(cA_801, .int)] s := hK
  refine W.widen (k := 0) (n := 0) (Nat.le_of_ble_eq_true rfl) (Nat.le_of_ble_eq_true rfl) ?_
  obtain rfl : r_2001 = (zI (isR (x))) := hw
  have := isR_spec (x)
  refine lv_if_eq (tgt := 24) hx hb dX8_renamed_4 (by decide) (fun b4 => ?_) (fun b4 => ?_)
  · have yb4 : (isR (x) : Int) = (0 : Int) := (zI_eq (a := isR (x)) (b := 0) (by omega) (by omega) (by omega) (by omega)).mp b4
    refine lv_lload_n hx hb dX8_renamed_24 rfl (lv_at hl 1 rfl) ?_
    subst hQ
    refine W.widen (k := 0) (n := 0) (Nat.le_of_ble_eq_true rfl) (Nat.le_of_ble_eq_true rfl) ?_
    exact W.lret (v := (lI (x))) hx hb hr (fun t ht hW => ⟨⟨(lI (x)), (), rfl, (congrArg lI (show (x : Int) = RNF a8_latest (x) by unfold RNF; split <;> omega)), by rw [ht]; exact hP, va_K.moved hW.alike hK, hD⟩, hS.F ht⟩) hS.2.2 dX8_renamed_25
  · have yb4 : ¬ (isR (x) : Int) = (0 : Int) := fun q => b4 ((zI_eq (a := isR (x)) (b := 0) (by omega) (by omega) (by omega) (by omega)).mpr q)
    refine lv_ldc2 (v := 4294967296) hx hb hown (ow (k := 2) rfl) dX8_renamed_7 ?_
    refine lv_topl (fun z ez => ?_)
    obtain rfl : z = lI (4294967296) := ez
    refine lv_aload_n hx hb dX8_renamed_10 rfl (lv_at hl 0 rfl) ?_
    refine va_get (D := (dC, dI)) (ci := 8) (v := .ref q_801) (C := RX8) (T := TX8) (N := 8) hx hb hts mem_X8_renamed_1 hown hK hP 0 rfl rfl 1 (by decide) (ow (k := 3) rfl) (fun _ h9 => h9) rfl dX8_renamed_11 ?_
    refine lv_lload_n hx hb dX8_renamed_14 rfl (lv_at hl 1 rfl) ?_
    have hPc := hP.sub (ws' := []) [] rfl
    have hDc := hD.sub (ws' := []) [] (by decide) rfl
    have hKc := hK.sub (tys' := []) [] rfl
    have hFc := va_free (wc := []) hD hS hA [] rfl
    refine va_calli (va_runSN (As := [.long (lI (x))]) (rest := [.ref q_801, .long (lI (4294967296))]) ⟨hx, hb, hml, hown, hts⟩ (c_X11_registerOf l dC dI x (by omega) H.size) ⟨va_cnB 1 hts (goodIn_sub mem_X8_renamed_2 gw_X11_registerOf) rfl rfl rfl hp1 (ow (k := 0) rfl) (by decide +kernel) ⟨(Nat.le_of_ble_eq_true rfl), (Nat.le_of_ble_eq_true rfl)⟩, (ow (k := 4) rfl), trivial⟩ ⟨fun a U g mk q => by obtain ⟨q0, q1, qP, qK, qD⟩ := q; exact ⟨q0, q1, qP, va_K.moved (u := U) (U := U.calling g mk a) (Vm.Alike.refl U.vm) qK, qD⟩, fun U hU hW => ⟨rfl, by rw [hU], by rw [hU]; exact hPc, va_K.moved hW.alike hKc, hDc.weaken (fun _ _ _ _ => trivial)⟩⟩ rfl rfl hl.1 rfl (lv_room (Nat.le_of_ble_eq_true rfl)) dX8_renamed_15 ⟨(Nat.le_of_ble_eq_true rfl), (Nat.le_of_ble_eq_true rfl)⟩) hS (fun q _ h => hFc q h) hFc (fun r_2002 u t H1 locs ht hvm hw hB hz1 hk1 hS => ?_)
    obtain ⟨hP1, hK1, hD1⟩ := hB
    rw [ht] at hP1
    have hK1 := va_K.moved hvm.symm hK1
    obtain ⟨hP, hD⟩ := va_join (wr := [(h0, .inr (8, [v8_0, .ref q_801, v8_2, v8_3, v8_4, v8_5, v8_6, v8_7])), (q_801, .inl (cA_801, 1024, .inl (fun j : Nat => zI (a8_latest (j : Int)))))]) (w1 := []) hP hD [] [0, 1] rfl rfl (by decide) (by decide) hk1 hFc hP1 hD1
    have hK := (hK.sub (tys' := [(cA_801, .int)]) [0] rfl).app hK1
    generalize H1 = H at hP hS ⊢
    have hP : va_P (dC, dI) vwP [(h0, .inr (8, [v8_0, .ref q_801, v8_2, v8_3, v8_4, v8_5, v8_6, v8_7])), (q_801, .inl (cA_801, 1024, .inl (fun j : Nat => zI (a8_latest (j : Int)))))] H := hP
    have hD : va_D A [(h0, .inr (8, [v8_0, .ref q_801, v8_2, v8_3, v8_4, v8_5, v8_6, v8_7])), (q_801, .inl (cA_801, 1024, .inl (fun j : Nat => zI (a8_latest (j : Int)))))] := hD
    have hK : va_K (dC, dI) vwP [(cA_801, .int)] s := hK
    refine W.widen (k := 0) (n := 0) (Nat.le_of_ble_eq_true rfl) (Nat.le_of_ble_eq_true rfl) ?_
    obtain rfl : r_2002 = (zI (x - 4294967296)) := hw
    refine va_iald hx hb hK hP 1 0 rfl rfl (zI_in (a := x - 4294967296) (n := 1024) (by omega) (by omega) (by decide)) dX8_renamed_18 ?_
    refine lv_topi (fun z ez => ?_)
    obtain rfl : z = zI (a8_latest (x - 4294967296)) := ez.trans (zI_ld (a8_latest) (by omega) (by omega))
    have k1 := hR_a8_latest (x - 4294967296)
    refine lv_i2l (v := lI (a8_latest (x - 4294967296))) hx hb dX8_renamed_19 (zI_l (a := a8_latest (x - 4294967296)) (by omega) (by omega)) ?_
    refine lv_ladd hx hb dX8_renamed_20 ?_
    refine lv_topl (fun z ez => ?_)
    obtain rfl : z = lI (4294967296 + (a8_latest (x - 4294967296))) := ez.trans (lI_add (4294967296) (a8_latest (x - 4294967296)))
    refine lv_goto (tgt := 25) hx hb dX8_renamed_21 (by decide) ?_
    subst hQ
    refine W.widen (k := 0) (n := 0) (Nat.le_of_ble_eq_true rfl) (Nat.le_of_ble_eq_true rfl) ?_
    exact W.lret (v := (lI (4294967296 + (a8_latest (x - 4294967296))))) hx hb hr (fun t ht hW => ⟨⟨(lI (4294967296 + (a8_latest (x - 4294967296)))), (), rfl, (congrArg lI (show (4294967296 + (a8_latest (x - 4294967296)) : Int) = RNF a8_latest (x) by unfold RNF; split <;> omega)), by rw [ht]; exact hP, va_K.moved hW.alike hK, hD⟩, hS.F ht⟩) hS.2.2 dX8_renamed_25
theorem dX8_uncover_0 : decode cX8_uncover 0 = .ok (.aload_n 0, 1) := by decide +kernel
theorem dX8_uncover_1 : decode cX8_uncover 1 = .ok (.getfield 31, 3) := by decide +kernel
theorem dX8_uncover_4 : decode cX8_uncover 4 = .ok (.iload_n 1, 1) := by decide +kernel
theorem dX8_uncover_5 : decode cX8_uncover 5 = .ok (.if_icmp .le 43, 3) := by decide +kernel
theorem dX8_uncover_48 : decode cX8_uncover 48 = .ok (.return_, 1) := by decide +kernel
theorem dX8_uncover_8 : decode cX8_uncover 8 = .ok (.aload_n 0, 1) := by decide +kernel
theorem dX8_uncover_9 : decode cX8_uncover 9 = .ok (.getfield 15, 3) := by decide +kernel
theorem dX8_uncover_12 : decode cX8_uncover 12 = .ok (.aload_n 0, 1) := by decide +kernel
theorem dX8_uncover_13 : decode cX8_uncover 13 = .ok (.getfield 25, 3) := by decide +kernel
theorem dX8_uncover_16 : decode cX8_uncover 16 = .ok (.aload_n 0, 1) := by decide +kernel
theorem dX8_uncover_17 : decode cX8_uncover 17 = .ok (.getfield 31, 3) := by decide +kernel
theorem dX8_uncover_20 : decode cX8_uncover 20 = .ok (.iconst 1, 1) := by decide +kernel
theorem dX8_uncover_21 : decode cX8_uncover 21 = .ok (.isub, 1) := by decide +kernel
theorem dX8_uncover_22 : decode cX8_uncover 22 = .ok (.iaload, 1) := by decide +kernel
theorem dX8_uncover_23 : decode cX8_uncover 23 = .ok (.aload_n 0, 1) := by decide +kernel
theorem dX8_uncover_24 : decode cX8_uncover 24 = .ok (.getfield 28, 3) := by decide +kernel
theorem dX8_uncover_27 : decode cX8_uncover 27 = .ok (.aload_n 0, 1) := by decide +kernel
theorem dX8_uncover_28 : decode cX8_uncover 28 = .ok (.getfield 31, 3) := by decide +kernel
theorem dX8_uncover_31 : decode cX8_uncover 31 = .ok (.iconst 1, 1) := by decide +kernel
theorem dX8_uncover_32 : decode cX8_uncover 32 = .ok (.isub, 1) := by decide +kernel
theorem dX8_uncover_33 : decode cX8_uncover 33 = .ok (.iaload, 1) := by decide +kernel
theorem dX8_uncover_34 : decode cX8_uncover 34 = .ok (.iastore, 1) := by decide +kernel
theorem dX8_uncover_35 : decode cX8_uncover 35 = .ok (.aload_n 0, 1) := by decide +kernel
theorem dX8_uncover_36 : decode cX8_uncover 36 = .ok (.dup, 1) := by decide +kernel
theorem dX8_uncover_37 : decode cX8_uncover 37 = .ok (.getfield 31, 3) := by decide +kernel
theorem dX8_uncover_40 : decode cX8_uncover 40 = .ok (.iconst 1, 1) := by decide +kernel
theorem dX8_uncover_41 : decode cX8_uncover 41 = .ok (.isub, 1) := by decide +kernel
theorem dX8_uncover_42 : decode cX8_uncover 42 = .ok (.putfield 31, 3) := by decide +kernel
theorem dX8_uncover_45 : decode cX8_uncover 45 = .ok (.goto (-45), 3) := by decide +kernel
def o_X8_uncover : List Cond := [.fieldLink RX8 31 "SsaForge$SsaMaker" "hidden" "I", .fieldLink RX8 15 "SsaForge$SsaMaker" "latest" "[I", .fieldLink RX8 25 "SsaForge$SsaMaker" "hiddenRegister" "[I", .fieldLink RX8 28 "SsaForge$SsaMaker" "hiddenLatest" "[I"]
def v_X8_uncover : List Cond := .code yX8_uncover cX8_uncover 2 none :: (o_X8_uncover ++ (wsX80 ++ []))
theorem mow_X8_uncover : ∀ w ∈ o_X8_uncover, w ∈ v_X8_uncover := fun _ h => List.mem_cons_of_mem _ (List.mem_append_left _ h)
theorem mem_X8_uncover_0 : ∀ w ∈ wsX80, w ∈ v_X8_uncover := fun _ h => List.mem_cons_of_mem _ (List.mem_append_right _ (List.mem_append_left _ h))
set_option maxRecDepth 20000 in
theorem gw_X8_uncover : v_X8_uncover.all goodWord = true := by decide +kernel
set_option maxHeartbeats 4000000 in
set_option maxRecDepth 100000 in
theorem c_X8_uncover (l : Launch) (dC : Nat → ClassId) (dI : Nat → Nat → Nat) (h0 : Nat) (v8_0 : Value) (q_801 : Nat) (cA_801 : ClassId) (a8_latest : Int → Int) (v8_2 : Value) (v8_3 : Value) (q_804 : Nat) (cA_804 : ClassId) (a8_hiddenRegister : Int → Int) (q_805 : Nat) (cA_805 : ClassId) (a8_hiddenLatest : Int → Int) (z8_hidden : Int) (v8_7 : Value) (mk : Int) (hR_a8_latest : ∀ j : Int, -1 ≤ a8_latest j ∧ a8_latest j ≤ 1023) (hR_a8_hiddenRegister : ∀ j : Int, 0 ≤ a8_hiddenRegister j ∧ a8_hiddenRegister j ≤ 1023) (hR_a8_hiddenLatest : ∀ j : Int, -1 ≤ a8_hiddenLatest j ∧ a8_hiddenLatest j ≤ 1023) (hNz8_hidden : 0 ≤ z8_hidden ∧ z8_hidden ≤ 1000) (hNm : 0 ≤ mk ∧ mk ≤ z8_hidden) (sz : Nat) : Met l yX8_uncover v_X8_uncover ({ frames := 0, cells := 0, slots := 0, locals := 0 }) (va_Pc [.ref h0, .int (zI (mk))] (fun U => U.heap.size = sz ∧ va_P (dC, dI) vwP [(h0, .inr (8, [v8_0, .ref q_801, v8_2, v8_3, .ref q_804, .ref q_805, .int (zI (z8_hidden)), v8_7])), (q_801, .inl (cA_801, 1024, .inl (fun j : Nat => zI (a8_latest (j : Int))))), (q_804, .inl (cA_804, 1000, .inl (fun j : Nat => zI (a8_hiddenRegister (j : Int))))), (q_805, .inl (cA_805, 1000, .inl (fun j : Nat => zI (a8_hiddenLatest (j : Int)))))] U.heap ∧ va_K (dC, dI) vwP [(cA_801, .int), (cA_804, .int), (cA_805, .int)] U ∧ va_D (fun _ => True) [(h0, .inr (8, [v8_0, .ref q_801, v8_2, v8_3, .ref q_804, .ref q_805, .int (zI (z8_hidden)), v8_7])), (q_801, .inl (cA_801, 1024, .inl (fun j : Nat => zI (a8_latest (j : Int))))), (q_804, .inl (cA_804, 1000, .inl (fun j : Nat => zI (a8_hiddenRegister (j : Int))))), (q_805, .inl (cA_805, 1000, .inl (fun j : Nat => zI (a8_hiddenLatest (j : Int)))))])) (va_Qv (fun _ : Unit => True) (fun (_ : Unit) (t : State) => ∃ (z0_9 : Int) (a1_9 : Int → Int), ((0 ≤ z0_9 ∧ z0_9 ≤ 1000) ∧ (∀ j : Int, -1 ≤ a1_9 j ∧ a1_9 j ≤ 1023) ∧ (a1_9 = und a8_hiddenRegister a8_hiddenLatest mk (z8_hidden - mk).toNat a8_latest ∧ z0_9 = mk)) ∧ va_P (dC, dI) vwP [(h0, .inr (8, [v8_0, .ref q_801, v8_2, v8_3, .ref q_804, .ref q_805, .int (zI (z0_9)), v8_7])), (q_801, .inl (cA_801, 1024, .inl (fun j : Nat => zI (a1_9 (j : Int))))), (q_804, .inl (cA_804, 1000, .inl (fun j : Nat => zI (a8_hiddenRegister (j : Int))))), (q_805, .inl (cA_805, 1000, .inl (fun j : Nat => zI (a8_hiddenLatest (j : Int)))))] t.heap ∧ va_K (dC, dI) vwP [(cA_801, .int), (cA_804, .int), (cA_805, .int)] t ∧ va_D (va_A [(h0, .inr (8, [v8_0, .ref q_801, v8_2, v8_3, .ref q_804, .ref q_805, .int (zI (z8_hidden)), v8_7])), (q_801, .inl (cA_801, 1024, .inl (fun j : Nat => zI (a8_latest (j : Int))))), (q_804, .inl (cA_804, 1000, .inl (fun j : Nat => zI (a8_hiddenRegister (j : Int))))), (q_805, .inl (cA_805, 1000, .inl (fun j : Nat => zI (a8_hiddenLatest (j : Int)))))] sz) [(h0, .inr (8, [v8_0, .ref q_801, v8_2, v8_3, .ref q_804, .ref q_805, .int (zI (z0_9)), v8_7])), (q_801, .inl (cA_801, 1024, .inl (fun j : Nat => zI (a1_9 (j : Int))))), (q_804, .inl (cA_804, 1000, .inl (fun j : Nat => zI (a8_hiddenRegister (j : Int))))), (q_805, .inl (cA_805, 1000, .inl (fun j : Nat => zI (a8_hiddenLatest (j : Int)))))]) (va_A [(h0, .inr (8, [v8_0, .ref q_801, v8_2, v8_3, .ref q_804, .ref q_805, .int (zI (z8_hidden)), v8_7])), (q_801, .inl (cA_801, 1024, .inl (fun j : Nat => zI (a8_latest (j : Int))))), (q_804, .inl (cA_804, 1000, .inl (fun j : Nat => zI (a8_hiddenRegister (j : Int))))), (q_805, .inl (cA_805, 1000, .inl (fun j : Nat => zI (a8_hiddenLatest (j : Int)))))] sz)) 0 0 (va_A [(h0, .inr (8, [v8_0, .ref q_801, v8_2, v8_3, .ref q_804, .ref q_805, .int (zI (z8_hidden)), v8_7])), (q_801, .inl (cA_801, 1024, .inl (fun j : Nat => zI (a8_latest (j : Int))))), (q_804, .inl (cA_804, 1000, .inl (fun j : Nat => zI (a8_hiddenRegister (j : Int))))), (q_805, .inl (cA_805, 1000, .inl (fun j : Nat => zI (a8_hiddenLatest (j : Int)))))] sz) := by
  refine Met.ofW (cc := cX8_uncover) (maxL := 2) (ret := none) (by decide) rfl ?_
  intro p e s m args below meth c s₁ B hml hv
  obtain ⟨rfl, hsz, hP, hK, hD0⟩ := hv
  have hx := B.exec
  have hb := B.bytes
  have hr := B.returns
  have hts := atoms_spec (ws := v_X8_uncover) B.pre
  have hown : s.vm.findClass RX8 = some m.cls := findClass_of_methodNamed B.named
  have hlocks := B.notSynchronized
  have ow : ∀ {k : Nat} {w : Cond}, o_X8_uncover[k]? = some w → w.before ([.ref h0, .int (zI (mk))] : List Value).toArray s = true := fun h => hts _ (mow_X8_uncover _ (List.mem_of_getElem? h))
  subst hsz
  have hD := hD0.self (sz := s.heap.size)
  generalize hAe : va_A [(h0, .inr (8, [v8_0, .ref q_801, v8_2, v8_3, .ref q_804, .ref q_805, .int (zI (z8_hidden)), v8_7])), (q_801, .inl (cA_801, 1024, .inl (fun j : Nat => zI (a8_latest (j : Int))))), (q_804, .inl (cA_804, 1000, .inl (fun j : Nat => zI (a8_hiddenRegister (j : Int))))), (q_805, .inl (cA_805, 1000, .inl (fun j : Nat => zI (a8_hiddenLatest (j : Int)))))] s.heap.size = A at hD ⊢
  have hA : ∀ q : Nat, s.heap.size ≤ q → A q := fun q h => by rw [← hAe]; exact Or.inr h
  have hS : va_S A s.heap s.heap [] := va_S.rf
  have hP : va_P (dC, dI) vwP [(h0, .inr (8, [v8_0, .ref q_801, v8_2, v8_3, .ref q_804, .ref q_805, .int (zI (z8_hidden)), v8_7])), (q_801, .inl (cA_801, 1024, .inl (fun j : Nat => zI (a8_latest (j : Int))))), (q_804, .inl (cA_804, 1000, .inl (fun j : Nat => zI (a8_hiddenRegister (j : Int))))), (q_805, .inl (cA_805, 1000, .inl (fun j : Nat => zI (a8_hiddenLatest (j : Int)))))] s.heap := hP
  have hl := lv_entry ([.ref h0, .int (zI (mk))]) (n := 2) (Nat.le_of_ble_eq_true rfl)
  rw [lg_entry_eq]
  generalize (lg_sl ([.ref h0, .int (zI (mk))]) ++ List.replicate (2 - (lg_sl ([.ref h0, .int (zI (mk))])).length) Slot.unset).toArray = ls at hl ⊢
  have hl : lv_has ls 2 [(0, .ref h0), (1, .int (zI (mk)))] := hl
  obtain ⟨H, hH⟩ : ∃ H, H = s.heap := ⟨_, rfl⟩
  rw [← hH] at hP
  have hS : va_S A s.heap H [] := by rw [hH]; exact hS
  rw [← hH]
  refine zW_cap (fun Q hQ => ?_)
  have key0 : ∀ n0 : Nat, ∀ (e0_0_6 : Int) (w0_801 : Int → Int) (ls : Array Slot) (H : Heap) (locs : List Loc), (0 ≤ e0_0_6 ∧ e0_0_6 ≤ 1000) → (∀ j : Int, -1 ≤ w0_801 j ∧ w0_801 j ≤ 1023) → (und a8_hiddenRegister a8_hiddenLatest mk (e0_0_6 - mk).toNat w0_801 = und a8_hiddenRegister a8_hiddenLatest mk (z8_hidden - mk).toNat a8_latest) → (mk ≤ e0_0_6 ∧ e0_0_6 ≤ z8_hidden) → (((e0_0_6) - (mk) : Int).toNat) < n0 → lv_has ls 2 [(0, .ref h0), (1, .int (zI (mk)))] → va_P (dC, dI) vwP [(h0, .inr (8, [v8_0, .ref q_801, v8_2, v8_3, .ref q_804, .ref q_805, .int (zI (e0_0_6)), v8_7])), (q_801, .inl (cA_801, 1024, .inl (fun j : Nat => zI (w0_801 (j : Int))))), (q_804, .inl (cA_804, 1000, .inl (fun j : Nat => zI (a8_hiddenRegister (j : Int))))), (q_805, .inl (cA_805, 1000, .inl (fun j : Nat => zI (a8_hiddenLatest (j : Int)))))] H → va_D A [(h0, .inr (8, [v8_0, .ref q_801, v8_2, v8_3, .ref q_804, .ref q_805, .int (zI (e0_0_6)), v8_7])), (q_801, .inl (cA_801, 1024, .inl (fun j : Nat => zI (w0_801 (j : Int))))), (q_804, .inl (cA_804, 1000, .inl (fun j : Nat => zI (a8_hiddenRegister (j : Int))))), (q_805, .inl (cA_805, 1000, .inl (fun j : Nat => zI (a8_hiddenLatest (j : Int)))))] → va_S A s.heap H locs → W p l e (headSpec v_X8_uncover ({ frames := 0, cells := 0, slots := 0, locals := 0 })).room s m ([.ref h0, .int (zI (mk))] : List Value).toArray below meth c H locs 0 0 Q (F0 m 0 ls []) := by
    intro n0
    induction n0 with
    | zero => intro e0_0_6 w0_801 ls H locs je0_0_6 jw0_801 jU jh hm0; exact absurd hm0 (by omega)
    | succ n0 ih0 =>
      intro e0_0_6 w0_801 ls H locs je0_0_6 jw0_801 jU jh hm0 hl hP hD hS
      refine lv_aload_n hx hb dX8_uncover_0 rfl (lv_at hl 0 rfl) ?_
      refine va_get (D := (dC, dI)) (ci := 8) (v := .int (zI (e0_0_6))) (C := RX8) (T := TX8) (N := 8) hx hb hts mem_X8_uncover_0 hown hK hP 0 rfl rfl 6 (by decide) (ow (k := 0) rfl) (fun _ h9 => h9) rfl dX8_uncover_1 ?_
      refine lv_iload_n hx hb dX8_uncover_4 rfl (lv_at hl 1 rfl) ?_
      refine lv_icmp_le (tgt := 48) hx hb dX8_uncover_5 (by decide) (fun b5 => ?_) (fun b5 => ?_)
      · have yb5 : (e0_0_6 : Int) ≤ (mk : Int) := (zI_le (a := e0_0_6) (b := mk) (by omega) (by omega) (by omega) (by omega)).mp b5
        subst hQ
        refine W.widen (k := 0) (n := 0) (Nat.le_of_ble_eq_true rfl) (Nat.le_of_ble_eq_true rfl) ?_
        exact W.vret hx hb hr (fun t ht hW => ⟨⟨(), rfl, trivial, e0_0_6, w0_801, ⟨(by omega), jw0_801, ⟨by rw [← jU, show (e0_0_6 - mk).toNat = 0 by omega]; rfl, by omega⟩⟩, by rw [ht]; exact hP, va_K.moved hW.alike hK, hD⟩, hS.F ht⟩) hS.2.2 dX8_uncover_48
      · have yb5 : ¬ (e0_0_6 : Int) ≤ (mk : Int) := fun q => b5 ((zI_le (a := e0_0_6) (b := mk) (by omega) (by omega) (by omega) (by omega)).mpr q)
        refine lv_aload_n hx hb dX8_uncover_8 rfl (lv_at hl 0 rfl) ?_
        refine va_get (D := (dC, dI)) (ci := 8) (v := .ref q_801) (C := RX8) (T := TX8) (N := 8) hx hb hts mem_X8_uncover_0 hown hK hP 0 rfl rfl 1 (by decide) (ow (k := 1) rfl) (fun _ h9 => h9) rfl dX8_uncover_9 ?_
        refine lv_aload_n hx hb dX8_uncover_12 rfl (lv_at hl 0 rfl) ?_
        refine va_get (D := (dC, dI)) (ci := 8) (v := .ref q_804) (C := RX8) (T := TX8) (N := 8) hx hb hts mem_X8_uncover_0 hown hK hP 0 rfl rfl 4 (by decide) (ow (k := 2) rfl) (fun _ h9 => h9) rfl dX8_uncover_13 ?_
        refine lv_aload_n hx hb dX8_uncover_16 rfl (lv_at hl 0 rfl) ?_
        refine va_get (D := (dC, dI)) (ci := 8) (v := .int (zI (e0_0_6))) (C := RX8) (T := TX8) (N := 8) hx hb hts mem_X8_uncover_0 hown hK hP 0 rfl rfl 6 (by decide) (ow (k := 0) rfl) (fun _ h9 => h9) rfl dX8_uncover_17 ?_
        refine lv_iconst (v := 1) hx hb dX8_uncover_20 (by decide) ?_
        refine lv_isub hx hb dX8_uncover_21 ?_
        refine lv_topi (fun z ez => ?_)
        obtain rfl : z = zI (e0_0_6 - 1) := ez.trans (zI_sub (e0_0_6) (1))
        refine va_iald hx hb hK hP 2 1 rfl rfl (zI_in (a := e0_0_6 - 1) (n := 1000) (by omega) (by omega) (by decide)) dX8_uncover_22 ?_
        refine lv_topi (fun z ez => ?_)
        obtain rfl : z = zI (a8_hiddenRegister (e0_0_6 - 1)) := ez.trans (zI_ld (a8_hiddenRegister) (by omega) (by omega))
        have k1 := hR_a8_hiddenRegister (e0_0_6 - 1)
        refine lv_aload_n hx hb dX8_uncover_23 rfl (lv_at hl 0 rfl) ?_
        refine va_get (D := (dC, dI)) (ci := 8) (v := .ref q_805) (C := RX8) (T := TX8) (N := 8) hx hb hts mem_X8_uncover_0 hown hK hP 0 rfl rfl 5 (by decide) (ow (k := 3) rfl) (fun _ h9 => h9) rfl dX8_uncover_24 ?_
        refine lv_aload_n hx hb dX8_uncover_27 rfl (lv_at hl 0 rfl) ?_
        refine va_get (D := (dC, dI)) (ci := 8) (v := .int (zI (e0_0_6))) (C := RX8) (T := TX8) (N := 8) hx hb hts mem_X8_uncover_0 hown hK hP 0 rfl rfl 6 (by decide) (ow (k := 0) rfl) (fun _ h9 => h9) rfl dX8_uncover_28 ?_
        refine lv_iconst (v := 1) hx hb dX8_uncover_31 (by decide) ?_
        refine lv_isub hx hb dX8_uncover_32 ?_
        refine lv_topi (fun z ez => ?_)
        obtain rfl : z = zI (e0_0_6 - 1) := ez.trans (zI_sub (e0_0_6) (1))
        refine va_iald hx hb hK hP 3 2 rfl rfl (zI_in (a := e0_0_6 - 1) (n := 1000) (by omega) (by omega) (by decide)) dX8_uncover_33 ?_
        refine lv_topi (fun z ez => ?_)
        obtain rfl : z = zI (a8_hiddenLatest (e0_0_6 - 1)) := ez.trans (zI_ld (a8_hiddenLatest) (by omega) (by omega))
        have k2 := hR_a8_hiddenLatest (e0_0_6 - 1)
        refine va_iast (i := zI (a8_hiddenRegister (e0_0_6 - 1))) hx hb hK hP hD hS 1 0 rfl rfl (zI_in (a := a8_hiddenRegister (e0_0_6 - 1)) (n := 1024) (by omega) (by omega) (by decide)) dX8_uncover_34 (fun H locs hP hD hS => ?_)
        have eQ : upd (fun j : Nat => zI (w0_801 (j : Int))) (zI (a8_hiddenRegister (e0_0_6 - 1))).toNatClampNeg (zI (a8_hiddenLatest (e0_0_6 - 1))) = (fun j : Nat => zI (zup w0_801 (a8_hiddenRegister (e0_0_6 - 1)) (a8_hiddenLatest (e0_0_6 - 1)) (j : Int))) := zI_st w0_801 (e := a8_hiddenRegister (e0_0_6 - 1)) (v := a8_hiddenLatest (e0_0_6 - 1)) (by omega) (by omega)
        rw [eQ] at hP hD
        clear eQ
        have ra_2001 : ∀ j : Int, -1 ≤ zup w0_801 (a8_hiddenRegister (e0_0_6 - 1)) (a8_hiddenLatest (e0_0_6 - 1)) j ∧ zup w0_801 (a8_hiddenRegister (e0_0_6 - 1)) (a8_hiddenLatest (e0_0_6 - 1)) j ≤ 1023 := zup_P (P := fun x9 => -1 ≤ x9 ∧ x9 ≤ 1023) jw0_801 (show -1 ≤ (a8_hiddenLatest (e0_0_6 - 1)) ∧ (a8_hiddenLatest (e0_0_6 - 1)) ≤ 1023 by omega)
        obtain ⟨a_2001, ea_2001⟩ : ∃ a9 : Int → Int, a9 = zup w0_801 (a8_hiddenRegister (e0_0_6 - 1)) (a8_hiddenLatest (e0_0_6 - 1)) := ⟨_, rfl⟩
        rw [← ea_2001] at hP hD ra_2001
        have hP : va_P (dC, dI) vwP [(h0, .inr (8, [v8_0, .ref q_801, v8_2, v8_3, .ref q_804, .ref q_805, .int (zI (e0_0_6)), v8_7])), (q_801, .inl (cA_801, 1024, .inl (fun j : Nat => zI (a_2001 (j : Int))))), (q_804, .inl (cA_804, 1000, .inl (fun j : Nat => zI (a8_hiddenRegister (j : Int))))), (q_805, .inl (cA_805, 1000, .inl (fun j : Nat => zI (a8_hiddenLatest (j : Int)))))] H := hP
        have hD : va_D A [(h0, .inr (8, [v8_0, .ref q_801, v8_2, v8_3, .ref q_804, .ref q_805, .int (zI (e0_0_6)), v8_7])), (q_801, .inl (cA_801, 1024, .inl (fun j : Nat => zI (a_2001 (j : Int))))), (q_804, .inl (cA_804, 1000, .inl (fun j : Nat => zI (a8_hiddenRegister (j : Int))))), (q_805, .inl (cA_805, 1000, .inl (fun j : Nat => zI (a8_hiddenLatest (j : Int)))))] := hD
        refine lv_aload_n hx hb dX8_uncover_35 rfl (lv_at hl 0 rfl) ?_
        refine lv_dup hx hb dX8_uncover_36 rfl ?_
        refine va_get (D := (dC, dI)) (ci := 8) (v := .int (zI (e0_0_6))) (C := RX8) (T := TX8) (N := 8) hx hb hts mem_X8_uncover_0 hown hK hP 0 rfl rfl 6 (by decide) (ow (k := 0) rfl) (fun _ h9 => h9) rfl dX8_uncover_37 ?_
        refine lv_iconst (v := 1) hx hb dX8_uncover_40 (by decide) ?_
        refine lv_isub hx hb dX8_uncover_41 ?_
        refine lv_topi (fun z ez => ?_)
        obtain rfl : z = zI (e0_0_6 - 1) := ez.trans (zI_sub (e0_0_6) (1))
        refine va_put (D := (dC, dI)) (ci := 8) (v := .int (zI (e0_0_6 - 1))) (ty := .int) (C := RX8) (T := TX8) (N := 8) hx hb hts mem_X8_uncover_0 tyX8 tyX8_ok nmX8 hown hK hP hD hS 0 rfl rfl 6 (by decide) (ow (k := 0) rfl) (fun _ h9 => h9) rfl (by decide +kernel) rfl rfl (Nat.le_of_ble_eq_true rfl) dX8_uncover_42 (fun H locs hP hD hS => ?_)
        have hP : va_P (dC, dI) vwP [(h0, .inr (8, [v8_0, .ref q_801, v8_2, v8_3, .ref q_804, .ref q_805, .int (zI (e0_0_6 - 1)), v8_7])), (q_801, .inl (cA_801, 1024, .inl (fun j : Nat => zI (a_2001 (j : Int))))), (q_804, .inl (cA_804, 1000, .inl (fun j : Nat => zI (a8_hiddenRegister (j : Int))))), (q_805, .inl (cA_805, 1000, .inl (fun j : Nat => zI (a8_hiddenLatest (j : Int)))))] H := hP
        have hD : va_D A [(h0, .inr (8, [v8_0, .ref q_801, v8_2, v8_3, .ref q_804, .ref q_805, .int (zI (e0_0_6 - 1)), v8_7])), (q_801, .inl (cA_801, 1024, .inl (fun j : Nat => zI (a_2001 (j : Int))))), (q_804, .inl (cA_804, 1000, .inl (fun j : Nat => zI (a8_hiddenRegister (j : Int))))), (q_805, .inl (cA_805, 1000, .inl (fun j : Nat => zI (a8_hiddenLatest (j : Int)))))] := hD
        obtain ⟨z_2002, ez_2002⟩ : ∃ z9 : Int, z9 = e0_0_6 - 1 := ⟨_, rfl⟩
        rw [← ez_2002] at hP hD
        have hP : va_P (dC, dI) vwP [(h0, .inr (8, [v8_0, .ref q_801, v8_2, v8_3, .ref q_804, .ref q_805, .int (zI (z_2002)), v8_7])), (q_801, .inl (cA_801, 1024, .inl (fun j : Nat => zI (a_2001 (j : Int))))), (q_804, .inl (cA_804, 1000, .inl (fun j : Nat => zI (a8_hiddenRegister (j : Int))))), (q_805, .inl (cA_805, 1000, .inl (fun j : Nat => zI (a8_hiddenLatest (j : Int)))))] H := hP
        have hD : va_D A [(h0, .inr (8, [v8_0, .ref q_801, v8_2, v8_3, .ref q_804, .ref q_805, .int (zI (z_2002)), v8_7])), (q_801, .inl (cA_801, 1024, .inl (fun j : Nat => zI (a_2001 (j : Int))))), (q_804, .inl (cA_804, 1000, .inl (fun j : Nat => zI (a8_hiddenRegister (j : Int))))), (q_805, .inl (cA_805, 1000, .inl (fun j : Nat => zI (a8_hiddenLatest (j : Int)))))] := hD
        refine lv_goto (tgt := 0) hx hb dX8_uncover_45 (by decide) ?_
        exact ih0 z_2002 a_2001 ls H _ (by omega) ra_2001 (by rw [ea_2001, ez_2002, ← und_step _ _ _ _ _ (by omega)]; exact jU) (by omega) (by omega) (lv_sub hl [0, 1] rfl) hP hD hS
  exact key0 (((z8_hidden) - (mk) : Int).toNat + 1) z8_hidden a8_latest ls H _ (by omega) hR_a8_latest rfl (by omega) (by omega) (lv_sub hl [0, 1] rfl) hP hD hS
theorem dX8_renameArgs_0 : decode cX8_renameArgs 0 = .ok (.aload_n 1, 1) := by decide +kernel
theorem dX8_renameArgs_1 : decode cX8_renameArgs 1 = .ok (.iload_n 2, 1) := by decide +kernel
theorem dX8_renameArgs_2 : decode cX8_renameArgs 2 = .ok (.iload_n 3, 1) := by decide +kernel
theorem dX8_renameArgs_3 : decode cX8_renameArgs 3 = .ok (.invokevirtual 194, 3) := by decide +kernel
theorem dX8_renameArgs_6 : decode cX8_renameArgs 6 = .ok (.istore 4, 2) := by decide +kernel
theorem dX8_renameArgs_8 : decode cX8_renameArgs 8 = .ok (.iload 4, 2) := by decide +kernel
theorem dX8_renameArgs_10 : decode cX8_renameArgs 10 = .ok (.ifCond .ge 4, 3) := by decide +kernel
theorem dX8_renameArgs_14 : decode cX8_renameArgs 14 = .ok (.aload_n 1, 1) := by decide +kernel
theorem dX8_renameArgs_15 : decode cX8_renameArgs 15 = .ok (.getfield 130, 3) := by decide +kernel
theorem dX8_renameArgs_18 : decode cX8_renameArgs 18 = .ok (.iload_n 2, 1) := by decide +kernel
theorem dX8_renameArgs_19 : decode cX8_renameArgs 19 = .ok (.iaload, 1) := by decide +kernel
theorem dX8_renameArgs_20 : decode cX8_renameArgs 20 = .ok (.istore 5, 2) := by decide +kernel
theorem dX8_renameArgs_22 : decode cX8_renameArgs 22 = .ok (.iload 5, 2) := by decide +kernel
theorem dX8_renameArgs_24 : decode cX8_renameArgs 24 = .ok (.aload_n 1, 1) := by decide +kernel
theorem dX8_renameArgs_25 : decode cX8_renameArgs 25 = .ok (.getfield 130, 3) := by decide +kernel
theorem dX8_renameArgs_28 : decode cX8_renameArgs 28 = .ok (.iload_n 2, 1) := by decide +kernel
theorem dX8_renameArgs_29 : decode cX8_renameArgs 29 = .ok (.iconst 1, 1) := by decide +kernel
theorem dX8_renameArgs_30 : decode cX8_renameArgs 30 = .ok (.iadd, 1) := by decide +kernel
theorem dX8_renameArgs_31 : decode cX8_renameArgs 31 = .ok (.iaload, 1) := by decide +kernel
theorem dX8_renameArgs_32 : decode cX8_renameArgs 32 = .ok (.if_icmp .ge 43, 3) := by decide +kernel
theorem dX8_renameArgs_75 : decode cX8_renameArgs 75 = .ok (.return_, 1) := by decide +kernel
theorem dX8_renameArgs_35 : decode cX8_renameArgs 35 = .ok (.aload_n 1, 1) := by decide +kernel
theorem dX8_renameArgs_36 : decode cX8_renameArgs 36 = .ok (.getfield 145, 3) := by decide +kernel
theorem dX8_renameArgs_39 : decode cX8_renameArgs 39 = .ok (.aload_n 1, 1) := by decide +kernel
theorem dX8_renameArgs_40 : decode cX8_renameArgs 40 = .ok (.getfield 139, 3) := by decide +kernel
theorem dX8_renameArgs_43 : decode cX8_renameArgs 43 = .ok (.iload 5, 2) := by decide +kernel
theorem dX8_renameArgs_45 : decode cX8_renameArgs 45 = .ok (.iaload, 1) := by decide +kernel
theorem dX8_renameArgs_46 : decode cX8_renameArgs 46 = .ok (.iload 4, 2) := by decide +kernel
theorem dX8_renameArgs_48 : decode cX8_renameArgs 48 = .ok (.iadd, 1) := by decide +kernel
theorem dX8_renameArgs_49 : decode cX8_renameArgs 49 = .ok (.aload_n 0, 1) := by decide +kernel
theorem dX8_renameArgs_50 : decode cX8_renameArgs 50 = .ok (.aload_n 1, 1) := by decide +kernel
theorem dX8_renameArgs_51 : decode cX8_renameArgs 51 = .ok (.getfield 145, 3) := by decide +kernel
theorem dX8_renameArgs_54 : decode cX8_renameArgs 54 = .ok (.aload_n 1, 1) := by decide +kernel
theorem dX8_renameArgs_55 : decode cX8_renameArgs 55 = .ok (.getfield 139, 3) := by decide +kernel
theorem dX8_renameArgs_58 : decode cX8_renameArgs 58 = .ok (.iload 5, 2) := by decide +kernel
theorem dX8_renameArgs_60 : decode cX8_renameArgs 60 = .ok (.iaload, 1) := by decide +kernel
theorem dX8_renameArgs_61 : decode cX8_renameArgs 61 = .ok (.iload 4, 2) := by decide +kernel
theorem dX8_renameArgs_63 : decode cX8_renameArgs 63 = .ok (.iadd, 1) := by decide +kernel
theorem dX8_renameArgs_64 : decode cX8_renameArgs 64 = .ok (.laload, 1) := by decide +kernel
theorem dX8_renameArgs_65 : decode cX8_renameArgs 65 = .ok (.invokevirtual 174, 3) := by decide +kernel
theorem dX8_renameArgs_68 : decode cX8_renameArgs 68 = .ok (.lastore, 1) := by decide +kernel
theorem dX8_renameArgs_69 : decode cX8_renameArgs 69 = .ok (.iinc 5 1, 3) := by decide +kernel
theorem dX8_renameArgs_72 : decode cX8_renameArgs 72 = .ok (.goto (-50), 3) := by decide +kernel
theorem dX8_renameArgs_13 : decode cX8_renameArgs 13 = .ok (.return_, 1) := by decide +kernel
def o_X8_renameArgs : List Cond := [.methodLink RX8 194 yX0_predIndex, .instanceMethod yX0_predIndex, .selects RX0 yX0_predIndex yX0_predIndex, .initialized RX0, .fieldLink RX8 130 "SsaForge$Code" "phiStart" "[I", .fieldLink RX8 145 "SsaForge$Code" "args" "[J", .fieldLink RX8 139 "SsaForge$Code" "argStart" "[I", .methodLink RX8 174 yX8_renamed, .instanceMethod yX8_renamed, .selects RX8 yX8_renamed yX8_renamed, .initialized RX8]
def v_X8_renameArgs : List Cond := .code yX8_renameArgs cX8_renameArgs 6 none :: (o_X8_renameArgs ++ (v_X0_predIndexL ++ (wsX00 ++ (v_X8_renamed ++ []))))
theorem mow_X8_renameArgs : ∀ w ∈ o_X8_renameArgs, w ∈ v_X8_renameArgs := fun _ h => List.mem_cons_of_mem _ (List.mem_append_left _ h)
theorem mem_X8_renameArgs_0 : ∀ w ∈ v_X0_predIndexL, w ∈ v_X8_renameArgs := fun _ h => List.mem_cons_of_mem _ (List.mem_append_right _ (List.mem_append_left _ h))
theorem mem_X8_renameArgs_1 : ∀ w ∈ wsX00, w ∈ v_X8_renameArgs := fun _ h => List.mem_cons_of_mem _ (List.mem_append_right _ (List.mem_append_right _ (List.mem_append_left _ h)))
theorem mem_X8_renameArgs_2 : ∀ w ∈ v_X8_renamed, w ∈ v_X8_renameArgs := fun _ h => List.mem_cons_of_mem _ (List.mem_append_right _ (List.mem_append_right _ (List.mem_append_right _ (List.mem_append_left _ h))))
set_option maxRecDepth 20000 in
theorem gw_X8_renameArgs : v_X8_renameArgs.all goodWord = true := by decide +kernel
set_option maxRecDepth 20000 in
theorem g_X8_renameArgs_X0_predIndexL : GoodIn v_X8_renameArgs (wsV RX8 194 RX0 yX0_predIndex v_X0_predIndexL) := goodIn_app (goodIn_sub (fun w h => mow_X8_renameArgs w (by revert w h; decide +kernel)) (by decide +kernel)) (goodIn_sub mem_X8_renameArgs_0 gw_X0_predIndexL)
set_option maxRecDepth 20000 in
theorem g_X8_renameArgs_X8_renamed : GoodIn v_X8_renameArgs (wsV RX8 174 RX8 yX8_renamed v_X8_renamed) := goodIn_app (goodIn_sub (fun w h => mow_X8_renameArgs w (by revert w h; decide +kernel)) (by decide +kernel)) (goodIn_sub mem_X8_renameArgs_2 gw_X8_renamed)
set_option maxHeartbeats 4000000 in
set_option maxRecDepth 100000 in
theorem c_X8_renameArgs (l : Launch) (dC : Nat → ClassId) (dI : Nat → Nat → Nat) (h0 : Nat) (v8_0 : Value) (q_801 : Nat) (cA_801 : ClassId) (a8_latest : Int → Int) (v8_2 : Value) (v8_3 : Value) (v8_4 : Value) (v8_5 : Value) (v8_6 : Value) (v8_7 : Value) (hc : Nat) (B1 : Int) (v_1 : Value) (v_2 : Value) (v_3 : Value) (v_4 : Value) (v_5 : Value) (v_6 : Value) (v_7 : Value) (v_8 : Value) (v_9 : Value) (v_10 : Value) (v_11 : Value) (v_12 : Value) (q_713 : Nat) (cA_713 : ClassId) (a_13 : Int → Int) (q_714 : Nat) (cA_714 : ClassId) (a_14 : Int → Int) (q_715 : Nat) (cA_715 : ClassId) (a_15 : Int → Int) (v_16 : Value) (q_717 : Nat) (cA_717 : ClassId) (a_17 : Int → Int) (q_718 : Nat) (cA_718 : ClassId) (na1 : Nat) (a_18 : Int → Int) (b : Int) (pp : Int) (a_9 : Int → Int) (a_11 : Int → Int) (a_12 : Int → Int) (hR_a8_latest : ∀ j : Int, -1 ≤ a8_latest j ∧ a8_latest j ≤ 1023) (hNB1 : 0 ≤ B1 ∧ B1 ≤ 300) (hR_a_13 : ∀ j : Int, 0 ≤ a_13 j ∧ a_13 j ≤ 600) (hR_a_14 : ∀ j : Int, 0 ≤ a_14 j ∧ a_14 j ≤ 299) (hR_a_15 : ∀ j : Int, 0 ≤ a_15 j ∧ a_15 j ≤ 1000) (hR_a_17 : ∀ j : Int, 0 ≤ a_17 j ∧ a_17 j ≤ 60000) (hNna1 : na1 ≤ 60000) (hR_a_18 : ∀ j : Int, ((-2147483648 ≤ a_18 j ∧ a_18 j ≤ 4294968319) ∨ a_18 j = 1099511627776)) (hNb : 0 ≤ b ∧ b < B1) (hNpp : 0 ≤ pp ∧ pp < B1) (hX_A : ∀ b i : Int, 0 ≤ b → b < B1 → a_15 b ≤ i → i < a_15 (b + 1) → a_17 i + (a_13 (b + 1) - a_13 b) ≤ na1) (hX_M : AMF B1 a_15 a_13 a_17) (hX_L : PL a_9 a_11 a_12 B1 a_13 a_14) (sz : Nat) : Met l yX8_renameArgs v_X8_renameArgs ({ frames := 2, cells := 0, slots := 0, locals := 43 }) (va_Pc [.ref h0, .ref hc, .int (zI (b)), .int (zI (pp))] (fun U => U.heap.size = sz ∧ va_P (dC, dI) vwP [(h0, .inr (8, [v8_0, .ref q_801, v8_2, v8_3, v8_4, v8_5, v8_6, v8_7])), (q_801, .inl (cA_801, 1024, .inl (fun j : Nat => zI (a8_latest (j : Int))))), (hc, .inr (0, [.int (zI (B1)), v_1, v_2, v_3, v_4, v_5, v_6, v_7, v_8, v_9, v_10, v_11, v_12, .ref q_713, .ref q_714, .ref q_715, v_16, .ref q_717, .ref q_718])), (q_713, .inl (cA_713, 301, .inl (fun j : Nat => zI (a_13 (j : Int))))), (q_714, .inl (cA_714, 600, .inl (fun j : Nat => zI (a_14 (j : Int))))), (q_715, .inl (cA_715, 301, .inl (fun j : Nat => zI (a_15 (j : Int))))), (q_717, .inl (cA_717, 1000, .inl (fun j : Nat => zI (a_17 (j : Int))))), (q_718, .inl (cA_718, na1, .inr (.inl (fun j : Nat => lI (a_18 (j : Int))))))] U.heap ∧ va_K (dC, dI) vwP [(cA_801, .int), (cA_713, .int), (cA_714, .int), (cA_715, .int), (cA_717, .int), (cA_718, .long)] U ∧ va_D (fun _ => True) [(h0, .inr (8, [v8_0, .ref q_801, v8_2, v8_3, v8_4, v8_5, v8_6, v8_7])), (q_801, .inl (cA_801, 1024, .inl (fun j : Nat => zI (a8_latest (j : Int))))), (hc, .inr (0, [.int (zI (B1)), v_1, v_2, v_3, v_4, v_5, v_6, v_7, v_8, v_9, v_10, v_11, v_12, .ref q_713, .ref q_714, .ref q_715, v_16, .ref q_717, .ref q_718])), (q_713, .inl (cA_713, 301, .inl (fun j : Nat => zI (a_13 (j : Int))))), (q_714, .inl (cA_714, 600, .inl (fun j : Nat => zI (a_14 (j : Int))))), (q_715, .inl (cA_715, 301, .inl (fun j : Nat => zI (a_15 (j : Int))))), (q_717, .inl (cA_717, 1000, .inl (fun j : Nat => zI (a_17 (j : Int))))), (q_718, .inl (cA_718, na1, .inr (.inl (fun j : Nat => lI (a_18 (j : Int))))))] ∧ va_Nw (.methodLinkNest RX8 197 yX11_isRegister "SsaForge") U ∧ va_Nw (.methodLinkNest RX8 201 yX11_registerOf "SsaForge") U)) (va_Qv (fun _ : Unit => True) (fun (_ : Unit) (t : State) => ∃ (a0_9 : Int → Int), ((∀ j : Int, ((-2147483648 ≤ a0_9 j ∧ a0_9 j ≤ 4294968319) ∨ a0_9 j = 1099511627776)) ∧ (RAE a_15 a_13 a_14 a_17 a_18 a0_9 a8_latest (b) (pp))) ∧ va_P (dC, dI) vwP [(h0, .inr (8, [v8_0, .ref q_801, v8_2, v8_3, v8_4, v8_5, v8_6, v8_7])), (q_801, .inl (cA_801, 1024, .inl (fun j : Nat => zI (a8_latest (j : Int))))), (hc, .inr (0, [.int (zI (B1)), v_1, v_2, v_3, v_4, v_5, v_6, v_7, v_8, v_9, v_10, v_11, v_12, .ref q_713, .ref q_714, .ref q_715, v_16, .ref q_717, .ref q_718])), (q_713, .inl (cA_713, 301, .inl (fun j : Nat => zI (a_13 (j : Int))))), (q_714, .inl (cA_714, 600, .inl (fun j : Nat => zI (a_14 (j : Int))))), (q_715, .inl (cA_715, 301, .inl (fun j : Nat => zI (a_15 (j : Int))))), (q_717, .inl (cA_717, 1000, .inl (fun j : Nat => zI (a_17 (j : Int))))), (q_718, .inl (cA_718, na1, .inr (.inl (fun j : Nat => lI (a0_9 (j : Int))))))] t.heap ∧ va_K (dC, dI) vwP [(cA_801, .int), (cA_713, .int), (cA_714, .int), (cA_715, .int), (cA_717, .int), (cA_718, .long)] t ∧ va_D (va_A [(h0, .inr (8, [v8_0, .ref q_801, v8_2, v8_3, v8_4, v8_5, v8_6, v8_7])), (q_801, .inl (cA_801, 1024, .inl (fun j : Nat => zI (a8_latest (j : Int))))), (hc, .inr (0, [.int (zI (B1)), v_1, v_2, v_3, v_4, v_5, v_6, v_7, v_8, v_9, v_10, v_11, v_12, .ref q_713, .ref q_714, .ref q_715, v_16, .ref q_717, .ref q_718])), (q_713, .inl (cA_713, 301, .inl (fun j : Nat => zI (a_13 (j : Int))))), (q_714, .inl (cA_714, 600, .inl (fun j : Nat => zI (a_14 (j : Int))))), (q_715, .inl (cA_715, 301, .inl (fun j : Nat => zI (a_15 (j : Int))))), (q_717, .inl (cA_717, 1000, .inl (fun j : Nat => zI (a_17 (j : Int))))), (q_718, .inl (cA_718, na1, .inr (.inl (fun j : Nat => lI (a_18 (j : Int))))))] sz) [(h0, .inr (8, [v8_0, .ref q_801, v8_2, v8_3, v8_4, v8_5, v8_6, v8_7])), (q_801, .inl (cA_801, 1024, .inl (fun j : Nat => zI (a8_latest (j : Int))))), (hc, .inr (0, [.int (zI (B1)), v_1, v_2, v_3, v_4, v_5, v_6, v_7, v_8, v_9, v_10, v_11, v_12, .ref q_713, .ref q_714, .ref q_715, v_16, .ref q_717, .ref q_718])), (q_713, .inl (cA_713, 301, .inl (fun j : Nat => zI (a_13 (j : Int))))), (q_714, .inl (cA_714, 600, .inl (fun j : Nat => zI (a_14 (j : Int))))), (q_715, .inl (cA_715, 301, .inl (fun j : Nat => zI (a_15 (j : Int))))), (q_717, .inl (cA_717, 1000, .inl (fun j : Nat => zI (a_17 (j : Int))))), (q_718, .inl (cA_718, na1, .inr (.inl (fun j : Nat => lI (a0_9 (j : Int))))))]) (va_A [(h0, .inr (8, [v8_0, .ref q_801, v8_2, v8_3, v8_4, v8_5, v8_6, v8_7])), (q_801, .inl (cA_801, 1024, .inl (fun j : Nat => zI (a8_latest (j : Int))))), (hc, .inr (0, [.int (zI (B1)), v_1, v_2, v_3, v_4, v_5, v_6, v_7, v_8, v_9, v_10, v_11, v_12, .ref q_713, .ref q_714, .ref q_715, v_16, .ref q_717, .ref q_718])), (q_713, .inl (cA_713, 301, .inl (fun j : Nat => zI (a_13 (j : Int))))), (q_714, .inl (cA_714, 600, .inl (fun j : Nat => zI (a_14 (j : Int))))), (q_715, .inl (cA_715, 301, .inl (fun j : Nat => zI (a_15 (j : Int))))), (q_717, .inl (cA_717, 1000, .inl (fun j : Nat => zI (a_17 (j : Int))))), (q_718, .inl (cA_718, na1, .inr (.inl (fun j : Nat => lI (a_18 (j : Int))))))] sz)) 0 0 (va_A [(h0, .inr (8, [v8_0, .ref q_801, v8_2, v8_3, v8_4, v8_5, v8_6, v8_7])), (q_801, .inl (cA_801, 1024, .inl (fun j : Nat => zI (a8_latest (j : Int))))), (hc, .inr (0, [.int (zI (B1)), v_1, v_2, v_3, v_4, v_5, v_6, v_7, v_8, v_9, v_10, v_11, v_12, .ref q_713, .ref q_714, .ref q_715, v_16, .ref q_717, .ref q_718])), (q_713, .inl (cA_713, 301, .inl (fun j : Nat => zI (a_13 (j : Int))))), (q_714, .inl (cA_714, 600, .inl (fun j : Nat => zI (a_14 (j : Int))))), (q_715, .inl (cA_715, 301, .inl (fun j : Nat => zI (a_15 (j : Int))))), (q_717, .inl (cA_717, 1000, .inl (fun j : Nat => zI (a_17 (j : Int))))), (q_718, .inl (cA_718, na1, .inr (.inl (fun j : Nat => lI (a_18 (j : Int))))))] sz) := by
  refine Met.ofW (cc := cX8_renameArgs) (maxL := 6) (ret := none) (by decide) rfl ?_
  intro p e s m args below meth c s₁ B hml hv
  obtain ⟨rfl, hsz, hP, hK, hD0, hp0, hp1⟩ := hv
  have hx := B.exec
  have hb := B.bytes
  have hr := B.returns
  have hts := atoms_spec (ws := v_X8_renameArgs) B.pre
  have hown : s.vm.findClass RX8 = some m.cls := findClass_of_methodNamed B.named
  have hlocks := B.notSynchronized
  have ow : ∀ {k : Nat} {w : Cond}, o_X8_renameArgs[k]? = some w → w.before ([.ref h0, .ref hc, .int (zI (b)), .int (zI (pp))] : List Value).toArray s = true := fun h => hts _ (mow_X8_renameArgs _ (List.mem_of_getElem? h))
  subst hsz
  have hD := hD0.self (sz := s.heap.size)
  generalize hAe : va_A [(h0, .inr (8, [v8_0, .ref q_801, v8_2, v8_3, v8_4, v8_5, v8_6, v8_7])), (q_801, .inl (cA_801, 1024, .inl (fun j : Nat => zI (a8_latest (j : Int))))), (hc, .inr (0, [.int (zI (B1)), v_1, v_2, v_3, v_4, v_5, v_6, v_7, v_8, v_9, v_10, v_11, v_12, .ref q_713, .ref q_714, .ref q_715, v_16, .ref q_717, .ref q_718])), (q_713, .inl (cA_713, 301, .inl (fun j : Nat => zI (a_13 (j : Int))))), (q_714, .inl (cA_714, 600, .inl (fun j : Nat => zI (a_14 (j : Int))))), (q_715, .inl (cA_715, 301, .inl (fun j : Nat => zI (a_15 (j : Int))))), (q_717, .inl (cA_717, 1000, .inl (fun j : Nat => zI (a_17 (j : Int))))), (q_718, .inl (cA_718, na1, .inr (.inl (fun j : Nat => lI (a_18 (j : Int))))))] s.heap.size = A at hD ⊢
  have hA : ∀ q : Nat, s.heap.size ≤ q → A q := fun q h => by rw [← hAe]; exact Or.inr h
  have hS : va_S A s.heap s.heap [] := va_S.rf
  have hP : va_P (dC, dI) vwP [(h0, .inr (8, [v8_0, .ref q_801, v8_2, v8_3, v8_4, v8_5, v8_6, v8_7])), (q_801, .inl (cA_801, 1024, .inl (fun j : Nat => zI (a8_latest (j : Int))))), (hc, .inr (0, [.int (zI (B1)), v_1, v_2, v_3, v_4, v_5, v_6, v_7, v_8, v_9, v_10, v_11, v_12, .ref q_713, .ref q_714, .ref q_715, v_16, .ref q_717, .ref q_718])), (q_713, .inl (cA_713, 301, .inl (fun j : Nat => zI (a_13 (j : Int))))), (q_714, .inl (cA_714, 600, .inl (fun j : Nat => zI (a_14 (j : Int))))), (q_715, .inl (cA_715, 301, .inl (fun j : Nat => zI (a_15 (j : Int))))), (q_717, .inl (cA_717, 1000, .inl (fun j : Nat => zI (a_17 (j : Int))))), (q_718, .inl (cA_718, na1, .inr (.inl (fun j : Nat => lI (a_18 (j : Int))))))] s.heap := hP
  have hl := lv_entry ([.ref h0, .ref hc, .int (zI (b)), .int (zI (pp))]) (n := 6) (Nat.le_of_ble_eq_true rfl)
  rw [lg_entry_eq]
  generalize (lg_sl ([.ref h0, .ref hc, .int (zI (b)), .int (zI (pp))]) ++ List.replicate (6 - (lg_sl ([.ref h0, .ref hc, .int (zI (b)), .int (zI (pp))])).length) Slot.unset).toArray = ls at hl ⊢
  have hl : lv_has ls 6 [(0, .ref h0), (1, .ref hc), (2, .int (zI (b))), (3, .int (zI (pp)))] := hl
  obtain ⟨H, hH⟩ : ∃ H, H = s.heap := ⟨_, rfl⟩
  rw [← hH] at hP
  have hS : va_S A s.heap H [] := by rw [hH]; exact hS
  rw [← hH]
  refine zW_cap (fun Q hQ => ?_)
  refine lv_aload_n hx hb dX8_renameArgs_0 rfl (lv_at hl 1 rfl) ?_
  refine lv_iload_n hx hb dX8_renameArgs_1 rfl (lv_at hl 2 rfl) ?_
  refine lv_iload_n hx hb dX8_renameArgs_2 rfl (lv_at hl 3 rfl) ?_
  have hPc := hP.sub (ws' := [(hc, .inr (0, [.int (zI (B1)), v_1, v_2, v_3, v_4, v_5, v_6, v_7, v_8, v_9, v_10, v_11, v_12, .ref q_713, .ref q_714, .ref q_715, v_16, .ref q_717, .ref q_718])), (q_713, .inl (cA_713, 301, .inl (fun j : Nat => zI (a_13 (j : Int))))), (q_714, .inl (cA_714, 600, .inl (fun j : Nat => zI (a_14 (j : Int)))))]) [2, 3, 4] rfl
  have hDc := hD.sub (ws' := [(hc, .inr (0, [.int (zI (B1)), v_1, v_2, v_3, v_4, v_5, v_6, v_7, v_8, v_9, v_10, v_11, v_12, .ref q_713, .ref q_714, .ref q_715, v_16, .ref q_717, .ref q_718])), (q_713, .inl (cA_713, 301, .inl (fun j : Nat => zI (a_13 (j : Int))))), (q_714, .inl (cA_714, 600, .inl (fun j : Nat => zI (a_14 (j : Int)))))]) [2, 3, 4] (by decide) rfl
  have hKc := hK.sub (tys' := [(cA_713, .int), (cA_714, .int)]) [1, 2] rfl
  have hFc := va_free (wc := [(hc, .inr (0, [.int (zI (B1)), v_1, v_2, v_3, v_4, v_5, v_6, v_7, v_8, v_9, v_10, v_11, v_12, .ref q_713, .ref q_714, .ref q_715, v_16, .ref q_717, .ref q_718])), (q_713, .inl (cA_713, 301, .inl (fun j : Nat => zI (a_13 (j : Int))))), (q_714, .inl (cA_714, 600, .inl (fun j : Nat => zI (a_14 (j : Int)))))]) hD hS hA [2, 3, 4] rfl
  refine va_calli (va_runV (As := [.int (zI (b)), .int (zI (pp))]) (rest := []) ⟨hx, hb, hml, hown, hts⟩ (c_X0_predIndexL l dC dI hc (.int (zI (B1))) v_1 v_2 v_3 v_4 v_5 v_6 v_7 v_8 v_9 v_10 v_11 v_12 q_713 cA_713 a_13 q_714 cA_714 a_14 (.ref q_715) v_16 (.ref q_717) (.ref q_718) b pp hR_a_13 hR_a_14 (by omega) (by omega) H.size) (cwV 2 hts g_X8_renameArgs_X0_predIndexL rfl rfl rfl (by decide +kernel) ⟨(Nat.le_of_ble_eq_true rfl), (Nat.le_of_ble_eq_true rfl)⟩) ⟨fun a U g mk q => by obtain ⟨q0, q1, qP, qK, qD⟩ := q; exact ⟨q0, q1, qP, va_K.moved (u := U) (U := U.calling g mk a) (Vm.Alike.refl U.vm) qK, qD⟩, va_recv hKc hPc (ci := 0) (q0 := 0) rfl rfl, fun U hU hW => ⟨rfl, by rw [hU], by rw [hU]; exact hPc, va_K.moved hW.alike hKc, hDc.weaken (fun _ _ _ _ => trivial)⟩⟩ rfl rfl hl.1 rfl (lv_room (Nat.le_of_ble_eq_true rfl)) dX8_renameArgs_3 ⟨(Nat.le_of_ble_eq_true rfl), (Nat.le_of_ble_eq_true rfl)⟩) hS (fun q _ h => hFc q h) hFc (fun r_2001 u t H1 locs ht hvm hw hB hz1 hk1 hS => ?_)
  obtain ⟨hP1, hK1, hD1⟩ := hB
  rw [ht] at hP1
  have hK1 := va_K.moved hvm.symm hK1
  obtain ⟨hP, hD⟩ := va_join (wr := [(h0, .inr (8, [v8_0, .ref q_801, v8_2, v8_3, v8_4, v8_5, v8_6, v8_7])), (q_801, .inl (cA_801, 1024, .inl (fun j : Nat => zI (a8_latest (j : Int))))), (q_715, .inl (cA_715, 301, .inl (fun j : Nat => zI (a_15 (j : Int))))), (q_717, .inl (cA_717, 1000, .inl (fun j : Nat => zI (a_17 (j : Int))))), (q_718, .inl (cA_718, na1, .inr (.inl (fun j : Nat => lI (a_18 (j : Int))))))]) (w1 := [(hc, .inr (0, [.int (zI (B1)), v_1, v_2, v_3, v_4, v_5, v_6, v_7, v_8, v_9, v_10, v_11, v_12, .ref q_713, .ref q_714, .ref q_715, v_16, .ref q_717, .ref q_718])), (q_713, .inl (cA_713, 301, .inl (fun j : Nat => zI (a_13 (j : Int))))), (q_714, .inl (cA_714, 600, .inl (fun j : Nat => zI (a_14 (j : Int)))))]) hP hD [2, 3, 4] [0, 1, 5, 6, 7] rfl rfl (by decide) (by decide) hk1 hFc hP1 hD1
  have hK := (hK.sub (tys' := [(cA_801, .int), (cA_715, .int), (cA_717, .int), (cA_718, .long)]) [0, 3, 4, 5] rfl).app hK1
  generalize H1 = H at hP hS ⊢
  have hP : va_P (dC, dI) vwP [(h0, .inr (8, [v8_0, .ref q_801, v8_2, v8_3, v8_4, v8_5, v8_6, v8_7])), (q_801, .inl (cA_801, 1024, .inl (fun j : Nat => zI (a8_latest (j : Int))))), (q_715, .inl (cA_715, 301, .inl (fun j : Nat => zI (a_15 (j : Int))))), (q_717, .inl (cA_717, 1000, .inl (fun j : Nat => zI (a_17 (j : Int))))), (q_718, .inl (cA_718, na1, .inr (.inl (fun j : Nat => lI (a_18 (j : Int)))))), (hc, .inr (0, [.int (zI (B1)), v_1, v_2, v_3, v_4, v_5, v_6, v_7, v_8, v_9, v_10, v_11, v_12, .ref q_713, .ref q_714, .ref q_715, v_16, .ref q_717, .ref q_718])), (q_713, .inl (cA_713, 301, .inl (fun j : Nat => zI (a_13 (j : Int))))), (q_714, .inl (cA_714, 600, .inl (fun j : Nat => zI (a_14 (j : Int)))))] H := hP
  have hD : va_D A [(h0, .inr (8, [v8_0, .ref q_801, v8_2, v8_3, v8_4, v8_5, v8_6, v8_7])), (q_801, .inl (cA_801, 1024, .inl (fun j : Nat => zI (a8_latest (j : Int))))), (q_715, .inl (cA_715, 301, .inl (fun j : Nat => zI (a_15 (j : Int))))), (q_717, .inl (cA_717, 1000, .inl (fun j : Nat => zI (a_17 (j : Int))))), (q_718, .inl (cA_718, na1, .inr (.inl (fun j : Nat => lI (a_18 (j : Int)))))), (hc, .inr (0, [.int (zI (B1)), v_1, v_2, v_3, v_4, v_5, v_6, v_7, v_8, v_9, v_10, v_11, v_12, .ref q_713, .ref q_714, .ref q_715, v_16, .ref q_717, .ref q_718])), (q_713, .inl (cA_713, 301, .inl (fun j : Nat => zI (a_13 (j : Int))))), (q_714, .inl (cA_714, 600, .inl (fun j : Nat => zI (a_14 (j : Int)))))] := hD
  have hK : va_K (dC, dI) vwP [(cA_801, .int), (cA_715, .int), (cA_717, .int), (cA_718, .long), (cA_713, .int), (cA_714, .int)] s := hK
  refine W.widen (k := 0) (n := 0) (Nat.le_of_ble_eq_true rfl) (Nat.le_of_ble_eq_true rfl) ?_
  have hw_2002 := hw
  obtain ⟨z_2003, rfl, hzz_2003⟩ := hw_2002
  refine lv_istore (lv' := [(4, .int (zI (z_2003))), (0, .ref h0), (1, .ref hc), (2, .int (zI (b))), (3, .int (zI (pp)))]) hx hb dX8_renameArgs_6 hl (by decide) rfl (fun ls hl => ?_)
  refine lv_iload hx hb dX8_renameArgs_8 (lv_at hl 0 rfl) ?_
  refine lv_if_ge (tgt := 14) hx hb dX8_renameArgs_10 (by decide) (fun b10 => ?_) (fun b10 => ?_)
  · have yb10 : (0 : Int) ≤ (z_2003 : Int) := (zI_le (a := 0) (b := z_2003) (by omega) (by omega) (by omega) (by omega)).mp b10
    have hk9 := PXI.some hzz_2003.2 (by omega)
    refine lv_aload_n hx hb dX8_renameArgs_14 rfl (lv_at hl 2 rfl) ?_
    refine va_get (D := (dC, dI)) (ci := 0) (v := .ref q_715) (C := RX0) (T := TX0) (N := 19) hx hb hts mem_X8_renameArgs_1 hown hK hP 5 rfl rfl 15 (by decide) (ow (k := 4) rfl) (fun _ h9 => h9) rfl dX8_renameArgs_15 ?_
    refine lv_iload_n hx hb dX8_renameArgs_18 rfl (lv_at hl 3 rfl) ?_
    refine va_iald hx hb hK hP 2 1 rfl rfl (zI_in (a := b) (n := 301) (by omega) (by omega) (by decide)) dX8_renameArgs_19 ?_
    refine lv_topi (fun z ez => ?_)
    obtain rfl : z = zI (a_15 (b)) := ez.trans (zI_ld (a_15) (by omega) (by omega))
    have k1 := hR_a_15 (b)
    refine lv_istore (lv' := [(5, .int (zI (a_15 (b)))), (4, .int (zI (z_2003))), (0, .ref h0), (1, .ref hc), (2, .int (zI (b))), (3, .int (zI (pp)))]) hx hb dX8_renameArgs_20 hl (by decide) rfl (fun ls hl => ?_)
    have key22 : ∀ n22 : Nat, ∀ (d22_5 : Int) (w22_718 : Int → Int) (ls : Array Slot) (H : Heap) (locs : List Loc), ((a_15 b ≤ d22_5) ∧ (d22_5 ≤ a_15 b ∨ d22_5 ≤ a_15 (b + 1))) → (∀ j : Int, ((-2147483648 ≤ w22_718 j ∧ w22_718 j ≤ 4294968319) ∨ w22_718 j = 1099511627776)) → (ARI a_17 a_18 w22_718 a8_latest (a_15 (b)) z_2003 d22_5) → (((a_15 (b + 1)) - (d22_5) : Int).toNat) < n22 → lv_has ls 6 [(0, .ref h0), (1, .ref hc), (2, .int (zI (b))), (3, .int (zI (pp))), (4, .int (zI (z_2003))), (5, .int (zI (d22_5)))] → va_P (dC, dI) vwP [(h0, .inr (8, [v8_0, .ref q_801, v8_2, v8_3, v8_4, v8_5, v8_6, v8_7])), (q_801, .inl (cA_801, 1024, .inl (fun j : Nat => zI (a8_latest (j : Int))))), (q_715, .inl (cA_715, 301, .inl (fun j : Nat => zI (a_15 (j : Int))))), (q_717, .inl (cA_717, 1000, .inl (fun j : Nat => zI (a_17 (j : Int))))), (q_718, .inl (cA_718, na1, .inr (.inl (fun j : Nat => lI (w22_718 (j : Int)))))), (hc, .inr (0, [.int (zI (B1)), v_1, v_2, v_3, v_4, v_5, v_6, v_7, v_8, v_9, v_10, v_11, v_12, .ref q_713, .ref q_714, .ref q_715, v_16, .ref q_717, .ref q_718])), (q_713, .inl (cA_713, 301, .inl (fun j : Nat => zI (a_13 (j : Int))))), (q_714, .inl (cA_714, 600, .inl (fun j : Nat => zI (a_14 (j : Int)))))] H → va_D A [(h0, .inr (8, [v8_0, .ref q_801, v8_2, v8_3, v8_4, v8_5, v8_6, v8_7])), (q_801, .inl (cA_801, 1024, .inl (fun j : Nat => zI (a8_latest (j : Int))))), (q_715, .inl (cA_715, 301, .inl (fun j : Nat => zI (a_15 (j : Int))))), (q_717, .inl (cA_717, 1000, .inl (fun j : Nat => zI (a_17 (j : Int))))), (q_718, .inl (cA_718, na1, .inr (.inl (fun j : Nat => lI (w22_718 (j : Int)))))), (hc, .inr (0, [.int (zI (B1)), v_1, v_2, v_3, v_4, v_5, v_6, v_7, v_8, v_9, v_10, v_11, v_12, .ref q_713, .ref q_714, .ref q_715, v_16, .ref q_717, .ref q_718])), (q_713, .inl (cA_713, 301, .inl (fun j : Nat => zI (a_13 (j : Int))))), (q_714, .inl (cA_714, 600, .inl (fun j : Nat => zI (a_14 (j : Int)))))] → va_S A s.heap H locs → W p l e (headSpec v_X8_renameArgs ({ frames := 2, cells := 0, slots := 0, locals := 43 })).room s m ([.ref h0, .ref hc, .int (zI (b)), .int (zI (pp))] : List Value).toArray below meth c H locs 0 0 Q (F0 m 22 ls []) := by
      intro n22
      induction n22 with
      | zero => intro d22_5 w22_718 ls H locs jd22_5 jw22_718 jA hm22; exact absurd hm22 (by omega)
      | succ n22 ih22 =>
        intro d22_5 w22_718 ls H locs jd22_5 jw22_718 jA hm22 hl hP hD hS
        refine lv_iload hx hb dX8_renameArgs_22 (lv_at hl 5 rfl) ?_
        refine lv_aload_n hx hb dX8_renameArgs_24 rfl (lv_at hl 1 rfl) ?_
        refine va_get (D := (dC, dI)) (ci := 0) (v := .ref q_715) (C := RX0) (T := TX0) (N := 19) hx hb hts mem_X8_renameArgs_1 hown hK hP 5 rfl rfl 15 (by decide) (ow (k := 4) rfl) (fun _ h9 => h9) rfl dX8_renameArgs_25 ?_
        refine lv_iload_n hx hb dX8_renameArgs_28 rfl (lv_at hl 2 rfl) ?_
        refine lv_iconst (v := 1) hx hb dX8_renameArgs_29 (by decide) ?_
        refine lv_iadd hx hb dX8_renameArgs_30 ?_
        refine lv_topi (fun z ez => ?_)
        obtain rfl : z = zI (b + 1) := ez.trans (zI_add (b) (1))
        refine va_iald hx hb hK hP 2 1 rfl rfl (zI_in (a := b + 1) (n := 301) (by omega) (by omega) (by decide)) dX8_renameArgs_31 ?_
        refine lv_topi (fun z ez => ?_)
        obtain rfl : z = zI (a_15 (b + 1)) := ez.trans (zI_ld (a_15) (by omega) (by omega))
        have k2 := hR_a_15 (b + 1)
        refine lv_icmp_ge (tgt := 75) hx hb dX8_renameArgs_32 (by decide) (fun b32 => ?_) (fun b32 => ?_)
        · have yb32 : (a_15 (b + 1) : Int) ≤ (d22_5 : Int) := (zI_le (a := a_15 (b + 1)) (b := d22_5) (by omega) (by omega) (by omega) (by omega)).mp b32
          subst hQ
          have hP := hP.sub (ws' := [(h0, .inr (8, [v8_0, .ref q_801, v8_2, v8_3, v8_4, v8_5, v8_6, v8_7])), (q_801, .inl (cA_801, 1024, .inl (fun j : Nat => zI (a8_latest (j : Int))))), (hc, .inr (0, [.int (zI (B1)), v_1, v_2, v_3, v_4, v_5, v_6, v_7, v_8, v_9, v_10, v_11, v_12, .ref q_713, .ref q_714, .ref q_715, v_16, .ref q_717, .ref q_718])), (q_713, .inl (cA_713, 301, .inl (fun j : Nat => zI (a_13 (j : Int))))), (q_714, .inl (cA_714, 600, .inl (fun j : Nat => zI (a_14 (j : Int))))), (q_715, .inl (cA_715, 301, .inl (fun j : Nat => zI (a_15 (j : Int))))), (q_717, .inl (cA_717, 1000, .inl (fun j : Nat => zI (a_17 (j : Int))))), (q_718, .inl (cA_718, na1, .inr (.inl (fun j : Nat => lI (w22_718 (j : Int))))))]) [0, 1, 5, 6, 7, 2, 3, 4] rfl
          have hD := hD.sub (ws' := [(h0, .inr (8, [v8_0, .ref q_801, v8_2, v8_3, v8_4, v8_5, v8_6, v8_7])), (q_801, .inl (cA_801, 1024, .inl (fun j : Nat => zI (a8_latest (j : Int))))), (hc, .inr (0, [.int (zI (B1)), v_1, v_2, v_3, v_4, v_5, v_6, v_7, v_8, v_9, v_10, v_11, v_12, .ref q_713, .ref q_714, .ref q_715, v_16, .ref q_717, .ref q_718])), (q_713, .inl (cA_713, 301, .inl (fun j : Nat => zI (a_13 (j : Int))))), (q_714, .inl (cA_714, 600, .inl (fun j : Nat => zI (a_14 (j : Int))))), (q_715, .inl (cA_715, 301, .inl (fun j : Nat => zI (a_15 (j : Int))))), (q_717, .inl (cA_717, 1000, .inl (fun j : Nat => zI (a_17 (j : Int))))), (q_718, .inl (cA_718, na1, .inr (.inl (fun j : Nat => lI (w22_718 (j : Int))))))]) [0, 1, 5, 6, 7, 2, 3, 4] (by decide) rfl
          have hK := hK.sub (tys' := [(cA_801, .int), (cA_713, .int), (cA_714, .int), (cA_715, .int), (cA_717, .int), (cA_718, .long)]) [0, 4, 5, 1, 2, 3] rfl
          refine W.widen (k := 0) (n := 0) (Nat.le_of_ble_eq_true rfl) (Nat.le_of_ble_eq_true rfl) ?_
          exact W.vret hx hb hr (fun t ht hW => ⟨⟨(), rfl, trivial, w22_718, ⟨jw22_718, (RAE.of hX_L (by omega) (by omega) (by omega) hk9.1 hk9.2 (by have h9 := jA; by_cases e9 : d22_5 ≤ a_15 (b); (have q9 := h9.past e9; intro q; exact ⟨fun ⟨j, h1, h2, h3⟩ => by omega, fun _ => (q9 q).2 (fun ⟨j, h1, h2, _⟩ => by omega)⟩); (rw [show d22_5 = a_15 (b + 1) by omega] at h9; exact h9)))⟩, by rw [ht]; exact hP, va_K.moved hW.alike hK, hD⟩, hS.F ht⟩) hS.2.2 dX8_renameArgs_75
        · have yb32 : ¬ (a_15 (b + 1) : Int) ≤ (d22_5 : Int) := fun q => b32 ((zI_le (a := a_15 (b + 1)) (b := d22_5) (by omega) (by omega) (by omega) (by omega)).mpr q)
          have hq := hX_A (b) d22_5 (by omega) (by omega) (by omega) (by omega)
          refine lv_aload_n hx hb dX8_renameArgs_35 rfl (lv_at hl 1 rfl) ?_
          refine va_get (D := (dC, dI)) (ci := 0) (v := .ref q_718) (C := RX0) (T := TX0) (N := 19) hx hb hts mem_X8_renameArgs_1 hown hK hP 5 rfl rfl 18 (by decide) (ow (k := 5) rfl) (fun _ h9 => h9) rfl dX8_renameArgs_36 ?_
          refine lv_aload_n hx hb dX8_renameArgs_39 rfl (lv_at hl 1 rfl) ?_
          refine va_get (D := (dC, dI)) (ci := 0) (v := .ref q_717) (C := RX0) (T := TX0) (N := 19) hx hb hts mem_X8_renameArgs_1 hown hK hP 5 rfl rfl 17 (by decide) (ow (k := 6) rfl) (fun _ h9 => h9) rfl dX8_renameArgs_40 ?_
          refine lv_iload hx hb dX8_renameArgs_43 (lv_at hl 5 rfl) ?_
          refine va_iald hx hb hK hP 3 2 rfl rfl (zI_in (a := d22_5) (n := 1000) (by omega) (by omega) (by decide)) dX8_renameArgs_45 ?_
          refine lv_topi (fun z ez => ?_)
          obtain rfl : z = zI (a_17 (d22_5)) := ez.trans (zI_ld (a_17) (by omega) (by omega))
          have k3 := hR_a_17 (d22_5)
          refine lv_iload hx hb dX8_renameArgs_46 (lv_at hl 4 rfl) ?_
          refine lv_iadd hx hb dX8_renameArgs_48 ?_
          refine lv_topi (fun z ez => ?_)
          obtain rfl : z = zI ((a_17 (d22_5)) + z_2003) := ez.trans (zI_add (a_17 (d22_5)) (z_2003))
          refine lv_aload_n hx hb dX8_renameArgs_49 rfl (lv_at hl 0 rfl) ?_
          refine lv_aload_n hx hb dX8_renameArgs_50 rfl (lv_at hl 1 rfl) ?_
          refine va_get (D := (dC, dI)) (ci := 0) (v := .ref q_718) (C := RX0) (T := TX0) (N := 19) hx hb hts mem_X8_renameArgs_1 hown hK hP 5 rfl rfl 18 (by decide) (ow (k := 5) rfl) (fun _ h9 => h9) rfl dX8_renameArgs_51 ?_
          refine lv_aload_n hx hb dX8_renameArgs_54 rfl (lv_at hl 1 rfl) ?_
          refine va_get (D := (dC, dI)) (ci := 0) (v := .ref q_717) (C := RX0) (T := TX0) (N := 19) hx hb hts mem_X8_renameArgs_1 hown hK hP 5 rfl rfl 17 (by decide) (ow (k := 6) rfl) (fun _ h9 => h9) rfl dX8_renameArgs_55 ?_
          refine lv_iload hx hb dX8_renameArgs_58 (lv_at hl 5 rfl) ?_
          refine va_iald hx hb hK hP 3 2 rfl rfl (zI_in (a := d22_5) (n := 1000) (by omega) (by omega) (by decide)) dX8_renameArgs_60 ?_
          refine lv_topi (fun z ez => ?_)
          obtain rfl : z = zI (a_17 (d22_5)) := ez.trans (zI_ld (a_17) (by omega) (by omega))
          have k4 := hR_a_17 (d22_5)
          refine lv_iload hx hb dX8_renameArgs_61 (lv_at hl 4 rfl) ?_
          refine lv_iadd hx hb dX8_renameArgs_63 ?_
          refine lv_topi (fun z ez => ?_)
          obtain rfl : z = zI ((a_17 (d22_5)) + z_2003) := ez.trans (zI_add (a_17 (d22_5)) (z_2003))
          refine va_lald hx hb hK hP 4 3 rfl rfl (zI_in (a := (a_17 (d22_5)) + z_2003) (n := na1) (by omega) (by omega) (by omega)) dX8_renameArgs_64 ?_
          refine lv_topl (fun z ez => ?_)
          obtain rfl : z = lI (w22_718 ((a_17 (d22_5)) + z_2003)) := ez.trans (lI_ld (w22_718) (by omega) (by omega))
          have k5 := jw22_718 ((a_17 (d22_5)) + z_2003)
          have hPc := hP.sub (ws' := [(h0, .inr (8, [v8_0, .ref q_801, v8_2, v8_3, v8_4, v8_5, v8_6, v8_7])), (q_801, .inl (cA_801, 1024, .inl (fun j : Nat => zI (a8_latest (j : Int)))))]) [0, 1] rfl
          have hDc := hD.sub (ws' := [(h0, .inr (8, [v8_0, .ref q_801, v8_2, v8_3, v8_4, v8_5, v8_6, v8_7])), (q_801, .inl (cA_801, 1024, .inl (fun j : Nat => zI (a8_latest (j : Int)))))]) [0, 1] (by decide) rfl
          have hKc := hK.sub (tys' := [(cA_801, .int)]) [0] rfl
          have hFc := va_free (wc := [(h0, .inr (8, [v8_0, .ref q_801, v8_2, v8_3, v8_4, v8_5, v8_6, v8_7])), (q_801, .inl (cA_801, 1024, .inl (fun j : Nat => zI (a8_latest (j : Int)))))]) hD hS hA [0, 1] rfl
          refine va_calll (va_runV (As := [.long (lI (w22_718 ((a_17 (d22_5)) + z_2003)))]) (rest := [.int (zI ((a_17 (d22_5)) + z_2003)), .ref q_718]) ⟨hx, hb, hml, hown, hts⟩ (c_X8_renamed l dC dI h0 v8_0 q_801 cA_801 a8_latest v8_2 v8_3 v8_4 v8_5 v8_6 v8_7 (w22_718 ((a_17 (d22_5)) + z_2003)) hR_a8_latest (by omega) H.size) (cwV 1 hts g_X8_renameArgs_X8_renamed rfl rfl rfl (by decide +kernel) ⟨(Nat.le_of_ble_eq_true rfl), (Nat.le_of_ble_eq_true rfl)⟩) ⟨fun a U g mk q => by obtain ⟨q0, q1, qP, qK, qD, e0, e1⟩ := q; exact ⟨q0, q1, qP, va_K.moved (u := U) (U := U.calling g mk a) (Vm.Alike.refl U.vm) qK, qD, va_Nw.same rfl (u := U) (U := U.calling g mk a) rfl e0, va_Nw.same rfl (u := U) (U := U.calling g mk a) rfl e1⟩, va_recv hKc hPc (ci := 8) (q0 := 0) rfl rfl, fun U hU hW => ⟨rfl, by rw [hU], by rw [hU]; exact hPc, va_K.moved hW.alike hKc, hDc.weaken (fun _ _ _ _ => trivial), va_Nw.warmM hW hp0, va_Nw.warmM hW hp1⟩⟩ rfl rfl hl.1 rfl (lv_room (Nat.le_of_ble_eq_true rfl)) dX8_renameArgs_65 ⟨(Nat.le_of_ble_eq_true rfl), (Nat.le_of_ble_eq_true rfl)⟩) hS (fun q _ h => hFc q h) hFc (fun r_2004 u t H1 locs ht hvm hw hB hz1 hk1 hS => ?_)
          obtain ⟨hP1, hK1, hD1⟩ := hB
          rw [ht] at hP1
          have hK1 := va_K.moved hvm.symm hK1
          obtain ⟨hP, hD⟩ := va_join (wr := [(q_715, .inl (cA_715, 301, .inl (fun j : Nat => zI (a_15 (j : Int))))), (q_717, .inl (cA_717, 1000, .inl (fun j : Nat => zI (a_17 (j : Int))))), (q_718, .inl (cA_718, na1, .inr (.inl (fun j : Nat => lI (w22_718 (j : Int)))))), (hc, .inr (0, [.int (zI (B1)), v_1, v_2, v_3, v_4, v_5, v_6, v_7, v_8, v_9, v_10, v_11, v_12, .ref q_713, .ref q_714, .ref q_715, v_16, .ref q_717, .ref q_718])), (q_713, .inl (cA_713, 301, .inl (fun j : Nat => zI (a_13 (j : Int))))), (q_714, .inl (cA_714, 600, .inl (fun j : Nat => zI (a_14 (j : Int)))))]) (w1 := [(h0, .inr (8, [v8_0, .ref q_801, v8_2, v8_3, v8_4, v8_5, v8_6, v8_7])), (q_801, .inl (cA_801, 1024, .inl (fun j : Nat => zI (a8_latest (j : Int)))))]) hP hD [0, 1] [2, 3, 4, 5, 6, 7] rfl rfl (by decide) (by decide) hk1 hFc hP1 hD1
          have hK := (hK.sub (tys' := [(cA_715, .int), (cA_717, .int), (cA_718, .long), (cA_713, .int), (cA_714, .int)]) [1, 2, 3, 4, 5] rfl).app hK1
          generalize H1 = H at hP hS ⊢
          have hP : va_P (dC, dI) vwP [(q_715, .inl (cA_715, 301, .inl (fun j : Nat => zI (a_15 (j : Int))))), (q_717, .inl (cA_717, 1000, .inl (fun j : Nat => zI (a_17 (j : Int))))), (q_718, .inl (cA_718, na1, .inr (.inl (fun j : Nat => lI (w22_718 (j : Int)))))), (hc, .inr (0, [.int (zI (B1)), v_1, v_2, v_3, v_4, v_5, v_6, v_7, v_8, v_9, v_10, v_11, v_12, .ref q_713, .ref q_714, .ref q_715, v_16, .ref q_717, .ref q_718])), (q_713, .inl (cA_713, 301, .inl (fun j : Nat => zI (a_13 (j : Int))))), (q_714, .inl (cA_714, 600, .inl (fun j : Nat => zI (a_14 (j : Int))))), (h0, .inr (8, [v8_0, .ref q_801, v8_2, v8_3, v8_4, v8_5, v8_6, v8_7])), (q_801, .inl (cA_801, 1024, .inl (fun j : Nat => zI (a8_latest (j : Int)))))] H := hP
          have hD : va_D A [(q_715, .inl (cA_715, 301, .inl (fun j : Nat => zI (a_15 (j : Int))))), (q_717, .inl (cA_717, 1000, .inl (fun j : Nat => zI (a_17 (j : Int))))), (q_718, .inl (cA_718, na1, .inr (.inl (fun j : Nat => lI (w22_718 (j : Int)))))), (hc, .inr (0, [.int (zI (B1)), v_1, v_2, v_3, v_4, v_5, v_6, v_7, v_8, v_9, v_10, v_11, v_12, .ref q_713, .ref q_714, .ref q_715, v_16, .ref q_717, .ref q_718])), (q_713, .inl (cA_713, 301, .inl (fun j : Nat => zI (a_13 (j : Int))))), (q_714, .inl (cA_714, 600, .inl (fun j : Nat => zI (a_14 (j : Int))))), (h0, .inr (8, [v8_0, .ref q_801, v8_2, v8_3, v8_4, v8_5, v8_6, v8_7])), (q_801, .inl (cA_801, 1024, .inl (fun j : Nat => zI (a8_latest (j : Int)))))] := hD
          have hK : va_K (dC, dI) vwP [(cA_715, .int), (cA_717, .int), (cA_718, .long), (cA_713, .int), (cA_714, .int), (cA_801, .int)] s := hK
          refine W.widen (k := 0) (n := 0) (Nat.le_of_ble_eq_true rfl) (Nat.le_of_ble_eq_true rfl) ?_
          obtain rfl : r_2004 = (lI (RNF a8_latest (w22_718 ((a_17 (d22_5)) + z_2003)))) := hw
          have := RNF_rng hR_a8_latest (x := w22_718 ((a_17 (d22_5)) + z_2003)) (by omega)
          refine va_last (i := zI ((a_17 (d22_5)) + z_2003)) hx hb hK hP hD hS 2 2 rfl rfl (zI_in (a := (a_17 (d22_5)) + z_2003) (n := na1) (by omega) (by omega) (by omega)) dX8_renameArgs_68 (fun H locs hP hD hS => ?_)
          have eQ : vp_updL (fun j : Nat => lI (w22_718 (j : Int))) (zI ((a_17 (d22_5)) + z_2003)).toNatClampNeg (lI (RNF a8_latest (w22_718 ((a_17 (d22_5)) + z_2003)))) = (fun j : Nat => lI (zup w22_718 ((a_17 (d22_5)) + z_2003) (RNF a8_latest (w22_718 ((a_17 (d22_5)) + z_2003))) (j : Int))) := lI_st w22_718 (e := (a_17 (d22_5)) + z_2003) (v := RNF a8_latest (w22_718 ((a_17 (d22_5)) + z_2003))) (by omega) (by omega)
          rw [eQ] at hP hD
          clear eQ
          have ra_2005 : ∀ j : Int, ((-2147483648 ≤ zup w22_718 ((a_17 (d22_5)) + z_2003) (RNF a8_latest (w22_718 ((a_17 (d22_5)) + z_2003))) j ∧ zup w22_718 ((a_17 (d22_5)) + z_2003) (RNF a8_latest (w22_718 ((a_17 (d22_5)) + z_2003))) j ≤ 4294968319) ∨ zup w22_718 ((a_17 (d22_5)) + z_2003) (RNF a8_latest (w22_718 ((a_17 (d22_5)) + z_2003))) j = 1099511627776) := zup_P (P := fun x9 => ((-2147483648 ≤ x9 ∧ x9 ≤ 4294968319) ∨ x9 = 1099511627776)) jw22_718 (show ((-2147483648 ≤ (RNF a8_latest (w22_718 ((a_17 (d22_5)) + z_2003))) ∧ (RNF a8_latest (w22_718 ((a_17 (d22_5)) + z_2003))) ≤ 4294968319) ∨ (RNF a8_latest (w22_718 ((a_17 (d22_5)) + z_2003))) = 1099511627776) by omega)
          obtain ⟨a_2005, ea_2005⟩ : ∃ a9 : Int → Int, a9 = zup w22_718 ((a_17 (d22_5)) + z_2003) (RNF a8_latest (w22_718 ((a_17 (d22_5)) + z_2003))) := ⟨_, rfl⟩
          rw [← ea_2005] at hP hD ra_2005
          have hP : va_P (dC, dI) vwP [(q_715, .inl (cA_715, 301, .inl (fun j : Nat => zI (a_15 (j : Int))))), (q_717, .inl (cA_717, 1000, .inl (fun j : Nat => zI (a_17 (j : Int))))), (q_718, .inl (cA_718, na1, .inr (.inl (fun j : Nat => lI (a_2005 (j : Int)))))), (hc, .inr (0, [.int (zI (B1)), v_1, v_2, v_3, v_4, v_5, v_6, v_7, v_8, v_9, v_10, v_11, v_12, .ref q_713, .ref q_714, .ref q_715, v_16, .ref q_717, .ref q_718])), (q_713, .inl (cA_713, 301, .inl (fun j : Nat => zI (a_13 (j : Int))))), (q_714, .inl (cA_714, 600, .inl (fun j : Nat => zI (a_14 (j : Int))))), (h0, .inr (8, [v8_0, .ref q_801, v8_2, v8_3, v8_4, v8_5, v8_6, v8_7])), (q_801, .inl (cA_801, 1024, .inl (fun j : Nat => zI (a8_latest (j : Int)))))] H := hP
          have hD : va_D A [(q_715, .inl (cA_715, 301, .inl (fun j : Nat => zI (a_15 (j : Int))))), (q_717, .inl (cA_717, 1000, .inl (fun j : Nat => zI (a_17 (j : Int))))), (q_718, .inl (cA_718, na1, .inr (.inl (fun j : Nat => lI (a_2005 (j : Int)))))), (hc, .inr (0, [.int (zI (B1)), v_1, v_2, v_3, v_4, v_5, v_6, v_7, v_8, v_9, v_10, v_11, v_12, .ref q_713, .ref q_714, .ref q_715, v_16, .ref q_717, .ref q_718])), (q_713, .inl (cA_713, 301, .inl (fun j : Nat => zI (a_13 (j : Int))))), (q_714, .inl (cA_714, 600, .inl (fun j : Nat => zI (a_14 (j : Int))))), (h0, .inr (8, [v8_0, .ref q_801, v8_2, v8_3, v8_4, v8_5, v8_6, v8_7])), (q_801, .inl (cA_801, 1024, .inl (fun j : Nat => zI (a8_latest (j : Int)))))] := hD
          refine lv_iinc (v := zI (d22_5 + 1)) (lv' := [(5, .int (zI (d22_5 + 1))), (0, .ref h0), (1, .ref hc), (2, .int (zI (b))), (3, .int (zI (pp))), (4, .int (zI (z_2003)))]) hx hb dX8_renameArgs_69 hl (k := 5) rfl (zI_add (d22_5) (1)) (by decide) rfl (fun ls hl => ?_)
          refine lv_goto (tgt := 22) hx hb dX8_renameArgs_72 (by decide) ?_
          have hP := hP.sub (ws' := [(h0, .inr (8, [v8_0, .ref q_801, v8_2, v8_3, v8_4, v8_5, v8_6, v8_7])), (q_801, .inl (cA_801, 1024, .inl (fun j : Nat => zI (a8_latest (j : Int))))), (q_715, .inl (cA_715, 301, .inl (fun j : Nat => zI (a_15 (j : Int))))), (q_717, .inl (cA_717, 1000, .inl (fun j : Nat => zI (a_17 (j : Int))))), (q_718, .inl (cA_718, na1, .inr (.inl (fun j : Nat => lI (a_2005 (j : Int)))))), (hc, .inr (0, [.int (zI (B1)), v_1, v_2, v_3, v_4, v_5, v_6, v_7, v_8, v_9, v_10, v_11, v_12, .ref q_713, .ref q_714, .ref q_715, v_16, .ref q_717, .ref q_718])), (q_713, .inl (cA_713, 301, .inl (fun j : Nat => zI (a_13 (j : Int))))), (q_714, .inl (cA_714, 600, .inl (fun j : Nat => zI (a_14 (j : Int)))))]) [6, 7, 0, 1, 2, 3, 4, 5] rfl
          have hD := hD.sub (ws' := [(h0, .inr (8, [v8_0, .ref q_801, v8_2, v8_3, v8_4, v8_5, v8_6, v8_7])), (q_801, .inl (cA_801, 1024, .inl (fun j : Nat => zI (a8_latest (j : Int))))), (q_715, .inl (cA_715, 301, .inl (fun j : Nat => zI (a_15 (j : Int))))), (q_717, .inl (cA_717, 1000, .inl (fun j : Nat => zI (a_17 (j : Int))))), (q_718, .inl (cA_718, na1, .inr (.inl (fun j : Nat => lI (a_2005 (j : Int)))))), (hc, .inr (0, [.int (zI (B1)), v_1, v_2, v_3, v_4, v_5, v_6, v_7, v_8, v_9, v_10, v_11, v_12, .ref q_713, .ref q_714, .ref q_715, v_16, .ref q_717, .ref q_718])), (q_713, .inl (cA_713, 301, .inl (fun j : Nat => zI (a_13 (j : Int))))), (q_714, .inl (cA_714, 600, .inl (fun j : Nat => zI (a_14 (j : Int)))))]) [6, 7, 0, 1, 2, 3, 4, 5] (by decide) rfl
          exact ih22 (d22_5 + 1) a_2005 ls H _ (by omega) ra_2005 (by rw [ea_2005]; exact ARI.step jA (by omega) (fun j h1 h2 => by have h3 := hX_M (b) (b) j d22_5 (by omega) (by omega) (by omega) (by omega) h1 (by omega) (by omega) (by omega) h2; omega)) (by omega) (lv_sub hl [1, 2, 3, 4, 5, 0] rfl) hP hD hS
    exact key22 (((a_15 (b + 1)) - (a_15 (b)) : Int).toNat + 1) (a_15 (b)) a_18 ls H _ (by omega) hR_a_18 (ARI.init a_17 a_18 a8_latest (a_15 (b)) _) (by omega) (lv_sub hl [2, 3, 4, 5, 1, 0] rfl) hP hD hS
  · have yb10 : ¬ (0 : Int) ≤ (z_2003 : Int) := fun q => b10 ((zI_le (a := 0) (b := z_2003) (by omega) (by omega) (by omega) (by omega)).mpr q)
    subst hQ
    have hP := hP.sub (ws' := [(h0, .inr (8, [v8_0, .ref q_801, v8_2, v8_3, v8_4, v8_5, v8_6, v8_7])), (q_801, .inl (cA_801, 1024, .inl (fun j : Nat => zI (a8_latest (j : Int))))), (hc, .inr (0, [.int (zI (B1)), v_1, v_2, v_3, v_4, v_5, v_6, v_7, v_8, v_9, v_10, v_11, v_12, .ref q_713, .ref q_714, .ref q_715, v_16, .ref q_717, .ref q_718])), (q_713, .inl (cA_713, 301, .inl (fun j : Nat => zI (a_13 (j : Int))))), (q_714, .inl (cA_714, 600, .inl (fun j : Nat => zI (a_14 (j : Int))))), (q_715, .inl (cA_715, 301, .inl (fun j : Nat => zI (a_15 (j : Int))))), (q_717, .inl (cA_717, 1000, .inl (fun j : Nat => zI (a_17 (j : Int))))), (q_718, .inl (cA_718, na1, .inr (.inl (fun j : Nat => lI (a_18 (j : Int))))))]) [0, 1, 5, 6, 7, 2, 3, 4] rfl
    have hD := hD.sub (ws' := [(h0, .inr (8, [v8_0, .ref q_801, v8_2, v8_3, v8_4, v8_5, v8_6, v8_7])), (q_801, .inl (cA_801, 1024, .inl (fun j : Nat => zI (a8_latest (j : Int))))), (hc, .inr (0, [.int (zI (B1)), v_1, v_2, v_3, v_4, v_5, v_6, v_7, v_8, v_9, v_10, v_11, v_12, .ref q_713, .ref q_714, .ref q_715, v_16, .ref q_717, .ref q_718])), (q_713, .inl (cA_713, 301, .inl (fun j : Nat => zI (a_13 (j : Int))))), (q_714, .inl (cA_714, 600, .inl (fun j : Nat => zI (a_14 (j : Int))))), (q_715, .inl (cA_715, 301, .inl (fun j : Nat => zI (a_15 (j : Int))))), (q_717, .inl (cA_717, 1000, .inl (fun j : Nat => zI (a_17 (j : Int))))), (q_718, .inl (cA_718, na1, .inr (.inl (fun j : Nat => lI (a_18 (j : Int))))))]) [0, 1, 5, 6, 7, 2, 3, 4] (by decide) rfl
    have hK := hK.sub (tys' := [(cA_801, .int), (cA_713, .int), (cA_714, .int), (cA_715, .int), (cA_717, .int), (cA_718, .long)]) [0, 4, 5, 1, 2, 3] rfl
    refine W.widen (k := 0) (n := 0) (Nat.le_of_ble_eq_true rfl) (Nat.le_of_ble_eq_true rfl) ?_
    exact W.vret hx hb hr (fun t ht hW => ⟨⟨(), rfl, trivial, a_18, ⟨hR_a_18, (RAE.none (fun k h1 h2 => by rcases hzz_2003.2 with h9 | h9; exact h9.2 k h1 h2; omega))⟩, by rw [ht]; exact hP, va_K.moved hW.alike hK, hD⟩, hS.F ht⟩) hS.2.2 dX8_renameArgs_13
