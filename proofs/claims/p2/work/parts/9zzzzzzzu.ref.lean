theorem dX14_order_0 : decode cX14_order 0 = .ok (.aload_n 0, 1) := by decide +kernel
theorem dX14_order_1 : decode cX14_order 1 = .ok (.iconst 0, 1) := by decide +kernel
theorem dX14_order_2 : decode cX14_order 2 = .ok (.putfield 88, 3) := by decide +kernel
theorem dX14_order_5 : decode cX14_order 5 = .ok (.iconst 0, 1) := by decide +kernel
theorem dX14_order_6 : decode cX14_order 6 = .ok (.istore_n 1, 1) := by decide +kernel
theorem dX14_order_7 : decode cX14_order 7 = .ok (.aload_n 0, 1) := by decide +kernel
theorem dX14_order_8 : decode cX14_order 8 = .ok (.getfield 27, 3) := by decide +kernel
theorem dX14_order_11 : decode cX14_order 11 = .ok (.iload_n 1, 1) := by decide +kernel
theorem dX14_order_12 : decode cX14_order 12 = .ok (.iconst 0, 1) := by decide +kernel
theorem dX14_order_13 : decode cX14_order 13 = .ok (.iastore, 1) := by decide +kernel
theorem dX14_order_14 : decode cX14_order 14 = .ok (.iinc 1 1, 3) := by decide +kernel
theorem dX14_order_17 : decode cX14_order 17 = .ok (.iload_n 1, 1) := by decide +kernel
theorem dX14_order_18 : decode cX14_order 18 = .ok (.ifCond .le 76, 3) := by decide +kernel
theorem dX14_order_94 : decode cX14_order 94 = .ok (.return_, 1) := by decide +kernel
theorem dX14_order_21 : decode cX14_order 21 = .ok (.iinc 1 (-1), 3) := by decide +kernel
theorem dX14_order_24 : decode cX14_order 24 = .ok (.aload_n 0, 1) := by decide +kernel
theorem dX14_order_25 : decode cX14_order 25 = .ok (.getfield 27, 3) := by decide +kernel
theorem dX14_order_28 : decode cX14_order 28 = .ok (.iload_n 1, 1) := by decide +kernel
theorem dX14_order_29 : decode cX14_order 29 = .ok (.iaload, 1) := by decide +kernel
theorem dX14_order_30 : decode cX14_order 30 = .ok (.istore_n 2, 1) := by decide +kernel
theorem dX14_order_31 : decode cX14_order 31 = .ok (.aload_n 0, 1) := by decide +kernel
theorem dX14_order_32 : decode cX14_order 32 = .ok (.getfield 24, 3) := by decide +kernel
theorem dX14_order_35 : decode cX14_order 35 = .ok (.aload_n 0, 1) := by decide +kernel
theorem dX14_order_36 : decode cX14_order 36 = .ok (.getfield 88, 3) := by decide +kernel
theorem dX14_order_39 : decode cX14_order 39 = .ok (.iload_n 2, 1) := by decide +kernel
theorem dX14_order_40 : decode cX14_order 40 = .ok (.iastore, 1) := by decide +kernel
theorem dX14_order_41 : decode cX14_order 41 = .ok (.aload_n 0, 1) := by decide +kernel
theorem dX14_order_42 : decode cX14_order 42 = .ok (.dup, 1) := by decide +kernel
theorem dX14_order_43 : decode cX14_order 43 = .ok (.getfield 88, 3) := by decide +kernel
theorem dX14_order_46 : decode cX14_order 46 = .ok (.iconst 1, 1) := by decide +kernel
theorem dX14_order_47 : decode cX14_order 47 = .ok (.iadd, 1) := by decide +kernel
theorem dX14_order_48 : decode cX14_order 48 = .ok (.putfield 88, 3) := by decide +kernel
theorem dX14_order_51 : decode cX14_order 51 = .ok (.aload_n 0, 1) := by decide +kernel
theorem dX14_order_52 : decode cX14_order 52 = .ok (.getfield 55, 3) := by decide +kernel
theorem dX14_order_55 : decode cX14_order 55 = .ok (.iconst 1, 1) := by decide +kernel
theorem dX14_order_56 : decode cX14_order 56 = .ok (.isub, 1) := by decide +kernel
theorem dX14_order_57 : decode cX14_order 57 = .ok (.istore_n 3, 1) := by decide +kernel
theorem dX14_order_58 : decode cX14_order 58 = .ok (.iload_n 3, 1) := by decide +kernel
theorem dX14_order_59 : decode cX14_order 59 = .ok (.ifCond .le 32, 3) := by decide +kernel
theorem dX14_order_91 : decode cX14_order 91 = .ok (.goto (-74), 3) := by decide +kernel
theorem dX14_order_62 : decode cX14_order 62 = .ok (.aload_n 0, 1) := by decide +kernel
theorem dX14_order_63 : decode cX14_order 63 = .ok (.getfield 20, 3) := by decide +kernel
theorem dX14_order_66 : decode cX14_order 66 = .ok (.iload_n 3, 1) := by decide +kernel
theorem dX14_order_67 : decode cX14_order 67 = .ok (.iaload, 1) := by decide +kernel
theorem dX14_order_68 : decode cX14_order 68 = .ok (.iload_n 2, 1) := by decide +kernel
theorem dX14_order_69 : decode cX14_order 69 = .ok (.if_icmp .eq 6, 3) := by decide +kernel
theorem dX14_order_75 : decode cX14_order 75 = .ok (.aload_n 0, 1) := by decide +kernel
theorem dX14_order_76 : decode cX14_order 76 = .ok (.getfield 27, 3) := by decide +kernel
theorem dX14_order_79 : decode cX14_order 79 = .ok (.iload_n 1, 1) := by decide +kernel
theorem dX14_order_80 : decode cX14_order 80 = .ok (.iload_n 3, 1) := by decide +kernel
theorem dX14_order_81 : decode cX14_order 81 = .ok (.iastore, 1) := by decide +kernel
theorem dX14_order_82 : decode cX14_order 82 = .ok (.iinc 1 1, 3) := by decide +kernel
theorem dX14_order_85 : decode cX14_order 85 = .ok (.iinc 3 (-1), 3) := by decide +kernel
theorem dX14_order_88 : decode cX14_order 88 = .ok (.goto (-30), 3) := by decide +kernel
theorem dX14_order_72 : decode cX14_order 72 = .ok (.goto 13, 3) := by decide +kernel
def o_X14_order : List Cond := [.fieldLink RX14 88 "SsaForgeModel$Flow" "ordered" "I", .fieldLink RX14 27 "SsaForgeModel$Flow" "stack" "[I", .fieldLink RX14 24 "SsaForgeModel$Flow" "order" "[I", .fieldLink RX14 55 "SsaForgeModel$Flow" "n" "I", .fieldLink RX14 20 "SsaForgeModel$Flow" "idom" "[I"]
def v_X14_order : List Cond := .code yX14_order cX14_order 4 none :: (o_X14_order ++ (wsX140 ++ []))
theorem mow_X14_order : ∀ w ∈ o_X14_order, w ∈ v_X14_order := fun _ h => List.mem_cons_of_mem _ (List.mem_append_left _ h)
theorem mem_X14_order_0 : ∀ w ∈ wsX140, w ∈ v_X14_order := fun _ h => List.mem_cons_of_mem _ (List.mem_append_right _ (List.mem_append_left _ h))
set_option maxRecDepth 20000 in
theorem gw_X14_order : v_X14_order.all goodWord = true := by decide +kernel
set_option maxHeartbeats 4000000 in
set_option maxRecDepth 100000 in
theorem c_X14_order (l : Launch) (dC : Nat → ClassId) (dI : Nat → Nat → Nat) (h0 : Nat) (v14_0 : Value) (z14_n : Int) (v14_2 : Value) (v14_3 : Value) (z14_ordered : Int) (v14_8 : Value) (v14_9 : Value) (v14_10 : Value) (v14_11 : Value) (v14_12 : Value) (q_1404 : Nat) (cA_1404 : ClassId) (n14_idom : Nat) (a14_idom : Int → Int) (q_1405 : Nat) (cA_1405 : ClassId) (n14_order : Nat) (a14_order : Int → Int) (q_1407 : Nat) (cA_1407 : ClassId) (n14_stack : Nat) (a14_stack : Int → Int) (hNz14_n : 0 ≤ z14_n ∧ z14_n ≤ 300) (hNz14_ordered : 0 ≤ z14_ordered ∧ z14_ordered ≤ 300) (hNn14_idom : n14_idom ≤ 1000) (hR_a14_idom : ∀ j : Int, -2 ≤ a14_idom j ∧ a14_idom j ≤ 299) (hNn14_order : n14_order ≤ 1000) (hR_a14_order : ∀ j : Int, 0 ≤ a14_order j ∧ a14_order j ≤ 299) (hNn14_stack : n14_stack ≤ 1001) (hR_a14_stack : ∀ j : Int, 0 ≤ a14_stack j ∧ a14_stack j ≤ 299) (hNn : 1 ≤ z14_n ∧ z14_n ≤ n14_idom ∧ z14_n ≤ n14_order ∧ z14_n ≤ n14_stack) (sz : Nat) : Met l yX14_order v_X14_order ({ frames := 0, cells := 0, slots := 0, locals := 0 }) (va_Pc [.ref h0] (fun U => U.heap.size = sz ∧ va_P (dC, dI) vwQ [(h0, .inr (13, [v14_0, .int (zI (z14_n)), v14_2, v14_3, .ref q_1404, .ref q_1405, .int (zI (z14_ordered)), .ref q_1407, v14_8, v14_9, v14_10, v14_11, v14_12])), (q_1404, .inl (cA_1404, n14_idom, .inl (fun j : Nat => zI (a14_idom (j : Int))))), (q_1405, .inl (cA_1405, n14_order, .inl (fun j : Nat => zI (a14_order (j : Int))))), (q_1407, .inl (cA_1407, n14_stack, .inl (fun j : Nat => zI (a14_stack (j : Int)))))] U.heap ∧ va_K (dC, dI) vwQ [(cA_1404, .int), (cA_1405, .int), (cA_1407, .int)] U ∧ va_D (fun _ => True) [(h0, .inr (13, [v14_0, .int (zI (z14_n)), v14_2, v14_3, .ref q_1404, .ref q_1405, .int (zI (z14_ordered)), .ref q_1407, v14_8, v14_9, v14_10, v14_11, v14_12])), (q_1404, .inl (cA_1404, n14_idom, .inl (fun j : Nat => zI (a14_idom (j : Int))))), (q_1405, .inl (cA_1405, n14_order, .inl (fun j : Nat => zI (a14_order (j : Int))))), (q_1407, .inl (cA_1407, n14_stack, .inl (fun j : Nat => zI (a14_stack (j : Int)))))])) (va_Qv (fun _ : Unit => True) (fun (_ : Unit) (t : State) => ∃ (z0_9 : Int) (a1_9 : Int → Int) (a2_9 : Int → Int), ((0 ≤ z0_9 ∧ z0_9 ≤ 300) ∧ (∀ j : Int, 0 ≤ a1_9 j ∧ a1_9 j ≤ 299) ∧ (∀ j : Int, 0 ≤ a2_9 j ∧ a2_9 j ≤ 299) ∧ (ODR a14_idom a1_9 z0_9 z14_n)) ∧ va_P (dC, dI) vwQ [(h0, .inr (13, [v14_0, .int (zI (z14_n)), v14_2, v14_3, .ref q_1404, .ref q_1405, .int (zI (z0_9)), .ref q_1407, v14_8, v14_9, v14_10, v14_11, v14_12])), (q_1404, .inl (cA_1404, n14_idom, .inl (fun j : Nat => zI (a14_idom (j : Int))))), (q_1405, .inl (cA_1405, n14_order, .inl (fun j : Nat => zI (a1_9 (j : Int))))), (q_1407, .inl (cA_1407, n14_stack, .inl (fun j : Nat => zI (a2_9 (j : Int)))))] t.heap ∧ va_K (dC, dI) vwQ [(cA_1404, .int), (cA_1405, .int), (cA_1407, .int)] t ∧ va_D (va_A [(h0, .inr (13, [v14_0, .int (zI (z14_n)), v14_2, v14_3, .ref q_1404, .ref q_1405, .int (zI (z14_ordered)), .ref q_1407, v14_8, v14_9, v14_10, v14_11, v14_12])), (q_1404, .inl (cA_1404, n14_idom, .inl (fun j : Nat => zI (a14_idom (j : Int))))), (q_1405, .inl (cA_1405, n14_order, .inl (fun j : Nat => zI (a14_order (j : Int))))), (q_1407, .inl (cA_1407, n14_stack, .inl (fun j : Nat => zI (a14_stack (j : Int)))))] sz) [(h0, .inr (13, [v14_0, .int (zI (z14_n)), v14_2, v14_3, .ref q_1404, .ref q_1405, .int (zI (z0_9)), .ref q_1407, v14_8, v14_9, v14_10, v14_11, v14_12])), (q_1404, .inl (cA_1404, n14_idom, .inl (fun j : Nat => zI (a14_idom (j : Int))))), (q_1405, .inl (cA_1405, n14_order, .inl (fun j : Nat => zI (a1_9 (j : Int))))), (q_1407, .inl (cA_1407, n14_stack, .inl (fun j : Nat => zI (a2_9 (j : Int)))))]) (va_A [(h0, .inr (13, [v14_0, .int (zI (z14_n)), v14_2, v14_3, .ref q_1404, .ref q_1405, .int (zI (z14_ordered)), .ref q_1407, v14_8, v14_9, v14_10, v14_11, v14_12])), (q_1404, .inl (cA_1404, n14_idom, .inl (fun j : Nat => zI (a14_idom (j : Int))))), (q_1405, .inl (cA_1405, n14_order, .inl (fun j : Nat => zI (a14_order (j : Int))))), (q_1407, .inl (cA_1407, n14_stack, .inl (fun j : Nat => zI (a14_stack (j : Int)))))] sz)) 0 0 (va_A [(h0, .inr (13, [v14_0, .int (zI (z14_n)), v14_2, v14_3, .ref q_1404, .ref q_1405, .int (zI (z14_ordered)), .ref q_1407, v14_8, v14_9, v14_10, v14_11, v14_12])), (q_1404, .inl (cA_1404, n14_idom, .inl (fun j : Nat => zI (a14_idom (j : Int))))), (q_1405, .inl (cA_1405, n14_order, .inl (fun j : Nat => zI (a14_order (j : Int))))), (q_1407, .inl (cA_1407, n14_stack, .inl (fun j : Nat => zI (a14_stack (j : Int)))))] sz) := by
  refine Met.ofW (cc := cX14_order) (maxL := 4) (ret := none) (by decide) rfl ?_
  intro p e s m args below meth c s₁ B hml hv
  obtain ⟨rfl, hsz, hP, hK, hD0⟩ := hv
  have hx := B.exec
  have hb := B.bytes
  have hr := B.returns
  have hts := atoms_spec (ws := v_X14_order) B.pre
  have hown : s.vm.findClass RX14 = some m.cls := findClass_of_methodNamed B.named
  have hlocks := B.notSynchronized
  have ow : ∀ {k : Nat} {w : Cond}, o_X14_order[k]? = some w → w.before ([.ref h0] : List Value).toArray s = true := fun h => hts _ (mow_X14_order _ (List.mem_of_getElem? h))
  subst hsz
  have hD := hD0.self (sz := s.heap.size)
  generalize hAe : va_A [(h0, .inr (13, [v14_0, .int (zI (z14_n)), v14_2, v14_3, .ref q_1404, .ref q_1405, .int (zI (z14_ordered)), .ref q_1407, v14_8, v14_9, v14_10, v14_11, v14_12])), (q_1404, .inl (cA_1404, n14_idom, .inl (fun j : Nat => zI (a14_idom (j : Int))))), (q_1405, .inl (cA_1405, n14_order, .inl (fun j : Nat => zI (a14_order (j : Int))))), (q_1407, .inl (cA_1407, n14_stack, .inl (fun j : Nat => zI (a14_stack (j : Int)))))] s.heap.size = A at hD ⊢
  have hA : ∀ q : Nat, s.heap.size ≤ q → A q := fun q h => by rw [← hAe]; exact Or.inr h
  have hS : va_S A s.heap s.heap [] := va_S.rf
  have hP : va_P (dC, dI) vwQ [(h0, .inr (13, [v14_0, .int (zI (z14_n)), v14_2, v14_3, .ref q_1404, .ref q_1405, .int (zI (z14_ordered)), .ref q_1407, v14_8, v14_9, v14_10, v14_11, v14_12])), (q_1404, .inl (cA_1404, n14_idom, .inl (fun j : Nat => zI (a14_idom (j : Int))))), (q_1405, .inl (cA_1405, n14_order, .inl (fun j : Nat => zI (a14_order (j : Int))))), (q_1407, .inl (cA_1407, n14_stack, .inl (fun j : Nat => zI (a14_stack (j : Int)))))] s.heap := hP
  have hl := lv_entry ([.ref h0]) (n := 4) (Nat.le_of_ble_eq_true rfl)
  rw [lg_entry_eq]
  generalize (lg_sl ([.ref h0]) ++ List.replicate (4 - (lg_sl ([.ref h0])).length) Slot.unset).toArray = ls at hl ⊢
  have hl : lv_has ls 4 [(0, .ref h0)] := hl
  obtain ⟨H, hH⟩ : ∃ H, H = s.heap := ⟨_, rfl⟩
  rw [← hH] at hP
  have hS : va_S A s.heap H [] := by rw [hH]; exact hS
  rw [← hH]
  refine zW_cap (fun Q hQ => ?_)
  obtain ⟨nn, hnn⟩ : ∃ q9 : Nat, (q9 : Int) = z14_n := ⟨z14_n.toNat, by omega⟩
  refine lv_aload_n hx hb dX14_order_0 rfl (lv_at hl 0 rfl) ?_
  refine lv_iconst (v := 0) hx hb dX14_order_1 (by decide) ?_
  refine va_put (D := (dC, dI)) (ci := 13) (v := .int 0) (ty := .int) (C := RX14) (T := TX14) (N := 13) hx hb hts mem_X14_order_0 tyX14 tyX14_ok nmX14 hown hK hP hD hS 0 rfl rfl 6 (by decide) (ow (k := 0) rfl) (fun _ h9 => h9) rfl (by decide +kernel) rfl rfl (Nat.le_of_ble_eq_true rfl) dX14_order_2 (fun H locs hP hD hS => ?_)
  have hP : va_P (dC, dI) vwQ [(h0, .inr (13, [v14_0, .int (zI (z14_n)), v14_2, v14_3, .ref q_1404, .ref q_1405, .int 0, .ref q_1407, v14_8, v14_9, v14_10, v14_11, v14_12])), (q_1404, .inl (cA_1404, n14_idom, .inl (fun j : Nat => zI (a14_idom (j : Int))))), (q_1405, .inl (cA_1405, n14_order, .inl (fun j : Nat => zI (a14_order (j : Int))))), (q_1407, .inl (cA_1407, n14_stack, .inl (fun j : Nat => zI (a14_stack (j : Int)))))] H := hP
  have hD : va_D A [(h0, .inr (13, [v14_0, .int (zI (z14_n)), v14_2, v14_3, .ref q_1404, .ref q_1405, .int 0, .ref q_1407, v14_8, v14_9, v14_10, v14_11, v14_12])), (q_1404, .inl (cA_1404, n14_idom, .inl (fun j : Nat => zI (a14_idom (j : Int))))), (q_1405, .inl (cA_1405, n14_order, .inl (fun j : Nat => zI (a14_order (j : Int))))), (q_1407, .inl (cA_1407, n14_stack, .inl (fun j : Nat => zI (a14_stack (j : Int)))))] := hD
  refine lv_iconst (v := 0) hx hb dX14_order_5 (by decide) ?_
  refine lv_istore_n (lv' := [(1, .int 0), (0, .ref h0)]) hx hb dX14_order_6 rfl hl (by decide) rfl (fun ls hl => ?_)
  refine lv_aload_n hx hb dX14_order_7 rfl (lv_at hl 1 rfl) ?_
  refine va_get (D := (dC, dI)) (ci := 13) (v := .ref q_1407) (C := RX14) (T := TX14) (N := 13) hx hb hts mem_X14_order_0 hown hK hP 0 rfl rfl 7 (by decide) (ow (k := 1) rfl) (fun _ h9 => h9) rfl dX14_order_8 ?_
  refine lv_iload_n hx hb dX14_order_11 rfl (lv_at hl 0 rfl) ?_
  refine lv_iconst (v := 0) hx hb dX14_order_12 (by decide) ?_
  refine va_iast (i := zI (0)) hx hb hK hP hD hS 3 2 rfl rfl (zI_in (a := 0) (n := n14_stack) (by omega) (by omega) (by omega)) dX14_order_13 (fun H locs hP hD hS => ?_)
  have eQ : upd (fun j : Nat => zI (a14_stack (j : Int))) (zI (0)).toNatClampNeg 0 = (fun j : Nat => zI (zup a14_stack (0) (0) (j : Int))) := zI_st a14_stack (e := 0) (v := 0) (by omega) (by omega)
  rw [eQ] at hP hD
  clear eQ
  have ra_2001 : ∀ j : Int, 0 ≤ zup a14_stack (0) (0) j ∧ zup a14_stack (0) (0) j ≤ 299 := zup_P (P := fun x9 => 0 ≤ x9 ∧ x9 ≤ 299) hR_a14_stack (show 0 ≤ (0) ∧ (0) ≤ 299 by omega)
  obtain ⟨a_2001, ea_2001⟩ : ∃ a9 : Int → Int, a9 = zup a14_stack (0) (0) := ⟨_, rfl⟩
  rw [← ea_2001] at hP hD ra_2001
  have hP : va_P (dC, dI) vwQ [(h0, .inr (13, [v14_0, .int (zI (z14_n)), v14_2, v14_3, .ref q_1404, .ref q_1405, .int 0, .ref q_1407, v14_8, v14_9, v14_10, v14_11, v14_12])), (q_1404, .inl (cA_1404, n14_idom, .inl (fun j : Nat => zI (a14_idom (j : Int))))), (q_1405, .inl (cA_1405, n14_order, .inl (fun j : Nat => zI (a14_order (j : Int))))), (q_1407, .inl (cA_1407, n14_stack, .inl (fun j : Nat => zI (a_2001 (j : Int)))))] H := hP
  have hD : va_D A [(h0, .inr (13, [v14_0, .int (zI (z14_n)), v14_2, v14_3, .ref q_1404, .ref q_1405, .int 0, .ref q_1407, v14_8, v14_9, v14_10, v14_11, v14_12])), (q_1404, .inl (cA_1404, n14_idom, .inl (fun j : Nat => zI (a14_idom (j : Int))))), (q_1405, .inl (cA_1405, n14_order, .inl (fun j : Nat => zI (a14_order (j : Int))))), (q_1407, .inl (cA_1407, n14_stack, .inl (fun j : Nat => zI (a_2001 (j : Int)))))] := hD
  refine lv_iinc (v := 1) (lv' := [(1, .int 1), (0, .ref h0)]) hx hb dX14_order_14 hl (k := 0) rfl (by decide) (by decide) rfl (fun ls hl => ?_)
  have key17 : ∀ n17 : Nat, ∀ (d17_1 : Int) (e17_0_6 : Int) (w17_1405 : Int → Int) (w17_1407 : Int → Int) (ls : Array Slot) (H : Heap) (locs : List Loc), (0 ≤ d17_1 ∧ d17_1 ≤ 300) → (0 ≤ e17_0_6 ∧ e17_0_6 ≤ 300) → (∀ j : Int, 0 ≤ w17_1405 j ∧ w17_1405 j ≤ 299) → (∀ j : Int, 0 ≤ w17_1407 j ∧ w17_1407 j ≤ 299) → (OI a14_idom w17_1405 w17_1407 (e17_0_6) (d17_1) z14_n nn) → ((z14_n - e17_0_6 : Int).toNat) < n17 → lv_has ls 4 [(0, .ref h0), (1, .int (zI (d17_1)))] → va_P (dC, dI) vwQ [(h0, .inr (13, [v14_0, .int (zI (z14_n)), v14_2, v14_3, .ref q_1404, .ref q_1405, .int (zI (e17_0_6)), .ref q_1407, v14_8, v14_9, v14_10, v14_11, v14_12])), (q_1404, .inl (cA_1404, n14_idom, .inl (fun j : Nat => zI (a14_idom (j : Int))))), (q_1405, .inl (cA_1405, n14_order, .inl (fun j : Nat => zI (w17_1405 (j : Int))))), (q_1407, .inl (cA_1407, n14_stack, .inl (fun j : Nat => zI (w17_1407 (j : Int)))))] H → va_D A [(h0, .inr (13, [v14_0, .int (zI (z14_n)), v14_2, v14_3, .ref q_1404, .ref q_1405, .int (zI (e17_0_6)), .ref q_1407, v14_8, v14_9, v14_10, v14_11, v14_12])), (q_1404, .inl (cA_1404, n14_idom, .inl (fun j : Nat => zI (a14_idom (j : Int))))), (q_1405, .inl (cA_1405, n14_order, .inl (fun j : Nat => zI (w17_1405 (j : Int))))), (q_1407, .inl (cA_1407, n14_stack, .inl (fun j : Nat => zI (w17_1407 (j : Int)))))] → va_S A s.heap H locs → W p l e (headSpec v_X14_order ({ frames := 0, cells := 0, slots := 0, locals := 0 })).room s m ([.ref h0] : List Value).toArray below meth c H locs 0 0 Q (F0 m 17 ls []) := by
    intro n17
    induction n17 with
    | zero => intro d17_1 e17_0_6 w17_1405 w17_1407 ls H locs jd17_1 je17_0_6 jw17_1405 jw17_1407 jo17 hm17; exact absurd hm17 (by omega)
    | succ n17 ih17 =>
      intro d17_1 e17_0_6 w17_1405 w17_1407 ls H locs jd17_1 je17_0_6 jw17_1405 jw17_1407 jo17 hm17 hl hP hD hS
      have hr17 := jo17.rng
      refine lv_iload_n hx hb dX14_order_17 rfl (lv_at hl 1 rfl) ?_
      refine lv_if_le (tgt := 94) hx hb dX14_order_18 (by decide) (fun b18 => ?_) (fun b18 => ?_)
      · have yb18 : (d17_1 : Int) ≤ (0 : Int) := (zI_le (a := d17_1) (b := 0) (by omega) (by omega) (by omega) (by omega)).mp b18
        subst hQ
        refine W.widen (k := 0) (n := 0) (Nat.le_of_ble_eq_true rfl) (Nat.le_of_ble_eq_true rfl) ?_
        exact W.vret hx hb hr (fun t ht hW => ⟨⟨(), rfl, trivial, e17_0_6, w17_1405, w17_1407, ⟨(by omega), jw17_1405, jw17_1407, (by have q9 : d17_1 = 0 := (by omega); rw [q9] at jo17; exact jo17.odr (by omega))⟩, by rw [ht]; exact hP, va_K.moved hW.alike hK, hD⟩, hS.F ht⟩) hS.2.2 dX14_order_94
      · have yb18 : ¬ (d17_1 : Int) ≤ (0 : Int) := fun q => b18 ((zI_le (a := d17_1) (b := 0) (by omega) (by omega) (by omega) (by omega)).mpr q)
        refine lv_iinc (v := zI (d17_1 - 1)) (lv' := [(1, .int (zI (d17_1 - 1))), (0, .ref h0)]) hx hb dX14_order_21 hl (k := 1) rfl (zI_dec (d17_1) (1)) (by decide) rfl (fun ls hl => ?_)
        refine lv_aload_n hx hb dX14_order_24 rfl (lv_at hl 1 rfl) ?_
        refine va_get (D := (dC, dI)) (ci := 13) (v := .ref q_1407) (C := RX14) (T := TX14) (N := 13) hx hb hts mem_X14_order_0 hown hK hP 0 rfl rfl 7 (by decide) (ow (k := 1) rfl) (fun _ h9 => h9) rfl dX14_order_25 ?_
        refine lv_iload_n hx hb dX14_order_28 rfl (lv_at hl 0 rfl) ?_
        have ht9 := jo17.top (j := d17_1 - 1) (by omega) (by omega)
        refine va_iald hx hb hK hP 3 2 rfl rfl (zI_in (a := d17_1 - 1) (n := n14_stack) (by omega) (by omega) (by omega)) dX14_order_29 ?_
        refine lv_topi (fun z ez => ?_)
        obtain rfl : z = zI (w17_1407 (d17_1 - 1)) := ez.trans (zI_ld (w17_1407) (by omega) (by omega))
        have k1 := jw17_1407 (d17_1 - 1)
        refine lv_istore_n (lv' := [(2, .int (zI (w17_1407 (d17_1 - 1)))), (1, .int (zI (d17_1 - 1))), (0, .ref h0)]) hx hb dX14_order_30 rfl hl (by decide) rfl (fun ls hl => ?_)
        refine lv_aload_n hx hb dX14_order_31 rfl (lv_at hl 2 rfl) ?_
        refine va_get (D := (dC, dI)) (ci := 13) (v := .ref q_1405) (C := RX14) (T := TX14) (N := 13) hx hb hts mem_X14_order_0 hown hK hP 0 rfl rfl 5 (by decide) (ow (k := 2) rfl) (fun _ h9 => h9) rfl dX14_order_32 ?_
        refine lv_aload_n hx hb dX14_order_35 rfl (lv_at hl 2 rfl) ?_
        refine va_get (D := (dC, dI)) (ci := 13) (v := .int (zI (e17_0_6))) (C := RX14) (T := TX14) (N := 13) hx hb hts mem_X14_order_0 hown hK hP 0 rfl rfl 6 (by decide) (ow (k := 0) rfl) (fun _ h9 => h9) rfl dX14_order_36 ?_
        refine lv_iload_n hx hb dX14_order_39 rfl (lv_at hl 0 rfl) ?_
        refine va_iast (i := zI (e17_0_6)) hx hb hK hP hD hS 2 1 rfl rfl (zI_in (a := e17_0_6) (n := n14_order) (by omega) (by omega) (by omega)) dX14_order_40 (fun H locs hP hD hS => ?_)
        have eQ : upd (fun j : Nat => zI (w17_1405 (j : Int))) (zI (e17_0_6)).toNatClampNeg (zI (w17_1407 (d17_1 - 1))) = (fun j : Nat => zI (zup w17_1405 (e17_0_6) (w17_1407 (d17_1 - 1)) (j : Int))) := zI_st w17_1405 (e := e17_0_6) (v := w17_1407 (d17_1 - 1)) (by omega) (by omega)
        rw [eQ] at hP hD
        clear eQ
        have ra_2002 : ∀ j : Int, 0 ≤ zup w17_1405 (e17_0_6) (w17_1407 (d17_1 - 1)) j ∧ zup w17_1405 (e17_0_6) (w17_1407 (d17_1 - 1)) j ≤ 299 := zup_P (P := fun x9 => 0 ≤ x9 ∧ x9 ≤ 299) jw17_1405 (show 0 ≤ (w17_1407 (d17_1 - 1)) ∧ (w17_1407 (d17_1 - 1)) ≤ 299 by omega)
        obtain ⟨a_2002, ea_2002⟩ : ∃ a9 : Int → Int, a9 = zup w17_1405 (e17_0_6) (w17_1407 (d17_1 - 1)) := ⟨_, rfl⟩
        rw [← ea_2002] at hP hD ra_2002
        have hP : va_P (dC, dI) vwQ [(h0, .inr (13, [v14_0, .int (zI (z14_n)), v14_2, v14_3, .ref q_1404, .ref q_1405, .int (zI (e17_0_6)), .ref q_1407, v14_8, v14_9, v14_10, v14_11, v14_12])), (q_1404, .inl (cA_1404, n14_idom, .inl (fun j : Nat => zI (a14_idom (j : Int))))), (q_1405, .inl (cA_1405, n14_order, .inl (fun j : Nat => zI (a_2002 (j : Int))))), (q_1407, .inl (cA_1407, n14_stack, .inl (fun j : Nat => zI (w17_1407 (j : Int)))))] H := hP
        have hD : va_D A [(h0, .inr (13, [v14_0, .int (zI (z14_n)), v14_2, v14_3, .ref q_1404, .ref q_1405, .int (zI (e17_0_6)), .ref q_1407, v14_8, v14_9, v14_10, v14_11, v14_12])), (q_1404, .inl (cA_1404, n14_idom, .inl (fun j : Nat => zI (a14_idom (j : Int))))), (q_1405, .inl (cA_1405, n14_order, .inl (fun j : Nat => zI (a_2002 (j : Int))))), (q_1407, .inl (cA_1407, n14_stack, .inl (fun j : Nat => zI (w17_1407 (j : Int)))))] := hD
        refine lv_aload_n hx hb dX14_order_41 rfl (lv_at hl 2 rfl) ?_
        refine lv_dup hx hb dX14_order_42 rfl ?_
        refine va_get (D := (dC, dI)) (ci := 13) (v := .int (zI (e17_0_6))) (C := RX14) (T := TX14) (N := 13) hx hb hts mem_X14_order_0 hown hK hP 0 rfl rfl 6 (by decide) (ow (k := 0) rfl) (fun _ h9 => h9) rfl dX14_order_43 ?_
        refine lv_iconst (v := 1) hx hb dX14_order_46 (by decide) ?_
        refine lv_iadd hx hb dX14_order_47 ?_
        refine lv_topi (fun z ez => ?_)
        obtain rfl : z = zI (e17_0_6 + 1) := ez.trans (zI_add (e17_0_6) (1))
        refine va_put (D := (dC, dI)) (ci := 13) (v := .int (zI (e17_0_6 + 1))) (ty := .int) (C := RX14) (T := TX14) (N := 13) hx hb hts mem_X14_order_0 tyX14 tyX14_ok nmX14 hown hK hP hD hS 0 rfl rfl 6 (by decide) (ow (k := 0) rfl) (fun _ h9 => h9) rfl (by decide +kernel) rfl rfl (Nat.le_of_ble_eq_true rfl) dX14_order_48 (fun H locs hP hD hS => ?_)
        have hP : va_P (dC, dI) vwQ [(h0, .inr (13, [v14_0, .int (zI (z14_n)), v14_2, v14_3, .ref q_1404, .ref q_1405, .int (zI (e17_0_6 + 1)), .ref q_1407, v14_8, v14_9, v14_10, v14_11, v14_12])), (q_1404, .inl (cA_1404, n14_idom, .inl (fun j : Nat => zI (a14_idom (j : Int))))), (q_1405, .inl (cA_1405, n14_order, .inl (fun j : Nat => zI (a_2002 (j : Int))))), (q_1407, .inl (cA_1407, n14_stack, .inl (fun j : Nat => zI (w17_1407 (j : Int)))))] H := hP
        have hD : va_D A [(h0, .inr (13, [v14_0, .int (zI (z14_n)), v14_2, v14_3, .ref q_1404, .ref q_1405, .int (zI (e17_0_6 + 1)), .ref q_1407, v14_8, v14_9, v14_10, v14_11, v14_12])), (q_1404, .inl (cA_1404, n14_idom, .inl (fun j : Nat => zI (a14_idom (j : Int))))), (q_1405, .inl (cA_1405, n14_order, .inl (fun j : Nat => zI (a_2002 (j : Int))))), (q_1407, .inl (cA_1407, n14_stack, .inl (fun j : Nat => zI (w17_1407 (j : Int)))))] := hD
        obtain ⟨z_2003, ez_2003⟩ : ∃ z9 : Int, z9 = e17_0_6 + 1 := ⟨_, rfl⟩
        rw [← ez_2003] at hP hD
        have hP : va_P (dC, dI) vwQ [(h0, .inr (13, [v14_0, .int (zI (z14_n)), v14_2, v14_3, .ref q_1404, .ref q_1405, .int (zI (z_2003)), .ref q_1407, v14_8, v14_9, v14_10, v14_11, v14_12])), (q_1404, .inl (cA_1404, n14_idom, .inl (fun j : Nat => zI (a14_idom (j : Int))))), (q_1405, .inl (cA_1405, n14_order, .inl (fun j : Nat => zI (a_2002 (j : Int))))), (q_1407, .inl (cA_1407, n14_stack, .inl (fun j : Nat => zI (w17_1407 (j : Int)))))] H := hP
        have hD : va_D A [(h0, .inr (13, [v14_0, .int (zI (z14_n)), v14_2, v14_3, .ref q_1404, .ref q_1405, .int (zI (z_2003)), .ref q_1407, v14_8, v14_9, v14_10, v14_11, v14_12])), (q_1404, .inl (cA_1404, n14_idom, .inl (fun j : Nat => zI (a14_idom (j : Int))))), (q_1405, .inl (cA_1405, n14_order, .inl (fun j : Nat => zI (a_2002 (j : Int))))), (q_1407, .inl (cA_1407, n14_stack, .inl (fun j : Nat => zI (w17_1407 (j : Int)))))] := hD
        refine lv_aload_n hx hb dX14_order_51 rfl (lv_at hl 2 rfl) ?_
        refine va_get (D := (dC, dI)) (ci := 13) (v := .int (zI (z14_n))) (C := RX14) (T := TX14) (N := 13) hx hb hts mem_X14_order_0 hown hK hP 0 rfl rfl 1 (by decide) (ow (k := 3) rfl) (fun _ h9 => h9) rfl dX14_order_52 ?_
        refine lv_iconst (v := 1) hx hb dX14_order_55 (by decide) ?_
        refine lv_isub hx hb dX14_order_56 ?_
        refine lv_topi (fun z ez => ?_)
        obtain rfl : z = zI (z14_n - 1) := ez.trans (zI_sub (z14_n) (1))
        refine lv_istore_n (lv' := [(3, .int (zI (z14_n - 1))), (2, .int (zI (w17_1407 (d17_1 - 1)))), (1, .int (zI (d17_1 - 1))), (0, .ref h0)]) hx hb dX14_order_57 rfl hl (by decide) rfl (fun ls hl => ?_)
        have key58 : ∀ n58 : Nat, ∀ (d58_3 : Int) (d58_1 : Int) (w58_1407 : Int → Int) (ls : Array Slot) (H : Heap) (locs : List Loc), (0 ≤ d58_3 ∧ d58_3 ≤ z14_n - 1) → (0 ≤ d58_1 ∧ d58_1 ≤ 300) → (∀ j : Int, 0 ≤ w58_1407 j ∧ w58_1407 j ≤ 299) → (OJ a14_idom a_2002 w58_1407 (e17_0_6 + 1) (d58_1) z14_n nn (w17_1407 (d17_1 - 1)) (d58_3)) → ((d58_3 : Int).toNat) < n58 → lv_has ls 4 [(0, .ref h0), (1, .int (zI (d58_1))), (2, .int (zI (w17_1407 (d17_1 - 1)))), (3, .int (zI (d58_3)))] → va_P (dC, dI) vwQ [(h0, .inr (13, [v14_0, .int (zI (z14_n)), v14_2, v14_3, .ref q_1404, .ref q_1405, .int (zI (z_2003)), .ref q_1407, v14_8, v14_9, v14_10, v14_11, v14_12])), (q_1404, .inl (cA_1404, n14_idom, .inl (fun j : Nat => zI (a14_idom (j : Int))))), (q_1405, .inl (cA_1405, n14_order, .inl (fun j : Nat => zI (a_2002 (j : Int))))), (q_1407, .inl (cA_1407, n14_stack, .inl (fun j : Nat => zI (w58_1407 (j : Int)))))] H → va_D A [(h0, .inr (13, [v14_0, .int (zI (z14_n)), v14_2, v14_3, .ref q_1404, .ref q_1405, .int (zI (z_2003)), .ref q_1407, v14_8, v14_9, v14_10, v14_11, v14_12])), (q_1404, .inl (cA_1404, n14_idom, .inl (fun j : Nat => zI (a14_idom (j : Int))))), (q_1405, .inl (cA_1405, n14_order, .inl (fun j : Nat => zI (a_2002 (j : Int))))), (q_1407, .inl (cA_1407, n14_stack, .inl (fun j : Nat => zI (w58_1407 (j : Int)))))] → va_S A s.heap H locs → W p l e (headSpec v_X14_order ({ frames := 0, cells := 0, slots := 0, locals := 0 })).room s m ([.ref h0] : List Value).toArray below meth c H locs 0 0 Q (F0 m 58 ls []) := by
          intro n58
          induction n58 with
          | zero => intro d58_3 d58_1 w58_1407 ls H locs jd58_3 jd58_1 jw58_1407 jj58 hm58; exact absurd hm58 (by omega)
          | succ n58 ih58 =>
            intro d58_3 d58_1 w58_1407 ls H locs jd58_3 jd58_1 jw58_1407 jj58 hm58 hl hP hD hS
            have hr58 := jj58.rng
            refine lv_iload_n hx hb dX14_order_58 rfl (lv_at hl 3 rfl) ?_
            refine lv_if_le (tgt := 91) hx hb dX14_order_59 (by decide) (fun b59 => ?_) (fun b59 => ?_)
            · have yb59 : (d58_3 : Int) ≤ (0 : Int) := (zI_le (a := d58_3) (b := 0) (by omega) (by omega) (by omega) (by omega)).mp b59
              refine lv_goto (tgt := 17) hx hb dX14_order_91 (by decide) ?_
              exact ih17 d58_1 z_2003 a_2002 w58_1407 ls H _ (by omega) (by omega) ra_2002 jw58_1407 (by have q9 := jj58.done (by omega); have q8 : z_2003 = e17_0_6 + 1 := (by omega); rw [q8]; exact q9) (by omega) (lv_sub hl [0, 1] rfl) hP hD hS
            · have yb59 : ¬ (d58_3 : Int) ≤ (0 : Int) := fun q => b59 ((zI_le (a := d58_3) (b := 0) (by omega) (by omega) (by omega) (by omega)).mpr q)
              refine lv_aload_n hx hb dX14_order_62 rfl (lv_at hl 0 rfl) ?_
              refine va_get (D := (dC, dI)) (ci := 13) (v := .ref q_1404) (C := RX14) (T := TX14) (N := 13) hx hb hts mem_X14_order_0 hown hK hP 0 rfl rfl 4 (by decide) (ow (k := 4) rfl) (fun _ h9 => h9) rfl dX14_order_63 ?_
              refine lv_iload_n hx hb dX14_order_66 rfl (lv_at hl 3 rfl) ?_
              refine va_iald hx hb hK hP 1 0 rfl rfl (zI_in (a := d58_3) (n := n14_idom) (by omega) (by omega) (by omega)) dX14_order_67 ?_
              refine lv_topi (fun z ez => ?_)
              obtain rfl : z = zI (a14_idom (d58_3)) := ez.trans (zI_ld (a14_idom) (by omega) (by omega))
              have k2 := hR_a14_idom (d58_3)
              refine lv_iload_n hx hb dX14_order_68 rfl (lv_at hl 2 rfl) ?_
              refine lv_icmp_eq (tgt := 75) hx hb dX14_order_69 (by decide) (fun b69 => ?_) (fun b69 => ?_)
              · have yb69 : (a14_idom (d58_3) : Int) = (w17_1407 (d17_1 - 1) : Int) := (zI_eq (a := a14_idom (d58_3)) (b := w17_1407 (d17_1 - 1)) (by omega) (by omega) (by omega) (by omega)).mp b69
                have hpu := jj58.push hnn (by omega) (by omega) (by omega) (by omega) (by omega)
                refine lv_aload_n hx hb dX14_order_75 rfl (lv_at hl 0 rfl) ?_
                refine va_get (D := (dC, dI)) (ci := 13) (v := .ref q_1407) (C := RX14) (T := TX14) (N := 13) hx hb hts mem_X14_order_0 hown hK hP 0 rfl rfl 7 (by decide) (ow (k := 1) rfl) (fun _ h9 => h9) rfl dX14_order_76 ?_
                refine lv_iload_n hx hb dX14_order_79 rfl (lv_at hl 1 rfl) ?_
                refine lv_iload_n hx hb dX14_order_80 rfl (lv_at hl 3 rfl) ?_
                refine va_iast (i := zI (d58_1)) hx hb hK hP hD hS 3 2 rfl rfl (zI_in (a := d58_1) (n := n14_stack) (by omega) (by omega) (by omega)) dX14_order_81 (fun H locs hP hD hS => ?_)
                have eQ : upd (fun j : Nat => zI (w58_1407 (j : Int))) (zI (d58_1)).toNatClampNeg (zI (d58_3)) = (fun j : Nat => zI (zup w58_1407 (d58_1) (d58_3) (j : Int))) := zI_st w58_1407 (e := d58_1) (v := d58_3) (by omega) (by omega)
                rw [eQ] at hP hD
                clear eQ
                have ra_2004 : ∀ j : Int, 0 ≤ zup w58_1407 (d58_1) (d58_3) j ∧ zup w58_1407 (d58_1) (d58_3) j ≤ 299 := zup_P (P := fun x9 => 0 ≤ x9 ∧ x9 ≤ 299) jw58_1407 (show 0 ≤ (d58_3) ∧ (d58_3) ≤ 299 by omega)
                obtain ⟨a_2004, ea_2004⟩ : ∃ a9 : Int → Int, a9 = zup w58_1407 (d58_1) (d58_3) := ⟨_, rfl⟩
                rw [← ea_2004] at hP hD ra_2004
                have hP : va_P (dC, dI) vwQ [(h0, .inr (13, [v14_0, .int (zI (z14_n)), v14_2, v14_3, .ref q_1404, .ref q_1405, .int (zI (z_2003)), .ref q_1407, v14_8, v14_9, v14_10, v14_11, v14_12])), (q_1404, .inl (cA_1404, n14_idom, .inl (fun j : Nat => zI (a14_idom (j : Int))))), (q_1405, .inl (cA_1405, n14_order, .inl (fun j : Nat => zI (a_2002 (j : Int))))), (q_1407, .inl (cA_1407, n14_stack, .inl (fun j : Nat => zI (a_2004 (j : Int)))))] H := hP
                have hD : va_D A [(h0, .inr (13, [v14_0, .int (zI (z14_n)), v14_2, v14_3, .ref q_1404, .ref q_1405, .int (zI (z_2003)), .ref q_1407, v14_8, v14_9, v14_10, v14_11, v14_12])), (q_1404, .inl (cA_1404, n14_idom, .inl (fun j : Nat => zI (a14_idom (j : Int))))), (q_1405, .inl (cA_1405, n14_order, .inl (fun j : Nat => zI (a_2002 (j : Int))))), (q_1407, .inl (cA_1407, n14_stack, .inl (fun j : Nat => zI (a_2004 (j : Int)))))] := hD
                refine lv_iinc (v := zI (d58_1 + 1)) (lv' := [(1, .int (zI (d58_1 + 1))), (0, .ref h0), (2, .int (zI (w17_1407 (d17_1 - 1)))), (3, .int (zI (d58_3)))]) hx hb dX14_order_82 hl (k := 1) rfl (zI_add (d58_1) (1)) (by decide) rfl (fun ls hl => ?_)
                refine lv_iinc (v := zI (d58_3 - 1)) (lv' := [(3, .int (zI (d58_3 - 1))), (1, .int (zI (d58_1 + 1))), (0, .ref h0), (2, .int (zI (w17_1407 (d17_1 - 1))))]) hx hb dX14_order_85 hl (k := 3) rfl (zI_dec (d58_3) (1)) (by decide) rfl (fun ls hl => ?_)
                refine lv_goto (tgt := 58) hx hb dX14_order_88 (by decide) ?_
                exact ih58 (d58_3 - 1) (d58_1 + 1) a_2004 ls H _ (by omega) (by omega) ra_2004 (by rw [ea_2004]; exact hpu.1) (by omega) (lv_sub hl [2, 1, 3, 0] rfl) hP hD hS
              · have yb69 : ¬ (a14_idom (d58_3) : Int) = (w17_1407 (d17_1 - 1) : Int) := fun q => b69 ((zI_eq (a := a14_idom (d58_3)) (b := w17_1407 (d17_1 - 1)) (by omega) (by omega) (by omega) (by omega)).mpr q)
                refine lv_goto (tgt := 85) hx hb dX14_order_72 (by decide) ?_
                refine lv_iinc (v := zI (d58_3 - 1)) (lv' := [(3, .int (zI (d58_3 - 1))), (0, .ref h0), (1, .int (zI (d58_1))), (2, .int (zI (w17_1407 (d17_1 - 1))))]) hx hb dX14_order_85 hl (k := 3) rfl (zI_dec (d58_3) (1)) (by decide) rfl (fun ls hl => ?_)
                refine lv_goto (tgt := 58) hx hb dX14_order_88 (by decide) ?_
                exact ih58 (d58_3 - 1) d58_1 w58_1407 ls H _ (by omega) (by omega) jw58_1407 (jj58.next (by omega)) (by omega) (lv_sub hl [1, 2, 3, 0] rfl) hP hD hS
        exact key58 ((z14_n - 1 : Int).toNat + 1) (z14_n - 1) (d17_1 - 1) w17_1407 ls H _ (by omega) (by omega) jw17_1407 (by rw [ea_2002]; exact jo17.pop (by omega) (by omega)) (by omega) (lv_sub hl [3, 2, 1, 0] rfl) hP hD hS
  exact key17 ((z14_n - 0 : Int).toNat + 1) 1 0 a14_order a_2001 ls H _ (by omega) (by omega) hR_a14_order ra_2001 (by rw [ea_2001]; exact OI.init _ _ _ hnn (by omega)) (by omega) (lv_sub hl [1, 0] rfl) hP hD hS
