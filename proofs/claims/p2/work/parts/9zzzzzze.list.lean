theorem dJx4a65c_rangeCheckForAdd_d00df_0 : decode cJx4a65c_rangeCheckForAdd_d00df 0 = .ok (.iload_n 1, 1) := by decide +kernel
theorem dJx4a65c_rangeCheckForAdd_d00df_1 : decode cJx4a65c_rangeCheckForAdd_d00df 1 = .ok (.aload_n 0, 1) := by decide +kernel
theorem dJx4a65c_rangeCheckForAdd_d00df_2 : decode cJx4a65c_rangeCheckForAdd_d00df 2 = .ok (.getfield 48, 3) := by decide +kernel
theorem dJx4a65c_rangeCheckForAdd_d00df_5 : decode cJx4a65c_rangeCheckForAdd_d00df 5 = .ok (.if_icmp .gt 7, 3) := by decide +kernel
theorem dJx4a65c_rangeCheckForAdd_d00df_8 : decode cJx4a65c_rangeCheckForAdd_d00df 8 = .ok (.iload_n 1, 1) := by decide +kernel
theorem dJx4a65c_rangeCheckForAdd_d00df_9 : decode cJx4a65c_rangeCheckForAdd_d00df 9 = .ok (.ifCond .ge 16, 3) := by decide +kernel
theorem dJx4a65c_rangeCheckForAdd_d00df_25 : decode cJx4a65c_rangeCheckForAdd_d00df 25 = .ok (.return_, 1) := by decide +kernel
def o_AL_rangeCheck : List Cond := [.fieldLink RJx4a65c 48 "java/util/ArrayList" "size" "I"]
def v_AL_rangeCheck : List Cond := .code yJx4a65c_rangeCheckForAdd_d00df cJx4a65c_rangeCheckForAdd_d00df 2 none :: (o_AL_rangeCheck ++ (wsJx4a65c0 ++ []))
theorem mow_AL_rangeCheck : ∀ w ∈ o_AL_rangeCheck, w ∈ v_AL_rangeCheck := fun _ h => List.mem_cons_of_mem _ (List.mem_append_left _ h)
theorem mem_AL_rangeCheck_0 : ∀ w ∈ wsJx4a65c0, w ∈ v_AL_rangeCheck := fun _ h => List.mem_cons_of_mem _ (List.mem_append_right _ (List.mem_append_left _ h))
set_option maxRecDepth 20000 in
theorem gw_AL_rangeCheck : v_AL_rangeCheck.all goodWord = true := by decide +kernel
set_option maxHeartbeats 4000000 in
set_option maxRecDepth 100000 in
theorem c_AL_rangeCheck (l : Launch) (dC : Nat → ClassId) (dI : Nat → Nat → Nat) (h0 : Nat) (r30_modCount : Int32) (z30_size : Int) (q_el : Nat) (cE : ClassId) (ne : Nat) (fe : Nat → Option Nat) (i : Int) (hNz30_size : 0 ≤ z30_size ∧ z30_size ≤ 100000) (hNne : ne ≤ 100000) (hNi : 0 ≤ i ∧ i ≤ z30_size) (sz : Nat) : Met l yJx4a65c_rangeCheckForAdd_d00df v_AL_rangeCheck ({ frames := 0, cells := 0, slots := 0, locals := 0 }) (va_Pc [.ref h0, .int (zI (i))] (fun U => U.heap.size = sz ∧ va_P (dC, dI) vwQ [(h0, .inr (18, [.int r30_modCount, .ref q_el, .int (zI (z30_size))])), (q_el, .inl (cE, ne, .inr (.inr (.inr (.inr fe)))))] U.heap ∧ va_K (dC, dI) vwQ [(cE, .object "java/lang/Object")] U ∧ va_D (fun _ => True) [(h0, .inr (18, [.int r30_modCount, .ref q_el, .int (zI (z30_size))])), (q_el, .inl (cE, ne, .inr (.inr (.inr (.inr fe)))))])) (va_Qv (fun _ : Unit => True) (fun (_ : Unit) (t : State) => va_P (dC, dI) vwQ [(h0, .inr (18, [.int r30_modCount, .ref q_el, .int (zI (z30_size))])), (q_el, .inl (cE, ne, .inr (.inr (.inr (.inr fe)))))] t.heap ∧ va_K (dC, dI) vwQ [(cE, .object "java/lang/Object")] t ∧ va_D (va_A [(h0, .inr (18, [.int r30_modCount, .ref q_el, .int (zI (z30_size))])), (q_el, .inl (cE, ne, .inr (.inr (.inr (.inr fe)))))] sz) [(h0, .inr (18, [.int r30_modCount, .ref q_el, .int (zI (z30_size))])), (q_el, .inl (cE, ne, .inr (.inr (.inr (.inr fe)))))]) (va_A [(h0, .inr (18, [.int r30_modCount, .ref q_el, .int (zI (z30_size))])), (q_el, .inl (cE, ne, .inr (.inr (.inr (.inr fe)))))] sz)) 0 0 (va_A [(h0, .inr (18, [.int r30_modCount, .ref q_el, .int (zI (z30_size))])), (q_el, .inl (cE, ne, .inr (.inr (.inr (.inr fe)))))] sz) := by
  refine Met.ofW (cc := cJx4a65c_rangeCheckForAdd_d00df) (maxL := 2) (ret := none) (by decide) rfl ?_
  intro p e s m args below meth c s₁ B hml hv
  obtain ⟨rfl, hsz, hP, hK, hD0⟩ := hv
  have hx := B.exec
  have hb := B.bytes
  have hr := B.returns
  have hts := atoms_spec (ws := v_AL_rangeCheck) B.pre
  have hown : s.vm.findClass RJx4a65c = some m.cls := findClass_of_methodNamed B.named
  have hlocks := B.notSynchronized
  have ow : ∀ {k : Nat} {w : Cond}, o_AL_rangeCheck[k]? = some w → w.before ([.ref h0, .int (zI (i))] : List Value).toArray s = true := fun h => hts _ (mow_AL_rangeCheck _ (List.mem_of_getElem? h))
  subst hsz
  have hD := hD0.self (sz := s.heap.size)
  generalize hAe : va_A [(h0, .inr (18, [.int r30_modCount, .ref q_el, .int (zI (z30_size))])), (q_el, .inl (cE, ne, .inr (.inr (.inr (.inr fe)))))] s.heap.size = A at hD ⊢
  have hA : ∀ q : Nat, s.heap.size ≤ q → A q := fun q h => by rw [← hAe]; exact Or.inr h
  have hS : va_S A s.heap s.heap [] := va_S.rf
  have hP : va_P (dC, dI) vwQ [(h0, .inr (18, [.int r30_modCount, .ref q_el, .int (zI (z30_size))])), (q_el, .inl (cE, ne, .inr (.inr (.inr (.inr fe)))))] s.heap := hP
  have hl := lv_entry ([.ref h0, .int (zI (i))]) (n := 2) (Nat.le_of_ble_eq_true rfl)
  rw [lg_entry_eq]
  generalize (lg_sl ([.ref h0, .int (zI (i))]) ++ List.replicate (2 - (lg_sl ([.ref h0, .int (zI (i))])).length) Slot.unset).toArray = ls at hl ⊢
  have hl : lv_has ls 2 [(0, .ref h0), (1, .int (zI (i)))] := hl
  obtain ⟨H, hH⟩ : ∃ H, H = s.heap := ⟨_, rfl⟩
  rw [← hH] at hP
  have hS : va_S A s.heap H [] := by rw [hH]; exact hS
  rw [← hH]
  refine zW_cap (fun Q hQ => ?_)
  refine lv_iload_n hx hb dJx4a65c_rangeCheckForAdd_d00df_0 rfl (lv_at hl 1 rfl) ?_
  refine lv_aload_n hx hb dJx4a65c_rangeCheckForAdd_d00df_1 rfl (lv_at hl 0 rfl) ?_
  refine va_get (D := (dC, dI)) (ci := 18) (v := .int (zI (z30_size))) (C := RJx4a65c) (T := TJx4a65c) (N := 3) hx hb hts mem_AL_rangeCheck_0 hown hK hP 0 rfl rfl 2 (by decide) (ow (k := 0) rfl) (fun _ h9 => h9) rfl dJx4a65c_rangeCheckForAdd_d00df_2 ?_
  refine lv_icmp_gt (tgt := 12) hx hb dJx4a65c_rangeCheckForAdd_d00df_5 (by decide) (fun b5 => ?_) (fun b5 => ?_)
  · have yb5 : (z30_size : Int) < (i : Int) := (zI_lt (a := z30_size) (b := i) (by omega) (by omega) (by omega) (by omega)).mp b5
    exfalso
    omega
  · have yb5 : ¬ (z30_size : Int) < (i : Int) := fun q => b5 ((zI_lt (a := z30_size) (b := i) (by omega) (by omega) (by omega) (by omega)).mpr q)
    refine lv_iload_n hx hb dJx4a65c_rangeCheckForAdd_d00df_8 rfl (lv_at hl 1 rfl) ?_
    refine lv_if_ge (tgt := 25) hx hb dJx4a65c_rangeCheckForAdd_d00df_9 (by decide) (fun b9 => ?_) (fun b9 => ?_)
    · have yb9 : (0 : Int) ≤ (i : Int) := (zI_le (a := 0) (b := i) (by omega) (by omega) (by omega) (by omega)).mp b9
      subst hQ
      refine W.widen (k := 0) (n := 0) (Nat.le_of_ble_eq_true rfl) (Nat.le_of_ble_eq_true rfl) ?_
      exact W.vret hx hb hr (fun t ht hW => ⟨⟨(), rfl, trivial, by rw [ht]; exact hP, va_K.moved hW.alike hK, hD⟩, hS.F ht⟩) hS.2.2 dJx4a65c_rangeCheckForAdd_d00df_25
    · have yb9 : ¬ (0 : Int) ≤ (i : Int) := fun q => b9 ((zI_le (a := 0) (b := i) (by omega) (by omega) (by omega) (by omega)).mpr q)
      exfalso
      omega
theorem dJx4a65c_add_7a177_0 : decode cJx4a65c_add_7a177 0 = .ok (.aload_n 0, 1) := by decide +kernel
theorem dJx4a65c_add_7a177_1 : decode cJx4a65c_add_7a177 1 = .ok (.iload_n 1, 1) := by decide +kernel
theorem dJx4a65c_add_7a177_2 : decode cJx4a65c_add_7a177 2 = .ok (.invokevirtual 135, 3) := by decide +kernel
theorem dJx4a65c_add_7a177_5 : decode cJx4a65c_add_7a177 5 = .ok (.aload_n 0, 1) := by decide +kernel
theorem dJx4a65c_add_7a177_6 : decode cJx4a65c_add_7a177 6 = .ok (.dup, 1) := by decide +kernel
theorem dJx4a65c_add_7a177_7 : decode cJx4a65c_add_7a177 7 = .ok (.getfield 63, 3) := by decide +kernel
theorem dJx4a65c_add_7a177_10 : decode cJx4a65c_add_7a177 10 = .ok (.iconst 1, 1) := by decide +kernel
theorem dJx4a65c_add_7a177_11 : decode cJx4a65c_add_7a177 11 = .ok (.iadd, 1) := by decide +kernel
theorem dJx4a65c_add_7a177_12 : decode cJx4a65c_add_7a177 12 = .ok (.putfield 63, 3) := by decide +kernel
theorem dJx4a65c_add_7a177_15 : decode cJx4a65c_add_7a177 15 = .ok (.aload_n 0, 1) := by decide +kernel
theorem dJx4a65c_add_7a177_16 : decode cJx4a65c_add_7a177 16 = .ok (.getfield 48, 3) := by decide +kernel
theorem dJx4a65c_add_7a177_19 : decode cJx4a65c_add_7a177 19 = .ok (.dup, 1) := by decide +kernel
theorem dJx4a65c_add_7a177_20 : decode cJx4a65c_add_7a177 20 = .ok (.istore_n 3, 1) := by decide +kernel
theorem dJx4a65c_add_7a177_21 : decode cJx4a65c_add_7a177 21 = .ok (.aload_n 0, 1) := by decide +kernel
theorem dJx4a65c_add_7a177_22 : decode cJx4a65c_add_7a177 22 = .ok (.getfield 9, 3) := by decide +kernel
theorem dJx4a65c_add_7a177_25 : decode cJx4a65c_add_7a177 25 = .ok (.dup, 1) := by decide +kernel
theorem dJx4a65c_add_7a177_26 : decode cJx4a65c_add_7a177 26 = .ok (.astore 4, 2) := by decide +kernel
theorem dJx4a65c_add_7a177_28 : decode cJx4a65c_add_7a177 28 = .ok (.arraylength, 1) := by decide +kernel
theorem dJx4a65c_add_7a177_29 : decode cJx4a65c_add_7a177 29 = .ok (.if_icmp .ne 9, 3) := by decide +kernel
theorem dJx4a65c_add_7a177_38 : decode cJx4a65c_add_7a177 38 = .ok (.aload 4, 2) := by decide +kernel
theorem dJx4a65c_add_7a177_40 : decode cJx4a65c_add_7a177 40 = .ok (.iload_n 1, 1) := by decide +kernel
theorem dJx4a65c_add_7a177_41 : decode cJx4a65c_add_7a177 41 = .ok (.aload 4, 2) := by decide +kernel
theorem dJx4a65c_add_7a177_43 : decode cJx4a65c_add_7a177 43 = .ok (.iload_n 1, 1) := by decide +kernel
theorem dJx4a65c_add_7a177_44 : decode cJx4a65c_add_7a177 44 = .ok (.iconst 1, 1) := by decide +kernel
theorem dJx4a65c_add_7a177_45 : decode cJx4a65c_add_7a177 45 = .ok (.iadd, 1) := by decide +kernel
theorem dJx4a65c_add_7a177_46 : decode cJx4a65c_add_7a177 46 = .ok (.iload_n 3, 1) := by decide +kernel
theorem dJx4a65c_add_7a177_47 : decode cJx4a65c_add_7a177 47 = .ok (.iload_n 1, 1) := by decide +kernel
theorem dJx4a65c_add_7a177_48 : decode cJx4a65c_add_7a177 48 = .ok (.isub, 1) := by decide +kernel
theorem dJx4a65c_add_7a177_49 : decode cJx4a65c_add_7a177 49 = .ok (.invokestatic 112, 3) := by decide +kernel
theorem dJx4a65c_add_7a177_52 : decode cJx4a65c_add_7a177 52 = .ok (.aload 4, 2) := by decide +kernel
theorem dJx4a65c_add_7a177_54 : decode cJx4a65c_add_7a177 54 = .ok (.iload_n 1, 1) := by decide +kernel
theorem dJx4a65c_add_7a177_55 : decode cJx4a65c_add_7a177 55 = .ok (.aload_n 2, 1) := by decide +kernel
theorem dJx4a65c_add_7a177_56 : decode cJx4a65c_add_7a177 56 = .ok (.aastore, 1) := by decide +kernel
theorem dJx4a65c_add_7a177_57 : decode cJx4a65c_add_7a177 57 = .ok (.aload_n 0, 1) := by decide +kernel
theorem dJx4a65c_add_7a177_58 : decode cJx4a65c_add_7a177 58 = .ok (.iload_n 3, 1) := by decide +kernel
theorem dJx4a65c_add_7a177_59 : decode cJx4a65c_add_7a177 59 = .ok (.iconst 1, 1) := by decide +kernel
theorem dJx4a65c_add_7a177_60 : decode cJx4a65c_add_7a177 60 = .ok (.iadd, 1) := by decide +kernel
theorem dJx4a65c_add_7a177_61 : decode cJx4a65c_add_7a177 61 = .ok (.putfield 48, 3) := by decide +kernel
theorem dJx4a65c_add_7a177_64 : decode cJx4a65c_add_7a177 64 = .ok (.return_, 1) := by decide +kernel
theorem dJx4a65c_add_7a177_32 : decode cJx4a65c_add_7a177 32 = .ok (.aload_n 0, 1) := by decide +kernel
theorem dJx4a65c_add_7a177_33 : decode cJx4a65c_add_7a177 33 = .ok (.invokevirtual 129, 3) := by decide +kernel
theorem dJx4a65c_add_7a177_36 : decode cJx4a65c_add_7a177 36 = .ok (.astore 4, 2) := by decide +kernel
def o_AL_addAt : List Cond := [.methodLink RJx4a65c 135 yJx4a65c_rangeCheckForAdd_d00df, .instanceMethod yJx4a65c_rangeCheckForAdd_d00df, .selects RJx4a65c yJx4a65c_rangeCheckForAdd_d00df yJx4a65c_rangeCheckForAdd_d00df, .initialized RJx4a65c, .fieldLink RJx4a65c 63 "java/util/ArrayList" "modCount" "I", .sameField "java/util/ArrayList" "java/util/AbstractList" "modCount" "I", .fieldLink RJx4a65c 48 "java/util/ArrayList" "size" "I", .fieldLink RJx4a65c 9 "java/util/ArrayList" "elementData" "[Ljava/lang/Object;", .methodLink RJx4a65c 112 arraycopyName, .native arraycopyName, .static arraycopyName, .initialized "java/lang/System", .methodLink RJx4a65c 129 yJx4a65c_grow_d5877, .instanceMethod yJx4a65c_grow_d5877, .selects RJx4a65c yJx4a65c_grow_d5877 yJx4a65c_grow_d5877]
def v_AL_addAt : List Cond := .code yJx4a65c_add_7a177 cJx4a65c_add_7a177 5 none :: (o_AL_addAt ++ (v_AL_rangeCheck ++ (wsJx4a65c0 ++ (v_AL_grow0 ++ []))))
theorem mow_AL_addAt : ∀ w ∈ o_AL_addAt, w ∈ v_AL_addAt := fun _ h => List.mem_cons_of_mem _ (List.mem_append_left _ h)
theorem mem_AL_addAt_0 : ∀ w ∈ v_AL_rangeCheck, w ∈ v_AL_addAt := fun _ h => List.mem_cons_of_mem _ (List.mem_append_right _ (List.mem_append_left _ h))
theorem mem_AL_addAt_1 : ∀ w ∈ wsJx4a65c0, w ∈ v_AL_addAt := fun _ h => List.mem_cons_of_mem _ (List.mem_append_right _ (List.mem_append_right _ (List.mem_append_left _ h)))
theorem mem_AL_addAt_2 : ∀ w ∈ v_AL_grow0, w ∈ v_AL_addAt := fun _ h => List.mem_cons_of_mem _ (List.mem_append_right _ (List.mem_append_right _ (List.mem_append_right _ (List.mem_append_left _ h))))
set_option maxRecDepth 20000 in
theorem gw_AL_addAt : v_AL_addAt.all goodWord = true := by decide +kernel
set_option maxRecDepth 20000 in
theorem g_AL_addAt_AL_rangeCheck : GoodIn v_AL_addAt (wsV RJx4a65c 135 RJx4a65c yJx4a65c_rangeCheckForAdd_d00df v_AL_rangeCheck) := goodIn_app (goodIn_sub (fun w h => mow_AL_addAt w (by revert w h; decide +kernel)) (by decide +kernel)) (goodIn_sub mem_AL_addAt_0 gw_AL_rangeCheck)
set_option maxRecDepth 20000 in
theorem g_AL_addAt_AL_grow0 : GoodIn v_AL_addAt (wsV RJx4a65c 129 RJx4a65c yJx4a65c_grow_d5877 v_AL_grow0) := goodIn_app (goodIn_sub (fun w h => mow_AL_addAt w (by revert w h; decide +kernel)) (by decide +kernel)) (goodIn_sub mem_AL_addAt_2 gw_AL_grow0)
set_option maxHeartbeats 4000000 in
set_option maxRecDepth 100000 in
theorem c_AL_addAt (l : Launch) (dC : Nat → ClassId) (dI : Nat → Nat → Nat) (h0 : Nat) (r30_modCount : Int32) (z30_size : Int) (q_el : Nat) (cE : ClassId) (ne : Nat) (fe : Nat → Option Nat) (L : List Nat) (P : PO) (i : Int) (y : Nat) (hNz30_size : 0 ≤ z30_size ∧ z30_size ≤ 100000) (hNne : ne ≤ 100000) (hNm : 0 < ne ∧ ne ≤ 40000 ∧ z30_size ≤ ne ∧ z30_size ≤ 40000) (hNi : 0 ≤ i ∧ i ≤ z30_size) (hX_el : ELS L P fe) (hX_y : y ∈ L ∧ OBK (P.kd y)) (sz : Nat) (sx_mi : Nat) : Met l yJx4a65c_add_7a177 v_AL_addAt ({ frames := 5, cells := 1, slots := 100000, locals := 147 }) (va_Pc [.ref h0, .int (zI (i)), .ref y] (fun U => U.heap.size = sz ∧ va_P (dC, dI) vwQ ([(h0, .inr (18, [.int r30_modCount, .ref q_el, .int (zI (z30_size))])), (q_el, .inl (cE, ne, .inr (.inr (.inr (.inr fe)))))] ++ va_pl L (pE P)) U.heap ∧ va_K (dC, dI) vwQ [(cE, .object "java/lang/Object")] U ∧ va_D (fun _ => True) ([(h0, .inr (18, [.int r30_modCount, .ref q_el, .int (zI (z30_size))])), (q_el, .inl (cE, ne, .inr (.inr (.inr (.inr fe)))))] ++ va_pl L (pE P)) ∧ va_Nw (.castable "SsaForgeModel$Row" "java/lang/Object") U ∧ va_Nw (.castable "SsaForgeModel$Phi" "java/lang/Object") U ∧ va_Nw (.castable "SsaForgeModel$Block" "java/lang/Object") U ∧ va_Dc U ∧ va_Mi "[Ljava/lang/Object;" sx_mi U ∧ va_AO "java/lang/Object" U)) (va_Qv (fun _ : Unit => True) (fun (_ : Unit) (t : State) => ∃ (x0_9 : Int32) (z1_9 : Int) (qn_9 : Nat) (cn_9 : ClassId) (nn_9 : Nat) (fn_9 : Nat → Option Nat), ((0 ≤ z1_9 ∧ z1_9 ≤ 100000) ∧ (z1_9 = z30_size + 1 ∧ (z30_size + 1 ≤ (nn_9 : Int) ∧ (nn_9 : Int) ≤ 2 * ne + 1) ∧ ELS L P fn_9 ∧ INSF fe fn_9 (i) (z30_size) y)) ∧ va_P (dC, dI) vwQ ([(h0, .inr (18, [.int x0_9, .ref qn_9, .int (zI (z1_9))])), (qn_9, .inl (cn_9, nn_9, .inr (.inr (.inr (.inr fn_9)))))] ++ va_pl L (pE P)) t.heap ∧ va_K (dC, dI) vwQ [(cn_9, .object "java/lang/Object")] t ∧ va_D (va_A ([(h0, .inr (18, [.int r30_modCount, .ref q_el, .int (zI (z30_size))])), (q_el, .inl (cE, ne, .inr (.inr (.inr (.inr fe)))))] ++ va_pl L (pE P)) sz) ([(h0, .inr (18, [.int x0_9, .ref qn_9, .int (zI (z1_9))])), (qn_9, .inl (cn_9, nn_9, .inr (.inr (.inr (.inr fn_9)))))] ++ va_pl L (pE P))) (va_A ([(h0, .inr (18, [.int r30_modCount, .ref q_el, .int (zI (z30_size))])), (q_el, .inl (cE, ne, .inr (.inr (.inr (.inr fe)))))] ++ va_pl L (pE P)) sz)) 1 100000 (va_A ([(h0, .inr (18, [.int r30_modCount, .ref q_el, .int (zI (z30_size))])), (q_el, .inl (cE, ne, .inr (.inr (.inr (.inr fe)))))] ++ va_pl L (pE P)) sz) := by
  refine Met.ofW (cc := cJx4a65c_add_7a177) (maxL := 5) (ret := none) (by decide) rfl ?_
  intro p e s m args below meth c s₁ B hml hv
  obtain ⟨rfl, hsz, hP, hK, hD0, hp0, hp1, hp2, hp3, hp4, hp5⟩ := hv
  have hx := B.exec
  have hb := B.bytes
  have hr := B.returns
  have hts := atoms_spec (ws := v_AL_addAt) B.pre
  have hown : s.vm.findClass RJx4a65c = some m.cls := findClass_of_methodNamed B.named
  have hlocks := B.notSynchronized
  have ow : ∀ {k : Nat} {w : Cond}, o_AL_addAt[k]? = some w → w.before ([.ref h0, .int (zI (i)), .ref y] : List Value).toArray s = true := fun h => hts _ (mow_AL_addAt _ (List.mem_of_getElem? h))
  subst hsz
  have hD := hD0.self (sz := s.heap.size)
  generalize hAe : va_A ([(h0, .inr (18, [.int r30_modCount, .ref q_el, .int (zI (z30_size))])), (q_el, .inl (cE, ne, .inr (.inr (.inr (.inr fe)))))] ++ va_pl L (pE P)) s.heap.size = A at hD hp5 ⊢
  have hA : ∀ q : Nat, s.heap.size ≤ q → A q := fun q h => by rw [← hAe]; exact Or.inr h
  have hS : va_S A s.heap s.heap [] := va_S.rf
  have hP : va_P (dC, dI) vwQ ([(h0, .inr (18, [.int r30_modCount, .ref q_el, .int (zI (z30_size))])), (q_el, .inl (cE, ne, .inr (.inr (.inr (.inr fe)))))] ++ va_pl L (pE P)) s.heap := hP
  have hl := lv_entry ([.ref h0, .int (zI (i)), .ref y]) (n := 5) (Nat.le_of_ble_eq_true rfl)
  rw [lg_entry_eq]
  generalize (lg_sl ([.ref h0, .int (zI (i)), .ref y]) ++ List.replicate (5 - (lg_sl ([.ref h0, .int (zI (i)), .ref y])).length) Slot.unset).toArray = ls at hl ⊢
  have hl : lv_has ls 5 [(0, .ref h0), (1, .int (zI (i))), (2, .ref y)] := hl
  obtain ⟨H, hH⟩ : ∃ H, H = s.heap := ⟨_, rfl⟩
  rw [← hH] at hP
  have hS : va_S A s.heap H [] := by rw [hH]; exact hS
  rw [← hH]
  refine zW_cap (fun Q hQ => ?_)
  refine lv_aload_n hx hb dJx4a65c_add_7a177_0 rfl (lv_at hl 0 rfl) ?_
  refine lv_iload_n hx hb dJx4a65c_add_7a177_1 rfl (lv_at hl 1 rfl) ?_
  have hPc := hP.sub (ws' := [(h0, .inr (18, [.int r30_modCount, .ref q_el, .int (zI (z30_size))])), (q_el, .inl (cE, ne, .inr (.inr (.inr (.inr fe)))))]) [0, 1] rfl
  have hDc := hD.sub (ws' := [(h0, .inr (18, [.int r30_modCount, .ref q_el, .int (zI (z30_size))])), (q_el, .inl (cE, ne, .inr (.inr (.inr (.inr fe)))))]) [0, 1] (by decide) rfl
  have hKc := hK.sub (tys' := [(cE, .object "java/lang/Object")]) [0] rfl
  have hFc := va_free (wc := [(h0, .inr (18, [.int r30_modCount, .ref q_el, .int (zI (z30_size))])), (q_el, .inl (cE, ne, .inr (.inr (.inr (.inr fe)))))]) hD hS hA [0, 1] rfl
  refine va_callv (va_runV (As := [.int (zI (i))]) (rest := []) ⟨hx, hb, hml, hown, hts⟩ (c_AL_rangeCheck l dC dI h0 r30_modCount z30_size q_el cE ne fe i (by omega) (by omega) (by omega) H.size) (cwV 1 hts g_AL_addAt_AL_rangeCheck rfl rfl rfl (by decide +kernel) ⟨(Nat.le_of_ble_eq_true rfl), (Nat.le_of_ble_eq_true rfl)⟩) ⟨fun a U g mk q => by obtain ⟨q0, q1, qP, qK, qD⟩ := q; exact ⟨q0, q1, qP, va_K.moved (u := U) (U := U.calling g mk a) (Vm.Alike.refl U.vm) qK, qD⟩, va_recv hKc hPc (ci := 18) (q0 := 0) rfl rfl, fun U hU hW => ⟨rfl, by rw [hU], by rw [hU]; exact hPc, va_K.moved hW.alike hKc, hDc.weaken (fun _ _ _ _ => trivial)⟩⟩ rfl rfl hl.1 rfl (lv_room (Nat.le_of_ble_eq_true rfl)) dJx4a65c_add_7a177_2 ⟨(Nat.le_of_ble_eq_true rfl), (Nat.le_of_ble_eq_true rfl)⟩) hS (fun q _ h => hFc q h) hFc (fun  u t H1 locs ht hvm hw hB hz1 hk1 hS => ?_)
  obtain ⟨hP1, hK1, hD1⟩ := hB
  rw [ht] at hP1
  have hK1 := va_K.moved hvm.symm hK1
  obtain ⟨hP, hD⟩ := va_joinQ (X := [(h0, .inr (18, [.int r30_modCount, .ref q_el, .int (zI (z30_size))])), (q_el, .inl (cE, ne, .inr (.inr (.inr (.inr fe)))))]) (cx := [(h0, .inr (18, [.int r30_modCount, .ref q_el, .int (zI (z30_size))])), (q_el, .inl (cE, ne, .inr (.inr (.inr (.inr fe)))))]) (wr := []) (w1 := [(h0, .inr (18, [.int r30_modCount, .ref q_el, .int (zI (z30_size))])), (q_el, .inl (cE, ne, .inr (.inr (.inr (.inr fe)))))]) (pl := va_pl L (pE P)) hP hD [0, 1] [] rfl rfl (by decide) (by decide) hk1 hFc hP1 hD1
  have hK := (hK.sub (tys' := []) [] rfl).app hK1
  generalize H1 = H at hP hS ⊢
  have hP : va_P (dC, dI) vwQ ([(h0, .inr (18, [.int r30_modCount, .ref q_el, .int (zI (z30_size))])), (q_el, .inl (cE, ne, .inr (.inr (.inr (.inr fe)))))] ++ va_pl L (pE P)) H := hP
  have hD : va_D A ([(h0, .inr (18, [.int r30_modCount, .ref q_el, .int (zI (z30_size))])), (q_el, .inl (cE, ne, .inr (.inr (.inr (.inr fe)))))] ++ va_pl L (pE P)) := hD
  have hK : va_K (dC, dI) vwQ [(cE, .object "java/lang/Object")] s := hK
  refine W.widen (k := 0) (n := 0) (Nat.le_of_ble_eq_true rfl) (Nat.le_of_ble_eq_true rfl) ?_
  refine lv_aload_n hx hb dJx4a65c_add_7a177_5 rfl (lv_at hl 0 rfl) ?_
  refine lv_dup hx hb dJx4a65c_add_7a177_6 rfl ?_
  refine va_get (D := (dC, dI)) (ci := 18) (v := .int r30_modCount) (C := RJx4a65c) (T := TJx4a65c) (N := 3) hx hb hts mem_AL_addAt_1 hown hK hP 0 rfl rfl 0 (by decide) (ow (k := 4) rfl) (fun x9 h9 => u_same (ow (k := 5) rfl) x9 h9) rfl dJx4a65c_add_7a177_7 ?_
  refine lv_iconst (v := 1) hx hb dJx4a65c_add_7a177_10 (by decide) ?_
  refine lv_iadd hx hb dJx4a65c_add_7a177_11 ?_
  refine lv_topi (fun x_1 _ => ?_)
  refine va_put (D := (dC, dI)) (ci := 18) (v := .int x_1) (ty := .int) (C := RJx4a65c) (T := TJx4a65c) (N := 3) hx hb hts mem_AL_addAt_1 tyJx4a65c tyJx4a65c_ok nmJx4a65c hown hK hP hD hS 0 rfl rfl 0 (by decide) (ow (k := 4) rfl) (fun x9 h9 => u_same (ow (k := 5) rfl) x9 h9) rfl (by decide +kernel) rfl rfl (Nat.le_of_ble_eq_true rfl) dJx4a65c_add_7a177_12 (fun H locs hP hD hS => ?_)
  have hP : va_P (dC, dI) vwQ ([(h0, .inr (18, [.int x_1, .ref q_el, .int (zI (z30_size))])), (q_el, .inl (cE, ne, .inr (.inr (.inr (.inr fe)))))] ++ va_pl L (pE P)) H := hP
  have hD : va_D A ([(h0, .inr (18, [.int x_1, .ref q_el, .int (zI (z30_size))])), (q_el, .inl (cE, ne, .inr (.inr (.inr (.inr fe)))))] ++ va_pl L (pE P)) := hD
  refine lv_aload_n hx hb dJx4a65c_add_7a177_15 rfl (lv_at hl 0 rfl) ?_
  refine va_get (D := (dC, dI)) (ci := 18) (v := .int (zI (z30_size))) (C := RJx4a65c) (T := TJx4a65c) (N := 3) hx hb hts mem_AL_addAt_1 hown hK hP 0 rfl rfl 2 (by decide) (ow (k := 6) rfl) (fun _ h9 => h9) rfl dJx4a65c_add_7a177_16 ?_
  refine lv_dup hx hb dJx4a65c_add_7a177_19 rfl ?_
  refine lv_istore_n (lv' := [(3, .int (zI (z30_size))), (0, .ref h0), (1, .int (zI (i))), (2, .ref y)]) hx hb dJx4a65c_add_7a177_20 rfl hl (by decide) rfl (fun ls hl => ?_)
  refine lv_aload_n hx hb dJx4a65c_add_7a177_21 rfl (lv_at hl 1 rfl) ?_
  refine va_get (D := (dC, dI)) (ci := 18) (v := .ref q_el) (C := RJx4a65c) (T := TJx4a65c) (N := 3) hx hb hts mem_AL_addAt_1 hown hK hP 0 rfl rfl 1 (by decide) (ow (k := 7) rfl) (fun _ h9 => h9) rfl dJx4a65c_add_7a177_22 ?_
  refine lv_dup hx hb dJx4a65c_add_7a177_25 rfl ?_
  refine lv_astore (lv' := [(4, .ref q_el), (3, .int (zI (z30_size))), (0, .ref h0), (1, .int (zI (i))), (2, .ref y)]) hx hb dJx4a65c_add_7a177_26 hl (by decide) rfl (fun ls hl => ?_)
  refine va_alen (v := zI ((ne : Int))) hx hb hK hP 1 0 rfl rfl (zI_ofNat ne) dJx4a65c_add_7a177_28 ?_
  refine lv_icmp_ne (tgt := 38) hx hb dJx4a65c_add_7a177_29 (by decide) (fun b29 => ?_) (fun b29 => ?_)
  · have yb29 : ¬ (z30_size : Int) = ((ne : Int) : Int) := fun q => b29 ((zI_eq (a := z30_size) (b := (ne : Int)) (by omega) (by omega) (by omega) (by omega)).mpr q)
    refine lv_aload hx hb dJx4a65c_add_7a177_38 (lv_at hl 0 rfl) ?_
    refine lv_iload_n hx hb dJx4a65c_add_7a177_40 rfl (lv_at hl 3 rfl) ?_
    refine lv_aload hx hb dJx4a65c_add_7a177_41 (lv_at hl 0 rfl) ?_
    refine lv_iload_n hx hb dJx4a65c_add_7a177_43 rfl (lv_at hl 3 rfl) ?_
    refine lv_iconst (v := 1) hx hb dJx4a65c_add_7a177_44 (by decide) ?_
    refine lv_iadd hx hb dJx4a65c_add_7a177_45 ?_
    refine lv_topi (fun z ez => ?_)
    obtain rfl : z = zI (i + 1) := ez.trans (zI_add (i) (1))
    refine lv_iload_n hx hb dJx4a65c_add_7a177_46 rfl (lv_at hl 1 rfl) ?_
    refine lv_iload_n hx hb dJx4a65c_add_7a177_47 rfl (lv_at hl 3 rfl) ?_
    refine lv_isub hx hb dJx4a65c_add_7a177_48 ?_
    refine lv_topi (fun z ez => ?_)
    obtain rfl : z = zI (z30_size - i) := ez.trans (zI_sub (z30_size) (i))
    refine va_copyM (sp := zI (i)) (dp := zI (i + 1)) (n := zI (z30_size - i)) hx hb (hml.trans hl.1.symm) hown (ow (k := 8) rfl) (ow (k := 9) rfl) (ow (k := 10) rfl) (ow (k := 11) rfl) hK hP hD hS 1 1 0 0 rfl rfl rfl rfl (zI_nn (by omega) (by omega)) (zI_nn (by omega) (by omega)) (zI_nn (by omega) (by omega)) (zI_sum (by omega) (by omega) (by omega) (by omega) (by omega)) (zI_sum (by omega) (by omega) (by omega) (by omega) (by omega)) (fun i9 _ y9 h9 => pool_any hK hP (hX_el _ _ h9).1 (hX_el _ _ h9).2 hp0 hp1 hp2) (Nat.le_of_ble_eq_true rfl) (Nat.le_of_ble_eq_true rfl) dJx4a65c_add_7a177_49 (fun H locs hP hD hS => ?_)
    have hP : va_P (dC, dI) vwQ ([(h0, .inr (18, [.int x_1, .ref q_el, .int (zI (z30_size))])), (q_el, .inl (cE, ne, .inr (.inr (.inr (.inr (va_cpy fe fe (zI (i)).toNatClampNeg (zI (i + 1)).toNatClampNeg (zI (z30_size - i)).toNatClampNeg))))))] ++ va_pl L (pE P)) H := hP
    have hD : va_D A ([(h0, .inr (18, [.int x_1, .ref q_el, .int (zI (z30_size))])), (q_el, .inl (cE, ne, .inr (.inr (.inr (.inr (va_cpy fe fe (zI (i)).toNatClampNeg (zI (i + 1)).toNatClampNeg (zI (z30_size - i)).toNatClampNeg))))))] ++ va_pl L (pE P)) := hD
    generalize efo_2 : (va_cpy fe fe (zI (i)).toNatClampNeg (zI (i + 1)).toNatClampNeg (zI (z30_size - i)).toNatClampNeg) = fo_2 at hP hD
    rw [zI_cl (a := i) (by omega) (by omega), zI_cl (a := i + 1) (by omega) (by omega), zI_cl (a := z30_size - i) (by omega) (by omega)] at efo_2
    have hP : va_P (dC, dI) vwQ ([(h0, .inr (18, [.int x_1, .ref q_el, .int (zI (z30_size))])), (q_el, .inl (cE, ne, .inr (.inr (.inr (.inr fo_2)))))] ++ va_pl L (pE P)) H := hP
    have hD : va_D A ([(h0, .inr (18, [.int x_1, .ref q_el, .int (zI (z30_size))])), (q_el, .inl (cE, ne, .inr (.inr (.inr (.inr fo_2)))))] ++ va_pl L (pE P)) := hD
    refine lv_aload hx hb dJx4a65c_add_7a177_52 (lv_at hl 0 rfl) ?_
    refine lv_iload_n hx hb dJx4a65c_add_7a177_54 rfl (lv_at hl 3 rfl) ?_
    refine lv_aload_n hx hb dJx4a65c_add_7a177_55 rfl (lv_at hl 4 rfl) ?_
    refine va_astqM (E := "java/lang/Object") (i := zI (i)) hx hb hK hP hD hS 1 0 rfl rfl (pool_any hK hP hX_y.1 hX_y.2 hp0 hp1 hp2) (zI_in (a := i) (n := ne) (by omega) (by omega) (by omega)) dJx4a65c_add_7a177_56 (fun H locs hP hD hS => ?_)
    have hP : va_P (dC, dI) vwQ ([(h0, .inr (18, [.int x_1, .ref q_el, .int (zI (z30_size))])), (q_el, .inl (cE, ne, .inr (.inr (.inr (.inr (va_up fo_2 (zI (i)).toNatClampNeg (some y)))))))] ++ va_pl L (pE P)) H := hP
    have hD : va_D A ([(h0, .inr (18, [.int x_1, .ref q_el, .int (zI (z30_size))])), (q_el, .inl (cE, ne, .inr (.inr (.inr (.inr (va_up fo_2 (zI (i)).toNatClampNeg (some y)))))))] ++ va_pl L (pE P)) := hD
    generalize efo_3 : (va_up fo_2 (zI (i)).toNatClampNeg (some y)) = fo_3 at hP hD
    rw [zI_cl (by omega) (by omega)] at efo_3
    have hP : va_P (dC, dI) vwQ ([(h0, .inr (18, [.int x_1, .ref q_el, .int (zI (z30_size))])), (q_el, .inl (cE, ne, .inr (.inr (.inr (.inr fo_3)))))] ++ va_pl L (pE P)) H := hP
    have hD : va_D A ([(h0, .inr (18, [.int x_1, .ref q_el, .int (zI (z30_size))])), (q_el, .inl (cE, ne, .inr (.inr (.inr (.inr fo_3)))))] ++ va_pl L (pE P)) := hD
    refine lv_aload_n hx hb dJx4a65c_add_7a177_57 rfl (lv_at hl 2 rfl) ?_
    refine lv_iload_n hx hb dJx4a65c_add_7a177_58 rfl (lv_at hl 1 rfl) ?_
    refine lv_iconst (v := 1) hx hb dJx4a65c_add_7a177_59 (by decide) ?_
    refine lv_iadd hx hb dJx4a65c_add_7a177_60 ?_
    refine lv_topi (fun z ez => ?_)
    obtain rfl : z = zI (z30_size + 1) := ez.trans (zI_add (z30_size) (1))
    refine va_put (D := (dC, dI)) (ci := 18) (v := .int (zI (z30_size + 1))) (ty := .int) (C := RJx4a65c) (T := TJx4a65c) (N := 3) hx hb hts mem_AL_addAt_1 tyJx4a65c tyJx4a65c_ok nmJx4a65c hown hK hP hD hS 0 rfl rfl 2 (by decide) (ow (k := 6) rfl) (fun _ h9 => h9) rfl (by decide +kernel) rfl rfl (Nat.le_of_ble_eq_true rfl) dJx4a65c_add_7a177_61 (fun H locs hP hD hS => ?_)
    have hP : va_P (dC, dI) vwQ ([(h0, .inr (18, [.int x_1, .ref q_el, .int (zI (z30_size + 1))])), (q_el, .inl (cE, ne, .inr (.inr (.inr (.inr fo_3)))))] ++ va_pl L (pE P)) H := hP
    have hD : va_D A ([(h0, .inr (18, [.int x_1, .ref q_el, .int (zI (z30_size + 1))])), (q_el, .inl (cE, ne, .inr (.inr (.inr (.inr fo_3)))))] ++ va_pl L (pE P)) := hD
    obtain ⟨z_4, ez_4⟩ : ∃ z9 : Int, z9 = z30_size + 1 := ⟨_, rfl⟩
    rw [← ez_4] at hP hD
    have hP : va_P (dC, dI) vwQ ([(h0, .inr (18, [.int x_1, .ref q_el, .int (zI (z_4))])), (q_el, .inl (cE, ne, .inr (.inr (.inr (.inr fo_3)))))] ++ va_pl L (pE P)) H := hP
    have hD : va_D A ([(h0, .inr (18, [.int x_1, .ref q_el, .int (zI (z_4))])), (q_el, .inl (cE, ne, .inr (.inr (.inr (.inr fo_3)))))] ++ va_pl L (pE P)) := hD
    subst hQ
    refine W.widen (k := 1) (n := 100000) (Nat.le_of_ble_eq_true rfl) (Nat.le_of_ble_eq_true rfl) ?_
    exact W.vret hx hb hr (fun t ht hW => ⟨⟨(), rfl, trivial, x_1, z_4, q_el, cE, ne, fo_3, ⟨(by omega), ⟨by omega, ⟨by omega, by omega⟩, (by rw [← efo_3, ← efo_2]; exact (hX_el.cpy hX_el _ _ _).put hX_y.1 hX_y.2), (by rw [← efo_3, ← efo_2]; exact INSF.of (by omega) (by omega) (fun _ _ => rfl))⟩⟩, by rw [ht]; exact hP, va_K.moved hW.alike hK, hD⟩, hS.F ht⟩) hS.2.2 dJx4a65c_add_7a177_64
  · have yb29 : (z30_size : Int) = ((ne : Int) : Int) := (zI_eq (a := z30_size) (b := (ne : Int)) (by omega) (by omega) (by omega) (by omega)).mp b29
    refine lv_aload_n hx hb dJx4a65c_add_7a177_32 rfl (lv_at hl 2 rfl) ?_
    have hPc := hP.part (X := [(h0, .inr (18, [.int x_1, .ref q_el, .int (zI (z30_size))])), (q_el, .inl (cE, ne, .inr (.inr (.inr (.inr fe)))))]) (cx := [(h0, .inr (18, [.int x_1, .ref q_el, .int (zI (z30_size))])), (q_el, .inl (cE, ne, .inr (.inr (.inr (.inr fe)))))]) (pl := va_pl L (pE P)) [0, 1] rfl
    have hDc := hD.part (X := [(h0, .inr (18, [.int x_1, .ref q_el, .int (zI (z30_size))])), (q_el, .inl (cE, ne, .inr (.inr (.inr (.inr fe)))))]) (cx := [(h0, .inr (18, [.int x_1, .ref q_el, .int (zI (z30_size))])), (q_el, .inl (cE, ne, .inr (.inr (.inr (.inr fe)))))]) (pl := va_pl L (pE P)) [0, 1] (by decide) rfl
    have hKc := hK.sub (tys' := [(cE, .object "java/lang/Object")]) [0] rfl
    have hFc := va_freeP (X := [(h0, .inr (18, [.int x_1, .ref q_el, .int (zI (z30_size))])), (q_el, .inl (cE, ne, .inr (.inr (.inr (.inr fe)))))]) (cx := [(h0, .inr (18, [.int x_1, .ref q_el, .int (zI (z30_size))])), (q_el, .inl (cE, ne, .inr (.inr (.inr (.inr fe)))))]) (pl := va_pl L (pE P)) hD hS hA [0, 1] rfl
    refine va_callr (va_runV (As := []) (rest := []) ⟨hx, hb, hml, hown, hts⟩ (c_AL_grow0 l dC dI h0 x_1 z30_size q_el cE ne fe L P (by omega) (by omega) (by omega) hX_el H.size sx_mi) (cwV 0 hts g_AL_addAt_AL_grow0 rfl rfl rfl (by decide +kernel) ⟨(Nat.le_of_ble_eq_true rfl), (Nat.le_of_ble_eq_true rfl)⟩) ⟨fun a U g mk q => by obtain ⟨q0, q1, qP, qK, qD, e0, e1, e2, e3, e4, e5⟩ := q; exact ⟨q0, q1, qP, va_K.moved (u := U) (U := U.calling g mk a) (Vm.Alike.refl U.vm) qK, qD, va_Dc.moved (u := U) (U := U.calling g mk a) (Vm.Alike.refl U.vm) e0, va_Mi.moved (u := U) (U := U.calling g mk a) (Vm.Alike.refl U.vm) e1, va_AO.moved (u := U) (U := U.calling g mk a) (Vm.Alike.refl U.vm) e2, va_Nw.same rfl (u := U) (U := U.calling g mk a) rfl e3, va_Nw.same rfl (u := U) (U := U.calling g mk a) rfl e4, va_Nw.same rfl (u := U) (U := U.calling g mk a) rfl e5⟩, va_recv hKc hPc (ci := 18) (q0 := 0) rfl rfl, fun U hU hW => ⟨rfl, by rw [hU], by rw [hU]; exact hPc, va_K.moved hW.alike hKc, hDc.weaken (fun _ _ _ _ => trivial), va_Dc.moved hW.alike hp3, va_Mi.moved hW.alike hp4, va_AO.moved hW.alike hp5, va_Nw.warmC hW hp0, va_Nw.warmC hW hp1, va_Nw.warmC hW hp2⟩⟩ rfl rfl hl.1 rfl (lv_room (Nat.le_of_ble_eq_true rfl)) dJx4a65c_add_7a177_33 ⟨(Nat.le_of_ble_eq_true rfl), (Nat.le_of_ble_eq_true rfl)⟩) hS (fun q _ h => hFc q h) hFc (fun u q_5 t H1 locs ht hvm hw hB hz1 hk1 hS => ?_)
    obtain ⟨cn_6, nn_7, fn_8, hxt_8, hP1, hK1, hD1⟩ := hB
    rw [ht] at hP1
    have hK1 := va_K.moved hvm.symm hK1
    obtain ⟨hP, hD⟩ := va_joinP (X := [(h0, .inr (18, [.int x_1, .ref q_el, .int (zI (z30_size))])), (q_el, .inl (cE, ne, .inr (.inr (.inr (.inr fe)))))]) (cx := [(h0, .inr (18, [.int x_1, .ref q_el, .int (zI (z30_size))])), (q_el, .inl (cE, ne, .inr (.inr (.inr (.inr fe)))))]) (wr := []) (rx := [(h0, .inr (18, [.int x_1, .ref q_5, .int (zI (z30_size))])), (q_el, .inl (cE, ne, .inr (.inr (.inr (.inr fe))))), (q_5, .inl (cn_6, nn_7, .inr (.inr (.inr (.inr fn_8)))))]) (pl := va_pl L (pE P)) (pl1 := va_pl L (pE P)) hP hD [0, 1] [] rfl rfl (by decide) (by decide) hk1 hFc hP1 hD1
    have hK := (hK.sub (tys' := []) [] rfl).app hK1
    generalize H1 = H at hP hS ⊢
    have hP : va_P (dC, dI) vwQ ([(h0, .inr (18, [.int x_1, .ref q_5, .int (zI (z30_size))])), (q_el, .inl (cE, ne, .inr (.inr (.inr (.inr fe))))), (q_5, .inl (cn_6, nn_7, .inr (.inr (.inr (.inr fn_8)))))] ++ va_pl L (pE P)) H := hP
    have hD : va_D A ([(h0, .inr (18, [.int x_1, .ref q_5, .int (zI (z30_size))])), (q_el, .inl (cE, ne, .inr (.inr (.inr (.inr fe))))), (q_5, .inl (cn_6, nn_7, .inr (.inr (.inr (.inr fn_8)))))] ++ va_pl L (pE P)) := hD
    have hK : va_K (dC, dI) vwQ [(cE, .object "java/lang/Object"), (cn_6, .object "java/lang/Object")] s := hK
    refine W.widen (k := 1) (n := 100000) (Nat.le_of_ble_eq_true rfl) (Nat.le_of_ble_eq_true rfl) ?_
    have hgr := hxt_8
    refine lv_astore (lv' := [(4, .ref q_5), (3, .int (zI (z30_size))), (0, .ref h0), (1, .int (zI (i))), (2, .ref y)]) hx hb dJx4a65c_add_7a177_36 hl (by decide) rfl (fun ls hl => ?_)
    refine lv_aload hx hb dJx4a65c_add_7a177_38 (lv_at hl 0 rfl) ?_
    refine lv_iload_n hx hb dJx4a65c_add_7a177_40 rfl (lv_at hl 3 rfl) ?_
    refine lv_aload hx hb dJx4a65c_add_7a177_41 (lv_at hl 0 rfl) ?_
    refine lv_iload_n hx hb dJx4a65c_add_7a177_43 rfl (lv_at hl 3 rfl) ?_
    refine lv_iconst (v := 1) hx hb dJx4a65c_add_7a177_44 (by decide) ?_
    refine lv_iadd hx hb dJx4a65c_add_7a177_45 ?_
    refine lv_topi (fun z ez => ?_)
    obtain rfl : z = zI (i + 1) := ez.trans (zI_add (i) (1))
    refine lv_iload_n hx hb dJx4a65c_add_7a177_46 rfl (lv_at hl 1 rfl) ?_
    refine lv_iload_n hx hb dJx4a65c_add_7a177_47 rfl (lv_at hl 3 rfl) ?_
    refine lv_isub hx hb dJx4a65c_add_7a177_48 ?_
    refine lv_topi (fun z ez => ?_)
    obtain rfl : z = zI (z30_size - i) := ez.trans (zI_sub (z30_size) (i))
    refine va_copyM (sp := zI (i)) (dp := zI (i + 1)) (n := zI (z30_size - i)) hx hb (hml.trans hl.1.symm) hown (ow (k := 8) rfl) (ow (k := 9) rfl) (ow (k := 10) rfl) (ow (k := 11) rfl) hK hP hD hS 2 2 1 1 rfl rfl rfl rfl (zI_nn (by omega) (by omega)) (zI_nn (by omega) (by omega)) (zI_nn (by omega) (by omega)) (zI_sum (by omega) (by omega) (by omega) (by omega) (by omega)) (zI_sum (by omega) (by omega) (by omega) (by omega) (by omega)) (fun i9 _ y9 h9 => pool_any hK hP (hgr.2.2.1 _ _ h9).1 (hgr.2.2.1 _ _ h9).2 hp0 hp1 hp2) (Nat.le_of_ble_eq_true rfl) (Nat.le_of_ble_eq_true rfl) dJx4a65c_add_7a177_49 (fun H locs hP hD hS => ?_)
    have hP : va_P (dC, dI) vwQ ([(h0, .inr (18, [.int x_1, .ref q_5, .int (zI (z30_size))])), (q_el, .inl (cE, ne, .inr (.inr (.inr (.inr fe))))), (q_5, .inl (cn_6, nn_7, .inr (.inr (.inr (.inr (va_cpy fn_8 fn_8 (zI (i)).toNatClampNeg (zI (i + 1)).toNatClampNeg (zI (z30_size - i)).toNatClampNeg))))))] ++ va_pl L (pE P)) H := hP
    have hD : va_D A ([(h0, .inr (18, [.int x_1, .ref q_5, .int (zI (z30_size))])), (q_el, .inl (cE, ne, .inr (.inr (.inr (.inr fe))))), (q_5, .inl (cn_6, nn_7, .inr (.inr (.inr (.inr (va_cpy fn_8 fn_8 (zI (i)).toNatClampNeg (zI (i + 1)).toNatClampNeg (zI (z30_size - i)).toNatClampNeg))))))] ++ va_pl L (pE P)) := hD
    generalize efo_9 : (va_cpy fn_8 fn_8 (zI (i)).toNatClampNeg (zI (i + 1)).toNatClampNeg (zI (z30_size - i)).toNatClampNeg) = fo_9 at hP hD
    rw [zI_cl (a := i) (by omega) (by omega), zI_cl (a := i + 1) (by omega) (by omega), zI_cl (a := z30_size - i) (by omega) (by omega)] at efo_9
    have hP : va_P (dC, dI) vwQ ([(h0, .inr (18, [.int x_1, .ref q_5, .int (zI (z30_size))])), (q_el, .inl (cE, ne, .inr (.inr (.inr (.inr fe))))), (q_5, .inl (cn_6, nn_7, .inr (.inr (.inr (.inr fo_9)))))] ++ va_pl L (pE P)) H := hP
    have hD : va_D A ([(h0, .inr (18, [.int x_1, .ref q_5, .int (zI (z30_size))])), (q_el, .inl (cE, ne, .inr (.inr (.inr (.inr fe))))), (q_5, .inl (cn_6, nn_7, .inr (.inr (.inr (.inr fo_9)))))] ++ va_pl L (pE P)) := hD
    refine lv_aload hx hb dJx4a65c_add_7a177_52 (lv_at hl 0 rfl) ?_
    refine lv_iload_n hx hb dJx4a65c_add_7a177_54 rfl (lv_at hl 3 rfl) ?_
    refine lv_aload_n hx hb dJx4a65c_add_7a177_55 rfl (lv_at hl 4 rfl) ?_
    refine va_astqM (E := "java/lang/Object") (i := zI (i)) hx hb hK hP hD hS 2 1 rfl rfl (pool_any hK hP hX_y.1 hX_y.2 hp0 hp1 hp2) (zI_in (a := i) (n := nn_7) (by omega) (by omega) (by omega)) dJx4a65c_add_7a177_56 (fun H locs hP hD hS => ?_)
    have hP : va_P (dC, dI) vwQ ([(h0, .inr (18, [.int x_1, .ref q_5, .int (zI (z30_size))])), (q_el, .inl (cE, ne, .inr (.inr (.inr (.inr fe))))), (q_5, .inl (cn_6, nn_7, .inr (.inr (.inr (.inr (va_up fo_9 (zI (i)).toNatClampNeg (some y)))))))] ++ va_pl L (pE P)) H := hP
    have hD : va_D A ([(h0, .inr (18, [.int x_1, .ref q_5, .int (zI (z30_size))])), (q_el, .inl (cE, ne, .inr (.inr (.inr (.inr fe))))), (q_5, .inl (cn_6, nn_7, .inr (.inr (.inr (.inr (va_up fo_9 (zI (i)).toNatClampNeg (some y)))))))] ++ va_pl L (pE P)) := hD
    generalize efo_10 : (va_up fo_9 (zI (i)).toNatClampNeg (some y)) = fo_10 at hP hD
    rw [zI_cl (by omega) (by omega)] at efo_10
    have hP : va_P (dC, dI) vwQ ([(h0, .inr (18, [.int x_1, .ref q_5, .int (zI (z30_size))])), (q_el, .inl (cE, ne, .inr (.inr (.inr (.inr fe))))), (q_5, .inl (cn_6, nn_7, .inr (.inr (.inr (.inr fo_10)))))] ++ va_pl L (pE P)) H := hP
    have hD : va_D A ([(h0, .inr (18, [.int x_1, .ref q_5, .int (zI (z30_size))])), (q_el, .inl (cE, ne, .inr (.inr (.inr (.inr fe))))), (q_5, .inl (cn_6, nn_7, .inr (.inr (.inr (.inr fo_10)))))] ++ va_pl L (pE P)) := hD
    refine lv_aload_n hx hb dJx4a65c_add_7a177_57 rfl (lv_at hl 2 rfl) ?_
    refine lv_iload_n hx hb dJx4a65c_add_7a177_58 rfl (lv_at hl 1 rfl) ?_
    refine lv_iconst (v := 1) hx hb dJx4a65c_add_7a177_59 (by decide) ?_
    refine lv_iadd hx hb dJx4a65c_add_7a177_60 ?_
    refine lv_topi (fun z ez => ?_)
    obtain rfl : z = zI (z30_size + 1) := ez.trans (zI_add (z30_size) (1))
    refine va_put (D := (dC, dI)) (ci := 18) (v := .int (zI (z30_size + 1))) (ty := .int) (C := RJx4a65c) (T := TJx4a65c) (N := 3) hx hb hts mem_AL_addAt_1 tyJx4a65c tyJx4a65c_ok nmJx4a65c hown hK hP hD hS 0 rfl rfl 2 (by decide) (ow (k := 6) rfl) (fun _ h9 => h9) rfl (by decide +kernel) rfl rfl (Nat.le_of_ble_eq_true rfl) dJx4a65c_add_7a177_61 (fun H locs hP hD hS => ?_)
    have hP : va_P (dC, dI) vwQ ([(h0, .inr (18, [.int x_1, .ref q_5, .int (zI (z30_size + 1))])), (q_el, .inl (cE, ne, .inr (.inr (.inr (.inr fe))))), (q_5, .inl (cn_6, nn_7, .inr (.inr (.inr (.inr fo_10)))))] ++ va_pl L (pE P)) H := hP
    have hD : va_D A ([(h0, .inr (18, [.int x_1, .ref q_5, .int (zI (z30_size + 1))])), (q_el, .inl (cE, ne, .inr (.inr (.inr (.inr fe))))), (q_5, .inl (cn_6, nn_7, .inr (.inr (.inr (.inr fo_10)))))] ++ va_pl L (pE P)) := hD
    obtain ⟨z_11, ez_11⟩ : ∃ z9 : Int, z9 = z30_size + 1 := ⟨_, rfl⟩
    rw [← ez_11] at hP hD
    have hP : va_P (dC, dI) vwQ ([(h0, .inr (18, [.int x_1, .ref q_5, .int (zI (z_11))])), (q_el, .inl (cE, ne, .inr (.inr (.inr (.inr fe))))), (q_5, .inl (cn_6, nn_7, .inr (.inr (.inr (.inr fo_10)))))] ++ va_pl L (pE P)) H := hP
    have hD : va_D A ([(h0, .inr (18, [.int x_1, .ref q_5, .int (zI (z_11))])), (q_el, .inl (cE, ne, .inr (.inr (.inr (.inr fe))))), (q_5, .inl (cn_6, nn_7, .inr (.inr (.inr (.inr fo_10)))))] ++ va_pl L (pE P)) := hD
    subst hQ
    have hP := hP.part (X := [(h0, .inr (18, [.int x_1, .ref q_5, .int (zI (z_11))])), (q_el, .inl (cE, ne, .inr (.inr (.inr (.inr fe))))), (q_5, .inl (cn_6, nn_7, .inr (.inr (.inr (.inr fo_10)))))]) (cx := [(h0, .inr (18, [.int x_1, .ref q_5, .int (zI (z_11))])), (q_5, .inl (cn_6, nn_7, .inr (.inr (.inr (.inr fo_10)))))]) (pl := va_pl L (pE P)) [0, 2] rfl
    have hD := hD.part (X := [(h0, .inr (18, [.int x_1, .ref q_5, .int (zI (z_11))])), (q_el, .inl (cE, ne, .inr (.inr (.inr (.inr fe))))), (q_5, .inl (cn_6, nn_7, .inr (.inr (.inr (.inr fo_10)))))]) (cx := [(h0, .inr (18, [.int x_1, .ref q_5, .int (zI (z_11))])), (q_5, .inl (cn_6, nn_7, .inr (.inr (.inr (.inr fo_10)))))]) (pl := va_pl L (pE P)) [0, 2] (by decide) rfl
    have hK := hK.sub (tys' := [(cn_6, .object "java/lang/Object")]) [1] rfl
    refine W.widen (k := 1) (n := 100000) (Nat.le_of_ble_eq_true rfl) (Nat.le_of_ble_eq_true rfl) ?_
    exact W.vret hx hb hr (fun t ht hW => ⟨⟨(), rfl, trivial, x_1, z_11, q_5, cn_6, nn_7, fo_10, ⟨(by omega), ⟨by omega, ⟨by omega, by omega⟩, (by rw [← efo_10, ← efo_9]; exact (hgr.2.2.1.cpy hgr.2.2.1 _ _ _).put hX_y.1 hX_y.2), (by rw [← efo_10, ← efo_9]; exact INSF.of (by omega) (by omega) (fun j h9 => hgr.2.2.2 j (by omega)))⟩⟩, by rw [ht]; exact hP, va_K.moved hW.alike hK, hD⟩, hS.F ht⟩) hS.2.2 dJx4a65c_add_7a177_64
