theorem dJx4a65c_fastRemove_b59b0_0 : decode cJx4a65c_fastRemove_b59b0 0 = .ok (.aload_n 0, 1) := by decide +kernel
theorem dJx4a65c_fastRemove_b59b0_1 : decode cJx4a65c_fastRemove_b59b0 1 = .ok (.dup, 1) := by decide +kernel
theorem dJx4a65c_fastRemove_b59b0_2 : decode cJx4a65c_fastRemove_b59b0 2 = .ok (.getfield 63, 3) := by decide +kernel
theorem dJx4a65c_fastRemove_b59b0_5 : decode cJx4a65c_fastRemove_b59b0 5 = .ok (.iconst 1, 1) := by decide +kernel
theorem dJx4a65c_fastRemove_b59b0_6 : decode cJx4a65c_fastRemove_b59b0 6 = .ok (.iadd, 1) := by decide +kernel
theorem dJx4a65c_fastRemove_b59b0_7 : decode cJx4a65c_fastRemove_b59b0 7 = .ok (.putfield 63, 3) := by decide +kernel
theorem dJx4a65c_fastRemove_b59b0_10 : decode cJx4a65c_fastRemove_b59b0 10 = .ok (.aload_n 0, 1) := by decide +kernel
theorem dJx4a65c_fastRemove_b59b0_11 : decode cJx4a65c_fastRemove_b59b0 11 = .ok (.getfield 48, 3) := by decide +kernel
theorem dJx4a65c_fastRemove_b59b0_14 : decode cJx4a65c_fastRemove_b59b0 14 = .ok (.iconst 1, 1) := by decide +kernel
theorem dJx4a65c_fastRemove_b59b0_15 : decode cJx4a65c_fastRemove_b59b0 15 = .ok (.isub, 1) := by decide +kernel
theorem dJx4a65c_fastRemove_b59b0_16 : decode cJx4a65c_fastRemove_b59b0 16 = .ok (.dup, 1) := by decide +kernel
theorem dJx4a65c_fastRemove_b59b0_17 : decode cJx4a65c_fastRemove_b59b0 17 = .ok (.istore_n 3, 1) := by decide +kernel
theorem dJx4a65c_fastRemove_b59b0_18 : decode cJx4a65c_fastRemove_b59b0 18 = .ok (.iload_n 2, 1) := by decide +kernel
theorem dJx4a65c_fastRemove_b59b0_19 : decode cJx4a65c_fastRemove_b59b0 19 = .ok (.if_icmp .le 15, 3) := by decide +kernel
theorem dJx4a65c_fastRemove_b59b0_34 : decode cJx4a65c_fastRemove_b59b0 34 = .ok (.aload_n 1, 1) := by decide +kernel
theorem dJx4a65c_fastRemove_b59b0_35 : decode cJx4a65c_fastRemove_b59b0 35 = .ok (.aload_n 0, 1) := by decide +kernel
theorem dJx4a65c_fastRemove_b59b0_36 : decode cJx4a65c_fastRemove_b59b0 36 = .ok (.iload_n 3, 1) := by decide +kernel
theorem dJx4a65c_fastRemove_b59b0_37 : decode cJx4a65c_fastRemove_b59b0 37 = .ok (.dup_x1, 1) := by decide +kernel
theorem dJx4a65c_fastRemove_b59b0_38 : decode cJx4a65c_fastRemove_b59b0 38 = .ok (.putfield 48, 3) := by decide +kernel
theorem dJx4a65c_fastRemove_b59b0_41 : decode cJx4a65c_fastRemove_b59b0 41 = .ok (.aconst_null, 1) := by decide +kernel
theorem dJx4a65c_fastRemove_b59b0_42 : decode cJx4a65c_fastRemove_b59b0 42 = .ok (.aastore, 1) := by decide +kernel
theorem dJx4a65c_fastRemove_b59b0_43 : decode cJx4a65c_fastRemove_b59b0 43 = .ok (.return_, 1) := by decide +kernel
theorem dJx4a65c_fastRemove_b59b0_22 : decode cJx4a65c_fastRemove_b59b0 22 = .ok (.aload_n 1, 1) := by decide +kernel
theorem dJx4a65c_fastRemove_b59b0_23 : decode cJx4a65c_fastRemove_b59b0 23 = .ok (.iload_n 2, 1) := by decide +kernel
theorem dJx4a65c_fastRemove_b59b0_24 : decode cJx4a65c_fastRemove_b59b0 24 = .ok (.iconst 1, 1) := by decide +kernel
theorem dJx4a65c_fastRemove_b59b0_25 : decode cJx4a65c_fastRemove_b59b0 25 = .ok (.iadd, 1) := by decide +kernel
theorem dJx4a65c_fastRemove_b59b0_26 : decode cJx4a65c_fastRemove_b59b0 26 = .ok (.aload_n 1, 1) := by decide +kernel
theorem dJx4a65c_fastRemove_b59b0_27 : decode cJx4a65c_fastRemove_b59b0 27 = .ok (.iload_n 2, 1) := by decide +kernel
theorem dJx4a65c_fastRemove_b59b0_28 : decode cJx4a65c_fastRemove_b59b0 28 = .ok (.iload_n 3, 1) := by decide +kernel
theorem dJx4a65c_fastRemove_b59b0_29 : decode cJx4a65c_fastRemove_b59b0 29 = .ok (.iload_n 2, 1) := by decide +kernel
theorem dJx4a65c_fastRemove_b59b0_30 : decode cJx4a65c_fastRemove_b59b0 30 = .ok (.isub, 1) := by decide +kernel
theorem dJx4a65c_fastRemove_b59b0_31 : decode cJx4a65c_fastRemove_b59b0 31 = .ok (.invokestatic 112, 3) := by decide +kernel
def o_AL_fastRemove : List Cond := [.fieldLink RJx4a65c 63 "java/util/ArrayList" "modCount" "I", .sameField "java/util/ArrayList" "java/util/AbstractList" "modCount" "I", .fieldLink RJx4a65c 48 "java/util/ArrayList" "size" "I", .methodLink RJx4a65c 112 arraycopyName, .native arraycopyName, .static arraycopyName, .initialized "java/lang/System"]
def v_AL_fastRemove : List Cond := .code yJx4a65c_fastRemove_b59b0 cJx4a65c_fastRemove_b59b0 4 none :: (o_AL_fastRemove ++ (wsJx4a65c0 ++ []))
theorem mow_AL_fastRemove : ∀ w ∈ o_AL_fastRemove, w ∈ v_AL_fastRemove := fun _ h => List.mem_cons_of_mem _ (List.mem_append_left _ h)
theorem mem_AL_fastRemove_0 : ∀ w ∈ wsJx4a65c0, w ∈ v_AL_fastRemove := fun _ h => List.mem_cons_of_mem _ (List.mem_append_right _ (List.mem_append_left _ h))
set_option maxRecDepth 20000 in
theorem gw_AL_fastRemove : v_AL_fastRemove.all goodWord = true := by decide +kernel
set_option maxHeartbeats 4000000 in
set_option maxRecDepth 100000 in
theorem c_AL_fastRemove (l : Launch) (dC : Nat → ClassId) (dI : Nat → Nat → Nat) (h0 : Nat) (r30_modCount : Int32) (z30_size : Int) (q_el : Nat) (cE : ClassId) (ne : Nat) (fe : Nat → Option Nat) (L : List Nat) (P : PO) (i : Int) (hNz30_size : 0 ≤ z30_size ∧ z30_size ≤ 100000) (hNne : ne ≤ 100000) (hNi : 0 ≤ i ∧ i < z30_size ∧ z30_size ≤ ne) (hX_el : ELS L P fe) (sz : Nat) : Met l yJx4a65c_fastRemove_b59b0 v_AL_fastRemove ({ frames := 1, cells := 0, slots := 0, locals := 60 }) (va_Pc [.ref h0, .ref q_el, .int (zI (i))] (fun U => U.heap.size = sz ∧ va_P (dC, dI) vwQ ([(h0, .inr (18, [.int r30_modCount, .ref q_el, .int (zI (z30_size))])), (q_el, .inl (cE, ne, .inr (.inr (.inr (.inr fe)))))] ++ va_pl L (pE P)) U.heap ∧ va_K (dC, dI) vwQ [(cE, .object "java/lang/Object")] U ∧ va_D (fun _ => True) ([(h0, .inr (18, [.int r30_modCount, .ref q_el, .int (zI (z30_size))])), (q_el, .inl (cE, ne, .inr (.inr (.inr (.inr fe)))))] ++ va_pl L (pE P)) ∧ va_Nw (.castable "SsaForgeModel$Row" "java/lang/Object") U ∧ va_Nw (.castable "SsaForgeModel$Phi" "java/lang/Object") U ∧ va_Nw (.castable "SsaForgeModel$Block" "java/lang/Object") U)) (va_Qv (fun _ : Unit => True) (fun (_ : Unit) (t : State) => ∃ (x0_9 : Int32) (z1_9 : Int) (g2_9 : Nat → Option Nat), ((0 ≤ z1_9 ∧ z1_9 ≤ 100000) ∧ (z1_9 = z30_size - 1 ∧ ELS L P g2_9 ∧ RMV fe g2_9 (i) (z30_size))) ∧ va_P (dC, dI) vwQ ([(h0, .inr (18, [.int x0_9, .ref q_el, .int (zI (z1_9))])), (q_el, .inl (cE, ne, .inr (.inr (.inr (.inr g2_9)))))] ++ va_pl L (pE P)) t.heap ∧ va_K (dC, dI) vwQ [(cE, .object "java/lang/Object")] t ∧ va_D (va_A ([(h0, .inr (18, [.int r30_modCount, .ref q_el, .int (zI (z30_size))])), (q_el, .inl (cE, ne, .inr (.inr (.inr (.inr fe)))))] ++ va_pl L (pE P)) sz) ([(h0, .inr (18, [.int x0_9, .ref q_el, .int (zI (z1_9))])), (q_el, .inl (cE, ne, .inr (.inr (.inr (.inr g2_9)))))] ++ va_pl L (pE P))) (va_A ([(h0, .inr (18, [.int r30_modCount, .ref q_el, .int (zI (z30_size))])), (q_el, .inl (cE, ne, .inr (.inr (.inr (.inr fe)))))] ++ va_pl L (pE P)) sz)) 0 0 (va_A ([(h0, .inr (18, [.int r30_modCount, .ref q_el, .int (zI (z30_size))])), (q_el, .inl (cE, ne, .inr (.inr (.inr (.inr fe)))))] ++ va_pl L (pE P)) sz) := by
  refine Met.ofW (cc := cJx4a65c_fastRemove_b59b0) (maxL := 4) (ret := none) (by decide) rfl ?_
  intro p e s m args below meth c s₁ B hml hv
  obtain ⟨rfl, hsz, hP, hK, hD0, hp0, hp1, hp2⟩ := hv
  have hx := B.exec
  have hb := B.bytes
  have hr := B.returns
  have hts := atoms_spec (ws := v_AL_fastRemove) B.pre
  have hown : s.vm.findClass RJx4a65c = some m.cls := findClass_of_methodNamed B.named
  have hlocks := B.notSynchronized
  have ow : ∀ {k : Nat} {w : Cond}, o_AL_fastRemove[k]? = some w → w.before ([.ref h0, .ref q_el, .int (zI (i))] : List Value).toArray s = true := fun h => hts _ (mow_AL_fastRemove _ (List.mem_of_getElem? h))
  subst hsz
  have hD := hD0.self (sz := s.heap.size)
  generalize hAe : va_A ([(h0, .inr (18, [.int r30_modCount, .ref q_el, .int (zI (z30_size))])), (q_el, .inl (cE, ne, .inr (.inr (.inr (.inr fe)))))] ++ va_pl L (pE P)) s.heap.size = A at hD ⊢
  have hA : ∀ q : Nat, s.heap.size ≤ q → A q := fun q h => by rw [← hAe]; exact Or.inr h
  have hS : va_S A s.heap s.heap [] := va_S.rf
  have hP : va_P (dC, dI) vwQ ([(h0, .inr (18, [.int r30_modCount, .ref q_el, .int (zI (z30_size))])), (q_el, .inl (cE, ne, .inr (.inr (.inr (.inr fe)))))] ++ va_pl L (pE P)) s.heap := hP
  have hl := lv_entry ([.ref h0, .ref q_el, .int (zI (i))]) (n := 4) (Nat.le_of_ble_eq_true rfl)
  rw [lg_entry_eq]
  generalize (lg_sl ([.ref h0, .ref q_el, .int (zI (i))]) ++ List.replicate (4 - (lg_sl ([.ref h0, .ref q_el, .int (zI (i))])).length) Slot.unset).toArray = ls at hl ⊢
  have hl : lv_has ls 4 [(0, .ref h0), (1, .ref q_el), (2, .int (zI (i)))] := hl
  obtain ⟨H, hH⟩ : ∃ H, H = s.heap := ⟨_, rfl⟩
  rw [← hH] at hP
  have hS : va_S A s.heap H [] := by rw [hH]; exact hS
  rw [← hH]
  refine zW_cap (fun Q hQ => ?_)
  refine lv_aload_n hx hb dJx4a65c_fastRemove_b59b0_0 rfl (lv_at hl 0 rfl) ?_
  refine lv_dup hx hb dJx4a65c_fastRemove_b59b0_1 rfl ?_
  refine va_get (D := (dC, dI)) (ci := 18) (v := .int r30_modCount) (C := RJx4a65c) (T := TJx4a65c) (N := 3) hx hb hts mem_AL_fastRemove_0 hown hK hP 0 rfl rfl 0 (by decide) (ow (k := 0) rfl) (fun x9 h9 => u_same (ow (k := 1) rfl) x9 h9) rfl dJx4a65c_fastRemove_b59b0_2 ?_
  refine lv_iconst (v := 1) hx hb dJx4a65c_fastRemove_b59b0_5 (by decide) ?_
  refine lv_iadd hx hb dJx4a65c_fastRemove_b59b0_6 ?_
  refine lv_topi (fun x_1 _ => ?_)
  refine va_put (D := (dC, dI)) (ci := 18) (v := .int x_1) (ty := .int) (C := RJx4a65c) (T := TJx4a65c) (N := 3) hx hb hts mem_AL_fastRemove_0 tyJx4a65c tyJx4a65c_ok nmJx4a65c hown hK hP hD hS 0 rfl rfl 0 (by decide) (ow (k := 0) rfl) (fun x9 h9 => u_same (ow (k := 1) rfl) x9 h9) rfl (by decide +kernel) rfl rfl (Nat.le_of_ble_eq_true rfl) dJx4a65c_fastRemove_b59b0_7 (fun H locs hP hD hS => ?_)
  have hP : va_P (dC, dI) vwQ ([(h0, .inr (18, [.int x_1, .ref q_el, .int (zI (z30_size))])), (q_el, .inl (cE, ne, .inr (.inr (.inr (.inr fe)))))] ++ va_pl L (pE P)) H := hP
  have hD : va_D A ([(h0, .inr (18, [.int x_1, .ref q_el, .int (zI (z30_size))])), (q_el, .inl (cE, ne, .inr (.inr (.inr (.inr fe)))))] ++ va_pl L (pE P)) := hD
  refine lv_aload_n hx hb dJx4a65c_fastRemove_b59b0_10 rfl (lv_at hl 0 rfl) ?_
  refine va_get (D := (dC, dI)) (ci := 18) (v := .int (zI (z30_size))) (C := RJx4a65c) (T := TJx4a65c) (N := 3) hx hb hts mem_AL_fastRemove_0 hown hK hP 0 rfl rfl 2 (by decide) (ow (k := 2) rfl) (fun _ h9 => h9) rfl dJx4a65c_fastRemove_b59b0_11 ?_
  refine lv_iconst (v := 1) hx hb dJx4a65c_fastRemove_b59b0_14 (by decide) ?_
  refine lv_isub hx hb dJx4a65c_fastRemove_b59b0_15 ?_
  refine lv_topi (fun z ez => ?_)
  obtain rfl : z = zI (z30_size - 1) := ez.trans (zI_sub (z30_size) (1))
  refine lv_dup hx hb dJx4a65c_fastRemove_b59b0_16 rfl ?_
  refine lv_istore_n (lv' := [(3, .int (zI (z30_size - 1))), (0, .ref h0), (1, .ref q_el), (2, .int (zI (i)))]) hx hb dJx4a65c_fastRemove_b59b0_17 rfl hl (by decide) rfl (fun ls hl => ?_)
  refine lv_iload_n hx hb dJx4a65c_fastRemove_b59b0_18 rfl (lv_at hl 3 rfl) ?_
  refine lv_icmp_le (tgt := 34) hx hb dJx4a65c_fastRemove_b59b0_19 (by decide) (fun b19 => ?_) (fun b19 => ?_)
  · have yb19 : (z30_size - 1 : Int) ≤ (i : Int) := (zI_le (a := z30_size - 1) (b := i) (by omega) (by omega) (by omega) (by omega)).mp b19
    refine lv_aload_n hx hb dJx4a65c_fastRemove_b59b0_34 rfl (lv_at hl 2 rfl) ?_
    refine lv_aload_n hx hb dJx4a65c_fastRemove_b59b0_35 rfl (lv_at hl 1 rfl) ?_
    refine lv_iload_n hx hb dJx4a65c_fastRemove_b59b0_36 rfl (lv_at hl 0 rfl) ?_
    refine lv_dup_x1 hx hb dJx4a65c_fastRemove_b59b0_37 rfl rfl ?_
    refine va_put (D := (dC, dI)) (ci := 18) (v := .int (zI (z30_size - 1))) (ty := .int) (C := RJx4a65c) (T := TJx4a65c) (N := 3) hx hb hts mem_AL_fastRemove_0 tyJx4a65c tyJx4a65c_ok nmJx4a65c hown hK hP hD hS 0 rfl rfl 2 (by decide) (ow (k := 2) rfl) (fun _ h9 => h9) rfl (by decide +kernel) rfl rfl (Nat.le_of_ble_eq_true rfl) dJx4a65c_fastRemove_b59b0_38 (fun H locs hP hD hS => ?_)
    have hP : va_P (dC, dI) vwQ ([(h0, .inr (18, [.int x_1, .ref q_el, .int (zI (z30_size - 1))])), (q_el, .inl (cE, ne, .inr (.inr (.inr (.inr fe)))))] ++ va_pl L (pE P)) H := hP
    have hD : va_D A ([(h0, .inr (18, [.int x_1, .ref q_el, .int (zI (z30_size - 1))])), (q_el, .inl (cE, ne, .inr (.inr (.inr (.inr fe)))))] ++ va_pl L (pE P)) := hD
    obtain ⟨z_2, ez_2⟩ : ∃ z9 : Int, z9 = z30_size - 1 := ⟨_, rfl⟩
    rw [← ez_2] at hP hD
    have hP : va_P (dC, dI) vwQ ([(h0, .inr (18, [.int x_1, .ref q_el, .int (zI (z_2))])), (q_el, .inl (cE, ne, .inr (.inr (.inr (.inr fe)))))] ++ va_pl L (pE P)) H := hP
    have hD : va_D A ([(h0, .inr (18, [.int x_1, .ref q_el, .int (zI (z_2))])), (q_el, .inl (cE, ne, .inr (.inr (.inr (.inr fe)))))] ++ va_pl L (pE P)) := hD
    refine lv_null hx hb dJx4a65c_fastRemove_b59b0_41 ?_
    refine va_astqN (C := "java/lang/Object") (i := zI (z30_size - 1)) hx hb hK hP hD hS 1 0 rfl rfl (zI_in (a := z30_size - 1) (n := ne) (by omega) (by omega) (by omega)) dJx4a65c_fastRemove_b59b0_42 (fun H locs hP hD hS => ?_)
    have hP : va_P (dC, dI) vwQ ([(h0, .inr (18, [.int x_1, .ref q_el, .int (zI (z_2))])), (q_el, .inl (cE, ne, .inr (.inr (.inr (.inr (va_up fe (zI (z30_size - 1)).toNatClampNeg none))))))] ++ va_pl L (pE P)) H := hP
    have hD : va_D A ([(h0, .inr (18, [.int x_1, .ref q_el, .int (zI (z_2))])), (q_el, .inl (cE, ne, .inr (.inr (.inr (.inr (va_up fe (zI (z30_size - 1)).toNatClampNeg none))))))] ++ va_pl L (pE P)) := hD
    generalize efo_3 : (va_up fe (zI (z30_size - 1)).toNatClampNeg none) = fo_3 at hP hD
    have hP : va_P (dC, dI) vwQ ([(h0, .inr (18, [.int x_1, .ref q_el, .int (zI (z_2))])), (q_el, .inl (cE, ne, .inr (.inr (.inr (.inr fo_3)))))] ++ va_pl L (pE P)) H := hP
    have hD : va_D A ([(h0, .inr (18, [.int x_1, .ref q_el, .int (zI (z_2))])), (q_el, .inl (cE, ne, .inr (.inr (.inr (.inr fo_3)))))] ++ va_pl L (pE P)) := hD
    rw [zI_cl (by omega) (by omega)] at efo_3
    subst hQ
    refine W.widen (k := 0) (n := 0) (Nat.le_of_ble_eq_true rfl) (Nat.le_of_ble_eq_true rfl) ?_
    exact W.vret hx hb hr (fun t ht hW => ⟨⟨(), rfl, trivial, x_1, z_2, fo_3, ⟨(by omega), ⟨by omega, (by rw [← efo_3]; exact hX_el.none _), (by rw [← efo_3]; exact RMV.last (by omega) (by omega))⟩⟩, by rw [ht]; exact hP, va_K.moved hW.alike hK, hD⟩, hS.F ht⟩) hS.2.2 dJx4a65c_fastRemove_b59b0_43
  · have yb19 : ¬ (z30_size - 1 : Int) ≤ (i : Int) := fun q => b19 ((zI_le (a := z30_size - 1) (b := i) (by omega) (by omega) (by omega) (by omega)).mpr q)
    refine lv_aload_n hx hb dJx4a65c_fastRemove_b59b0_22 rfl (lv_at hl 2 rfl) ?_
    refine lv_iload_n hx hb dJx4a65c_fastRemove_b59b0_23 rfl (lv_at hl 3 rfl) ?_
    refine lv_iconst (v := 1) hx hb dJx4a65c_fastRemove_b59b0_24 (by decide) ?_
    refine lv_iadd hx hb dJx4a65c_fastRemove_b59b0_25 ?_
    refine lv_topi (fun z ez => ?_)
    obtain rfl : z = zI (i + 1) := ez.trans (zI_add (i) (1))
    refine lv_aload_n hx hb dJx4a65c_fastRemove_b59b0_26 rfl (lv_at hl 2 rfl) ?_
    refine lv_iload_n hx hb dJx4a65c_fastRemove_b59b0_27 rfl (lv_at hl 3 rfl) ?_
    refine lv_iload_n hx hb dJx4a65c_fastRemove_b59b0_28 rfl (lv_at hl 0 rfl) ?_
    refine lv_iload_n hx hb dJx4a65c_fastRemove_b59b0_29 rfl (lv_at hl 3 rfl) ?_
    refine lv_isub hx hb dJx4a65c_fastRemove_b59b0_30 ?_
    refine lv_topi (fun z ez => ?_)
    obtain rfl : z = zI ((z30_size - 1) - i) := ez.trans (zI_sub (z30_size - 1) (i))
    refine va_copyM (sp := zI (i + 1)) (dp := zI (i)) (n := zI ((z30_size - 1) - i)) hx hb (hml.trans hl.1.symm) hown (ow (k := 3) rfl) (ow (k := 4) rfl) (ow (k := 5) rfl) (ow (k := 6) rfl) hK hP hD hS 1 1 0 0 rfl rfl rfl rfl (zI_nn (by omega) (by omega)) (zI_nn (by omega) (by omega)) (zI_nn (by omega) (by omega)) (zI_sum (by omega) (by omega) (by omega) (by omega) (by omega)) (zI_sum (by omega) (by omega) (by omega) (by omega) (by omega)) (fun i9 _ y9 h9 => pool_any hK hP (hX_el _ _ h9).1 (hX_el _ _ h9).2 hp0 hp1 hp2) (Nat.le_of_ble_eq_true rfl) (Nat.le_of_ble_eq_true rfl) dJx4a65c_fastRemove_b59b0_31 (fun H locs hP hD hS => ?_)
    have hP : va_P (dC, dI) vwQ ([(h0, .inr (18, [.int x_1, .ref q_el, .int (zI (z30_size))])), (q_el, .inl (cE, ne, .inr (.inr (.inr (.inr (va_cpy fe fe (zI (i + 1)).toNatClampNeg (zI (i)).toNatClampNeg (zI ((z30_size - 1) - i)).toNatClampNeg))))))] ++ va_pl L (pE P)) H := hP
    have hD : va_D A ([(h0, .inr (18, [.int x_1, .ref q_el, .int (zI (z30_size))])), (q_el, .inl (cE, ne, .inr (.inr (.inr (.inr (va_cpy fe fe (zI (i + 1)).toNatClampNeg (zI (i)).toNatClampNeg (zI ((z30_size - 1) - i)).toNatClampNeg))))))] ++ va_pl L (pE P)) := hD
    generalize efo_4 : (va_cpy fe fe (zI (i + 1)).toNatClampNeg (zI (i)).toNatClampNeg (zI ((z30_size - 1) - i)).toNatClampNeg) = fo_4 at hP hD
    rw [zI_cl (a := i + 1) (by omega) (by omega), zI_cl (a := i) (by omega) (by omega), zI_cl (a := (z30_size - 1) - i) (by omega) (by omega)] at efo_4
    have hP : va_P (dC, dI) vwQ ([(h0, .inr (18, [.int x_1, .ref q_el, .int (zI (z30_size))])), (q_el, .inl (cE, ne, .inr (.inr (.inr (.inr fo_4)))))] ++ va_pl L (pE P)) H := hP
    have hD : va_D A ([(h0, .inr (18, [.int x_1, .ref q_el, .int (zI (z30_size))])), (q_el, .inl (cE, ne, .inr (.inr (.inr (.inr fo_4)))))] ++ va_pl L (pE P)) := hD
    refine lv_aload_n hx hb dJx4a65c_fastRemove_b59b0_34 rfl (lv_at hl 2 rfl) ?_
    refine lv_aload_n hx hb dJx4a65c_fastRemove_b59b0_35 rfl (lv_at hl 1 rfl) ?_
    refine lv_iload_n hx hb dJx4a65c_fastRemove_b59b0_36 rfl (lv_at hl 0 rfl) ?_
    refine lv_dup_x1 hx hb dJx4a65c_fastRemove_b59b0_37 rfl rfl ?_
    refine va_put (D := (dC, dI)) (ci := 18) (v := .int (zI (z30_size - 1))) (ty := .int) (C := RJx4a65c) (T := TJx4a65c) (N := 3) hx hb hts mem_AL_fastRemove_0 tyJx4a65c tyJx4a65c_ok nmJx4a65c hown hK hP hD hS 0 rfl rfl 2 (by decide) (ow (k := 2) rfl) (fun _ h9 => h9) rfl (by decide +kernel) rfl rfl (Nat.le_of_ble_eq_true rfl) dJx4a65c_fastRemove_b59b0_38 (fun H locs hP hD hS => ?_)
    have hP : va_P (dC, dI) vwQ ([(h0, .inr (18, [.int x_1, .ref q_el, .int (zI (z30_size - 1))])), (q_el, .inl (cE, ne, .inr (.inr (.inr (.inr fo_4)))))] ++ va_pl L (pE P)) H := hP
    have hD : va_D A ([(h0, .inr (18, [.int x_1, .ref q_el, .int (zI (z30_size - 1))])), (q_el, .inl (cE, ne, .inr (.inr (.inr (.inr fo_4)))))] ++ va_pl L (pE P)) := hD
    obtain ⟨z_5, ez_5⟩ : ∃ z9 : Int, z9 = z30_size - 1 := ⟨_, rfl⟩
    rw [← ez_5] at hP hD
    have hP : va_P (dC, dI) vwQ ([(h0, .inr (18, [.int x_1, .ref q_el, .int (zI (z_5))])), (q_el, .inl (cE, ne, .inr (.inr (.inr (.inr fo_4)))))] ++ va_pl L (pE P)) H := hP
    have hD : va_D A ([(h0, .inr (18, [.int x_1, .ref q_el, .int (zI (z_5))])), (q_el, .inl (cE, ne, .inr (.inr (.inr (.inr fo_4)))))] ++ va_pl L (pE P)) := hD
    refine lv_null hx hb dJx4a65c_fastRemove_b59b0_41 ?_
    refine va_astqN (C := "java/lang/Object") (i := zI (z30_size - 1)) hx hb hK hP hD hS 1 0 rfl rfl (zI_in (a := z30_size - 1) (n := ne) (by omega) (by omega) (by omega)) dJx4a65c_fastRemove_b59b0_42 (fun H locs hP hD hS => ?_)
    have hP : va_P (dC, dI) vwQ ([(h0, .inr (18, [.int x_1, .ref q_el, .int (zI (z_5))])), (q_el, .inl (cE, ne, .inr (.inr (.inr (.inr (va_up fo_4 (zI (z30_size - 1)).toNatClampNeg none))))))] ++ va_pl L (pE P)) H := hP
    have hD : va_D A ([(h0, .inr (18, [.int x_1, .ref q_el, .int (zI (z_5))])), (q_el, .inl (cE, ne, .inr (.inr (.inr (.inr (va_up fo_4 (zI (z30_size - 1)).toNatClampNeg none))))))] ++ va_pl L (pE P)) := hD
    generalize efo_6 : (va_up fo_4 (zI (z30_size - 1)).toNatClampNeg none) = fo_6 at hP hD
    have hP : va_P (dC, dI) vwQ ([(h0, .inr (18, [.int x_1, .ref q_el, .int (zI (z_5))])), (q_el, .inl (cE, ne, .inr (.inr (.inr (.inr fo_6)))))] ++ va_pl L (pE P)) H := hP
    have hD : va_D A ([(h0, .inr (18, [.int x_1, .ref q_el, .int (zI (z_5))])), (q_el, .inl (cE, ne, .inr (.inr (.inr (.inr fo_6)))))] ++ va_pl L (pE P)) := hD
    rw [zI_cl (by omega) (by omega)] at efo_6
    subst hQ
    refine W.widen (k := 0) (n := 0) (Nat.le_of_ble_eq_true rfl) (Nat.le_of_ble_eq_true rfl) ?_
    exact W.vret hx hb hr (fun t ht hW => ⟨⟨(), rfl, trivial, x_1, z_5, fo_6, ⟨(by omega), ⟨by omega, (by rw [← efo_6, ← efo_4]; exact (hX_el.cpy hX_el _ _ _).none _), (by rw [← efo_6, ← efo_4]; exact RMV.mid (by omega) (by omega))⟩⟩, by rw [ht]; exact hP, va_K.moved hW.alike hK, hD⟩, hS.F ht⟩) hS.2.2 dJx4a65c_fastRemove_b59b0_43
