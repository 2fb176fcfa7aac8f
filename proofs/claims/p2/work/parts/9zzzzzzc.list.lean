theorem dJx4a65c_grow_92f84_10 : decode cJx4a65c_grow_92f84 10 = .ok (.aload_n 0, 1) := by decide +kernel
theorem dJx4a65c_grow_92f84_11 : decode cJx4a65c_grow_92f84 11 = .ok (.getfield 9, 3) := by decide +kernel
theorem dJx4a65c_grow_92f84_14 : decode cJx4a65c_grow_92f84 14 = .ok (.getstatic 39, 3) := by decide +kernel
theorem dJx4a65c_grow_92f84_17 : decode cJx4a65c_grow_92f84 17 = .ok (.if_acmp .eq 28, 3) := by decide +kernel
theorem dJx4a65c_grow_92f84_45 : decode cJx4a65c_grow_92f84 45 = .ok (.aload_n 0, 1) := by decide +kernel
theorem dJx4a65c_grow_92f84_46 : decode cJx4a65c_grow_92f84 46 = .ok (.bipush 10, 2) := by decide +kernel
theorem dJx4a65c_grow_92f84_48 : decode cJx4a65c_grow_92f84 48 = .ok (.iload_n 1, 1) := by decide +kernel
theorem dJx4a65c_grow_92f84_49 : decode cJx4a65c_grow_92f84 49 = .ok (.invokestatic 79, 3) := by decide +kernel
theorem dJx4a65c_grow_92f84_52 : decode cJx4a65c_grow_92f84 52 = .ok (.anewarray 7, 3) := by decide +kernel
theorem dJx4a65c_grow_92f84_55 : decode cJx4a65c_grow_92f84 55 = .ok (.dup_x1, 1) := by decide +kernel
theorem dJx4a65c_grow_92f84_56 : decode cJx4a65c_grow_92f84 56 = .ok (.putfield 9, 3) := by decide +kernel
theorem dJx4a65c_grow_92f84_59 : decode cJx4a65c_grow_92f84 59 = .ok (.areturn, 1) := by decide +kernel
def o_AL_grow1e : List Cond := [.fieldLink RJx4a65c 9 "java/util/ArrayList" "elementData" "[Ljava/lang/Object;", .fieldLink RJx4a65c 39 "java/util/ArrayList" "DEFAULTCAPACITY_EMPTY_ELEMENTDATA" "[Ljava/lang/Object;", .methodLink RJx4a65c 79 Lib.Math.max.name, .static Lib.Math.max.name, .initialized "java/lang/Math", .code Lib.Math.max.name Lib.Math.max.code 2 (some .int), .classLink RJx4a65c 7 "java/lang/Object"]
def v_AL_grow1e : List Cond := .code yJx4a65c_grow_92f84 cJx4a65c_grow_92f84 4 (some (.array (.object "java/lang/Object"))) :: (o_AL_grow1e ++ (wsJx4a65c0 ++ []))
theorem mow_AL_grow1e : ∀ w ∈ o_AL_grow1e, w ∈ v_AL_grow1e := fun _ h => List.mem_cons_of_mem _ (List.mem_append_left _ h)
theorem mem_AL_grow1e_0 : ∀ w ∈ wsJx4a65c0, w ∈ v_AL_grow1e := fun _ h => List.mem_cons_of_mem _ (List.mem_append_right _ (List.mem_append_left _ h))
set_option maxRecDepth 20000 in
theorem gw_AL_grow1e : v_AL_grow1e.all goodWord = true := by decide +kernel
set_option maxHeartbeats 4000000 in
set_option maxRecDepth 100000 in
theorem c_AL_grow1e (l : Launch) (dC : Nat → ClassId) (dI : Nat → Nat → Nat) (h0 : Nat) (r30_modCount : Int32) (sx_ed : Nat) (L : List Nat) (P : PO) (sz : Nat) : Met l yJx4a65c_grow_92f84 v_AL_grow1e ({ frames := 1, cells := 1, slots := 10, locals := 14 }) (va_Pc [.ref h0, .int 1] (fun U => U.heap.size = sz ∧ va_P (dC, dI) vwQ ([(h0, .inr (18, [.int r30_modCount, .ref sx_ed, .int 0]))] ++ va_pl L (pE P)) U.heap ∧ va_K (dC, dI) vwQ [] U ∧ va_D (fun _ => True) ([(h0, .inr (18, [.int r30_modCount, .ref sx_ed, .int 0]))] ++ va_pl L (pE P)) ∧ va_T (.object "java/lang/Object") sx_ed 0 (fun _ => .null) (va_A ([(h0, .inr (18, [.int r30_modCount, .ref sx_ed, .int 0]))] ++ va_pl L (pE P)) sz) U U.heap ∧ va_Z "java/util/ArrayList" "DEFAULTCAPACITY_EMPTY_ELEMENTDATA" "[Ljava/lang/Object;" (.ref sx_ed) (va_A ([(h0, .inr (18, [.int r30_modCount, .ref sx_ed, .int 0]))] ++ va_pl L (pE P)) sz) U U.heap ∧ va_AO "java/lang/Object" U)) (va_Qr (fun _ : Unit => True) (fun (_ : Unit) (rq : Nat) (t : State) => ∃ (cn_9 : ClassId) (nn_9 : Nat) (fn_9 : Nat → Option Nat), (((nn_9 : Int) = 10 ∧ fn_9 = fun _ => none)) ∧ va_P (dC, dI) vwQ ([(h0, .inr (18, [.int r30_modCount, .ref rq, .int 0])), (rq, .inl (cn_9, nn_9, .inr (.inr (.inr (.inr fn_9)))))] ++ va_pl L (pE P)) t.heap ∧ va_K (dC, dI) vwQ [(cn_9, .object "java/lang/Object")] t ∧ va_D (va_A ([(h0, .inr (18, [.int r30_modCount, .ref sx_ed, .int 0]))] ++ va_pl L (pE P)) sz) ([(h0, .inr (18, [.int r30_modCount, .ref rq, .int 0])), (rq, .inl (cn_9, nn_9, .inr (.inr (.inr (.inr fn_9)))))] ++ va_pl L (pE P))) (va_A ([(h0, .inr (18, [.int r30_modCount, .ref sx_ed, .int 0]))] ++ va_pl L (pE P)) sz)) 1 10 (va_A ([(h0, .inr (18, [.int r30_modCount, .ref sx_ed, .int 0]))] ++ va_pl L (pE P)) sz) := by
  refine Met.ofW (cc := cJx4a65c_grow_92f84) (maxL := 4) (ret := (some (.array (.object "java/lang/Object")))) (by decide) rfl ?_
  intro p e s m args below meth c s₁ B hml hv
  obtain ⟨rfl, hsz, hP, hK, hD0, hp0, hp1, hp2⟩ := hv
  have hx := B.exec
  have hb := B.bytes
  have hr := B.returns
  have hts := atoms_spec (ws := v_AL_grow1e) B.pre
  have hown : s.vm.findClass RJx4a65c = some m.cls := findClass_of_methodNamed B.named
  have hlocks := B.notSynchronized
  have ow : ∀ {k : Nat} {w : Cond}, o_AL_grow1e[k]? = some w → w.before ([.ref h0, .int 1] : List Value).toArray s = true := fun h => hts _ (mow_AL_grow1e _ (List.mem_of_getElem? h))
  subst hsz
  have hD := hD0.self (sz := s.heap.size)
  generalize hAe : va_A ([(h0, .inr (18, [.int r30_modCount, .ref sx_ed, .int 0]))] ++ va_pl L (pE P)) s.heap.size = A at hD hp0 hp1 hp2 ⊢
  have hA : ∀ q : Nat, s.heap.size ≤ q → A q := fun q h => by rw [← hAe]; exact Or.inr h
  have hS : va_S A s.heap s.heap [] := va_S.rf
  have hP : va_P (dC, dI) vwQ ([(h0, .inr (18, [.int r30_modCount, .ref sx_ed, .int 0]))] ++ va_pl L (pE P)) s.heap := hP
  have hl := lv_entry ([.ref h0, .int 1]) (n := 4) (Nat.le_of_ble_eq_true rfl)
  rw [lg_entry_eq]
  generalize (lg_sl ([.ref h0, .int 1]) ++ List.replicate (4 - (lg_sl ([.ref h0, .int 1])).length) Slot.unset).toArray = ls at hl ⊢
  have hl : lv_has ls 4 [(0, .ref h0), (1, .int 1)] := hl
  obtain ⟨H, hH⟩ : ∃ H, H = s.heap := ⟨_, rfl⟩
  rw [← hH] at hP
  have hS : va_S A s.heap H [] := by rw [hH]; exact hS
  rw [← hH]
  refine zW_cap (fun Q hQ => ?_)
  refine lv_aload_n hx hb dJx4a65c_grow_92f84_0 rfl (lv_at hl 0 rfl) ?_
  refine va_get (D := (dC, dI)) (ci := 18) (v := .ref sx_ed) (C := RJx4a65c) (T := TJx4a65c) (N := 3) hx hb hts mem_AL_grow1e_0 hown hK hP 0 rfl rfl 1 (by decide) (ow (k := 0) rfl) (fun _ h9 => h9) rfl dJx4a65c_grow_92f84_1 ?_
  refine va_tlen (v := 0) hx hb hp0 hS (by decide) dJx4a65c_grow_92f84_4 ?_
  refine lv_istore_n (lv' := [(2, .int 0), (0, .ref h0), (1, .int 1)]) hx hb dJx4a65c_grow_92f84_5 rfl hl (by decide) rfl (fun ls hl => ?_)
  refine lv_iload_n hx hb dJx4a65c_grow_92f84_6 rfl (lv_at hl 0 rfl) ?_
  refine lv_if_gt (tgt := 20) hx hb dJx4a65c_grow_92f84_7 (by decide) (fun h9 => absurd h9 (by decide)) (fun _ => ?_)
  refine lv_aload_n hx hb dJx4a65c_grow_92f84_10 rfl (lv_at hl 1 rfl) ?_
  refine va_get (D := (dC, dI)) (ci := 18) (v := .ref sx_ed) (C := RJx4a65c) (T := TJx4a65c) (N := 3) hx hb hts mem_AL_grow1e_0 hown hK hP 0 rfl rfl 1 (by decide) (ow (k := 0) rfl) (fun _ h9 => h9) rfl dJx4a65c_grow_92f84_11 ?_
  refine va_gets (v := .ref sx_ed) hx hb hp1 hS hown (ow (k := 1) rfl) (fun _ h9 => h9) dJx4a65c_grow_92f84_14 ?_
  refine lv_acmp_eq (rx := some sx_ed) (ry := some sx_ed) (tgt := 45) hx hb dJx4a65c_grow_92f84_17 (by decide) (fun _ => ?_) (fun h9 => absurd rfl h9)
  refine lv_aload_n hx hb dJx4a65c_grow_92f84_45 rfl (lv_at hl 1 rfl) ?_
  refine lv_bipush (v := 10) hx hb dJx4a65c_grow_92f84_46 (by decide) ?_
  refine lv_iload_n hx hb dJx4a65c_grow_92f84_48 rfl (lv_at hl 2 rfl) ?_
  refine va_mmax hx hb (hml.trans hl.1.symm) hown (ow (k := 2) rfl) (ow (k := 3) rfl) (ow (k := 4) rfl) (ow (k := 5) rfl) (Nat.le_of_ble_eq_true rfl) (Nat.le_of_ble_eq_true rfl) (Nat.le_of_ble_eq_true rfl) (Nat.le_of_ble_eq_true rfl) dJx4a65c_grow_92f84_49 ?_
  refine lv_topi (fun z9 ez => ?_)
  obtain ⟨z_1, rfl, hzz_1⟩ := zI_max (a := 10) (b := 1) (by omega) (by omega) (by omega) (by omega) ez
  obtain ⟨nw_4, enw_4⟩ : ∃ n9 : Nat, (n9 : Int) = z_1 := ⟨(z_1).toNat, by omega⟩
  refine va_newq (n := zI (z_1)) (N' := nw_4) hx hb hown (ow (k := 6) rfl) hp2 hK hP hD hS hA (zI_nn (by omega) (by omega)) (by rw [zI_cl (by omega) (by omega)]; omega) (by omega) (Nat.le_of_ble_eq_true rfl) (Nat.le_trans (show 0 + nw_4 ≤ 10 by omega) (Nat.le_of_ble_eq_true rfl)) dJx4a65c_grow_92f84_52 (fun q_2 cA_3 H hK hP hD hS => ?_)
  refine W.widen (k := 1) (n := 10) (Nat.le_of_ble_eq_true rfl) (by omega) ?_
  have hP := pl_Pp (pl_new (X := [(h0, .inr (18, [.int r30_modCount, .ref sx_ed, .int 0]))]) (pl := va_pl L (pE P))) hP
  have hD := pl_Dp (pl_new (X := [(h0, .inr (18, [.int r30_modCount, .ref sx_ed, .int 0]))]) (pl := va_pl L (pE P))) hD
  have hP : va_P (dC, dI) vwQ ([(h0, .inr (18, [.int r30_modCount, .ref sx_ed, .int 0])), (q_2, .inl (cA_3, nw_4, .inr (.inr (.inr (.inr (fun _ => none))))))] ++ va_pl L (pE P)) H := hP
  have hD : va_D A ([(h0, .inr (18, [.int r30_modCount, .ref sx_ed, .int 0])), (q_2, .inl (cA_3, nw_4, .inr (.inr (.inr (.inr (fun _ => none))))))] ++ va_pl L (pE P)) := hD
  have hK : va_K (dC, dI) vwQ [(cA_3, .object "java/lang/Object")] s := hK
  refine lv_dup_x1 hx hb dJx4a65c_grow_92f84_55 rfl rfl ?_
  refine va_put (D := (dC, dI)) (ci := 18) (v := .ref q_2) (ty := .array (.object "java/lang/Object")) (C := RJx4a65c) (T := TJx4a65c) (N := 3) hx hb hts mem_AL_grow1e_0 tyJx4a65c tyJx4a65c_ok nmJx4a65c hown hK hP hD hS 0 rfl rfl 1 (by decide) (ow (k := 0) rfl) (fun _ h9 => h9) rfl (by decide +kernel) rfl rfl (Nat.le_of_ble_eq_true rfl) dJx4a65c_grow_92f84_56 (fun H locs hP hD hS => ?_)
  have hP : va_P (dC, dI) vwQ ([(h0, .inr (18, [.int r30_modCount, .ref q_2, .int 0])), (q_2, .inl (cA_3, nw_4, .inr (.inr (.inr (.inr (fun _ => none))))))] ++ va_pl L (pE P)) H := hP
  have hD : va_D A ([(h0, .inr (18, [.int r30_modCount, .ref q_2, .int 0])), (q_2, .inl (cA_3, nw_4, .inr (.inr (.inr (.inr (fun _ => none))))))] ++ va_pl L (pE P)) := hD
  subst hQ
  refine W.widen (k := 1) (n := 10) (Nat.le_of_ble_eq_true rfl) (Nat.le_of_ble_eq_true rfl) ?_
  exact W.aret (v := .ref q_2) hx hb hr (Or.inr ⟨_, rfl⟩) (Or.inr ⟨_, rfl⟩) (fun t ht hW => ⟨⟨(), q_2, rfl, trivial, cA_3, nw_4, (fun _ => none), ⟨by omega, rfl⟩, by rw [ht]; exact hP, va_K.moved hW.alike hK, hD⟩, hS.F ht⟩) hS.2.2 dJx4a65c_grow_92f84_59
def o_AL_grow0e : List Cond := [.fieldLink RJx4a65c 48 "java/util/ArrayList" "size" "I", .methodLink RJx4a65c 69 yJx4a65c_grow_92f84, .instanceMethod yJx4a65c_grow_92f84, .selects RJx4a65c yJx4a65c_grow_92f84 yJx4a65c_grow_92f84, .initialized RJx4a65c]
def v_AL_grow0e : List Cond := .code yJx4a65c_grow_d5877 cJx4a65c_grow_d5877 1 (some (.array (.object "java/lang/Object"))) :: (o_AL_grow0e ++ (wsJx4a65c0 ++ (v_AL_grow1e ++ [])))
theorem mow_AL_grow0e : ∀ w ∈ o_AL_grow0e, w ∈ v_AL_grow0e := fun _ h => List.mem_cons_of_mem _ (List.mem_append_left _ h)
theorem mem_AL_grow0e_0 : ∀ w ∈ wsJx4a65c0, w ∈ v_AL_grow0e := fun _ h => List.mem_cons_of_mem _ (List.mem_append_right _ (List.mem_append_left _ h))
theorem mem_AL_grow0e_1 : ∀ w ∈ v_AL_grow1e, w ∈ v_AL_grow0e := fun _ h => List.mem_cons_of_mem _ (List.mem_append_right _ (List.mem_append_right _ (List.mem_append_left _ h)))
set_option maxRecDepth 20000 in
theorem gw_AL_grow0e : v_AL_grow0e.all goodWord = true := by decide +kernel
set_option maxRecDepth 20000 in
theorem g_AL_grow0e_AL_grow1e : GoodIn v_AL_grow0e (wsV RJx4a65c 69 RJx4a65c yJx4a65c_grow_92f84 v_AL_grow1e) := goodIn_app (goodIn_sub (fun w h => mow_AL_grow0e w (by revert w h; decide +kernel)) (by decide +kernel)) (goodIn_sub mem_AL_grow0e_1 gw_AL_grow1e)
set_option maxHeartbeats 4000000 in
set_option maxRecDepth 100000 in
theorem c_AL_grow0e (l : Launch) (dC : Nat → ClassId) (dI : Nat → Nat → Nat) (h0 : Nat) (r30_modCount : Int32) (sx_ed : Nat) (L : List Nat) (P : PO) (sz : Nat) : Met l yJx4a65c_grow_d5877 v_AL_grow0e ({ frames := 2, cells := 1, slots := 10, locals := 37 }) (va_Pc [.ref h0] (fun U => U.heap.size = sz ∧ va_P (dC, dI) vwQ ([(h0, .inr (18, [.int r30_modCount, .ref sx_ed, .int 0]))] ++ va_pl L (pE P)) U.heap ∧ va_K (dC, dI) vwQ [] U ∧ va_D (fun _ => True) ([(h0, .inr (18, [.int r30_modCount, .ref sx_ed, .int 0]))] ++ va_pl L (pE P)) ∧ va_T (.object "java/lang/Object") sx_ed 0 (fun _ => .null) (va_A ([(h0, .inr (18, [.int r30_modCount, .ref sx_ed, .int 0]))] ++ va_pl L (pE P)) sz) U U.heap ∧ va_Z "java/util/ArrayList" "DEFAULTCAPACITY_EMPTY_ELEMENTDATA" "[Ljava/lang/Object;" (.ref sx_ed) (va_A ([(h0, .inr (18, [.int r30_modCount, .ref sx_ed, .int 0]))] ++ va_pl L (pE P)) sz) U U.heap ∧ va_AO "java/lang/Object" U)) (va_Qr (fun _ : Unit => True) (fun (_ : Unit) (rq : Nat) (t : State) => ∃ (cn_9 : ClassId) (nn_9 : Nat) (fn_9 : Nat → Option Nat), (((nn_9 : Int) = 10 ∧ fn_9 = fun _ => none)) ∧ va_P (dC, dI) vwQ ([(h0, .inr (18, [.int r30_modCount, .ref rq, .int 0])), (rq, .inl (cn_9, nn_9, .inr (.inr (.inr (.inr fn_9)))))] ++ va_pl L (pE P)) t.heap ∧ va_K (dC, dI) vwQ [(cn_9, .object "java/lang/Object")] t ∧ va_D (va_A ([(h0, .inr (18, [.int r30_modCount, .ref sx_ed, .int 0]))] ++ va_pl L (pE P)) sz) ([(h0, .inr (18, [.int r30_modCount, .ref rq, .int 0])), (rq, .inl (cn_9, nn_9, .inr (.inr (.inr (.inr fn_9)))))] ++ va_pl L (pE P))) (va_A ([(h0, .inr (18, [.int r30_modCount, .ref sx_ed, .int 0]))] ++ va_pl L (pE P)) sz)) 1 10 (va_A ([(h0, .inr (18, [.int r30_modCount, .ref sx_ed, .int 0]))] ++ va_pl L (pE P)) sz) := by
  refine Met.ofW (cc := cJx4a65c_grow_d5877) (maxL := 1) (ret := (some (.array (.object "java/lang/Object")))) (by decide) rfl ?_
  intro p e s m args below meth c s₁ B hml hv
  obtain ⟨rfl, hsz, hP, hK, hD0, hp0, hp1, hp2⟩ := hv
  have hx := B.exec
  have hb := B.bytes
  have hr := B.returns
  have hts := atoms_spec (ws := v_AL_grow0e) B.pre
  have hown : s.vm.findClass RJx4a65c = some m.cls := findClass_of_methodNamed B.named
  have hlocks := B.notSynchronized
  have ow : ∀ {k : Nat} {w : Cond}, o_AL_grow0e[k]? = some w → w.before ([.ref h0] : List Value).toArray s = true := fun h => hts _ (mow_AL_grow0e _ (List.mem_of_getElem? h))
  subst hsz
  have hD := hD0.self (sz := s.heap.size)
  generalize hAe : va_A ([(h0, .inr (18, [.int r30_modCount, .ref sx_ed, .int 0]))] ++ va_pl L (pE P)) s.heap.size = A at hD hp0 hp1 hp2 ⊢
  have hA : ∀ q : Nat, s.heap.size ≤ q → A q := fun q h => by rw [← hAe]; exact Or.inr h
  have hS : va_S A s.heap s.heap [] := va_S.rf
  have hP : va_P (dC, dI) vwQ ([(h0, .inr (18, [.int r30_modCount, .ref sx_ed, .int 0]))] ++ va_pl L (pE P)) s.heap := hP
  have hl := lv_entry ([.ref h0]) (n := 1) (Nat.le_of_ble_eq_true rfl)
  rw [lg_entry_eq]
  generalize (lg_sl ([.ref h0]) ++ List.replicate (1 - (lg_sl ([.ref h0])).length) Slot.unset).toArray = ls at hl ⊢
  have hl : lv_has ls 1 [(0, .ref h0)] := hl
  obtain ⟨H, hH⟩ : ∃ H, H = s.heap := ⟨_, rfl⟩
  rw [← hH] at hP
  have hS : va_S A s.heap H [] := by rw [hH]; exact hS
  rw [← hH]
  refine zW_cap (fun Q hQ => ?_)
  refine lv_aload_n hx hb dJx4a65c_grow_d5877_0 rfl (lv_at hl 0 rfl) ?_
  refine lv_aload_n hx hb dJx4a65c_grow_d5877_1 rfl (lv_at hl 0 rfl) ?_
  refine va_get (D := (dC, dI)) (ci := 18) (v := .int 0) (C := RJx4a65c) (T := TJx4a65c) (N := 3) hx hb hts mem_AL_grow0e_0 hown hK hP 0 rfl rfl 2 (by decide) (ow (k := 0) rfl) (fun _ h9 => h9) rfl dJx4a65c_grow_d5877_2 ?_
  refine lv_iconst (v := 1) hx hb dJx4a65c_grow_d5877_5 (by decide) ?_
  refine lv_iadd hx hb dJx4a65c_grow_d5877_6 ?_
  refine lv_topi (fun z ez => ?_)
  obtain rfl : z = 1 := by rw [ez]; decide
  have hPc := hP.part (X := [(h0, .inr (18, [.int r30_modCount, .ref sx_ed, .int 0]))]) (cx := [(h0, .inr (18, [.int r30_modCount, .ref sx_ed, .int 0]))]) (pl := va_pl L (pE P)) [0] rfl
  have hDc := hD.part (X := [(h0, .inr (18, [.int r30_modCount, .ref sx_ed, .int 0]))]) (cx := [(h0, .inr (18, [.int r30_modCount, .ref sx_ed, .int 0]))]) (pl := va_pl L (pE P)) [0] (by decide) rfl
  have hKc := hK.sub (tys' := []) [] rfl
  have hFc := va_freeP (X := [(h0, .inr (18, [.int r30_modCount, .ref sx_ed, .int 0]))]) (cx := [(h0, .inr (18, [.int r30_modCount, .ref sx_ed, .int 0]))]) (pl := va_pl L (pE P)) hD hS hA [0] rfl
  refine va_callr (va_runV (As := [.int 1]) (rest := []) ⟨hx, hb, hml, hown, hts⟩ (c_AL_grow1e l dC dI h0 r30_modCount sx_ed L P H.size) (cwV 1 hts g_AL_grow0e_AL_grow1e rfl rfl rfl (by decide +kernel) ⟨(Nat.le_of_ble_eq_true rfl), (Nat.le_of_ble_eq_true rfl)⟩) ⟨fun a U g mk q => by obtain ⟨q0, q1, qP, qK, qD, e0, e1, e2⟩ := q; exact ⟨q0, q1, qP, va_K.moved (u := U) (U := U.calling g mk a) (Vm.Alike.refl U.vm) qK, qD, va_T.moved (u := U) (U := U.calling g mk a) (Vm.Alike.refl U.vm) e0, va_Z.moved (u := U) (U := U.calling g mk a) (Vm.Alike.refl U.vm) e1, va_AO.moved (u := U) (U := U.calling g mk a) (Vm.Alike.refl U.vm) e2⟩, va_recv hKc hPc (ci := 18) (q0 := 0) rfl rfl, fun U hU hW => ⟨rfl, by rw [hU], by rw [hU]; exact hPc, va_K.moved hW.alike hKc, hDc.weaken (fun _ _ _ _ => trivial), by rw [hU]; exact va_T.narrow (va_T.moved hW.alike (va_T.kept hp0 hS.2.1)) hFc, by rw [hU]; exact va_Z.narrow (va_Z.moved hW.alike (va_Z.kept hp1 hS.2.1)) hFc, va_AO.moved hW.alike hp2⟩⟩ rfl rfl hl.1 rfl (lv_room (Nat.le_of_ble_eq_true rfl)) dJx4a65c_grow_d5877_7 ⟨(Nat.le_of_ble_eq_true rfl), (Nat.le_of_ble_eq_true rfl)⟩) hS (fun q _ h => hFc q h) hFc (fun u q_1 t H1 locs ht hvm hw hB hz1 hk1 hS => ?_)
  obtain ⟨cn_2, nn_3, fn_4, hxt_4, hP1, hK1, hD1⟩ := hB
  rw [ht] at hP1
  have hK1 := va_K.moved hvm.symm hK1
  obtain ⟨hP, hD⟩ := va_joinP (X := [(h0, .inr (18, [.int r30_modCount, .ref sx_ed, .int 0]))]) (cx := [(h0, .inr (18, [.int r30_modCount, .ref sx_ed, .int 0]))]) (wr := []) (rx := [(h0, .inr (18, [.int r30_modCount, .ref q_1, .int 0])), (q_1, .inl (cn_2, nn_3, .inr (.inr (.inr (.inr fn_4)))))]) (pl := va_pl L (pE P)) (pl1 := va_pl L (pE P)) hP hD [0] [] rfl rfl (by decide) (by decide) hk1 hFc hP1 hD1
  have hK := (hK.sub (tys' := []) [] rfl).app hK1
  generalize H1 = H at hP hS ⊢
  have hP : va_P (dC, dI) vwQ ([(h0, .inr (18, [.int r30_modCount, .ref q_1, .int 0])), (q_1, .inl (cn_2, nn_3, .inr (.inr (.inr (.inr fn_4)))))] ++ va_pl L (pE P)) H := hP
  have hD : va_D A ([(h0, .inr (18, [.int r30_modCount, .ref q_1, .int 0])), (q_1, .inl (cn_2, nn_3, .inr (.inr (.inr (.inr fn_4)))))] ++ va_pl L (pE P)) := hD
  have hK : va_K (dC, dI) vwQ [(cn_2, .object "java/lang/Object")] s := hK
  refine W.widen (k := 1) (n := 10) (Nat.le_of_ble_eq_true rfl) (Nat.le_of_ble_eq_true rfl) ?_
  subst hQ
  refine W.widen (k := 1) (n := 10) (Nat.le_of_ble_eq_true rfl) (Nat.le_of_ble_eq_true rfl) ?_
  exact W.aret (v := .ref q_1) hx hb hr (Or.inr ⟨_, rfl⟩) (Or.inr ⟨_, rfl⟩) (fun t ht hW => ⟨⟨(), q_1, rfl, trivial, cn_2, nn_3, fn_4, hxt_4, by rw [ht]; exact hP, va_K.moved hW.alike hK, hD⟩, hS.F ht⟩) hS.2.2 dJx4a65c_grow_d5877_10
def o_AL_add3e : List Cond := [.methodLink RJx4a65c 129 yJx4a65c_grow_d5877, .instanceMethod yJx4a65c_grow_d5877, .selects RJx4a65c yJx4a65c_grow_d5877 yJx4a65c_grow_d5877, .initialized RJx4a65c, .fieldLink RJx4a65c 48 "java/util/ArrayList" "size" "I"]
def v_AL_add3e : List Cond := .code yJx4a65c_add_72be8 cJx4a65c_add_72be8 4 none :: (o_AL_add3e ++ (v_AL_grow0e ++ (wsJx4a65c0 ++ [])))
theorem mow_AL_add3e : ∀ w ∈ o_AL_add3e, w ∈ v_AL_add3e := fun _ h => List.mem_cons_of_mem _ (List.mem_append_left _ h)
theorem mem_AL_add3e_0 : ∀ w ∈ v_AL_grow0e, w ∈ v_AL_add3e := fun _ h => List.mem_cons_of_mem _ (List.mem_append_right _ (List.mem_append_left _ h))
theorem mem_AL_add3e_1 : ∀ w ∈ wsJx4a65c0, w ∈ v_AL_add3e := fun _ h => List.mem_cons_of_mem _ (List.mem_append_right _ (List.mem_append_right _ (List.mem_append_left _ h)))
set_option maxRecDepth 20000 in
theorem gw_AL_add3e : v_AL_add3e.all goodWord = true := by decide +kernel
set_option maxRecDepth 20000 in
theorem g_AL_add3e_AL_grow0e : GoodIn v_AL_add3e (wsV RJx4a65c 129 RJx4a65c yJx4a65c_grow_d5877 v_AL_grow0e) := goodIn_app (goodIn_sub (fun w h => mow_AL_add3e w (by revert w h; decide +kernel)) (by decide +kernel)) (goodIn_sub mem_AL_add3e_0 gw_AL_grow0e)
set_option maxHeartbeats 4000000 in
set_option maxRecDepth 100000 in
theorem c_AL_add3e (l : Launch) (dC : Nat → ClassId) (dI : Nat → Nat → Nat) (h0 : Nat) (r30_modCount : Int32) (sx_ed : Nat) (L : List Nat) (P : PO) (y : Nat) (hX_y : y ∈ L ∧ OBK (P.kd y)) (sz : Nat) : Met l yJx4a65c_add_72be8 v_AL_add3e ({ frames := 3, cells := 1, slots := 10, locals := 57 }) (va_Pc [.ref h0, .ref y, .ref sx_ed, .int 0] (fun U => U.heap.size = sz ∧ va_P (dC, dI) vwQ ([(h0, .inr (18, [.int r30_modCount, .ref sx_ed, .int 0]))] ++ va_pl L (pE P)) U.heap ∧ va_K (dC, dI) vwQ [] U ∧ va_D (fun _ => True) ([(h0, .inr (18, [.int r30_modCount, .ref sx_ed, .int 0]))] ++ va_pl L (pE P)) ∧ va_T (.object "java/lang/Object") sx_ed 0 (fun _ => .null) (va_A ([(h0, .inr (18, [.int r30_modCount, .ref sx_ed, .int 0]))] ++ va_pl L (pE P)) sz) U U.heap ∧ va_Z "java/util/ArrayList" "DEFAULTCAPACITY_EMPTY_ELEMENTDATA" "[Ljava/lang/Object;" (.ref sx_ed) (va_A ([(h0, .inr (18, [.int r30_modCount, .ref sx_ed, .int 0]))] ++ va_pl L (pE P)) sz) U U.heap ∧ va_AO "java/lang/Object" U ∧ va_Nw (.castable "SsaForgeModel$Row" "java/lang/Object") U ∧ va_Nw (.castable "SsaForgeModel$Phi" "java/lang/Object") U ∧ va_Nw (.castable "SsaForgeModel$Block" "java/lang/Object") U)) (va_Qv (fun _ : Unit => True) (fun (_ : Unit) (t : State) => ∃ (z0_9 : Int) (qn_9 : Nat) (cn_9 : ClassId) (nn_9 : Nat) (fn_9 : Nat → Option Nat), ((0 ≤ z0_9 ∧ z0_9 ≤ 100000) ∧ (z0_9 = 1 ∧ (nn_9 : Int) = 10 ∧ ELS L P fn_9 ∧ fn_9 0 = some y)) ∧ va_P (dC, dI) vwQ ([(h0, .inr (18, [.int r30_modCount, .ref qn_9, .int (zI (z0_9))])), (qn_9, .inl (cn_9, nn_9, .inr (.inr (.inr (.inr fn_9)))))] ++ va_pl L (pE P)) t.heap ∧ va_K (dC, dI) vwQ [(cn_9, .object "java/lang/Object")] t ∧ va_D (va_A ([(h0, .inr (18, [.int r30_modCount, .ref sx_ed, .int 0]))] ++ va_pl L (pE P)) sz) ([(h0, .inr (18, [.int r30_modCount, .ref qn_9, .int (zI (z0_9))])), (qn_9, .inl (cn_9, nn_9, .inr (.inr (.inr (.inr fn_9)))))] ++ va_pl L (pE P))) (va_A ([(h0, .inr (18, [.int r30_modCount, .ref sx_ed, .int 0]))] ++ va_pl L (pE P)) sz)) 1 10 (va_A ([(h0, .inr (18, [.int r30_modCount, .ref sx_ed, .int 0]))] ++ va_pl L (pE P)) sz) := by
  refine Met.ofW (cc := cJx4a65c_add_72be8) (maxL := 4) (ret := none) (by decide) rfl ?_
  intro p e s m args below meth c s₁ B hml hv
  obtain ⟨rfl, hsz, hP, hK, hD0, hp0, hp1, hp2, hp3, hp4, hp5⟩ := hv
  have hx := B.exec
  have hb := B.bytes
  have hr := B.returns
  have hts := atoms_spec (ws := v_AL_add3e) B.pre
  have hown : s.vm.findClass RJx4a65c = some m.cls := findClass_of_methodNamed B.named
  have hlocks := B.notSynchronized
  have ow : ∀ {k : Nat} {w : Cond}, o_AL_add3e[k]? = some w → w.before ([.ref h0, .ref y, .ref sx_ed, .int 0] : List Value).toArray s = true := fun h => hts _ (mow_AL_add3e _ (List.mem_of_getElem? h))
  subst hsz
  have hD := hD0.self (sz := s.heap.size)
  generalize hAe : va_A ([(h0, .inr (18, [.int r30_modCount, .ref sx_ed, .int 0]))] ++ va_pl L (pE P)) s.heap.size = A at hD hp0 hp1 hp2 ⊢
  have hA : ∀ q : Nat, s.heap.size ≤ q → A q := fun q h => by rw [← hAe]; exact Or.inr h
  have hS : va_S A s.heap s.heap [] := va_S.rf
  have hP : va_P (dC, dI) vwQ ([(h0, .inr (18, [.int r30_modCount, .ref sx_ed, .int 0]))] ++ va_pl L (pE P)) s.heap := hP
  have hl := lv_entry ([.ref h0, .ref y, .ref sx_ed, .int 0]) (n := 4) (Nat.le_of_ble_eq_true rfl)
  rw [lg_entry_eq]
  generalize (lg_sl ([.ref h0, .ref y, .ref sx_ed, .int 0]) ++ List.replicate (4 - (lg_sl ([.ref h0, .ref y, .ref sx_ed, .int 0])).length) Slot.unset).toArray = ls at hl ⊢
  have hl : lv_has ls 4 [(0, .ref h0), (1, .ref y), (2, .ref sx_ed), (3, .int 0)] := hl
  obtain ⟨H, hH⟩ : ∃ H, H = s.heap := ⟨_, rfl⟩
  rw [← hH] at hP
  have hS : va_S A s.heap H [] := by rw [hH]; exact hS
  rw [← hH]
  refine zW_cap (fun Q hQ => ?_)
  refine lv_iload_n hx hb dJx4a65c_add_72be8_0 rfl (lv_at hl 3 rfl) ?_
  refine lv_aload_n hx hb dJx4a65c_add_72be8_1 rfl (lv_at hl 2 rfl) ?_
  refine va_tlen (v := 0) hx hb hp0 hS (by decide) dJx4a65c_add_72be8_2 ?_
  refine lv_icmp_ne (tgt := 11) hx hb dJx4a65c_add_72be8_3 (by decide) (fun h9 => absurd h9 (by decide)) (fun _ => ?_)
  refine lv_aload_n hx hb dJx4a65c_add_72be8_6 rfl (lv_at hl 0 rfl) ?_
  have hPc := hP.part (X := [(h0, .inr (18, [.int r30_modCount, .ref sx_ed, .int 0]))]) (cx := [(h0, .inr (18, [.int r30_modCount, .ref sx_ed, .int 0]))]) (pl := va_pl L (pE P)) [0] rfl
  have hDc := hD.part (X := [(h0, .inr (18, [.int r30_modCount, .ref sx_ed, .int 0]))]) (cx := [(h0, .inr (18, [.int r30_modCount, .ref sx_ed, .int 0]))]) (pl := va_pl L (pE P)) [0] (by decide) rfl
  have hKc := hK.sub (tys' := []) [] rfl
  have hFc := va_freeP (X := [(h0, .inr (18, [.int r30_modCount, .ref sx_ed, .int 0]))]) (cx := [(h0, .inr (18, [.int r30_modCount, .ref sx_ed, .int 0]))]) (pl := va_pl L (pE P)) hD hS hA [0] rfl
  refine va_callr (va_runV (As := []) (rest := []) ⟨hx, hb, hml, hown, hts⟩ (c_AL_grow0e l dC dI h0 r30_modCount sx_ed L P H.size) (cwV 0 hts g_AL_add3e_AL_grow0e rfl rfl rfl (by decide +kernel) ⟨(Nat.le_of_ble_eq_true rfl), (Nat.le_of_ble_eq_true rfl)⟩) ⟨fun a U g mk q => by obtain ⟨q0, q1, qP, qK, qD, e0, e1, e2⟩ := q; exact ⟨q0, q1, qP, va_K.moved (u := U) (U := U.calling g mk a) (Vm.Alike.refl U.vm) qK, qD, va_T.moved (u := U) (U := U.calling g mk a) (Vm.Alike.refl U.vm) e0, va_Z.moved (u := U) (U := U.calling g mk a) (Vm.Alike.refl U.vm) e1, va_AO.moved (u := U) (U := U.calling g mk a) (Vm.Alike.refl U.vm) e2⟩, va_recv hKc hPc (ci := 18) (q0 := 0) rfl rfl, fun U hU hW => ⟨rfl, by rw [hU], by rw [hU]; exact hPc, va_K.moved hW.alike hKc, hDc.weaken (fun _ _ _ _ => trivial), by rw [hU]; exact va_T.narrow (va_T.moved hW.alike (va_T.kept hp0 hS.2.1)) hFc, by rw [hU]; exact va_Z.narrow (va_Z.moved hW.alike (va_Z.kept hp1 hS.2.1)) hFc, va_AO.moved hW.alike hp2⟩⟩ rfl rfl hl.1 rfl (lv_room (Nat.le_of_ble_eq_true rfl)) dJx4a65c_add_72be8_7 ⟨(Nat.le_of_ble_eq_true rfl), (Nat.le_of_ble_eq_true rfl)⟩) hS (fun q _ h => hFc q h) hFc (fun u q_1 t H1 locs ht hvm hw hB hz1 hk1 hS => ?_)
  obtain ⟨cn_2, nn_3, fn_4, hxt_4, hP1, hK1, hD1⟩ := hB
  rw [ht] at hP1
  have hK1 := va_K.moved hvm.symm hK1
  obtain ⟨hP, hD⟩ := va_joinP (X := [(h0, .inr (18, [.int r30_modCount, .ref sx_ed, .int 0]))]) (cx := [(h0, .inr (18, [.int r30_modCount, .ref sx_ed, .int 0]))]) (wr := []) (rx := [(h0, .inr (18, [.int r30_modCount, .ref q_1, .int 0])), (q_1, .inl (cn_2, nn_3, .inr (.inr (.inr (.inr fn_4)))))]) (pl := va_pl L (pE P)) (pl1 := va_pl L (pE P)) hP hD [0] [] rfl rfl (by decide) (by decide) hk1 hFc hP1 hD1
  have hK := (hK.sub (tys' := []) [] rfl).app hK1
  generalize H1 = H at hP hS ⊢
  have hP : va_P (dC, dI) vwQ ([(h0, .inr (18, [.int r30_modCount, .ref q_1, .int 0])), (q_1, .inl (cn_2, nn_3, .inr (.inr (.inr (.inr fn_4)))))] ++ va_pl L (pE P)) H := hP
  have hD : va_D A ([(h0, .inr (18, [.int r30_modCount, .ref q_1, .int 0])), (q_1, .inl (cn_2, nn_3, .inr (.inr (.inr (.inr fn_4)))))] ++ va_pl L (pE P)) := hD
  have hK : va_K (dC, dI) vwQ [(cn_2, .object "java/lang/Object")] s := hK
  refine W.widen (k := 1) (n := 10) (Nat.le_of_ble_eq_true rfl) (Nat.le_of_ble_eq_true rfl) ?_
  have hgr := hxt_4
  refine lv_astore_n (lv' := [(2, .ref q_1), (0, .ref h0), (1, .ref y), (3, .int 0)]) hx hb dJx4a65c_add_72be8_10 rfl hl (by decide) rfl (fun ls hl => ?_)
  refine lv_aload_n hx hb dJx4a65c_add_72be8_11 rfl (lv_at hl 0 rfl) ?_
  refine lv_iload_n hx hb dJx4a65c_add_72be8_12 rfl (lv_at hl 3 rfl) ?_
  refine lv_aload_n hx hb dJx4a65c_add_72be8_13 rfl (lv_at hl 2 rfl) ?_
  refine va_astqM (E := "java/lang/Object") (i := zI (0)) hx hb hK hP hD hS 1 0 rfl rfl (pool_any hK hP hX_y.1 hX_y.2 hp3 hp4 hp5) (zI_in (a := 0) (n := nn_3) (by omega) (by omega) (by omega)) dJx4a65c_add_72be8_14 (fun H locs hP hD hS => ?_)
  have hP : va_P (dC, dI) vwQ ([(h0, .inr (18, [.int r30_modCount, .ref q_1, .int 0])), (q_1, .inl (cn_2, nn_3, .inr (.inr (.inr (.inr (va_up fn_4 (zI (0)).toNatClampNeg (some y)))))))] ++ va_pl L (pE P)) H := hP
  have hD : va_D A ([(h0, .inr (18, [.int r30_modCount, .ref q_1, .int 0])), (q_1, .inl (cn_2, nn_3, .inr (.inr (.inr (.inr (va_up fn_4 (zI (0)).toNatClampNeg (some y)))))))] ++ va_pl L (pE P)) := hD
  generalize efo_5 : (va_up fn_4 (zI (0)).toNatClampNeg (some y)) = fo_5 at hP hD
  rw [zI_cl (by omega) (by omega)] at efo_5
  have hP : va_P (dC, dI) vwQ ([(h0, .inr (18, [.int r30_modCount, .ref q_1, .int 0])), (q_1, .inl (cn_2, nn_3, .inr (.inr (.inr (.inr fo_5)))))] ++ va_pl L (pE P)) H := hP
  have hD : va_D A ([(h0, .inr (18, [.int r30_modCount, .ref q_1, .int 0])), (q_1, .inl (cn_2, nn_3, .inr (.inr (.inr (.inr fo_5)))))] ++ va_pl L (pE P)) := hD
  refine lv_aload_n hx hb dJx4a65c_add_72be8_15 rfl (lv_at hl 1 rfl) ?_
  refine lv_iload_n hx hb dJx4a65c_add_72be8_16 rfl (lv_at hl 3 rfl) ?_
  refine lv_iconst (v := 1) hx hb dJx4a65c_add_72be8_17 (by decide) ?_
  refine lv_iadd hx hb dJx4a65c_add_72be8_18 ?_
  refine lv_topi (fun z ez => ?_)
  obtain rfl : z = 1 := by rw [ez]; decide
  refine va_put (D := (dC, dI)) (ci := 18) (v := .int 1) (ty := .int) (C := RJx4a65c) (T := TJx4a65c) (N := 3) hx hb hts mem_AL_add3e_1 tyJx4a65c tyJx4a65c_ok nmJx4a65c hown hK hP hD hS 0 rfl rfl 2 (by decide) (ow (k := 4) rfl) (fun _ h9 => h9) rfl (by decide +kernel) rfl rfl (Nat.le_of_ble_eq_true rfl) dJx4a65c_add_72be8_19 (fun H locs hP hD hS => ?_)
  have hP : va_P (dC, dI) vwQ ([(h0, .inr (18, [.int r30_modCount, .ref q_1, .int 1])), (q_1, .inl (cn_2, nn_3, .inr (.inr (.inr (.inr fo_5)))))] ++ va_pl L (pE P)) H := hP
  have hD : va_D A ([(h0, .inr (18, [.int r30_modCount, .ref q_1, .int 1])), (q_1, .inl (cn_2, nn_3, .inr (.inr (.inr (.inr fo_5)))))] ++ va_pl L (pE P)) := hD
  subst hQ
  refine W.widen (k := 1) (n := 10) (Nat.le_of_ble_eq_true rfl) (Nat.le_of_ble_eq_true rfl) ?_
  exact W.vret hx hb hr (fun t ht hW => ⟨⟨(), rfl, trivial, 1, q_1, cn_2, nn_3, fo_5, ⟨(by omega), ⟨by omega, by omega, (by rw [← efo_5, hgr.2]; exact (els_empty L P).put hX_y.1 hX_y.2), (by rw [← efo_5]; exact up_at (z := 0))⟩⟩, by rw [ht]; exact hP, va_K.moved hW.alike hK, hD⟩, hS.F ht⟩) hS.2.2 dJx4a65c_add_72be8_22
def o_AL_adde : List Cond := [.fieldLink RJx4a65c 63 "java/util/ArrayList" "modCount" "I", .sameField "java/util/ArrayList" "java/util/AbstractList" "modCount" "I", .fieldLink RJx4a65c 9 "java/util/ArrayList" "elementData" "[Ljava/lang/Object;", .fieldLink RJx4a65c 48 "java/util/ArrayList" "size" "I", .methodLink RJx4a65c 131 yJx4a65c_add_72be8, .instanceMethod yJx4a65c_add_72be8, .selects RJx4a65c yJx4a65c_add_72be8 yJx4a65c_add_72be8, .initialized RJx4a65c]
def v_AL_adde : List Cond := .code yJx4a65c_add_9ea2d cJx4a65c_add_9ea2d 2 (some .boolean) :: (o_AL_adde ++ (wsJx4a65c0 ++ (v_AL_add3e ++ [])))
theorem mow_AL_adde : ∀ w ∈ o_AL_adde, w ∈ v_AL_adde := fun _ h => List.mem_cons_of_mem _ (List.mem_append_left _ h)
theorem mem_AL_adde_0 : ∀ w ∈ wsJx4a65c0, w ∈ v_AL_adde := fun _ h => List.mem_cons_of_mem _ (List.mem_append_right _ (List.mem_append_left _ h))
theorem mem_AL_adde_1 : ∀ w ∈ v_AL_add3e, w ∈ v_AL_adde := fun _ h => List.mem_cons_of_mem _ (List.mem_append_right _ (List.mem_append_right _ (List.mem_append_left _ h)))
set_option maxRecDepth 20000 in
theorem gw_AL_adde : v_AL_adde.all goodWord = true := by decide +kernel
set_option maxRecDepth 20000 in
theorem g_AL_adde_AL_add3e : GoodIn v_AL_adde (wsV RJx4a65c 131 RJx4a65c yJx4a65c_add_72be8 v_AL_add3e) := goodIn_app (goodIn_sub (fun w h => mow_AL_adde w (by revert w h; decide +kernel)) (by decide +kernel)) (goodIn_sub mem_AL_adde_1 gw_AL_add3e)
set_option maxHeartbeats 4000000 in
set_option maxRecDepth 100000 in
theorem c_AL_adde (l : Launch) (dC : Nat → ClassId) (dI : Nat → Nat → Nat) (h0 : Nat) (r30_modCount : Int32) (sx_ed : Nat) (L : List Nat) (P : PO) (y : Nat) (hX_y : y ∈ L ∧ OBK (P.kd y)) (sz : Nat) : Met l yJx4a65c_add_9ea2d v_AL_adde ({ frames := 4, cells := 1, slots := 10, locals := 80 }) (va_Pc [.ref h0, .ref y] (fun U => U.heap.size = sz ∧ va_P (dC, dI) vwQ ([(h0, .inr (18, [.int r30_modCount, .ref sx_ed, .int 0]))] ++ va_pl L (pE P)) U.heap ∧ va_K (dC, dI) vwQ [] U ∧ va_D (fun _ => True) ([(h0, .inr (18, [.int r30_modCount, .ref sx_ed, .int 0]))] ++ va_pl L (pE P)) ∧ va_T (.object "java/lang/Object") sx_ed 0 (fun _ => .null) (va_A ([(h0, .inr (18, [.int r30_modCount, .ref sx_ed, .int 0]))] ++ va_pl L (pE P)) sz) U U.heap ∧ va_Z "java/util/ArrayList" "DEFAULTCAPACITY_EMPTY_ELEMENTDATA" "[Ljava/lang/Object;" (.ref sx_ed) (va_A ([(h0, .inr (18, [.int r30_modCount, .ref sx_ed, .int 0]))] ++ va_pl L (pE P)) sz) U U.heap ∧ va_AO "java/lang/Object" U ∧ va_Nw (.castable "SsaForgeModel$Row" "java/lang/Object") U ∧ va_Nw (.castable "SsaForgeModel$Phi" "java/lang/Object") U ∧ va_Nw (.castable "SsaForgeModel$Block" "java/lang/Object") U)) (va_Qi (fun (r : Int32) (zr : Int) => r = zI zr ∧ (zr = 1)) (fun (zr : Int) (t : State) => ∃ (x0_9 : Int32) (z1_9 : Int) (qn_9 : Nat) (cn_9 : ClassId) (nn_9 : Nat) (fn_9 : Nat → Option Nat), ((0 ≤ z1_9 ∧ z1_9 ≤ 100000) ∧ (z1_9 = 1 ∧ (nn_9 : Int) = 10 ∧ ELS L P fn_9 ∧ fn_9 0 = some y)) ∧ va_P (dC, dI) vwQ ([(h0, .inr (18, [.int x0_9, .ref qn_9, .int (zI (z1_9))])), (qn_9, .inl (cn_9, nn_9, .inr (.inr (.inr (.inr fn_9)))))] ++ va_pl L (pE P)) t.heap ∧ va_K (dC, dI) vwQ [(cn_9, .object "java/lang/Object")] t ∧ va_D (va_A ([(h0, .inr (18, [.int r30_modCount, .ref sx_ed, .int 0]))] ++ va_pl L (pE P)) sz) ([(h0, .inr (18, [.int x0_9, .ref qn_9, .int (zI (z1_9))])), (qn_9, .inl (cn_9, nn_9, .inr (.inr (.inr (.inr fn_9)))))] ++ va_pl L (pE P))) (va_A ([(h0, .inr (18, [.int r30_modCount, .ref sx_ed, .int 0]))] ++ va_pl L (pE P)) sz)) 1 10 (va_A ([(h0, .inr (18, [.int r30_modCount, .ref sx_ed, .int 0]))] ++ va_pl L (pE P)) sz) := by
  refine Met.ofW (cc := cJx4a65c_add_9ea2d) (maxL := 2) (ret := (some .boolean)) (by decide) rfl ?_
  intro p e s m args below meth c s₁ B hml hv
  obtain ⟨rfl, hsz, hP, hK, hD0, hp0, hp1, hp2, hp3, hp4, hp5⟩ := hv
  have hx := B.exec
  have hb := B.bytes
  have hr := B.returns
  have hts := atoms_spec (ws := v_AL_adde) B.pre
  have hown : s.vm.findClass RJx4a65c = some m.cls := findClass_of_methodNamed B.named
  have hlocks := B.notSynchronized
  have ow : ∀ {k : Nat} {w : Cond}, o_AL_adde[k]? = some w → w.before ([.ref h0, .ref y] : List Value).toArray s = true := fun h => hts _ (mow_AL_adde _ (List.mem_of_getElem? h))
  subst hsz
  have hD := hD0.self (sz := s.heap.size)
  generalize hAe : va_A ([(h0, .inr (18, [.int r30_modCount, .ref sx_ed, .int 0]))] ++ va_pl L (pE P)) s.heap.size = A at hD hp0 hp1 hp2 ⊢
  have hA : ∀ q : Nat, s.heap.size ≤ q → A q := fun q h => by rw [← hAe]; exact Or.inr h
  have hS : va_S A s.heap s.heap [] := va_S.rf
  have hP : va_P (dC, dI) vwQ ([(h0, .inr (18, [.int r30_modCount, .ref sx_ed, .int 0]))] ++ va_pl L (pE P)) s.heap := hP
  have hl := lv_entry ([.ref h0, .ref y]) (n := 2) (Nat.le_of_ble_eq_true rfl)
  rw [lg_entry_eq]
  generalize (lg_sl ([.ref h0, .ref y]) ++ List.replicate (2 - (lg_sl ([.ref h0, .ref y])).length) Slot.unset).toArray = ls at hl ⊢
  have hl : lv_has ls 2 [(0, .ref h0), (1, .ref y)] := hl
  obtain ⟨H, hH⟩ : ∃ H, H = s.heap := ⟨_, rfl⟩
  rw [← hH] at hP
  have hS : va_S A s.heap H [] := by rw [hH]; exact hS
  rw [← hH]
  refine zW_cap (fun Q hQ => ?_)
  refine lv_aload_n hx hb dJx4a65c_add_9ea2d_0 rfl (lv_at hl 0 rfl) ?_
  refine lv_dup hx hb dJx4a65c_add_9ea2d_1 rfl ?_
  refine va_get (D := (dC, dI)) (ci := 18) (v := .int r30_modCount) (C := RJx4a65c) (T := TJx4a65c) (N := 3) hx hb hts mem_AL_adde_0 hown hK hP 0 rfl rfl 0 (by decide) (ow (k := 0) rfl) (fun x9 h9 => u_same (ow (k := 1) rfl) x9 h9) rfl dJx4a65c_add_9ea2d_2 ?_
  refine lv_iconst (v := 1) hx hb dJx4a65c_add_9ea2d_5 (by decide) ?_
  refine lv_iadd hx hb dJx4a65c_add_9ea2d_6 ?_
  refine lv_topi (fun x_1 _ => ?_)
  refine va_put (D := (dC, dI)) (ci := 18) (v := .int x_1) (ty := .int) (C := RJx4a65c) (T := TJx4a65c) (N := 3) hx hb hts mem_AL_adde_0 tyJx4a65c tyJx4a65c_ok nmJx4a65c hown hK hP hD hS 0 rfl rfl 0 (by decide) (ow (k := 0) rfl) (fun x9 h9 => u_same (ow (k := 1) rfl) x9 h9) rfl (by decide +kernel) rfl rfl (Nat.le_of_ble_eq_true rfl) dJx4a65c_add_9ea2d_7 (fun H locs hP hD hS => ?_)
  have hP : va_P (dC, dI) vwQ ([(h0, .inr (18, [.int x_1, .ref sx_ed, .int 0]))] ++ va_pl L (pE P)) H := hP
  have hD : va_D A ([(h0, .inr (18, [.int x_1, .ref sx_ed, .int 0]))] ++ va_pl L (pE P)) := hD
  refine lv_aload_n hx hb dJx4a65c_add_9ea2d_10 rfl (lv_at hl 0 rfl) ?_
  refine lv_aload_n hx hb dJx4a65c_add_9ea2d_11 rfl (lv_at hl 1 rfl) ?_
  refine lv_aload_n hx hb dJx4a65c_add_9ea2d_12 rfl (lv_at hl 0 rfl) ?_
  refine va_get (D := (dC, dI)) (ci := 18) (v := .ref sx_ed) (C := RJx4a65c) (T := TJx4a65c) (N := 3) hx hb hts mem_AL_adde_0 hown hK hP 0 rfl rfl 1 (by decide) (ow (k := 2) rfl) (fun _ h9 => h9) rfl dJx4a65c_add_9ea2d_13 ?_
  refine lv_aload_n hx hb dJx4a65c_add_9ea2d_16 rfl (lv_at hl 0 rfl) ?_
  refine va_get (D := (dC, dI)) (ci := 18) (v := .int 0) (C := RJx4a65c) (T := TJx4a65c) (N := 3) hx hb hts mem_AL_adde_0 hown hK hP 0 rfl rfl 2 (by decide) (ow (k := 3) rfl) (fun _ h9 => h9) rfl dJx4a65c_add_9ea2d_17 ?_
  have hPc := hP.part (X := [(h0, .inr (18, [.int x_1, .ref sx_ed, .int 0]))]) (cx := [(h0, .inr (18, [.int x_1, .ref sx_ed, .int 0]))]) (pl := va_pl L (pE P)) [0] rfl
  have hDc := hD.part (X := [(h0, .inr (18, [.int x_1, .ref sx_ed, .int 0]))]) (cx := [(h0, .inr (18, [.int x_1, .ref sx_ed, .int 0]))]) (pl := va_pl L (pE P)) [0] (by decide) rfl
  have hKc := hK.sub (tys' := []) [] rfl
  have hFc := va_freeP (X := [(h0, .inr (18, [.int x_1, .ref sx_ed, .int 0]))]) (cx := [(h0, .inr (18, [.int x_1, .ref sx_ed, .int 0]))]) (pl := va_pl L (pE P)) hD hS hA [0] rfl
  refine va_callv (va_runV (As := [.ref y, .ref sx_ed, .int 0]) (rest := []) ⟨hx, hb, hml, hown, hts⟩ (c_AL_add3e l dC dI h0 x_1 sx_ed L P y hX_y H.size) (cwV 3 hts g_AL_adde_AL_add3e rfl rfl rfl (by decide +kernel) ⟨(Nat.le_of_ble_eq_true rfl), (Nat.le_of_ble_eq_true rfl)⟩) ⟨fun a U g mk q => by obtain ⟨q0, q1, qP, qK, qD, e0, e1, e2, e3, e4, e5⟩ := q; exact ⟨q0, q1, qP, va_K.moved (u := U) (U := U.calling g mk a) (Vm.Alike.refl U.vm) qK, qD, va_T.moved (u := U) (U := U.calling g mk a) (Vm.Alike.refl U.vm) e0, va_Z.moved (u := U) (U := U.calling g mk a) (Vm.Alike.refl U.vm) e1, va_AO.moved (u := U) (U := U.calling g mk a) (Vm.Alike.refl U.vm) e2, va_Nw.same rfl (u := U) (U := U.calling g mk a) rfl e3, va_Nw.same rfl (u := U) (U := U.calling g mk a) rfl e4, va_Nw.same rfl (u := U) (U := U.calling g mk a) rfl e5⟩, va_recv hKc hPc (ci := 18) (q0 := 0) rfl rfl, fun U hU hW => ⟨rfl, by rw [hU], by rw [hU]; exact hPc, va_K.moved hW.alike hKc, hDc.weaken (fun _ _ _ _ => trivial), by rw [hU]; exact va_T.narrow (va_T.moved hW.alike (va_T.kept hp0 hS.2.1)) hFc, by rw [hU]; exact va_Z.narrow (va_Z.moved hW.alike (va_Z.kept hp1 hS.2.1)) hFc, va_AO.moved hW.alike hp2, va_Nw.warmC hW hp3, va_Nw.warmC hW hp4, va_Nw.warmC hW hp5⟩⟩ rfl rfl hl.1 rfl (lv_room (Nat.le_of_ble_eq_true rfl)) dJx4a65c_add_9ea2d_20 ⟨(Nat.le_of_ble_eq_true rfl), (Nat.le_of_ble_eq_true rfl)⟩) hS (fun q _ h => hFc q h) hFc (fun  u t H1 locs ht hvm hw hB hz1 hk1 hS => ?_)
  obtain ⟨z0_2, qn_3, cn_4, nn_5, fn_6, hxt_6, hP1, hK1, hD1⟩ := hB
  rw [ht] at hP1
  have hK1 := va_K.moved hvm.symm hK1
  obtain ⟨hP, hD⟩ := va_joinP (X := [(h0, .inr (18, [.int x_1, .ref sx_ed, .int 0]))]) (cx := [(h0, .inr (18, [.int x_1, .ref sx_ed, .int 0]))]) (wr := []) (rx := [(h0, .inr (18, [.int x_1, .ref qn_3, .int (zI (z0_2))])), (qn_3, .inl (cn_4, nn_5, .inr (.inr (.inr (.inr fn_6)))))]) (pl := va_pl L (pE P)) (pl1 := va_pl L (pE P)) hP hD [0] [] rfl rfl (by decide) (by decide) hk1 hFc hP1 hD1
  have hK := (hK.sub (tys' := []) [] rfl).app hK1
  generalize H1 = H at hP hS ⊢
  have hP : va_P (dC, dI) vwQ ([(h0, .inr (18, [.int x_1, .ref qn_3, .int (zI (z0_2))])), (qn_3, .inl (cn_4, nn_5, .inr (.inr (.inr (.inr fn_6)))))] ++ va_pl L (pE P)) H := hP
  have hD : va_D A ([(h0, .inr (18, [.int x_1, .ref qn_3, .int (zI (z0_2))])), (qn_3, .inl (cn_4, nn_5, .inr (.inr (.inr (.inr fn_6)))))] ++ va_pl L (pE P)) := hD
  have hK : va_K (dC, dI) vwQ [(cn_4, .object "java/lang/Object")] s := hK
  refine W.widen (k := 1) (n := 10) (Nat.le_of_ble_eq_true rfl) (Nat.le_of_ble_eq_true rfl) ?_
  obtain ⟨rk_7, hu_7⟩ := hxt_6
  refine lv_iconst (v := 1) hx hb dJx4a65c_add_9ea2d_23 (by decide) ?_
  subst hQ
  refine W.widen (k := 1) (n := 10) (Nat.le_of_ble_eq_true rfl) (Nat.le_of_ble_eq_true rfl) ?_
  exact W.zret (v := 1) hx hb hr (by decide) (fun t ht hW => ⟨⟨1, (1), rfl, ⟨rfl, (by omega)⟩, x_1, z0_2, qn_3, cn_4, nn_5, fn_6, ⟨(by omega), hu_7⟩, by rw [ht]; exact hP, va_K.moved hW.alike hK, hD⟩, hS.F ht⟩) hS.2.2 dJx4a65c_add_9ea2d_24
def o_AL_sizee : List Cond := [.fieldLink RJx4a65c 48 "java/util/ArrayList" "size" "I"]
def v_AL_sizee : List Cond := .code yJx4a65c_size_8abf5 cJx4a65c_size_8abf5 1 (some .int) :: (o_AL_sizee ++ (wsJx4a65c0 ++ []))
theorem mow_AL_sizee : ∀ w ∈ o_AL_sizee, w ∈ v_AL_sizee := fun _ h => List.mem_cons_of_mem _ (List.mem_append_left _ h)
theorem mem_AL_sizee_0 : ∀ w ∈ wsJx4a65c0, w ∈ v_AL_sizee := fun _ h => List.mem_cons_of_mem _ (List.mem_append_right _ (List.mem_append_left _ h))
set_option maxRecDepth 20000 in
theorem gw_AL_sizee : v_AL_sizee.all goodWord = true := by decide +kernel
set_option maxHeartbeats 4000000 in
set_option maxRecDepth 100000 in
theorem c_AL_sizee (l : Launch) (dC : Nat → ClassId) (dI : Nat → Nat → Nat) (h0 : Nat) (r30_modCount : Int32) (sx_ed : Nat) (sz : Nat) : Met l yJx4a65c_size_8abf5 v_AL_sizee ({ frames := 0, cells := 0, slots := 0, locals := 0 }) (va_Pc [.ref h0] (fun U => U.heap.size = sz ∧ va_P (dC, dI) vwQ [(h0, .inr (18, [.int r30_modCount, .ref sx_ed, .int 0]))] U.heap ∧ va_K (dC, dI) vwQ [] U ∧ va_D (fun _ => True) [(h0, .inr (18, [.int r30_modCount, .ref sx_ed, .int 0]))])) (va_Qi (fun (r : Int32) (_ : Unit) => r = 0) (fun (_ : Unit) (t : State) => va_P (dC, dI) vwQ [(h0, .inr (18, [.int r30_modCount, .ref sx_ed, .int 0]))] t.heap ∧ va_K (dC, dI) vwQ [] t ∧ va_D (va_A [(h0, .inr (18, [.int r30_modCount, .ref sx_ed, .int 0]))] sz) [(h0, .inr (18, [.int r30_modCount, .ref sx_ed, .int 0]))]) (va_A [(h0, .inr (18, [.int r30_modCount, .ref sx_ed, .int 0]))] sz)) 0 0 (va_A [(h0, .inr (18, [.int r30_modCount, .ref sx_ed, .int 0]))] sz) := by
  refine Met.ofW (cc := cJx4a65c_size_8abf5) (maxL := 1) (ret := (some .int)) (by decide) rfl ?_
  intro p e s m args below meth c s₁ B hml hv
  obtain ⟨rfl, hsz, hP, hK, hD0⟩ := hv
  have hx := B.exec
  have hb := B.bytes
  have hr := B.returns
  have hts := atoms_spec (ws := v_AL_sizee) B.pre
  have hown : s.vm.findClass RJx4a65c = some m.cls := findClass_of_methodNamed B.named
  have hlocks := B.notSynchronized
  have ow : ∀ {k : Nat} {w : Cond}, o_AL_sizee[k]? = some w → w.before ([.ref h0] : List Value).toArray s = true := fun h => hts _ (mow_AL_sizee _ (List.mem_of_getElem? h))
  subst hsz
  have hD := hD0.self (sz := s.heap.size)
  generalize hAe : va_A [(h0, .inr (18, [.int r30_modCount, .ref sx_ed, .int 0]))] s.heap.size = A at hD ⊢
  have hA : ∀ q : Nat, s.heap.size ≤ q → A q := fun q h => by rw [← hAe]; exact Or.inr h
  have hS : va_S A s.heap s.heap [] := va_S.rf
  have hP : va_P (dC, dI) vwQ [(h0, .inr (18, [.int r30_modCount, .ref sx_ed, .int 0]))] s.heap := hP
  have hl := lv_entry ([.ref h0]) (n := 1) (Nat.le_of_ble_eq_true rfl)
  rw [lg_entry_eq]
  generalize (lg_sl ([.ref h0]) ++ List.replicate (1 - (lg_sl ([.ref h0])).length) Slot.unset).toArray = ls at hl ⊢
  have hl : lv_has ls 1 [(0, .ref h0)] := hl
  obtain ⟨H, hH⟩ : ∃ H, H = s.heap := ⟨_, rfl⟩
  rw [← hH] at hP
  have hS : va_S A s.heap H [] := by rw [hH]; exact hS
  rw [← hH]
  refine zW_cap (fun Q hQ => ?_)
  refine lv_aload_n hx hb dJx4a65c_size_8abf5_0 rfl (lv_at hl 0 rfl) ?_
  refine va_get (D := (dC, dI)) (ci := 18) (v := .int 0) (C := RJx4a65c) (T := TJx4a65c) (N := 3) hx hb hts mem_AL_sizee_0 hown hK hP 0 rfl rfl 2 (by decide) (ow (k := 0) rfl) (fun _ h9 => h9) rfl dJx4a65c_size_8abf5_1 ?_
  subst hQ
  refine W.widen (k := 0) (n := 0) (Nat.le_of_ble_eq_true rfl) (Nat.le_of_ble_eq_true rfl) ?_
  exact W.iret (v := 0) hx hb hr (fun t ht hW => ⟨⟨0, (), rfl, rfl, by rw [ht]; exact hP, va_K.moved hW.alike hK, hD⟩, hS.F ht⟩) hS.2.2 dJx4a65c_size_8abf5_4
def o_AL_isEmptye : List Cond := [.fieldLink RJx4a65c 48 "java/util/ArrayList" "size" "I"]
def v_AL_isEmptye : List Cond := .code yJx4a65c_isEmpty_aae02 cJx4a65c_isEmpty_aae02 1 (some .boolean) :: (o_AL_isEmptye ++ (wsJx4a65c0 ++ []))
theorem mow_AL_isEmptye : ∀ w ∈ o_AL_isEmptye, w ∈ v_AL_isEmptye := fun _ h => List.mem_cons_of_mem _ (List.mem_append_left _ h)
theorem mem_AL_isEmptye_0 : ∀ w ∈ wsJx4a65c0, w ∈ v_AL_isEmptye := fun _ h => List.mem_cons_of_mem _ (List.mem_append_right _ (List.mem_append_left _ h))
set_option maxRecDepth 20000 in
theorem gw_AL_isEmptye : v_AL_isEmptye.all goodWord = true := by decide +kernel
set_option maxHeartbeats 4000000 in
set_option maxRecDepth 100000 in
theorem c_AL_isEmptye (l : Launch) (dC : Nat → ClassId) (dI : Nat → Nat → Nat) (h0 : Nat) (r30_modCount : Int32) (sx_ed : Nat) (sz : Nat) : Met l yJx4a65c_isEmpty_aae02 v_AL_isEmptye ({ frames := 0, cells := 0, slots := 0, locals := 0 }) (va_Pc [.ref h0] (fun U => U.heap.size = sz ∧ va_P (dC, dI) vwQ [(h0, .inr (18, [.int r30_modCount, .ref sx_ed, .int 0]))] U.heap ∧ va_K (dC, dI) vwQ [] U ∧ va_D (fun _ => True) [(h0, .inr (18, [.int r30_modCount, .ref sx_ed, .int 0]))])) (va_Qi (fun (r : Int32) (_ : Unit) => r = 1) (fun (_ : Unit) (t : State) => va_P (dC, dI) vwQ [(h0, .inr (18, [.int r30_modCount, .ref sx_ed, .int 0]))] t.heap ∧ va_K (dC, dI) vwQ [] t ∧ va_D (va_A [(h0, .inr (18, [.int r30_modCount, .ref sx_ed, .int 0]))] sz) [(h0, .inr (18, [.int r30_modCount, .ref sx_ed, .int 0]))]) (va_A [(h0, .inr (18, [.int r30_modCount, .ref sx_ed, .int 0]))] sz)) 0 0 (va_A [(h0, .inr (18, [.int r30_modCount, .ref sx_ed, .int 0]))] sz) := by
  refine Met.ofW (cc := cJx4a65c_isEmpty_aae02) (maxL := 1) (ret := (some .boolean)) (by decide) rfl ?_
  intro p e s m args below meth c s₁ B hml hv
  obtain ⟨rfl, hsz, hP, hK, hD0⟩ := hv
  have hx := B.exec
  have hb := B.bytes
  have hr := B.returns
  have hts := atoms_spec (ws := v_AL_isEmptye) B.pre
  have hown : s.vm.findClass RJx4a65c = some m.cls := findClass_of_methodNamed B.named
  have hlocks := B.notSynchronized
  have ow : ∀ {k : Nat} {w : Cond}, o_AL_isEmptye[k]? = some w → w.before ([.ref h0] : List Value).toArray s = true := fun h => hts _ (mow_AL_isEmptye _ (List.mem_of_getElem? h))
  subst hsz
  have hD := hD0.self (sz := s.heap.size)
  generalize hAe : va_A [(h0, .inr (18, [.int r30_modCount, .ref sx_ed, .int 0]))] s.heap.size = A at hD ⊢
  have hA : ∀ q : Nat, s.heap.size ≤ q → A q := fun q h => by rw [← hAe]; exact Or.inr h
  have hS : va_S A s.heap s.heap [] := va_S.rf
  have hP : va_P (dC, dI) vwQ [(h0, .inr (18, [.int r30_modCount, .ref sx_ed, .int 0]))] s.heap := hP
  have hl := lv_entry ([.ref h0]) (n := 1) (Nat.le_of_ble_eq_true rfl)
  rw [lg_entry_eq]
  generalize (lg_sl ([.ref h0]) ++ List.replicate (1 - (lg_sl ([.ref h0])).length) Slot.unset).toArray = ls at hl ⊢
  have hl : lv_has ls 1 [(0, .ref h0)] := hl
  obtain ⟨H, hH⟩ : ∃ H, H = s.heap := ⟨_, rfl⟩
  rw [← hH] at hP
  have hS : va_S A s.heap H [] := by rw [hH]; exact hS
  rw [← hH]
  refine zW_cap (fun Q hQ => ?_)
  refine lv_aload_n hx hb dJx4a65c_isEmpty_aae02_0 rfl (lv_at hl 0 rfl) ?_
  refine va_get (D := (dC, dI)) (ci := 18) (v := .int 0) (C := RJx4a65c) (T := TJx4a65c) (N := 3) hx hb hts mem_AL_isEmptye_0 hown hK hP 0 rfl rfl 2 (by decide) (ow (k := 0) rfl) (fun _ h9 => h9) rfl dJx4a65c_isEmpty_aae02_1 ?_
  refine lv_if_ne (tgt := 11) hx hb dJx4a65c_isEmpty_aae02_4 (by decide) (fun h9 => absurd h9 (by decide)) (fun _ => ?_)
  refine lv_iconst (v := 1) hx hb dJx4a65c_isEmpty_aae02_7 (by decide) ?_
  refine lv_goto (tgt := 12) hx hb dJx4a65c_isEmpty_aae02_8 (by decide) ?_
  subst hQ
  refine W.widen (k := 0) (n := 0) (Nat.le_of_ble_eq_true rfl) (Nat.le_of_ble_eq_true rfl) ?_
  exact W.zret (v := 1) hx hb hr (by decide) (fun t ht hW => ⟨⟨1, (), rfl, rfl, by rw [ht]; exact hP, va_K.moved hW.alike hK, hD⟩, hS.F ht⟩) hS.2.2 dJx4a65c_isEmpty_aae02_12
def o_AL_cleare : List Cond := [.fieldLink RJx4a65c 63 "java/util/ArrayList" "modCount" "I", .sameField "java/util/ArrayList" "java/util/AbstractList" "modCount" "I", .fieldLink RJx4a65c 9 "java/util/ArrayList" "elementData" "[Ljava/lang/Object;", .fieldLink RJx4a65c 48 "java/util/ArrayList" "size" "I"]
def v_AL_cleare : List Cond := .code yJx4a65c_clear_da8c8 cJx4a65c_clear_da8c8 4 none :: (o_AL_cleare ++ (wsJx4a65c0 ++ []))
theorem mow_AL_cleare : ∀ w ∈ o_AL_cleare, w ∈ v_AL_cleare := fun _ h => List.mem_cons_of_mem _ (List.mem_append_left _ h)
theorem mem_AL_cleare_0 : ∀ w ∈ wsJx4a65c0, w ∈ v_AL_cleare := fun _ h => List.mem_cons_of_mem _ (List.mem_append_right _ (List.mem_append_left _ h))
set_option maxRecDepth 20000 in
theorem gw_AL_cleare : v_AL_cleare.all goodWord = true := by decide +kernel
set_option maxHeartbeats 4000000 in
set_option maxRecDepth 100000 in
theorem c_AL_cleare (l : Launch) (dC : Nat → ClassId) (dI : Nat → Nat → Nat) (h0 : Nat) (r30_modCount : Int32) (sx_ed : Nat) (sz : Nat) : Met l yJx4a65c_clear_da8c8 v_AL_cleare ({ frames := 0, cells := 0, slots := 0, locals := 0 }) (va_Pc [.ref h0] (fun U => U.heap.size = sz ∧ va_P (dC, dI) vwQ [(h0, .inr (18, [.int r30_modCount, .ref sx_ed, .int 0]))] U.heap ∧ va_K (dC, dI) vwQ [] U ∧ va_D (fun _ => True) [(h0, .inr (18, [.int r30_modCount, .ref sx_ed, .int 0]))])) (va_Qv (fun _ : Unit => True) (fun (_ : Unit) (t : State) => ∃ (x0_9 : Int32), va_P (dC, dI) vwQ [(h0, .inr (18, [.int x0_9, .ref sx_ed, .int 0]))] t.heap ∧ va_K (dC, dI) vwQ [] t ∧ va_D (va_A [(h0, .inr (18, [.int r30_modCount, .ref sx_ed, .int 0]))] sz) [(h0, .inr (18, [.int x0_9, .ref sx_ed, .int 0]))]) (va_A [(h0, .inr (18, [.int r30_modCount, .ref sx_ed, .int 0]))] sz)) 0 0 (va_A [(h0, .inr (18, [.int r30_modCount, .ref sx_ed, .int 0]))] sz) := by
  refine Met.ofW (cc := cJx4a65c_clear_da8c8) (maxL := 4) (ret := none) (by decide) rfl ?_
  intro p e s m args below meth c s₁ B hml hv
  obtain ⟨rfl, hsz, hP, hK, hD0⟩ := hv
  have hx := B.exec
  have hb := B.bytes
  have hr := B.returns
  have hts := atoms_spec (ws := v_AL_cleare) B.pre
  have hown : s.vm.findClass RJx4a65c = some m.cls := findClass_of_methodNamed B.named
  have hlocks := B.notSynchronized
  have ow : ∀ {k : Nat} {w : Cond}, o_AL_cleare[k]? = some w → w.before ([.ref h0] : List Value).toArray s = true := fun h => hts _ (mow_AL_cleare _ (List.mem_of_getElem? h))
  subst hsz
  have hD := hD0.self (sz := s.heap.size)
  generalize hAe : va_A [(h0, .inr (18, [.int r30_modCount, .ref sx_ed, .int 0]))] s.heap.size = A at hD ⊢
  have hA : ∀ q : Nat, s.heap.size ≤ q → A q := fun q h => by rw [← hAe]; exact Or.inr h
  have hS : va_S A s.heap s.heap [] := va_S.rf
  have hP : va_P (dC, dI) vwQ [(h0, .inr (18, [.int r30_modCount, .ref sx_ed, .int 0]))] s.heap := hP
  have hl := lv_entry ([.ref h0]) (n := 4) (Nat.le_of_ble_eq_true rfl)
  rw [lg_entry_eq]
  generalize (lg_sl ([.ref h0]) ++ List.replicate (4 - (lg_sl ([.ref h0])).length) Slot.unset).toArray = ls at hl ⊢
  have hl : lv_has ls 4 [(0, .ref h0)] := hl
  obtain ⟨H, hH⟩ : ∃ H, H = s.heap := ⟨_, rfl⟩
  rw [← hH] at hP
  have hS : va_S A s.heap H [] := by rw [hH]; exact hS
  rw [← hH]
  refine zW_cap (fun Q hQ => ?_)
  refine lv_aload_n hx hb dJx4a65c_clear_da8c8_0 rfl (lv_at hl 0 rfl) ?_
  refine lv_dup hx hb dJx4a65c_clear_da8c8_1 rfl ?_
  refine va_get (D := (dC, dI)) (ci := 18) (v := .int r30_modCount) (C := RJx4a65c) (T := TJx4a65c) (N := 3) hx hb hts mem_AL_cleare_0 hown hK hP 0 rfl rfl 0 (by decide) (ow (k := 0) rfl) (fun x9 h9 => u_same (ow (k := 1) rfl) x9 h9) rfl dJx4a65c_clear_da8c8_2 ?_
  refine lv_iconst (v := 1) hx hb dJx4a65c_clear_da8c8_5 (by decide) ?_
  refine lv_iadd hx hb dJx4a65c_clear_da8c8_6 ?_
  refine lv_topi (fun x_1 _ => ?_)
  refine va_put (D := (dC, dI)) (ci := 18) (v := .int x_1) (ty := .int) (C := RJx4a65c) (T := TJx4a65c) (N := 3) hx hb hts mem_AL_cleare_0 tyJx4a65c tyJx4a65c_ok nmJx4a65c hown hK hP hD hS 0 rfl rfl 0 (by decide) (ow (k := 0) rfl) (fun x9 h9 => u_same (ow (k := 1) rfl) x9 h9) rfl (by decide +kernel) rfl rfl (Nat.le_of_ble_eq_true rfl) dJx4a65c_clear_da8c8_7 (fun H locs hP hD hS => ?_)
  have hP : va_P (dC, dI) vwQ [(h0, .inr (18, [.int x_1, .ref sx_ed, .int 0]))] H := hP
  have hD : va_D A [(h0, .inr (18, [.int x_1, .ref sx_ed, .int 0]))] := hD
  refine lv_aload_n hx hb dJx4a65c_clear_da8c8_10 rfl (lv_at hl 0 rfl) ?_
  refine va_get (D := (dC, dI)) (ci := 18) (v := .ref sx_ed) (C := RJx4a65c) (T := TJx4a65c) (N := 3) hx hb hts mem_AL_cleare_0 hown hK hP 0 rfl rfl 1 (by decide) (ow (k := 2) rfl) (fun _ h9 => h9) rfl dJx4a65c_clear_da8c8_11 ?_
  refine lv_astore_n (lv' := [(1, .ref sx_ed), (0, .ref h0)]) hx hb dJx4a65c_clear_da8c8_14 rfl hl (by decide) rfl (fun ls hl => ?_)
  refine lv_aload_n hx hb dJx4a65c_clear_da8c8_15 rfl (lv_at hl 1 rfl) ?_
  refine va_get (D := (dC, dI)) (ci := 18) (v := .int 0) (C := RJx4a65c) (T := TJx4a65c) (N := 3) hx hb hts mem_AL_cleare_0 hown hK hP 0 rfl rfl 2 (by decide) (ow (k := 3) rfl) (fun _ h9 => h9) rfl dJx4a65c_clear_da8c8_16 ?_
  refine lv_istore_n (lv' := [(2, .int 0), (1, .ref sx_ed), (0, .ref h0)]) hx hb dJx4a65c_clear_da8c8_19 rfl hl (by decide) rfl (fun ls hl => ?_)
  refine lv_aload_n hx hb dJx4a65c_clear_da8c8_20 rfl (lv_at hl 2 rfl) ?_
  refine lv_iconst (v := 0) hx hb dJx4a65c_clear_da8c8_21 (by decide) ?_
  refine lv_dup_x1 hx hb dJx4a65c_clear_da8c8_22 rfl rfl ?_
  refine va_put (D := (dC, dI)) (ci := 18) (v := .int 0) (ty := .int) (C := RJx4a65c) (T := TJx4a65c) (N := 3) hx hb hts mem_AL_cleare_0 tyJx4a65c tyJx4a65c_ok nmJx4a65c hown hK hP hD hS 0 rfl rfl 2 (by decide) (ow (k := 3) rfl) (fun _ h9 => h9) rfl (by decide +kernel) rfl rfl (Nat.le_of_ble_eq_true rfl) dJx4a65c_clear_da8c8_23 (fun H locs hP hD hS => ?_)
  have hP : va_P (dC, dI) vwQ [(h0, .inr (18, [.int x_1, .ref sx_ed, .int 0]))] H := hP
  have hD : va_D A [(h0, .inr (18, [.int x_1, .ref sx_ed, .int 0]))] := hD
  refine lv_istore_n (lv' := [(3, .int 0), (2, .int 0), (1, .ref sx_ed), (0, .ref h0)]) hx hb dJx4a65c_clear_da8c8_26 rfl hl (by decide) rfl (fun ls hl => ?_)
  refine lv_iload_n hx hb dJx4a65c_clear_da8c8_27 rfl (lv_at hl 0 rfl) ?_
  refine lv_iload_n hx hb dJx4a65c_clear_da8c8_28 rfl (lv_at hl 1 rfl) ?_
  refine lv_icmp_ge (tgt := 42) hx hb dJx4a65c_clear_da8c8_29 (by decide) (fun _ => ?_) (fun h9 => absurd h9 (by decide))
  subst hQ
  refine W.widen (k := 0) (n := 0) (Nat.le_of_ble_eq_true rfl) (Nat.le_of_ble_eq_true rfl) ?_
  exact W.vret hx hb hr (fun t ht hW => ⟨⟨(), rfl, trivial, x_1, by rw [ht]; exact hP, va_K.moved hW.alike hK, hD⟩, hS.F ht⟩) hS.2.2 dJx4a65c_clear_da8c8_42
