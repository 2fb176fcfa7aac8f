theorem dX15_init_0 : decode cX15_init 0 = .ok (.aload_n 0, 1) := by decide +kernel
theorem dX15_init_1 : decode cX15_init 1 = .ok (.invokespecial 1, 3) := by decide +kernel
theorem dX15_init_4 : decode cX15_init 4 = .ok (.aload_n 0, 1) := by decide +kernel
theorem dX15_init_5 : decode cX15_init 5 = .ok (.iconst 4, 1) := by decide +kernel
theorem dX15_init_6 : decode cX15_init 6 = .ok (.newarray .int, 2) := by decide +kernel
theorem dX15_init_8 : decode cX15_init 8 = .ok (.putfield 7, 3) := by decide +kernel
theorem dX15_init_11 : decode cX15_init 11 = .ok (.aload_n 0, 1) := by decide +kernel
theorem dX15_init_12 : decode cX15_init 12 = .ok (.iconst 4, 1) := by decide +kernel
theorem dX15_init_13 : decode cX15_init 13 = .ok (.newarray .int, 2) := by decide +kernel
theorem dX15_init_15 : decode cX15_init 15 = .ok (.putfield 13, 3) := by decide +kernel
theorem dX15_init_18 : decode cX15_init 18 = .ok (.aload_n 0, 1) := by decide +kernel
theorem dX15_init_19 : decode cX15_init 19 = .ok (.iconst 4, 1) := by decide +kernel
theorem dX15_init_20 : decode cX15_init 20 = .ok (.newarray .boolean, 2) := by decide +kernel
theorem dX15_init_22 : decode cX15_init 22 = .ok (.putfield 16, 3) := by decide +kernel
theorem dX15_init_25 : decode cX15_init 25 = .ok (.return_, 1) := by decide +kernel
def o_X15_init : List Cond := [.methodLink RX15 1 objectInit, .instanceMethod objectInit, .code objectInit ⟨#[0xb1]⟩ 1 none, .arrayClass .int, .fieldLink RX15 7 "SsaForgeModel$Phi" "preds" "[I", .fieldLink RX15 13 "SsaForgeModel$Phi" "operands" "[I", .arrayClass .boolean, .fieldLink RX15 16 "SsaForgeModel$Phi" "regs" "[Z"]
def v_X15_init : List Cond := .code yX15_init cX15_init 1 none :: (o_X15_init ++ (wsX150 ++ []))
theorem mow_X15_init : ∀ w ∈ o_X15_init, w ∈ v_X15_init := fun _ h => List.mem_cons_of_mem _ (List.mem_append_left _ h)
theorem mem_X15_init_0 : ∀ w ∈ wsX150, w ∈ v_X15_init := fun _ h => List.mem_cons_of_mem _ (List.mem_append_right _ (List.mem_append_left _ h))
set_option maxRecDepth 20000 in
theorem gw_X15_init : v_X15_init.all goodWord = true := by decide +kernel
set_option maxHeartbeats 4000000 in
set_option maxRecDepth 100000 in
theorem c_X15_init (l : Launch) (dC : Nat → ClassId) (dI : Nat → Nat → Nat) (cI : ClassId) (cZ : ClassId) (h0 : Nat) (v15_0 : Value) (v15_1 : Value) (v15_2 : Value) (v15_3 : Value) (v15_4 : Value) (v15_5 : Value) (cO : ClassId) (L : List Nat) (P : PO) (sz : Nat) : Met l yX15_init v_X15_init ({ frames := 1, cells := 3, slots := 12, locals := 12 }) (va_Pc [.ref h0] (fun U => U.heap.size = sz ∧ va_P (dC, dI) vwQ ([(h0, .inr (20, [v15_0, v15_1, v15_2, v15_3, v15_4, v15_5]))] ++ va_pl L (pE P)) U.heap ∧ va_K (dC, dI) vwQ [(cO, .object "java/lang/Object"), (cI, .int), (cZ, .boolean)] U ∧ va_D (fun _ => True) ([(h0, .inr (20, [v15_0, v15_1, v15_2, v15_3, v15_4, v15_5]))] ++ va_pl L (pE P)))) (va_Qv (fun _ : Unit => True) (fun (_ : Unit) (t : State) => ∃ (q0_9 : Nat) (q1_9 : Nat) (q2_9 : Nat) (Ln_9 : List Nat) (Pn_9 : PO), ((EXT9 L P Ln_9 Pn_9 ∧ NUM9 L Ln_9 Pn_9 ∧ ARF9 Ln_9 Pn_9 q0_9 40 h0 cI 4 ∧ ARF9 Ln_9 Pn_9 q1_9 41 h0 cI 4 ∧ ARF9 Ln_9 Pn_9 q2_9 42 h0 cZ 4)) ∧ va_P (dC, dI) vwQ ([(h0, .inr (20, [v15_0, v15_1, .ref q0_9, .ref q1_9, .ref q2_9, v15_5]))] ++ va_pl Ln_9 (pE Pn_9)) t.heap ∧ va_K (dC, dI) vwQ [(cO, .object "java/lang/Object"), (cI, .int), (cZ, .boolean)] t ∧ va_D (va_A ([(h0, .inr (20, [v15_0, v15_1, v15_2, v15_3, v15_4, v15_5]))] ++ va_pl L (pE P)) sz) ([(h0, .inr (20, [v15_0, v15_1, .ref q0_9, .ref q1_9, .ref q2_9, v15_5]))] ++ va_pl Ln_9 (pE Pn_9))) (va_A ([(h0, .inr (20, [v15_0, v15_1, v15_2, v15_3, v15_4, v15_5]))] ++ va_pl L (pE P)) sz)) 3 12 (va_A ([(h0, .inr (20, [v15_0, v15_1, v15_2, v15_3, v15_4, v15_5]))] ++ va_pl L (pE P)) sz) := by
  refine Met.ofW (cc := cX15_init) (maxL := 1) (ret := none) (by decide) rfl ?_
  intro p e s m args below meth c s₁ B hml hv
  obtain ⟨rfl, hsz, hP, hK, hD0⟩ := hv
  have hx := B.exec
  have hb := B.bytes
  have hr := B.returns
  have hts := atoms_spec (ws := v_X15_init) B.pre
  have hown : s.vm.findClass RX15 = some m.cls := findClass_of_methodNamed B.named
  have hlocks := B.notSynchronized
  have ow : ∀ {k : Nat} {w : Cond}, o_X15_init[k]? = some w → w.before ([.ref h0] : List Value).toArray s = true := fun h => hts _ (mow_X15_init _ (List.mem_of_getElem? h))
  have hin : meth.name = "<init>" := (name_of_methodNamed B.named B.method).1
  subst hsz
  have hD := hD0.self (sz := s.heap.size)
  generalize hAe : va_A ([(h0, .inr (20, [v15_0, v15_1, v15_2, v15_3, v15_4, v15_5]))] ++ va_pl L (pE P)) s.heap.size = A at hD ⊢
  have hA : ∀ q : Nat, s.heap.size ≤ q → A q := fun q h => by rw [← hAe]; exact Or.inr h
  have hS : va_S A s.heap s.heap [] := va_S.rf
  have hP : va_P (dC, dI) vwQ ([(h0, .inr (20, [v15_0, v15_1, v15_2, v15_3, v15_4, v15_5]))] ++ va_pl L (pE P)) s.heap := hP
  have hl := lv_entry ([.ref h0]) (n := 1) (Nat.le_of_ble_eq_true rfl)
  rw [lg_entry_eq]
  generalize (lg_sl ([.ref h0]) ++ List.replicate (1 - (lg_sl ([.ref h0])).length) Slot.unset).toArray = ls at hl ⊢
  have hl : lv_has ls 1 [(0, .ref h0)] := hl
  obtain ⟨H, hH⟩ : ∃ H, H = s.heap := ⟨_, rfl⟩
  rw [← hH] at hP
  have hS : va_S A s.heap H [] := by rw [hH]; exact hS
  rw [← hH]
  refine zW_cap (fun Q hQ => ?_)
  refine lv_aload_n hx hb dX15_init_0 rfl (lv_at hl 0 rfl) ?_
  refine W.objInit hx hb hown (ow (k := 0) rfl) (ow (k := 1) rfl) (ow (k := 2) rfl) rfl (by rw [hml]; exact hl.1) rfl dX15_init_1 (Nat.le_of_ble_eq_true rfl) (Nat.le_of_ble_eq_true rfl) ?_
  refine W.eq (g2 := F0 m 4 ls []) rfl ?_
  refine lv_aload_n hx hb dX15_init_4 rfl (lv_at hl 0 rfl) ?_
  refine lv_iconst (v := 4) hx hb dX15_init_5 (by decide) ?_
  refine va_newa (ty := .int) (n := 4) (N' := 4) (a0 := (4, .inl (fun _ => 0))) hx hb (ow (k := 3) rfl) rfl hK hP hD hS hA (fun _ => rfl) (by decide) (by decide) (by decide) (Nat.le_of_ble_eq_true rfl) (Nat.le_of_ble_eq_true rfl) dX15_init_6 (fun q_1 cA_2 H hK hP hD hS => ?_)
  have hP := pl_Pp (pl_new (X := [(h0, .inr (20, [v15_0, v15_1, v15_2, v15_3, v15_4, v15_5]))]) (pl := va_pl L (pE P))) hP
  have hD := pl_Dp (pl_new (X := [(h0, .inr (20, [v15_0, v15_1, v15_2, v15_3, v15_4, v15_5]))]) (pl := va_pl L (pE P))) hD
  have hP : va_P (dC, dI) vwQ ([(h0, .inr (20, [v15_0, v15_1, v15_2, v15_3, v15_4, v15_5])), (q_1, .inl (cA_2, 4, .inl (fun _ => 0)))] ++ va_pl L (pE P)) H := hP
  have hD : va_D A ([(h0, .inr (20, [v15_0, v15_1, v15_2, v15_3, v15_4, v15_5])), (q_1, .inl (cA_2, 4, .inl (fun _ => 0)))] ++ va_pl L (pE P)) := hD
  have hK : va_K (dC, dI) vwQ [(cO, .object "java/lang/Object"), (cI, .int), (cZ, .boolean), (cA_2, .int)] s := hK
  refine W.widen (k := 1) (n := 4) (Nat.le_of_ble_eq_true rfl) (Nat.le_of_ble_eq_true rfl) ?_
  refine va_put (D := (dC, dI)) (ci := 20) (v := .ref q_1) (ty := .array .int) (C := RX15) (T := TX15) (N := 6) hx hb hts mem_X15_init_0 tyX15 tyX15_ok nmX15 hown hK hP hD hS 0 rfl rfl 2 (by decide) (ow (k := 4) rfl) (fun _ h9 => h9) rfl (by decide +kernel) rfl rfl (Nat.le_of_ble_eq_true rfl) dX15_init_8 (fun H locs hP hD hS => ?_)
  have hP : va_P (dC, dI) vwQ ([(h0, .inr (20, [v15_0, v15_1, .ref q_1, v15_3, v15_4, v15_5])), (q_1, .inl (cA_2, 4, .inl (fun _ => 0)))] ++ va_pl L (pE P)) H := hP
  have hD : va_D A ([(h0, .inr (20, [v15_0, v15_1, .ref q_1, v15_3, v15_4, v15_5])), (q_1, .inl (cA_2, 4, .inl (fun _ => 0)))] ++ va_pl L (pE P)) := hD
  refine lv_aload_n hx hb dX15_init_11 rfl (lv_at hl 0 rfl) ?_
  refine lv_iconst (v := 4) hx hb dX15_init_12 (by decide) ?_
  refine va_newa (ty := .int) (n := 4) (N' := 4) (a0 := (4, .inl (fun _ => 0))) hx hb (ow (k := 3) rfl) rfl hK hP hD hS hA (fun _ => rfl) (by decide) (by decide) (by decide) (Nat.le_of_ble_eq_true rfl) (Nat.le_of_ble_eq_true rfl) dX15_init_13 (fun q_3 cA_4 H hK hP hD hS => ?_)
  have hP := pl_Pp (pl_new (X := [(h0, .inr (20, [v15_0, v15_1, .ref q_1, v15_3, v15_4, v15_5])), (q_1, .inl (cA_2, 4, .inl (fun _ => 0)))]) (pl := va_pl L (pE P))) hP
  have hD := pl_Dp (pl_new (X := [(h0, .inr (20, [v15_0, v15_1, .ref q_1, v15_3, v15_4, v15_5])), (q_1, .inl (cA_2, 4, .inl (fun _ => 0)))]) (pl := va_pl L (pE P))) hD
  have hP : va_P (dC, dI) vwQ ([(h0, .inr (20, [v15_0, v15_1, .ref q_1, v15_3, v15_4, v15_5])), (q_1, .inl (cA_2, 4, .inl (fun _ => 0))), (q_3, .inl (cA_4, 4, .inl (fun _ => 0)))] ++ va_pl L (pE P)) H := hP
  have hD : va_D A ([(h0, .inr (20, [v15_0, v15_1, .ref q_1, v15_3, v15_4, v15_5])), (q_1, .inl (cA_2, 4, .inl (fun _ => 0))), (q_3, .inl (cA_4, 4, .inl (fun _ => 0)))] ++ va_pl L (pE P)) := hD
  have hK : va_K (dC, dI) vwQ [(cO, .object "java/lang/Object"), (cI, .int), (cZ, .boolean), (cA_2, .int), (cA_4, .int)] s := hK
  refine W.widen (k := 2) (n := 8) (Nat.le_of_ble_eq_true rfl) (Nat.le_of_ble_eq_true rfl) ?_
  refine va_put (D := (dC, dI)) (ci := 20) (v := .ref q_3) (ty := .array .int) (C := RX15) (T := TX15) (N := 6) hx hb hts mem_X15_init_0 tyX15 tyX15_ok nmX15 hown hK hP hD hS 0 rfl rfl 3 (by decide) (ow (k := 5) rfl) (fun _ h9 => h9) rfl (by decide +kernel) rfl rfl (Nat.le_of_ble_eq_true rfl) dX15_init_15 (fun H locs hP hD hS => ?_)
  have hP : va_P (dC, dI) vwQ ([(h0, .inr (20, [v15_0, v15_1, .ref q_1, .ref q_3, v15_4, v15_5])), (q_1, .inl (cA_2, 4, .inl (fun _ => 0))), (q_3, .inl (cA_4, 4, .inl (fun _ => 0)))] ++ va_pl L (pE P)) H := hP
  have hD : va_D A ([(h0, .inr (20, [v15_0, v15_1, .ref q_1, .ref q_3, v15_4, v15_5])), (q_1, .inl (cA_2, 4, .inl (fun _ => 0))), (q_3, .inl (cA_4, 4, .inl (fun _ => 0)))] ++ va_pl L (pE P)) := hD
  refine lv_aload_n hx hb dX15_init_18 rfl (lv_at hl 0 rfl) ?_
  refine lv_iconst (v := 4) hx hb dX15_init_19 (by decide) ?_
  refine va_newa (ty := .boolean) (n := 4) (N' := 4) (a0 := (4, .inl (fun _ => 0))) hx hb (ow (k := 6) rfl) rfl hK hP hD hS hA (fun _ => rfl) (by decide) (by decide) (by decide) (Nat.le_of_ble_eq_true rfl) (Nat.le_of_ble_eq_true rfl) dX15_init_20 (fun q_5 cA_6 H hK hP hD hS => ?_)
  have hP := pl_Pp (pl_new (X := [(h0, .inr (20, [v15_0, v15_1, .ref q_1, .ref q_3, v15_4, v15_5])), (q_1, .inl (cA_2, 4, .inl (fun _ => 0))), (q_3, .inl (cA_4, 4, .inl (fun _ => 0)))]) (pl := va_pl L (pE P))) hP
  have hD := pl_Dp (pl_new (X := [(h0, .inr (20, [v15_0, v15_1, .ref q_1, .ref q_3, v15_4, v15_5])), (q_1, .inl (cA_2, 4, .inl (fun _ => 0))), (q_3, .inl (cA_4, 4, .inl (fun _ => 0)))]) (pl := va_pl L (pE P))) hD
  have hP : va_P (dC, dI) vwQ ([(h0, .inr (20, [v15_0, v15_1, .ref q_1, .ref q_3, v15_4, v15_5])), (q_1, .inl (cA_2, 4, .inl (fun _ => 0))), (q_3, .inl (cA_4, 4, .inl (fun _ => 0))), (q_5, .inl (cA_6, 4, .inl (fun _ => 0)))] ++ va_pl L (pE P)) H := hP
  have hD : va_D A ([(h0, .inr (20, [v15_0, v15_1, .ref q_1, .ref q_3, v15_4, v15_5])), (q_1, .inl (cA_2, 4, .inl (fun _ => 0))), (q_3, .inl (cA_4, 4, .inl (fun _ => 0))), (q_5, .inl (cA_6, 4, .inl (fun _ => 0)))] ++ va_pl L (pE P)) := hD
  have hK : va_K (dC, dI) vwQ [(cO, .object "java/lang/Object"), (cI, .int), (cZ, .boolean), (cA_2, .int), (cA_4, .int), (cA_6, .boolean)] s := hK
  refine W.widen (k := 3) (n := 12) (Nat.le_of_ble_eq_true rfl) (Nat.le_of_ble_eq_true rfl) ?_
  refine va_put (D := (dC, dI)) (ci := 20) (v := .ref q_5) (ty := .array .boolean) (C := RX15) (T := TX15) (N := 6) hx hb hts mem_X15_init_0 tyX15 tyX15_ok nmX15 hown hK hP hD hS 0 rfl rfl 4 (by decide) (ow (k := 7) rfl) (fun _ h9 => h9) rfl (by decide +kernel) rfl rfl (Nat.le_of_ble_eq_true rfl) dX15_init_22 (fun H locs hP hD hS => ?_)
  have hP : va_P (dC, dI) vwQ ([(h0, .inr (20, [v15_0, v15_1, .ref q_1, .ref q_3, .ref q_5, v15_5])), (q_1, .inl (cA_2, 4, .inl (fun _ => 0))), (q_3, .inl (cA_4, 4, .inl (fun _ => 0))), (q_5, .inl (cA_6, 4, .inl (fun _ => 0)))] ++ va_pl L (pE P)) H := hP
  have hD : va_D A ([(h0, .inr (20, [v15_0, v15_1, .ref q_1, .ref q_3, .ref q_5, v15_5])), (q_1, .inl (cA_2, 4, .inl (fun _ => 0))), (q_3, .inl (cA_4, 4, .inl (fun _ => 0))), (q_5, .inl (cA_6, 4, .inl (fun _ => 0)))] ++ va_pl L (pE P)) := hD
  subst hQ
  obtain rfl : cI = cA_2 := cls_eqI hK 1 3 rfl rfl
  have hP : va_P (dC, dI) vwQ ([(h0, .inr (20, [v15_0, v15_1, .ref q_1, .ref q_3, .ref q_5, v15_5])), (q_1, .inl (cI, 4, .inl (fun _ => 0))), (q_3, .inl (cA_4, 4, .inl (fun _ => 0))), (q_5, .inl (cA_6, 4, .inl (fun _ => 0)))] ++ va_pl L (pE P)) H := hP
  have hD : va_D A ([(h0, .inr (20, [v15_0, v15_1, .ref q_1, .ref q_3, .ref q_5, v15_5])), (q_1, .inl (cI, 4, .inl (fun _ => 0))), (q_3, .inl (cA_4, 4, .inl (fun _ => 0))), (q_5, .inl (cA_6, 4, .inl (fun _ => 0)))] ++ va_pl L (pE P)) := hD
  have hK := hK.sub (tys' := [(cO, .object "java/lang/Object"), (cI, .int), (cZ, .boolean), (cA_4, .int), (cA_6, .boolean)]) [0, 1, 2, 4, 5] rfl
  have hP := hP.part (X := [(h0, .inr (20, [v15_0, v15_1, .ref q_1, .ref q_3, .ref q_5, v15_5])), (q_1, .inl (cI, 4, .inl (fun _ => 0))), (q_3, .inl (cA_4, 4, .inl (fun _ => 0))), (q_5, .inl (cA_6, 4, .inl (fun _ => 0)))]) (cx := [(h0, .inr (20, [v15_0, v15_1, .ref q_1, .ref q_3, .ref q_5, v15_5])), (q_3, .inl (cA_4, 4, .inl (fun _ => 0))), (q_5, .inl (cA_6, 4, .inl (fun _ => 0))), (q_1, .inl (cI, 4, .inl (fun _ => 0)))]) (pl := va_pl L (pE P)) [0, 2, 3, 1] rfl
  have hD := hD.part (X := [(h0, .inr (20, [v15_0, v15_1, .ref q_1, .ref q_3, .ref q_5, v15_5])), (q_1, .inl (cI, 4, .inl (fun _ => 0))), (q_3, .inl (cA_4, 4, .inl (fun _ => 0))), (q_5, .inl (cA_6, 4, .inl (fun _ => 0)))]) (cx := [(h0, .inr (20, [v15_0, v15_1, .ref q_1, .ref q_3, .ref q_5, v15_5])), (q_3, .inl (cA_4, 4, .inl (fun _ => 0))), (q_5, .inl (cA_6, 4, .inl (fun _ => 0))), (q_1, .inl (cI, 4, .inl (fun _ => 0)))]) (pl := va_pl L (pE P)) [0, 2, 3, 1] (by decide) rfl
  have hqn_9 : q_1 ∉ L := pl_notin (X := [(h0, .inr (20, [v15_0, v15_1, .ref q_1, .ref q_3, .ref q_5, v15_5])), (q_3, .inl (cA_4, 4, .inl (fun _ => 0))), (q_5, .inl (cA_6, 4, .inl (fun _ => 0)))]) hD
  obtain ⟨Pm_7, ePm_7⟩ : ∃ Q9 : PO, Q9 = P.mnum q_1 40 h0 cI 4 (fun _ => 0) := ⟨_, rfl⟩
  obtain ⟨Lm_8, eLm_8⟩ : ∃ l9 : List Nat, l9 = q_1 :: L := ⟨_, rfl⟩
  obtain ⟨hP, hD⟩ := pool_new (X := [(h0, .inr (20, [v15_0, v15_1, .ref q_1, .ref q_3, .ref q_5, v15_5])), (q_3, .inl (cA_4, 4, .inl (fun _ => 0))), (q_5, .inl (cA_6, 4, .inl (fun _ => 0)))]) (P' := Pm_7) (e := numE cI 4 (fun _ => 0)) (by rw [ePm_7]; exact pE_mnum _ _ _ _ _ _ _ (by decide)) hP hD
  rw [← eLm_8] at hP hD
  have hex_10 : EXT9 L P Lm_8 Pm_7 := (by rw [eLm_8, ePm_7]; exact EXT9.one hqn_9)
  have hP : va_P (dC, dI) vwQ ([(h0, .inr (20, [v15_0, v15_1, .ref q_1, .ref q_3, .ref q_5, v15_5])), (q_3, .inl (cA_4, 4, .inl (fun _ => 0))), (q_5, .inl (cA_6, 4, .inl (fun _ => 0)))] ++ va_pl Lm_8 (pE Pm_7)) H := hP
  have hD : va_D A ([(h0, .inr (20, [v15_0, v15_1, .ref q_1, .ref q_3, .ref q_5, v15_5])), (q_3, .inl (cA_4, 4, .inl (fun _ => 0))), (q_5, .inl (cA_6, 4, .inl (fun _ => 0)))] ++ va_pl Lm_8 (pE Pm_7)) := hD
  have hfa_11 : ARF9 Lm_8 Pm_7 q_1 40 h0 cI 4 := (by rw [eLm_8, ePm_7]; exact (mnum_arf _ _ _ _ _ _ _ _).1)
  obtain rfl : cI = cA_4 := cls_eqI hK 1 3 rfl rfl
  have hP : va_P (dC, dI) vwQ ([(h0, .inr (20, [v15_0, v15_1, .ref q_1, .ref q_3, .ref q_5, v15_5])), (q_3, .inl (cI, 4, .inl (fun _ => 0))), (q_5, .inl (cA_6, 4, .inl (fun _ => 0)))] ++ va_pl Lm_8 (pE Pm_7)) H := hP
  have hD : va_D A ([(h0, .inr (20, [v15_0, v15_1, .ref q_1, .ref q_3, .ref q_5, v15_5])), (q_3, .inl (cI, 4, .inl (fun _ => 0))), (q_5, .inl (cA_6, 4, .inl (fun _ => 0)))] ++ va_pl Lm_8 (pE Pm_7)) := hD
  have hK := hK.sub (tys' := [(cO, .object "java/lang/Object"), (cI, .int), (cZ, .boolean), (cA_6, .boolean)]) [0, 1, 2, 4] rfl
  have hP := hP.part (X := [(h0, .inr (20, [v15_0, v15_1, .ref q_1, .ref q_3, .ref q_5, v15_5])), (q_3, .inl (cI, 4, .inl (fun _ => 0))), (q_5, .inl (cA_6, 4, .inl (fun _ => 0)))]) (cx := [(h0, .inr (20, [v15_0, v15_1, .ref q_1, .ref q_3, .ref q_5, v15_5])), (q_5, .inl (cA_6, 4, .inl (fun _ => 0))), (q_3, .inl (cI, 4, .inl (fun _ => 0)))]) (pl := va_pl Lm_8 (pE Pm_7)) [0, 2, 1] rfl
  have hD := hD.part (X := [(h0, .inr (20, [v15_0, v15_1, .ref q_1, .ref q_3, .ref q_5, v15_5])), (q_3, .inl (cI, 4, .inl (fun _ => 0))), (q_5, .inl (cA_6, 4, .inl (fun _ => 0)))]) (cx := [(h0, .inr (20, [v15_0, v15_1, .ref q_1, .ref q_3, .ref q_5, v15_5])), (q_5, .inl (cA_6, 4, .inl (fun _ => 0))), (q_3, .inl (cI, 4, .inl (fun _ => 0)))]) (pl := va_pl Lm_8 (pE Pm_7)) [0, 2, 1] (by decide) rfl
  have hqn_14 : q_3 ∉ Lm_8 := pl_notin (X := [(h0, .inr (20, [v15_0, v15_1, .ref q_1, .ref q_3, .ref q_5, v15_5])), (q_5, .inl (cA_6, 4, .inl (fun _ => 0)))]) hD
  obtain ⟨Pm_12, ePm_12⟩ : ∃ Q9 : PO, Q9 = Pm_7.mnum q_3 41 h0 cI 4 (fun _ => 0) := ⟨_, rfl⟩
  obtain ⟨Lm_13, eLm_13⟩ : ∃ l9 : List Nat, l9 = q_3 :: Lm_8 := ⟨_, rfl⟩
  obtain ⟨hP, hD⟩ := pool_new (X := [(h0, .inr (20, [v15_0, v15_1, .ref q_1, .ref q_3, .ref q_5, v15_5])), (q_5, .inl (cA_6, 4, .inl (fun _ => 0)))]) (P' := Pm_12) (e := numE cI 4 (fun _ => 0)) (by rw [ePm_12]; exact pE_mnum _ _ _ _ _ _ _ (by decide)) hP hD
  rw [← eLm_13] at hP hD
  have hex_15 : EXT9 Lm_8 Pm_7 Lm_13 Pm_12 := (by rw [eLm_13, ePm_12]; exact EXT9.one hqn_14)
  have hP : va_P (dC, dI) vwQ ([(h0, .inr (20, [v15_0, v15_1, .ref q_1, .ref q_3, .ref q_5, v15_5])), (q_5, .inl (cA_6, 4, .inl (fun _ => 0)))] ++ va_pl Lm_13 (pE Pm_12)) H := hP
  have hD : va_D A ([(h0, .inr (20, [v15_0, v15_1, .ref q_1, .ref q_3, .ref q_5, v15_5])), (q_5, .inl (cA_6, 4, .inl (fun _ => 0)))] ++ va_pl Lm_13 (pE Pm_12)) := hD
  have hex_16 := hex_10.trans hex_15
  have hfa_17 := hex_15.arf hfa_11
  have hfa_18 : ARF9 Lm_13 Pm_12 q_3 41 h0 cI 4 := (by rw [eLm_13, ePm_12]; exact (mnum_arf _ _ _ _ _ _ _ _).1)
  obtain rfl : cZ = cA_6 := cls_eqZ hK 2 3 rfl rfl
  have hP : va_P (dC, dI) vwQ ([(h0, .inr (20, [v15_0, v15_1, .ref q_1, .ref q_3, .ref q_5, v15_5])), (q_5, .inl (cZ, 4, .inl (fun _ => 0)))] ++ va_pl Lm_13 (pE Pm_12)) H := hP
  have hD : va_D A ([(h0, .inr (20, [v15_0, v15_1, .ref q_1, .ref q_3, .ref q_5, v15_5])), (q_5, .inl (cZ, 4, .inl (fun _ => 0)))] ++ va_pl Lm_13 (pE Pm_12)) := hD
  have hK := hK.sub (tys' := [(cO, .object "java/lang/Object"), (cI, .int), (cZ, .boolean)]) [0, 1, 2] rfl
  have hqn_21 : q_5 ∉ Lm_13 := pl_notin (X := [(h0, .inr (20, [v15_0, v15_1, .ref q_1, .ref q_3, .ref q_5, v15_5]))]) hD
  obtain ⟨Pm_19, ePm_19⟩ : ∃ Q9 : PO, Q9 = Pm_12.mnum q_5 42 h0 cZ 4 (fun _ => 0) := ⟨_, rfl⟩
  obtain ⟨Lm_20, eLm_20⟩ : ∃ l9 : List Nat, l9 = q_5 :: Lm_13 := ⟨_, rfl⟩
  obtain ⟨hP, hD⟩ := pool_new (X := [(h0, .inr (20, [v15_0, v15_1, .ref q_1, .ref q_3, .ref q_5, v15_5]))]) (P' := Pm_19) (e := numE cZ 4 (fun _ => 0)) (by rw [ePm_19]; exact pE_mnum _ _ _ _ _ _ _ (by decide)) hP hD
  rw [← eLm_20] at hP hD
  have hex_22 : EXT9 Lm_13 Pm_12 Lm_20 Pm_19 := (by rw [eLm_20, ePm_19]; exact EXT9.one hqn_21)
  have hP : va_P (dC, dI) vwQ ([(h0, .inr (20, [v15_0, v15_1, .ref q_1, .ref q_3, .ref q_5, v15_5]))] ++ va_pl Lm_20 (pE Pm_19)) H := hP
  have hD : va_D A ([(h0, .inr (20, [v15_0, v15_1, .ref q_1, .ref q_3, .ref q_5, v15_5]))] ++ va_pl Lm_20 (pE Pm_19)) := hD
  have hex_23 := hex_16.trans hex_22
  have hfa_24 := hex_22.arf hfa_17
  have hfa_25 := hex_22.arf hfa_18
  have hfa_26 : ARF9 Lm_20 Pm_19 q_5 42 h0 cZ 4 := (by rw [eLm_20, ePm_19]; exact (mnum_arf _ _ _ _ _ _ _ _).1)
  refine W.widen (k := 3) (n := 12) (Nat.le_of_ble_eq_true rfl) (Nat.le_of_ble_eq_true rfl) ?_
  exact W.vret hx hb hr (fun t ht hW => ⟨⟨(), rfl, trivial, q_1, q_3, q_5, Lm_20, Pm_19, ⟨hex_23, (fun z m n => by rw [eLm_20, eLm_13, eLm_8] at m; rcases List.mem_cons.mp m with e | m; rw [e, hfa_26.2.1]; decide; rcases List.mem_cons.mp m with e | m; rw [e, hfa_25.2.1]; decide; rcases List.mem_cons.mp m with e | m; rw [e, hfa_24.2.1]; decide; exact absurd m n), hfa_24, hfa_25, hfa_26⟩, by rw [ht]; exact hP, va_K.moved hW.alike hK, hD⟩, hS.F ht⟩) hS.2.2 dX15_init_25
