def o_PR_putX : List Cond := [.fieldLink RX17 9 "SsaForgeModel$Row" "op" "I", .fieldLink RX17 35 "SsaForgeModel$Row" "t" "I", .fieldLink RX17 26 "SsaForgeModel$Row" "a" "I", .fieldLink RX17 32 "SsaForgeModel$Row" "b" "I", .fieldLink RX17 15 "SsaForgeModel$Row" "regA" "Z", .fieldLink RX17 19 "SsaForgeModel$Row" "regB" "Z", .fieldLink RX17 38 "SsaForgeModel$Row" "gone" "Z"]
def v_PR_putX : List Cond := .code yX17_put cX17_put 2 none :: (o_PR_putX ++ (wsX170 ++ []))
theorem mow_PR_putX : ∀ w ∈ o_PR_putX, w ∈ v_PR_putX := fun _ h => List.mem_cons_of_mem _ (List.mem_append_left _ h)
theorem mem_PR_putX_0 : ∀ w ∈ wsX170, w ∈ v_PR_putX := fun _ h => List.mem_cons_of_mem _ (List.mem_append_right _ (List.mem_append_left _ h))
set_option maxRecDepth 20000 in
theorem gw_PR_putX : v_PR_putX.all goodWord = true := by decide +kernel
set_option maxHeartbeats 4000000 in
set_option maxRecDepth 100000 in
theorem c_PR_putX (l : Launch) (dC : Nat → ClassId) (dI : Nat → Nat → Nat) (hrw : Nat) (z17_op : Int) (z17_t : Int) (z17_a : Int) (z17_b : Int) (z17_regA : Int) (z17_regB : Int) (v17_6 : Value) (cO : ClassId) (L : List Nat) (P : PO) (xr : Nat) (hNz17_op : 0 ≤ z17_op ∧ z17_op ≤ 40) (hNz17_t : 0 ≤ z17_t ∧ z17_t ≤ 1001) (hNz17_a : -2147483648 ≤ z17_a ∧ z17_a ≤ 2147483647) (hNz17_b : -2147483648 ≤ z17_b ∧ z17_b ≤ 2147483647) (hNz17_regA : 0 ≤ z17_regA ∧ z17_regA ≤ 1) (hNz17_regB : 0 ≤ z17_regB ∧ z17_regB ≤ 1) (hX_x : xr ∈ L) (hX_k : P.kd xr = 17) (sz : Nat) : Met l yX17_put v_PR_putX ({ frames := 0, cells := 0, slots := 0, locals := 0 }) (va_Pc [.ref xr, .ref hrw] (fun U => U.heap.size = sz ∧ va_P (dC, dI) vwQ ([(hrw, .inr (21, [.int (zI (z17_op)), .int (zI (z17_t)), .int (zI (z17_a)), .int (zI (z17_b)), .int (zI (z17_regA)), .int (zI (z17_regB)), v17_6]))] ++ va_pl L (pE P)) U.heap ∧ va_K (dC, dI) vwQ [(cO, .object "java/lang/Object")] U ∧ va_D (fun _ => True) ([(hrw, .inr (21, [.int (zI (z17_op)), .int (zI (z17_t)), .int (zI (z17_a)), .int (zI (z17_b)), .int (zI (z17_regA)), .int (zI (z17_regB)), v17_6]))] ++ va_pl L (pE P)))) (va_Qv (fun _ : Unit => True) (fun (_ : Unit) (t : State) => ∃ (Pn_9 : PO), ((RW1 xr P Pn_9 ∧ Pn_9.ro xr = z17_op ∧ Pn_9.rt xr = z17_t ∧ Pn_9.ra xr = z17_a ∧ Pn_9.rb xr = z17_b ∧ Pn_9.rA xr = z17_regA ∧ Pn_9.rB xr = z17_regB ∧ Pn_9.rg xr = 0)) ∧ va_P (dC, dI) vwQ ([(hrw, .inr (21, [.int (zI (z17_op)), .int (zI (z17_t)), .int (zI (z17_a)), .int (zI (z17_b)), .int (zI (z17_regA)), .int (zI (z17_regB)), v17_6]))] ++ va_pl L (pE Pn_9)) t.heap ∧ va_K (dC, dI) vwQ [(cO, .object "java/lang/Object")] t ∧ va_D (va_A ([(hrw, .inr (21, [.int (zI (z17_op)), .int (zI (z17_t)), .int (zI (z17_a)), .int (zI (z17_b)), .int (zI (z17_regA)), .int (zI (z17_regB)), v17_6]))] ++ va_pl L (pE P)) sz) ([(hrw, .inr (21, [.int (zI (z17_op)), .int (zI (z17_t)), .int (zI (z17_a)), .int (zI (z17_b)), .int (zI (z17_regA)), .int (zI (z17_regB)), v17_6]))] ++ va_pl L (pE Pn_9))) (va_A ([(hrw, .inr (21, [.int (zI (z17_op)), .int (zI (z17_t)), .int (zI (z17_a)), .int (zI (z17_b)), .int (zI (z17_regA)), .int (zI (z17_regB)), v17_6]))] ++ va_pl L (pE P)) sz)) 0 0 (va_A ([(hrw, .inr (21, [.int (zI (z17_op)), .int (zI (z17_t)), .int (zI (z17_a)), .int (zI (z17_b)), .int (zI (z17_regA)), .int (zI (z17_regB)), v17_6]))] ++ va_pl L (pE P)) sz) := by
  refine Met.ofW (cc := cX17_put) (maxL := 2) (ret := none) (by decide) rfl ?_
  intro p e s m args below meth c s₁ B hml hv
  obtain ⟨rfl, hsz, hP, hK, hD0⟩ := hv
  have hx := B.exec
  have hb := B.bytes
  have hr := B.returns
  have hts := atoms_spec (ws := v_PR_putX) B.pre
  have hown : s.vm.findClass RX17 = some m.cls := findClass_of_methodNamed B.named
  have hlocks := B.notSynchronized
  have ow : ∀ {k : Nat} {w : Cond}, o_PR_putX[k]? = some w → w.before ([.ref xr, .ref hrw] : List Value).toArray s = true := fun h => hts _ (mow_PR_putX _ (List.mem_of_getElem? h))
  subst hsz
  have hD := hD0.self (sz := s.heap.size)
  generalize hAe : va_A ([(hrw, .inr (21, [.int (zI (z17_op)), .int (zI (z17_t)), .int (zI (z17_a)), .int (zI (z17_b)), .int (zI (z17_regA)), .int (zI (z17_regB)), v17_6]))] ++ va_pl L (pE P)) s.heap.size = A at hD ⊢
  have hA : ∀ q : Nat, s.heap.size ≤ q → A q := fun q h => by rw [← hAe]; exact Or.inr h
  have hS : va_S A s.heap s.heap [] := va_S.rf
  have hP : va_P (dC, dI) vwQ ([(hrw, .inr (21, [.int (zI (z17_op)), .int (zI (z17_t)), .int (zI (z17_a)), .int (zI (z17_b)), .int (zI (z17_regA)), .int (zI (z17_regB)), v17_6]))] ++ va_pl L (pE P)) s.heap := hP
  have hl := lv_entry ([.ref xr, .ref hrw]) (n := 2) (Nat.le_of_ble_eq_true rfl)
  rw [lg_entry_eq]
  generalize (lg_sl ([.ref xr, .ref hrw]) ++ List.replicate (2 - (lg_sl ([.ref xr, .ref hrw])).length) Slot.unset).toArray = ls at hl ⊢
  have hl : lv_has ls 2 [(0, .ref xr), (1, .ref hrw)] := hl
  obtain ⟨H, hH⟩ : ∃ H, H = s.heap := ⟨_, rfl⟩
  rw [← hH] at hP
  have hS : va_S A s.heap H [] := by rw [hH]; exact hS
  rw [← hH]
  refine zW_cap (fun Q hQ => ?_)
  refine lv_aload_n hx hb dX17_put_0 rfl (lv_at hl 0 rfl) ?_
  refine lv_aload_n hx hb dX17_put_1 rfl (lv_at hl 1 rfl) ?_
  refine va_get (D := (dC, dI)) (ci := 21) (v := .int (zI (z17_op))) (C := RX17) (T := TX17) (N := 7) hx hb hts mem_PR_putX_0 hown hK hP 0 rfl rfl 0 (by decide) (ow (k := 0) rfl) (fun _ h9 => h9) rfl dX17_put_2 ?_
  obtain ⟨kp_1, gkp_1⟩ := va_pl_get (X := [(hrw, .inr (21, [.int (zI (z17_op)), .int (zI (z17_t)), .int (zI (z17_a)), .int (zI (z17_b)), .int (zI (z17_regA)), .int (zI (z17_regB)), v17_6]))]) (f := pE P) hX_x
  have hkp_1 := gkp_1
  rw [pE_row hX_k] at hkp_1
  have hD0 := hD
  refine va_put (D := (dC, dI)) (ci := 21) (v := .int (zI (z17_op))) (ty := .int) (C := RX17) (T := TX17) (N := 7) hx hb hts mem_PR_putX_0 tyX17 tyX17_ok nmX17 hown hK hP hD hS kp_1 hkp_1 rfl 0 (by decide) (ow (k := 0) rfl) (fun _ h9 => h9) rfl (by decide +kernel) rfl rfl (Nat.le_of_ble_eq_true rfl) dX17_put_5 (fun H locs hP hD hS => ?_)
  obtain ⟨Pw_2, ePw_2⟩ : ∃ q9 : PO, q9 = P.rw9 0 xr (z17_op) := ⟨_, rfl⟩
  have eU : (([(hrw, .inr (21, [.int (zI (z17_op)), .int (zI (z17_t)), .int (zI (z17_a)), .int (zI (z17_b)), .int (zI (z17_regA)), .int (zI (z17_regB)), v17_6]))] : va_W) ++ va_pl L (pE P)).set kp_1 (xr, rowE (z17_op) (P.rt xr) (P.ra xr) (P.rb xr) (P.rA xr) (P.rB xr) (P.rg xr)) = ([(hrw, .inr (21, [.int (zI (z17_op)), .int (zI (z17_t)), .int (zI (z17_a)), .int (zI (z17_b)), .int (zI (z17_regA)), .int (zI (z17_regB)), v17_6]))] : va_W) ++ va_pl L (pE Pw_2) := (by rw [va_pl_set hD0 hX_x gkp_1, ePw_2]; exact congrArg (fun f9 => ([(hrw, .inr (21, [.int (zI (z17_op)), .int (zI (z17_t)), .int (zI (z17_a)), .int (zI (z17_b)), .int (zI (z17_regA)), .int (zI (z17_regB)), v17_6]))] : va_W) ++ va_pl L f9) (put17_0 hX_k))
  have hP : va_P (dC, dI) vwQ ([(hrw, .inr (21, [.int (zI (z17_op)), .int (zI (z17_t)), .int (zI (z17_a)), .int (zI (z17_b)), .int (zI (z17_regA)), .int (zI (z17_regB)), v17_6]))] ++ va_pl L (pE Pw_2)) H := (by rw [← eU]; exact hP)
  have hD : va_D A ([(hrw, .inr (21, [.int (zI (z17_op)), .int (zI (z17_t)), .int (zI (z17_a)), .int (zI (z17_b)), .int (zI (z17_regA)), .int (zI (z17_regB)), v17_6]))] ++ va_pl L (pE Pw_2)) := (by rw [← eU]; exact hD)
  clear eU hD0 gkp_1 hkp_1
  have wPw_2 : RW1 xr P Pw_2 := (by rw [ePw_2]; exact RW1.put _ _ _ _)
  have hy_3 : Pw_2.kd xr = 17 := (by rw [ePw_2]; exact hX_k)
  have : Pw_2.ro xr = z17_op := (by rw [ePw_2]; exact rw9_at _ _ _ _)
  have : Pw_2.rt xr = P.rt xr := (by rw [ePw_2]; exact rw9_of _ (by decide))
  have : Pw_2.ra xr = P.ra xr := (by rw [ePw_2]; exact rw9_of _ (by decide))
  have : Pw_2.rb xr = P.rb xr := (by rw [ePw_2]; exact rw9_of _ (by decide))
  have : Pw_2.rA xr = P.rA xr := (by rw [ePw_2]; exact rw9_of _ (by decide))
  have : Pw_2.rB xr = P.rB xr := (by rw [ePw_2]; exact rw9_of _ (by decide))
  have : Pw_2.rg xr = P.rg xr := (by rw [ePw_2]; exact rw9_of _ (by decide))
  refine lv_aload_n hx hb dX17_put_8 rfl (lv_at hl 0 rfl) ?_
  refine lv_aload_n hx hb dX17_put_9 rfl (lv_at hl 1 rfl) ?_
  refine va_get (D := (dC, dI)) (ci := 21) (v := .int (zI (z17_t))) (C := RX17) (T := TX17) (N := 7) hx hb hts mem_PR_putX_0 hown hK hP 0 rfl rfl 1 (by decide) (ow (k := 1) rfl) (fun _ h9 => h9) rfl dX17_put_10 ?_
  obtain ⟨kp_4, gkp_4⟩ := va_pl_get (X := [(hrw, .inr (21, [.int (zI (z17_op)), .int (zI (z17_t)), .int (zI (z17_a)), .int (zI (z17_b)), .int (zI (z17_regA)), .int (zI (z17_regB)), v17_6]))]) (f := pE Pw_2) hX_x
  have hkp_4 := gkp_4
  rw [pE_row hy_3] at hkp_4
  have hD0 := hD
  refine va_put (D := (dC, dI)) (ci := 21) (v := .int (zI (z17_t))) (ty := .int) (C := RX17) (T := TX17) (N := 7) hx hb hts mem_PR_putX_0 tyX17 tyX17_ok nmX17 hown hK hP hD hS kp_4 hkp_4 rfl 1 (by decide) (ow (k := 1) rfl) (fun _ h9 => h9) rfl (by decide +kernel) rfl rfl (Nat.le_of_ble_eq_true rfl) dX17_put_13 (fun H locs hP hD hS => ?_)
  obtain ⟨Pw_5, ePw_5⟩ : ∃ q9 : PO, q9 = Pw_2.rw9 1 xr (z17_t) := ⟨_, rfl⟩
  have eU : (([(hrw, .inr (21, [.int (zI (z17_op)), .int (zI (z17_t)), .int (zI (z17_a)), .int (zI (z17_b)), .int (zI (z17_regA)), .int (zI (z17_regB)), v17_6]))] : va_W) ++ va_pl L (pE Pw_2)).set kp_4 (xr, rowE (Pw_2.ro xr) (z17_t) (Pw_2.ra xr) (Pw_2.rb xr) (Pw_2.rA xr) (Pw_2.rB xr) (Pw_2.rg xr)) = ([(hrw, .inr (21, [.int (zI (z17_op)), .int (zI (z17_t)), .int (zI (z17_a)), .int (zI (z17_b)), .int (zI (z17_regA)), .int (zI (z17_regB)), v17_6]))] : va_W) ++ va_pl L (pE Pw_5) := (by rw [va_pl_set hD0 hX_x gkp_4, ePw_5]; exact congrArg (fun f9 => ([(hrw, .inr (21, [.int (zI (z17_op)), .int (zI (z17_t)), .int (zI (z17_a)), .int (zI (z17_b)), .int (zI (z17_regA)), .int (zI (z17_regB)), v17_6]))] : va_W) ++ va_pl L f9) (put17_1 hy_3))
  have hP : va_P (dC, dI) vwQ ([(hrw, .inr (21, [.int (zI (z17_op)), .int (zI (z17_t)), .int (zI (z17_a)), .int (zI (z17_b)), .int (zI (z17_regA)), .int (zI (z17_regB)), v17_6]))] ++ va_pl L (pE Pw_5)) H := (by rw [← eU]; exact hP)
  have hD : va_D A ([(hrw, .inr (21, [.int (zI (z17_op)), .int (zI (z17_t)), .int (zI (z17_a)), .int (zI (z17_b)), .int (zI (z17_regA)), .int (zI (z17_regB)), v17_6]))] ++ va_pl L (pE Pw_5)) := (by rw [← eU]; exact hD)
  clear eU hD0 gkp_4 hkp_4
  have wPw_5 : RW1 xr Pw_2 Pw_5 := (by rw [ePw_5]; exact RW1.put _ _ _ _)
  have hy_6 : Pw_5.kd xr = 17 := (by rw [ePw_5]; exact hy_3)
  have : Pw_5.ro xr = Pw_2.ro xr := (by rw [ePw_5]; exact rw9_of _ (by decide))
  have : Pw_5.rt xr = z17_t := (by rw [ePw_5]; exact rw9_at _ _ _ _)
  have : Pw_5.ra xr = Pw_2.ra xr := (by rw [ePw_5]; exact rw9_of _ (by decide))
  have : Pw_5.rb xr = Pw_2.rb xr := (by rw [ePw_5]; exact rw9_of _ (by decide))
  have : Pw_5.rA xr = Pw_2.rA xr := (by rw [ePw_5]; exact rw9_of _ (by decide))
  have : Pw_5.rB xr = Pw_2.rB xr := (by rw [ePw_5]; exact rw9_of _ (by decide))
  have : Pw_5.rg xr = Pw_2.rg xr := (by rw [ePw_5]; exact rw9_of _ (by decide))
  refine lv_aload_n hx hb dX17_put_16 rfl (lv_at hl 0 rfl) ?_
  refine lv_aload_n hx hb dX17_put_17 rfl (lv_at hl 1 rfl) ?_
  refine va_get (D := (dC, dI)) (ci := 21) (v := .int (zI (z17_a))) (C := RX17) (T := TX17) (N := 7) hx hb hts mem_PR_putX_0 hown hK hP 0 rfl rfl 2 (by decide) (ow (k := 2) rfl) (fun _ h9 => h9) rfl dX17_put_18 ?_
  obtain ⟨kp_7, gkp_7⟩ := va_pl_get (X := [(hrw, .inr (21, [.int (zI (z17_op)), .int (zI (z17_t)), .int (zI (z17_a)), .int (zI (z17_b)), .int (zI (z17_regA)), .int (zI (z17_regB)), v17_6]))]) (f := pE Pw_5) hX_x
  have hkp_7 := gkp_7
  rw [pE_row hy_6] at hkp_7
  have hD0 := hD
  refine va_put (D := (dC, dI)) (ci := 21) (v := .int (zI (z17_a))) (ty := .int) (C := RX17) (T := TX17) (N := 7) hx hb hts mem_PR_putX_0 tyX17 tyX17_ok nmX17 hown hK hP hD hS kp_7 hkp_7 rfl 2 (by decide) (ow (k := 2) rfl) (fun _ h9 => h9) rfl (by decide +kernel) rfl rfl (Nat.le_of_ble_eq_true rfl) dX17_put_21 (fun H locs hP hD hS => ?_)
  obtain ⟨Pw_8, ePw_8⟩ : ∃ q9 : PO, q9 = Pw_5.rw9 2 xr (z17_a) := ⟨_, rfl⟩
  have eU : (([(hrw, .inr (21, [.int (zI (z17_op)), .int (zI (z17_t)), .int (zI (z17_a)), .int (zI (z17_b)), .int (zI (z17_regA)), .int (zI (z17_regB)), v17_6]))] : va_W) ++ va_pl L (pE Pw_5)).set kp_7 (xr, rowE (Pw_5.ro xr) (Pw_5.rt xr) (z17_a) (Pw_5.rb xr) (Pw_5.rA xr) (Pw_5.rB xr) (Pw_5.rg xr)) = ([(hrw, .inr (21, [.int (zI (z17_op)), .int (zI (z17_t)), .int (zI (z17_a)), .int (zI (z17_b)), .int (zI (z17_regA)), .int (zI (z17_regB)), v17_6]))] : va_W) ++ va_pl L (pE Pw_8) := (by rw [va_pl_set hD0 hX_x gkp_7, ePw_8]; exact congrArg (fun f9 => ([(hrw, .inr (21, [.int (zI (z17_op)), .int (zI (z17_t)), .int (zI (z17_a)), .int (zI (z17_b)), .int (zI (z17_regA)), .int (zI (z17_regB)), v17_6]))] : va_W) ++ va_pl L f9) (put17_2 hy_6))
  have hP : va_P (dC, dI) vwQ ([(hrw, .inr (21, [.int (zI (z17_op)), .int (zI (z17_t)), .int (zI (z17_a)), .int (zI (z17_b)), .int (zI (z17_regA)), .int (zI (z17_regB)), v17_6]))] ++ va_pl L (pE Pw_8)) H := (by rw [← eU]; exact hP)
  have hD : va_D A ([(hrw, .inr (21, [.int (zI (z17_op)), .int (zI (z17_t)), .int (zI (z17_a)), .int (zI (z17_b)), .int (zI (z17_regA)), .int (zI (z17_regB)), v17_6]))] ++ va_pl L (pE Pw_8)) := (by rw [← eU]; exact hD)
  clear eU hD0 gkp_7 hkp_7
  have wPw_8 : RW1 xr Pw_5 Pw_8 := (by rw [ePw_8]; exact RW1.put _ _ _ _)
  have hy_9 : Pw_8.kd xr = 17 := (by rw [ePw_8]; exact hy_6)
  have : Pw_8.ro xr = Pw_5.ro xr := (by rw [ePw_8]; exact rw9_of _ (by decide))
  have : Pw_8.rt xr = Pw_5.rt xr := (by rw [ePw_8]; exact rw9_of _ (by decide))
  have : Pw_8.ra xr = z17_a := (by rw [ePw_8]; exact rw9_at _ _ _ _)
  have : Pw_8.rb xr = Pw_5.rb xr := (by rw [ePw_8]; exact rw9_of _ (by decide))
  have : Pw_8.rA xr = Pw_5.rA xr := (by rw [ePw_8]; exact rw9_of _ (by decide))
  have : Pw_8.rB xr = Pw_5.rB xr := (by rw [ePw_8]; exact rw9_of _ (by decide))
  have : Pw_8.rg xr = Pw_5.rg xr := (by rw [ePw_8]; exact rw9_of _ (by decide))
  refine lv_aload_n hx hb dX17_put_24 rfl (lv_at hl 0 rfl) ?_
  refine lv_aload_n hx hb dX17_put_25 rfl (lv_at hl 1 rfl) ?_
  refine va_get (D := (dC, dI)) (ci := 21) (v := .int (zI (z17_b))) (C := RX17) (T := TX17) (N := 7) hx hb hts mem_PR_putX_0 hown hK hP 0 rfl rfl 3 (by decide) (ow (k := 3) rfl) (fun _ h9 => h9) rfl dX17_put_26 ?_
  obtain ⟨kp_10, gkp_10⟩ := va_pl_get (X := [(hrw, .inr (21, [.int (zI (z17_op)), .int (zI (z17_t)), .int (zI (z17_a)), .int (zI (z17_b)), .int (zI (z17_regA)), .int (zI (z17_regB)), v17_6]))]) (f := pE Pw_8) hX_x
  have hkp_10 := gkp_10
  rw [pE_row hy_9] at hkp_10
  have hD0 := hD
  refine va_put (D := (dC, dI)) (ci := 21) (v := .int (zI (z17_b))) (ty := .int) (C := RX17) (T := TX17) (N := 7) hx hb hts mem_PR_putX_0 tyX17 tyX17_ok nmX17 hown hK hP hD hS kp_10 hkp_10 rfl 3 (by decide) (ow (k := 3) rfl) (fun _ h9 => h9) rfl (by decide +kernel) rfl rfl (Nat.le_of_ble_eq_true rfl) dX17_put_29 (fun H locs hP hD hS => ?_)
  obtain ⟨Pw_11, ePw_11⟩ : ∃ q9 : PO, q9 = Pw_8.rw9 3 xr (z17_b) := ⟨_, rfl⟩
  have eU : (([(hrw, .inr (21, [.int (zI (z17_op)), .int (zI (z17_t)), .int (zI (z17_a)), .int (zI (z17_b)), .int (zI (z17_regA)), .int (zI (z17_regB)), v17_6]))] : va_W) ++ va_pl L (pE Pw_8)).set kp_10 (xr, rowE (Pw_8.ro xr) (Pw_8.rt xr) (Pw_8.ra xr) (z17_b) (Pw_8.rA xr) (Pw_8.rB xr) (Pw_8.rg xr)) = ([(hrw, .inr (21, [.int (zI (z17_op)), .int (zI (z17_t)), .int (zI (z17_a)), .int (zI (z17_b)), .int (zI (z17_regA)), .int (zI (z17_regB)), v17_6]))] : va_W) ++ va_pl L (pE Pw_11) := (by rw [va_pl_set hD0 hX_x gkp_10, ePw_11]; exact congrArg (fun f9 => ([(hrw, .inr (21, [.int (zI (z17_op)), .int (zI (z17_t)), .int (zI (z17_a)), .int (zI (z17_b)), .int (zI (z17_regA)), .int (zI (z17_regB)), v17_6]))] : va_W) ++ va_pl L f9) (put17_3 hy_9))
  have hP : va_P (dC, dI) vwQ ([(hrw, .inr (21, [.int (zI (z17_op)), .int (zI (z17_t)), .int (zI (z17_a)), .int (zI (z17_b)), .int (zI (z17_regA)), .int (zI (z17_regB)), v17_6]))] ++ va_pl L (pE Pw_11)) H := (by rw [← eU]; exact hP)
  have hD : va_D A ([(hrw, .inr (21, [.int (zI (z17_op)), .int (zI (z17_t)), .int (zI (z17_a)), .int (zI (z17_b)), .int (zI (z17_regA)), .int (zI (z17_regB)), v17_6]))] ++ va_pl L (pE Pw_11)) := (by rw [← eU]; exact hD)
  clear eU hD0 gkp_10 hkp_10
  have wPw_11 : RW1 xr Pw_8 Pw_11 := (by rw [ePw_11]; exact RW1.put _ _ _ _)
  have hy_12 : Pw_11.kd xr = 17 := (by rw [ePw_11]; exact hy_9)
  have : Pw_11.ro xr = Pw_8.ro xr := (by rw [ePw_11]; exact rw9_of _ (by decide))
  have : Pw_11.rt xr = Pw_8.rt xr := (by rw [ePw_11]; exact rw9_of _ (by decide))
  have : Pw_11.ra xr = Pw_8.ra xr := (by rw [ePw_11]; exact rw9_of _ (by decide))
  have : Pw_11.rb xr = z17_b := (by rw [ePw_11]; exact rw9_at _ _ _ _)
  have : Pw_11.rA xr = Pw_8.rA xr := (by rw [ePw_11]; exact rw9_of _ (by decide))
  have : Pw_11.rB xr = Pw_8.rB xr := (by rw [ePw_11]; exact rw9_of _ (by decide))
  have : Pw_11.rg xr = Pw_8.rg xr := (by rw [ePw_11]; exact rw9_of _ (by decide))
  refine lv_aload_n hx hb dX17_put_32 rfl (lv_at hl 0 rfl) ?_
  refine lv_aload_n hx hb dX17_put_33 rfl (lv_at hl 1 rfl) ?_
  refine va_get (D := (dC, dI)) (ci := 21) (v := .int (zI (z17_regA))) (C := RX17) (T := TX17) (N := 7) hx hb hts mem_PR_putX_0 hown hK hP 0 rfl rfl 4 (by decide) (ow (k := 4) rfl) (fun _ h9 => h9) rfl dX17_put_34 ?_
  obtain ⟨kp_13, gkp_13⟩ := va_pl_get (X := [(hrw, .inr (21, [.int (zI (z17_op)), .int (zI (z17_t)), .int (zI (z17_a)), .int (zI (z17_b)), .int (zI (z17_regA)), .int (zI (z17_regB)), v17_6]))]) (f := pE Pw_11) hX_x
  have hkp_13 := gkp_13
  rw [pE_row hy_12] at hkp_13
  have hD0 := hD
  refine va_put (D := (dC, dI)) (ci := 21) (v := .int (zI (z17_regA))) (ty := .boolean) (C := RX17) (T := TX17) (N := 7) hx hb hts mem_PR_putX_0 tyX17 tyX17_ok nmX17 hown hK hP hD hS kp_13 hkp_13 rfl 4 (by decide) (ow (k := 4) rfl) (fun _ h9 => h9) rfl (by decide +kernel) (zI_bool (by omega) (by omega)) (zI_fitb (by omega) (by omega)) (Nat.le_of_ble_eq_true rfl) dX17_put_37 (fun H locs hP hD hS => ?_)
  obtain ⟨Pw_14, ePw_14⟩ : ∃ q9 : PO, q9 = Pw_11.rw9 4 xr (z17_regA) := ⟨_, rfl⟩
  have eU : (([(hrw, .inr (21, [.int (zI (z17_op)), .int (zI (z17_t)), .int (zI (z17_a)), .int (zI (z17_b)), .int (zI (z17_regA)), .int (zI (z17_regB)), v17_6]))] : va_W) ++ va_pl L (pE Pw_11)).set kp_13 (xr, rowE (Pw_11.ro xr) (Pw_11.rt xr) (Pw_11.ra xr) (Pw_11.rb xr) (z17_regA) (Pw_11.rB xr) (Pw_11.rg xr)) = ([(hrw, .inr (21, [.int (zI (z17_op)), .int (zI (z17_t)), .int (zI (z17_a)), .int (zI (z17_b)), .int (zI (z17_regA)), .int (zI (z17_regB)), v17_6]))] : va_W) ++ va_pl L (pE Pw_14) := (by rw [va_pl_set hD0 hX_x gkp_13, ePw_14]; exact congrArg (fun f9 => ([(hrw, .inr (21, [.int (zI (z17_op)), .int (zI (z17_t)), .int (zI (z17_a)), .int (zI (z17_b)), .int (zI (z17_regA)), .int (zI (z17_regB)), v17_6]))] : va_W) ++ va_pl L f9) (put17_4 hy_12))
  have hP : va_P (dC, dI) vwQ ([(hrw, .inr (21, [.int (zI (z17_op)), .int (zI (z17_t)), .int (zI (z17_a)), .int (zI (z17_b)), .int (zI (z17_regA)), .int (zI (z17_regB)), v17_6]))] ++ va_pl L (pE Pw_14)) H := (by rw [← eU]; exact hP)
  have hD : va_D A ([(hrw, .inr (21, [.int (zI (z17_op)), .int (zI (z17_t)), .int (zI (z17_a)), .int (zI (z17_b)), .int (zI (z17_regA)), .int (zI (z17_regB)), v17_6]))] ++ va_pl L (pE Pw_14)) := (by rw [← eU]; exact hD)
  clear eU hD0 gkp_13 hkp_13
  have wPw_14 : RW1 xr Pw_11 Pw_14 := (by rw [ePw_14]; exact RW1.put _ _ _ _)
  have hy_15 : Pw_14.kd xr = 17 := (by rw [ePw_14]; exact hy_12)
  have : Pw_14.ro xr = Pw_11.ro xr := (by rw [ePw_14]; exact rw9_of _ (by decide))
  have : Pw_14.rt xr = Pw_11.rt xr := (by rw [ePw_14]; exact rw9_of _ (by decide))
  have : Pw_14.ra xr = Pw_11.ra xr := (by rw [ePw_14]; exact rw9_of _ (by decide))
  have : Pw_14.rb xr = Pw_11.rb xr := (by rw [ePw_14]; exact rw9_of _ (by decide))
  have : Pw_14.rA xr = z17_regA := (by rw [ePw_14]; exact rw9_at _ _ _ _)
  have : Pw_14.rB xr = Pw_11.rB xr := (by rw [ePw_14]; exact rw9_of _ (by decide))
  have : Pw_14.rg xr = Pw_11.rg xr := (by rw [ePw_14]; exact rw9_of _ (by decide))
  refine lv_aload_n hx hb dX17_put_40 rfl (lv_at hl 0 rfl) ?_
  refine lv_aload_n hx hb dX17_put_41 rfl (lv_at hl 1 rfl) ?_
  refine va_get (D := (dC, dI)) (ci := 21) (v := .int (zI (z17_regB))) (C := RX17) (T := TX17) (N := 7) hx hb hts mem_PR_putX_0 hown hK hP 0 rfl rfl 5 (by decide) (ow (k := 5) rfl) (fun _ h9 => h9) rfl dX17_put_42 ?_
  obtain ⟨kp_16, gkp_16⟩ := va_pl_get (X := [(hrw, .inr (21, [.int (zI (z17_op)), .int (zI (z17_t)), .int (zI (z17_a)), .int (zI (z17_b)), .int (zI (z17_regA)), .int (zI (z17_regB)), v17_6]))]) (f := pE Pw_14) hX_x
  have hkp_16 := gkp_16
  rw [pE_row hy_15] at hkp_16
  have hD0 := hD
  refine va_put (D := (dC, dI)) (ci := 21) (v := .int (zI (z17_regB))) (ty := .boolean) (C := RX17) (T := TX17) (N := 7) hx hb hts mem_PR_putX_0 tyX17 tyX17_ok nmX17 hown hK hP hD hS kp_16 hkp_16 rfl 5 (by decide) (ow (k := 5) rfl) (fun _ h9 => h9) rfl (by decide +kernel) (zI_bool (by omega) (by omega)) (zI_fitb (by omega) (by omega)) (Nat.le_of_ble_eq_true rfl) dX17_put_45 (fun H locs hP hD hS => ?_)
  obtain ⟨Pw_17, ePw_17⟩ : ∃ q9 : PO, q9 = Pw_14.rw9 5 xr (z17_regB) := ⟨_, rfl⟩
  have eU : (([(hrw, .inr (21, [.int (zI (z17_op)), .int (zI (z17_t)), .int (zI (z17_a)), .int (zI (z17_b)), .int (zI (z17_regA)), .int (zI (z17_regB)), v17_6]))] : va_W) ++ va_pl L (pE Pw_14)).set kp_16 (xr, rowE (Pw_14.ro xr) (Pw_14.rt xr) (Pw_14.ra xr) (Pw_14.rb xr) (Pw_14.rA xr) (z17_regB) (Pw_14.rg xr)) = ([(hrw, .inr (21, [.int (zI (z17_op)), .int (zI (z17_t)), .int (zI (z17_a)), .int (zI (z17_b)), .int (zI (z17_regA)), .int (zI (z17_regB)), v17_6]))] : va_W) ++ va_pl L (pE Pw_17) := (by rw [va_pl_set hD0 hX_x gkp_16, ePw_17]; exact congrArg (fun f9 => ([(hrw, .inr (21, [.int (zI (z17_op)), .int (zI (z17_t)), .int (zI (z17_a)), .int (zI (z17_b)), .int (zI (z17_regA)), .int (zI (z17_regB)), v17_6]))] : va_W) ++ va_pl L f9) (put17_5 hy_15))
  have hP : va_P (dC, dI) vwQ ([(hrw, .inr (21, [.int (zI (z17_op)), .int (zI (z17_t)), .int (zI (z17_a)), .int (zI (z17_b)), .int (zI (z17_regA)), .int (zI (z17_regB)), v17_6]))] ++ va_pl L (pE Pw_17)) H := (by rw [← eU]; exact hP)
  have hD : va_D A ([(hrw, .inr (21, [.int (zI (z17_op)), .int (zI (z17_t)), .int (zI (z17_a)), .int (zI (z17_b)), .int (zI (z17_regA)), .int (zI (z17_regB)), v17_6]))] ++ va_pl L (pE Pw_17)) := (by rw [← eU]; exact hD)
  clear eU hD0 gkp_16 hkp_16
  have wPw_17 : RW1 xr Pw_14 Pw_17 := (by rw [ePw_17]; exact RW1.put _ _ _ _)
  have hy_18 : Pw_17.kd xr = 17 := (by rw [ePw_17]; exact hy_15)
  have : Pw_17.ro xr = Pw_14.ro xr := (by rw [ePw_17]; exact rw9_of _ (by decide))
  have : Pw_17.rt xr = Pw_14.rt xr := (by rw [ePw_17]; exact rw9_of _ (by decide))
  have : Pw_17.ra xr = Pw_14.ra xr := (by rw [ePw_17]; exact rw9_of _ (by decide))
  have : Pw_17.rb xr = Pw_14.rb xr := (by rw [ePw_17]; exact rw9_of _ (by decide))
  have : Pw_17.rA xr = Pw_14.rA xr := (by rw [ePw_17]; exact rw9_of _ (by decide))
  have : Pw_17.rB xr = z17_regB := (by rw [ePw_17]; exact rw9_at _ _ _ _)
  have : Pw_17.rg xr = Pw_14.rg xr := (by rw [ePw_17]; exact rw9_of _ (by decide))
  refine lv_aload_n hx hb dX17_put_48 rfl (lv_at hl 0 rfl) ?_
  refine lv_iconst (v := 0) hx hb dX17_put_49 (by decide) ?_
  refine lv_topi (fun z ez => ?_)
  obtain rfl : z = zI (0) := ez
  obtain ⟨kp_19, gkp_19⟩ := va_pl_get (X := [(hrw, .inr (21, [.int (zI (z17_op)), .int (zI (z17_t)), .int (zI (z17_a)), .int (zI (z17_b)), .int (zI (z17_regA)), .int (zI (z17_regB)), v17_6]))]) (f := pE Pw_17) hX_x
  have hkp_19 := gkp_19
  rw [pE_row hy_18] at hkp_19
  have hD0 := hD
  refine va_put (D := (dC, dI)) (ci := 21) (v := .int (zI (0))) (ty := .boolean) (C := RX17) (T := TX17) (N := 7) hx hb hts mem_PR_putX_0 tyX17 tyX17_ok nmX17 hown hK hP hD hS kp_19 hkp_19 rfl 6 (by decide) (ow (k := 6) rfl) (fun _ h9 => h9) rfl (by decide +kernel) (zI_bool (by omega) (by omega)) (zI_fitb (by omega) (by omega)) (Nat.le_of_ble_eq_true rfl) dX17_put_50 (fun H locs hP hD hS => ?_)
  obtain ⟨Pw_20, ePw_20⟩ : ∃ q9 : PO, q9 = Pw_17.rw9 6 xr (0) := ⟨_, rfl⟩
  have eU : (([(hrw, .inr (21, [.int (zI (z17_op)), .int (zI (z17_t)), .int (zI (z17_a)), .int (zI (z17_b)), .int (zI (z17_regA)), .int (zI (z17_regB)), v17_6]))] : va_W) ++ va_pl L (pE Pw_17)).set kp_19 (xr, rowE (Pw_17.ro xr) (Pw_17.rt xr) (Pw_17.ra xr) (Pw_17.rb xr) (Pw_17.rA xr) (Pw_17.rB xr) (0)) = ([(hrw, .inr (21, [.int (zI (z17_op)), .int (zI (z17_t)), .int (zI (z17_a)), .int (zI (z17_b)), .int (zI (z17_regA)), .int (zI (z17_regB)), v17_6]))] : va_W) ++ va_pl L (pE Pw_20) := (by rw [va_pl_set hD0 hX_x gkp_19, ePw_20]; exact congrArg (fun f9 => ([(hrw, .inr (21, [.int (zI (z17_op)), .int (zI (z17_t)), .int (zI (z17_a)), .int (zI (z17_b)), .int (zI (z17_regA)), .int (zI (z17_regB)), v17_6]))] : va_W) ++ va_pl L f9) (put17_6 hy_18))
  have hP : va_P (dC, dI) vwQ ([(hrw, .inr (21, [.int (zI (z17_op)), .int (zI (z17_t)), .int (zI (z17_a)), .int (zI (z17_b)), .int (zI (z17_regA)), .int (zI (z17_regB)), v17_6]))] ++ va_pl L (pE Pw_20)) H := (by rw [← eU]; exact hP)
  have hD : va_D A ([(hrw, .inr (21, [.int (zI (z17_op)), .int (zI (z17_t)), .int (zI (z17_a)), .int (zI (z17_b)), .int (zI (z17_regA)), .int (zI (z17_regB)), v17_6]))] ++ va_pl L (pE Pw_20)) := (by rw [← eU]; exact hD)
  clear eU hD0 gkp_19 hkp_19
  have wPw_20 : RW1 xr Pw_17 Pw_20 := (by rw [ePw_20]; exact RW1.put _ _ _ _)
  have hy_21 : Pw_20.kd xr = 17 := (by rw [ePw_20]; exact hy_18)
  have : Pw_20.ro xr = Pw_17.ro xr := (by rw [ePw_20]; exact rw9_of _ (by decide))
  have : Pw_20.rt xr = Pw_17.rt xr := (by rw [ePw_20]; exact rw9_of _ (by decide))
  have : Pw_20.ra xr = Pw_17.ra xr := (by rw [ePw_20]; exact rw9_of _ (by decide))
  have : Pw_20.rb xr = Pw_17.rb xr := (by rw [ePw_20]; exact rw9_of _ (by decide))
  have : Pw_20.rA xr = Pw_17.rA xr := (by rw [ePw_20]; exact rw9_of _ (by decide))
  have : Pw_20.rB xr = Pw_17.rB xr := (by rw [ePw_20]; exact rw9_of _ (by decide))
  have : Pw_20.rg xr = 0 := (by rw [ePw_20]; exact rw9_at _ _ _ _)
  subst hQ
  refine W.widen (k := 0) (n := 0) (Nat.le_of_ble_eq_true rfl) (Nat.le_of_ble_eq_true rfl) ?_
  exact W.vret hx hb hr (fun t ht hW => ⟨⟨(), rfl, trivial, Pw_20, ⟨wPw_2.trans (wPw_5.trans (wPw_8.trans (wPw_11.trans (wPw_14.trans (wPw_17.trans (wPw_20)))))), by omega, by omega, by omega, by omega, by omega, by omega, by omega⟩, by rw [ht]; exact hP, va_K.moved hW.alike hK, hD⟩, hS.F ht⟩) hS.2.2 dX17_put_53
