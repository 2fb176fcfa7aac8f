def o_PR_put : List Cond := [.fieldLink RX17 9 "SsaForgeModel$Row" "op" "I", .fieldLink RX17 35 "SsaForgeModel$Row" "t" "I", .fieldLink RX17 26 "SsaForgeModel$Row" "a" "I", .fieldLink RX17 32 "SsaForgeModel$Row" "b" "I", .fieldLink RX17 15 "SsaForgeModel$Row" "regA" "Z", .fieldLink RX17 19 "SsaForgeModel$Row" "regB" "Z", .fieldLink RX17 38 "SsaForgeModel$Row" "gone" "Z"]
def v_PR_put : List Cond := .code yX17_put cX17_put 2 none :: (o_PR_put ++ (wsX170 ++ []))
theorem mow_PR_put : ∀ w ∈ o_PR_put, w ∈ v_PR_put := fun _ h => List.mem_cons_of_mem _ (List.mem_append_left _ h)
theorem mem_PR_put_0 : ∀ w ∈ wsX170, w ∈ v_PR_put := fun _ h => List.mem_cons_of_mem _ (List.mem_append_right _ (List.mem_append_left _ h))
set_option maxRecDepth 20000 in
theorem gw_PR_put : v_PR_put.all goodWord = true := by decide +kernel
set_option maxHeartbeats 4000000 in
set_option maxRecDepth 100000 in
theorem c_PR_put (l : Launch) (dC : Nat → ClassId) (dI : Nat → Nat → Nat) (cO : ClassId) (L : List Nat) (P : PO) (xr : Nat) (xo : Nat) (hX_x : xr ∈ L) (hX_k : P.kd xr = 17) (hX_y : xo ∈ L) (hX_j : P.kd xo = 17) (hX_n : xo ≠ xr) (hX_r : ROK9 P xo) (sz : Nat) : Met l yX17_put v_PR_put ({ frames := 0, cells := 0, slots := 0, locals := 0 }) (va_Pc [.ref xr, .ref xo] (fun U => U.heap.size = sz ∧ va_P (dC, dI) vwQ ([] ++ va_pl L (pE P)) U.heap ∧ va_K (dC, dI) vwQ [(cO, .object "java/lang/Object")] U ∧ va_D (fun _ => True) ([] ++ va_pl L (pE P)))) (va_Qv (fun _ : Unit => True) (fun (_ : Unit) (t : State) => ∃ (Pn_9 : PO), ((RW1 xr P Pn_9 ∧ Pn_9.ro xr = P.ro xo ∧ Pn_9.rt xr = P.rt xo ∧ Pn_9.ra xr = P.ra xo ∧ Pn_9.rb xr = P.rb xo ∧ Pn_9.rA xr = P.rA xo ∧ Pn_9.rB xr = P.rB xo ∧ Pn_9.rg xr = 0)) ∧ va_P (dC, dI) vwQ ([] ++ va_pl L (pE Pn_9)) t.heap ∧ va_K (dC, dI) vwQ [(cO, .object "java/lang/Object")] t ∧ va_D (va_A ([] ++ va_pl L (pE P)) sz) ([] ++ va_pl L (pE Pn_9))) (va_A ([] ++ va_pl L (pE P)) sz)) 0 0 (va_A ([] ++ va_pl L (pE P)) sz) := by
  refine Met.ofW (cc := cX17_put) (maxL := 2) (ret := none) (by decide) rfl ?_
  intro p e s m args below meth c s₁ B hml hv
  obtain ⟨rfl, hsz, hP, hK, hD0⟩ := hv
  have hx := B.exec
  have hb := B.bytes
  have hr := B.returns
  have hts := atoms_spec (ws := v_PR_put) B.pre
  have hown : s.vm.findClass RX17 = some m.cls := findClass_of_methodNamed B.named
  have hlocks := B.notSynchronized
  have ow : ∀ {k : Nat} {w : Cond}, o_PR_put[k]? = some w → w.before ([.ref xr, .ref xo] : List Value).toArray s = true := fun h => hts _ (mow_PR_put _ (List.mem_of_getElem? h))
  subst hsz
  have hD := hD0.self (sz := s.heap.size)
  generalize hAe : va_A ([] ++ va_pl L (pE P)) s.heap.size = A at hD ⊢
  have hA : ∀ q : Nat, s.heap.size ≤ q → A q := fun q h => by rw [← hAe]; exact Or.inr h
  have hS : va_S A s.heap s.heap [] := va_S.rf
  have hP : va_P (dC, dI) vwQ ([] ++ va_pl L (pE P)) s.heap := hP
  have hl := lv_entry ([.ref xr, .ref xo]) (n := 2) (Nat.le_of_ble_eq_true rfl)
  rw [lg_entry_eq]
  generalize (lg_sl ([.ref xr, .ref xo]) ++ List.replicate (2 - (lg_sl ([.ref xr, .ref xo])).length) Slot.unset).toArray = ls at hl ⊢
  have hl : lv_has ls 2 [(0, .ref xr), (1, .ref xo)] := hl
  obtain ⟨H, hH⟩ : ∃ H, H = s.heap := ⟨_, rfl⟩
  rw [← hH] at hP
  have hS : va_S A s.heap H [] := by rw [hH]; exact hS
  rw [← hH]
  refine zW_cap (fun Q hQ => ?_)
  have ⟨hr1, hr2, hr3, hr4, hr5, hr6, hr7, hr8, hr9⟩ := hX_r
  refine lv_aload_n hx hb dX17_put_0 rfl (lv_at hl 0 rfl) ?_
  refine lv_aload_n hx hb dX17_put_1 rfl (lv_at hl 1 rfl) ?_
  obtain ⟨kp_1, hkp_1⟩ := va_pl_get (X := []) (f := pE P) hX_y
  rw [pE_row hX_j] at hkp_1
  refine va_get (D := (dC, dI)) (ci := 21) (v := .int (zI (P.ro xo))) (C := RX17) (T := TX17) (N := 7) hx hb hts mem_PR_put_0 hown hK hP kp_1 hkp_1 rfl 0 (by decide) (ow (k := 0) rfl) (fun _ h9 => h9) rfl dX17_put_2 ?_
  obtain ⟨kp_2, gkp_2⟩ := va_pl_get (X := []) (f := pE P) hX_x
  have hkp_2 := gkp_2
  rw [pE_row hX_k] at hkp_2
  have hD0 := hD
  refine va_put (D := (dC, dI)) (ci := 21) (v := .int (zI (P.ro xo))) (ty := .int) (C := RX17) (T := TX17) (N := 7) hx hb hts mem_PR_put_0 tyX17 tyX17_ok nmX17 hown hK hP hD hS kp_2 hkp_2 rfl 0 (by decide) (ow (k := 0) rfl) (fun _ h9 => h9) rfl (by decide +kernel) rfl rfl (Nat.le_of_ble_eq_true rfl) dX17_put_5 (fun H locs hP hD hS => ?_)
  obtain ⟨Pw_3, ePw_3⟩ : ∃ q9 : PO, q9 = P.rw9 0 xr (P.ro xo) := ⟨_, rfl⟩
  have eU : (([] : va_W) ++ va_pl L (pE P)).set kp_2 (xr, rowE (P.ro xo) (P.rt xr) (P.ra xr) (P.rb xr) (P.rA xr) (P.rB xr) (P.rg xr)) = ([] : va_W) ++ va_pl L (pE Pw_3) := (by rw [va_pl_set hD0 hX_x gkp_2, ePw_3]; exact congrArg (fun f9 => ([] : va_W) ++ va_pl L f9) (put17_0 hX_k))
  have hP : va_P (dC, dI) vwQ ([] ++ va_pl L (pE Pw_3)) H := (by rw [← eU]; exact hP)
  have hD : va_D A ([] ++ va_pl L (pE Pw_3)) := (by rw [← eU]; exact hD)
  clear eU hD0 gkp_2 hkp_2
  have wPw_3 : RW1 xr P Pw_3 := (by rw [ePw_3]; exact RW1.put _ _ _ _)
  have hy_4 : Pw_3.kd xr = 17 := (by rw [ePw_3]; exact hX_k)
  have : Pw_3.ro xr = P.ro xo := (by rw [ePw_3]; exact rw9_at _ _ _ _)
  have : Pw_3.rt xr = P.rt xr := (by rw [ePw_3]; exact rw9_of _ (by decide))
  have : Pw_3.ra xr = P.ra xr := (by rw [ePw_3]; exact rw9_of _ (by decide))
  have : Pw_3.rb xr = P.rb xr := (by rw [ePw_3]; exact rw9_of _ (by decide))
  have : Pw_3.rA xr = P.rA xr := (by rw [ePw_3]; exact rw9_of _ (by decide))
  have : Pw_3.rB xr = P.rB xr := (by rw [ePw_3]; exact rw9_of _ (by decide))
  have : Pw_3.rg xr = P.rg xr := (by rw [ePw_3]; exact rw9_of _ (by decide))
  have hy_5 : Pw_3.kd xo = 17 := (by rw [ePw_3]; exact hX_j)
  have : Pw_3.ro xo = P.ro xo := wPw_3.2 _ hX_n _
  have : Pw_3.rt xo = P.rt xo := wPw_3.2 _ hX_n _
  have : Pw_3.ra xo = P.ra xo := wPw_3.2 _ hX_n _
  have : Pw_3.rb xo = P.rb xo := wPw_3.2 _ hX_n _
  have : Pw_3.rA xo = P.rA xo := wPw_3.2 _ hX_n _
  have : Pw_3.rB xo = P.rB xo := wPw_3.2 _ hX_n _
  have : Pw_3.rg xo = P.rg xo := wPw_3.2 _ hX_n _
  refine lv_aload_n hx hb dX17_put_8 rfl (lv_at hl 0 rfl) ?_
  refine lv_aload_n hx hb dX17_put_9 rfl (lv_at hl 1 rfl) ?_
  obtain ⟨kp_6, hkp_6⟩ := va_pl_get (X := []) (f := pE Pw_3) hX_y
  rw [pE_row hy_5] at hkp_6
  refine va_get (D := (dC, dI)) (ci := 21) (v := .int (zI (Pw_3.rt xo))) (C := RX17) (T := TX17) (N := 7) hx hb hts mem_PR_put_0 hown hK hP kp_6 hkp_6 rfl 1 (by decide) (ow (k := 1) rfl) (fun _ h9 => h9) rfl dX17_put_10 ?_
  obtain ⟨kp_7, gkp_7⟩ := va_pl_get (X := []) (f := pE Pw_3) hX_x
  have hkp_7 := gkp_7
  rw [pE_row hy_4] at hkp_7
  have hD0 := hD
  refine va_put (D := (dC, dI)) (ci := 21) (v := .int (zI (Pw_3.rt xo))) (ty := .int) (C := RX17) (T := TX17) (N := 7) hx hb hts mem_PR_put_0 tyX17 tyX17_ok nmX17 hown hK hP hD hS kp_7 hkp_7 rfl 1 (by decide) (ow (k := 1) rfl) (fun _ h9 => h9) rfl (by decide +kernel) rfl rfl (Nat.le_of_ble_eq_true rfl) dX17_put_13 (fun H locs hP hD hS => ?_)
  obtain ⟨Pw_8, ePw_8⟩ : ∃ q9 : PO, q9 = Pw_3.rw9 1 xr (Pw_3.rt xo) := ⟨_, rfl⟩
  have eU : (([] : va_W) ++ va_pl L (pE Pw_3)).set kp_7 (xr, rowE (Pw_3.ro xr) (Pw_3.rt xo) (Pw_3.ra xr) (Pw_3.rb xr) (Pw_3.rA xr) (Pw_3.rB xr) (Pw_3.rg xr)) = ([] : va_W) ++ va_pl L (pE Pw_8) := (by rw [va_pl_set hD0 hX_x gkp_7, ePw_8]; exact congrArg (fun f9 => ([] : va_W) ++ va_pl L f9) (put17_1 hy_4))
  have hP : va_P (dC, dI) vwQ ([] ++ va_pl L (pE Pw_8)) H := (by rw [← eU]; exact hP)
  have hD : va_D A ([] ++ va_pl L (pE Pw_8)) := (by rw [← eU]; exact hD)
  clear eU hD0 gkp_7 hkp_7
  have wPw_8 : RW1 xr Pw_3 Pw_8 := (by rw [ePw_8]; exact RW1.put _ _ _ _)
  have hy_9 : Pw_8.kd xr = 17 := (by rw [ePw_8]; exact hy_4)
  have : Pw_8.ro xr = Pw_3.ro xr := (by rw [ePw_8]; exact rw9_of _ (by decide))
  have : Pw_8.rt xr = Pw_3.rt xo := (by rw [ePw_8]; exact rw9_at _ _ _ _)
  have : Pw_8.ra xr = Pw_3.ra xr := (by rw [ePw_8]; exact rw9_of _ (by decide))
  have : Pw_8.rb xr = Pw_3.rb xr := (by rw [ePw_8]; exact rw9_of _ (by decide))
  have : Pw_8.rA xr = Pw_3.rA xr := (by rw [ePw_8]; exact rw9_of _ (by decide))
  have : Pw_8.rB xr = Pw_3.rB xr := (by rw [ePw_8]; exact rw9_of _ (by decide))
  have : Pw_8.rg xr = Pw_3.rg xr := (by rw [ePw_8]; exact rw9_of _ (by decide))
  have hy_10 : Pw_8.kd xo = 17 := (by rw [ePw_8]; exact hy_5)
  have : Pw_8.ro xo = Pw_3.ro xo := wPw_8.2 _ hX_n _
  have : Pw_8.rt xo = Pw_3.rt xo := wPw_8.2 _ hX_n _
  have : Pw_8.ra xo = Pw_3.ra xo := wPw_8.2 _ hX_n _
  have : Pw_8.rb xo = Pw_3.rb xo := wPw_8.2 _ hX_n _
  have : Pw_8.rA xo = Pw_3.rA xo := wPw_8.2 _ hX_n _
  have : Pw_8.rB xo = Pw_3.rB xo := wPw_8.2 _ hX_n _
  have : Pw_8.rg xo = Pw_3.rg xo := wPw_8.2 _ hX_n _
  refine lv_aload_n hx hb dX17_put_16 rfl (lv_at hl 0 rfl) ?_
  refine lv_aload_n hx hb dX17_put_17 rfl (lv_at hl 1 rfl) ?_
  obtain ⟨kp_11, hkp_11⟩ := va_pl_get (X := []) (f := pE Pw_8) hX_y
  rw [pE_row hy_10] at hkp_11
  refine va_get (D := (dC, dI)) (ci := 21) (v := .int (zI (Pw_8.ra xo))) (C := RX17) (T := TX17) (N := 7) hx hb hts mem_PR_put_0 hown hK hP kp_11 hkp_11 rfl 2 (by decide) (ow (k := 2) rfl) (fun _ h9 => h9) rfl dX17_put_18 ?_
  obtain ⟨kp_12, gkp_12⟩ := va_pl_get (X := []) (f := pE Pw_8) hX_x
  have hkp_12 := gkp_12
  rw [pE_row hy_9] at hkp_12
  have hD0 := hD
  refine va_put (D := (dC, dI)) (ci := 21) (v := .int (zI (Pw_8.ra xo))) (ty := .int) (C := RX17) (T := TX17) (N := 7) hx hb hts mem_PR_put_0 tyX17 tyX17_ok nmX17 hown hK hP hD hS kp_12 hkp_12 rfl 2 (by decide) (ow (k := 2) rfl) (fun _ h9 => h9) rfl (by decide +kernel) rfl rfl (Nat.le_of_ble_eq_true rfl) dX17_put_21 (fun H locs hP hD hS => ?_)
  obtain ⟨Pw_13, ePw_13⟩ : ∃ q9 : PO, q9 = Pw_8.rw9 2 xr (Pw_8.ra xo) := ⟨_, rfl⟩
  have eU : (([] : va_W) ++ va_pl L (pE Pw_8)).set kp_12 (xr, rowE (Pw_8.ro xr) (Pw_8.rt xr) (Pw_8.ra xo) (Pw_8.rb xr) (Pw_8.rA xr) (Pw_8.rB xr) (Pw_8.rg xr)) = ([] : va_W) ++ va_pl L (pE Pw_13) := (by rw [va_pl_set hD0 hX_x gkp_12, ePw_13]; exact congrArg (fun f9 => ([] : va_W) ++ va_pl L f9) (put17_2 hy_9))
  have hP : va_P (dC, dI) vwQ ([] ++ va_pl L (pE Pw_13)) H := (by rw [← eU]; exact hP)
  have hD : va_D A ([] ++ va_pl L (pE Pw_13)) := (by rw [← eU]; exact hD)
  clear eU hD0 gkp_12 hkp_12
  have wPw_13 : RW1 xr Pw_8 Pw_13 := (by rw [ePw_13]; exact RW1.put _ _ _ _)
  have hy_14 : Pw_13.kd xr = 17 := (by rw [ePw_13]; exact hy_9)
  have : Pw_13.ro xr = Pw_8.ro xr := (by rw [ePw_13]; exact rw9_of _ (by decide))
  have : Pw_13.rt xr = Pw_8.rt xr := (by rw [ePw_13]; exact rw9_of _ (by decide))
  have : Pw_13.ra xr = Pw_8.ra xo := (by rw [ePw_13]; exact rw9_at _ _ _ _)
  have : Pw_13.rb xr = Pw_8.rb xr := (by rw [ePw_13]; exact rw9_of _ (by decide))
  have : Pw_13.rA xr = Pw_8.rA xr := (by rw [ePw_13]; exact rw9_of _ (by decide))
  have : Pw_13.rB xr = Pw_8.rB xr := (by rw [ePw_13]; exact rw9_of _ (by decide))
  have : Pw_13.rg xr = Pw_8.rg xr := (by rw [ePw_13]; exact rw9_of _ (by decide))
  have hy_15 : Pw_13.kd xo = 17 := (by rw [ePw_13]; exact hy_10)
  have : Pw_13.ro xo = Pw_8.ro xo := wPw_13.2 _ hX_n _
  have : Pw_13.rt xo = Pw_8.rt xo := wPw_13.2 _ hX_n _
  have : Pw_13.ra xo = Pw_8.ra xo := wPw_13.2 _ hX_n _
  have : Pw_13.rb xo = Pw_8.rb xo := wPw_13.2 _ hX_n _
  have : Pw_13.rA xo = Pw_8.rA xo := wPw_13.2 _ hX_n _
  have : Pw_13.rB xo = Pw_8.rB xo := wPw_13.2 _ hX_n _
  have : Pw_13.rg xo = Pw_8.rg xo := wPw_13.2 _ hX_n _
  refine lv_aload_n hx hb dX17_put_24 rfl (lv_at hl 0 rfl) ?_
  refine lv_aload_n hx hb dX17_put_25 rfl (lv_at hl 1 rfl) ?_
  obtain ⟨kp_16, hkp_16⟩ := va_pl_get (X := []) (f := pE Pw_13) hX_y
  rw [pE_row hy_15] at hkp_16
  refine va_get (D := (dC, dI)) (ci := 21) (v := .int (zI (Pw_13.rb xo))) (C := RX17) (T := TX17) (N := 7) hx hb hts mem_PR_put_0 hown hK hP kp_16 hkp_16 rfl 3 (by decide) (ow (k := 3) rfl) (fun _ h9 => h9) rfl dX17_put_26 ?_
  obtain ⟨kp_17, gkp_17⟩ := va_pl_get (X := []) (f := pE Pw_13) hX_x
  have hkp_17 := gkp_17
  rw [pE_row hy_14] at hkp_17
  have hD0 := hD
  refine va_put (D := (dC, dI)) (ci := 21) (v := .int (zI (Pw_13.rb xo))) (ty := .int) (C := RX17) (T := TX17) (N := 7) hx hb hts mem_PR_put_0 tyX17 tyX17_ok nmX17 hown hK hP hD hS kp_17 hkp_17 rfl 3 (by decide) (ow (k := 3) rfl) (fun _ h9 => h9) rfl (by decide +kernel) rfl rfl (Nat.le_of_ble_eq_true rfl) dX17_put_29 (fun H locs hP hD hS => ?_)
  obtain ⟨Pw_18, ePw_18⟩ : ∃ q9 : PO, q9 = Pw_13.rw9 3 xr (Pw_13.rb xo) := ⟨_, rfl⟩
  have eU : (([] : va_W) ++ va_pl L (pE Pw_13)).set kp_17 (xr, rowE (Pw_13.ro xr) (Pw_13.rt xr) (Pw_13.ra xr) (Pw_13.rb xo) (Pw_13.rA xr) (Pw_13.rB xr) (Pw_13.rg xr)) = ([] : va_W) ++ va_pl L (pE Pw_18) := (by rw [va_pl_set hD0 hX_x gkp_17, ePw_18]; exact congrArg (fun f9 => ([] : va_W) ++ va_pl L f9) (put17_3 hy_14))
  have hP : va_P (dC, dI) vwQ ([] ++ va_pl L (pE Pw_18)) H := (by rw [← eU]; exact hP)
  have hD : va_D A ([] ++ va_pl L (pE Pw_18)) := (by rw [← eU]; exact hD)
  clear eU hD0 gkp_17 hkp_17
  have wPw_18 : RW1 xr Pw_13 Pw_18 := (by rw [ePw_18]; exact RW1.put _ _ _ _)
  have hy_19 : Pw_18.kd xr = 17 := (by rw [ePw_18]; exact hy_14)
  have : Pw_18.ro xr = Pw_13.ro xr := (by rw [ePw_18]; exact rw9_of _ (by decide))
  have : Pw_18.rt xr = Pw_13.rt xr := (by rw [ePw_18]; exact rw9_of _ (by decide))
  have : Pw_18.ra xr = Pw_13.ra xr := (by rw [ePw_18]; exact rw9_of _ (by decide))
  have : Pw_18.rb xr = Pw_13.rb xo := (by rw [ePw_18]; exact rw9_at _ _ _ _)
  have : Pw_18.rA xr = Pw_13.rA xr := (by rw [ePw_18]; exact rw9_of _ (by decide))
  have : Pw_18.rB xr = Pw_13.rB xr := (by rw [ePw_18]; exact rw9_of _ (by decide))
  have : Pw_18.rg xr = Pw_13.rg xr := (by rw [ePw_18]; exact rw9_of _ (by decide))
  have hy_20 : Pw_18.kd xo = 17 := (by rw [ePw_18]; exact hy_15)
  have : Pw_18.ro xo = Pw_13.ro xo := wPw_18.2 _ hX_n _
  have : Pw_18.rt xo = Pw_13.rt xo := wPw_18.2 _ hX_n _
  have : Pw_18.ra xo = Pw_13.ra xo := wPw_18.2 _ hX_n _
  have : Pw_18.rb xo = Pw_13.rb xo := wPw_18.2 _ hX_n _
  have : Pw_18.rA xo = Pw_13.rA xo := wPw_18.2 _ hX_n _
  have : Pw_18.rB xo = Pw_13.rB xo := wPw_18.2 _ hX_n _
  have : Pw_18.rg xo = Pw_13.rg xo := wPw_18.2 _ hX_n _
  refine lv_aload_n hx hb dX17_put_32 rfl (lv_at hl 0 rfl) ?_
  refine lv_aload_n hx hb dX17_put_33 rfl (lv_at hl 1 rfl) ?_
  obtain ⟨kp_21, hkp_21⟩ := va_pl_get (X := []) (f := pE Pw_18) hX_y
  rw [pE_row hy_20] at hkp_21
  refine va_get (D := (dC, dI)) (ci := 21) (v := .int (zI (Pw_18.rA xo))) (C := RX17) (T := TX17) (N := 7) hx hb hts mem_PR_put_0 hown hK hP kp_21 hkp_21 rfl 4 (by decide) (ow (k := 4) rfl) (fun _ h9 => h9) rfl dX17_put_34 ?_
  obtain ⟨kp_22, gkp_22⟩ := va_pl_get (X := []) (f := pE Pw_18) hX_x
  have hkp_22 := gkp_22
  rw [pE_row hy_19] at hkp_22
  have hD0 := hD
  refine va_put (D := (dC, dI)) (ci := 21) (v := .int (zI (Pw_18.rA xo))) (ty := .boolean) (C := RX17) (T := TX17) (N := 7) hx hb hts mem_PR_put_0 tyX17 tyX17_ok nmX17 hown hK hP hD hS kp_22 hkp_22 rfl 4 (by decide) (ow (k := 4) rfl) (fun _ h9 => h9) rfl (by decide +kernel) (zI_bool (by omega) (by omega)) (zI_fitb (by omega) (by omega)) (Nat.le_of_ble_eq_true rfl) dX17_put_37 (fun H locs hP hD hS => ?_)
  obtain ⟨Pw_23, ePw_23⟩ : ∃ q9 : PO, q9 = Pw_18.rw9 4 xr (Pw_18.rA xo) := ⟨_, rfl⟩
  have eU : (([] : va_W) ++ va_pl L (pE Pw_18)).set kp_22 (xr, rowE (Pw_18.ro xr) (Pw_18.rt xr) (Pw_18.ra xr) (Pw_18.rb xr) (Pw_18.rA xo) (Pw_18.rB xr) (Pw_18.rg xr)) = ([] : va_W) ++ va_pl L (pE Pw_23) := (by rw [va_pl_set hD0 hX_x gkp_22, ePw_23]; exact congrArg (fun f9 => ([] : va_W) ++ va_pl L f9) (put17_4 hy_19))
  have hP : va_P (dC, dI) vwQ ([] ++ va_pl L (pE Pw_23)) H := (by rw [← eU]; exact hP)
  have hD : va_D A ([] ++ va_pl L (pE Pw_23)) := (by rw [← eU]; exact hD)
  clear eU hD0 gkp_22 hkp_22
  have wPw_23 : RW1 xr Pw_18 Pw_23 := (by rw [ePw_23]; exact RW1.put _ _ _ _)
  have hy_24 : Pw_23.kd xr = 17 := (by rw [ePw_23]; exact hy_19)
  have : Pw_23.ro xr = Pw_18.ro xr := (by rw [ePw_23]; exact rw9_of _ (by decide))
  have : Pw_23.rt xr = Pw_18.rt xr := (by rw [ePw_23]; exact rw9_of _ (by decide))
  have : Pw_23.ra xr = Pw_18.ra xr := (by rw [ePw_23]; exact rw9_of _ (by decide))
  have : Pw_23.rb xr = Pw_18.rb xr := (by rw [ePw_23]; exact rw9_of _ (by decide))
  have : Pw_23.rA xr = Pw_18.rA xo := (by rw [ePw_23]; exact rw9_at _ _ _ _)
  have : Pw_23.rB xr = Pw_18.rB xr := (by rw [ePw_23]; exact rw9_of _ (by decide))
  have : Pw_23.rg xr = Pw_18.rg xr := (by rw [ePw_23]; exact rw9_of _ (by decide))
  have hy_25 : Pw_23.kd xo = 17 := (by rw [ePw_23]; exact hy_20)
  have : Pw_23.ro xo = Pw_18.ro xo := wPw_23.2 _ hX_n _
  have : Pw_23.rt xo = Pw_18.rt xo := wPw_23.2 _ hX_n _
  have : Pw_23.ra xo = Pw_18.ra xo := wPw_23.2 _ hX_n _
  have : Pw_23.rb xo = Pw_18.rb xo := wPw_23.2 _ hX_n _
  have : Pw_23.rA xo = Pw_18.rA xo := wPw_23.2 _ hX_n _
  have : Pw_23.rB xo = Pw_18.rB xo := wPw_23.2 _ hX_n _
  have : Pw_23.rg xo = Pw_18.rg xo := wPw_23.2 _ hX_n _
  refine lv_aload_n hx hb dX17_put_40 rfl (lv_at hl 0 rfl) ?_
  refine lv_aload_n hx hb dX17_put_41 rfl (lv_at hl 1 rfl) ?_
  obtain ⟨kp_26, hkp_26⟩ := va_pl_get (X := []) (f := pE Pw_23) hX_y
  rw [pE_row hy_25] at hkp_26
  refine va_get (D := (dC, dI)) (ci := 21) (v := .int (zI (Pw_23.rB xo))) (C := RX17) (T := TX17) (N := 7) hx hb hts mem_PR_put_0 hown hK hP kp_26 hkp_26 rfl 5 (by decide) (ow (k := 5) rfl) (fun _ h9 => h9) rfl dX17_put_42 ?_
  obtain ⟨kp_27, gkp_27⟩ := va_pl_get (X := []) (f := pE Pw_23) hX_x
  have hkp_27 := gkp_27
  rw [pE_row hy_24] at hkp_27
  have hD0 := hD
  refine va_put (D := (dC, dI)) (ci := 21) (v := .int (zI (Pw_23.rB xo))) (ty := .boolean) (C := RX17) (T := TX17) (N := 7) hx hb hts mem_PR_put_0 tyX17 tyX17_ok nmX17 hown hK hP hD hS kp_27 hkp_27 rfl 5 (by decide) (ow (k := 5) rfl) (fun _ h9 => h9) rfl (by decide +kernel) (zI_bool (by omega) (by omega)) (zI_fitb (by omega) (by omega)) (Nat.le_of_ble_eq_true rfl) dX17_put_45 (fun H locs hP hD hS => ?_)
  obtain ⟨Pw_28, ePw_28⟩ : ∃ q9 : PO, q9 = Pw_23.rw9 5 xr (Pw_23.rB xo) := ⟨_, rfl⟩
  have eU : (([] : va_W) ++ va_pl L (pE Pw_23)).set kp_27 (xr, rowE (Pw_23.ro xr) (Pw_23.rt xr) (Pw_23.ra xr) (Pw_23.rb xr) (Pw_23.rA xr) (Pw_23.rB xo) (Pw_23.rg xr)) = ([] : va_W) ++ va_pl L (pE Pw_28) := (by rw [va_pl_set hD0 hX_x gkp_27, ePw_28]; exact congrArg (fun f9 => ([] : va_W) ++ va_pl L f9) (put17_5 hy_24))
  have hP : va_P (dC, dI) vwQ ([] ++ va_pl L (pE Pw_28)) H := (by rw [← eU]; exact hP)
  have hD : va_D A ([] ++ va_pl L (pE Pw_28)) := (by rw [← eU]; exact hD)
  clear eU hD0 gkp_27 hkp_27
  have wPw_28 : RW1 xr Pw_23 Pw_28 := (by rw [ePw_28]; exact RW1.put _ _ _ _)
  have hy_29 : Pw_28.kd xr = 17 := (by rw [ePw_28]; exact hy_24)
  have : Pw_28.ro xr = Pw_23.ro xr := (by rw [ePw_28]; exact rw9_of _ (by decide))
  have : Pw_28.rt xr = Pw_23.rt xr := (by rw [ePw_28]; exact rw9_of _ (by decide))
  have : Pw_28.ra xr = Pw_23.ra xr := (by rw [ePw_28]; exact rw9_of _ (by decide))
  have : Pw_28.rb xr = Pw_23.rb xr := (by rw [ePw_28]; exact rw9_of _ (by decide))
  have : Pw_28.rA xr = Pw_23.rA xr := (by rw [ePw_28]; exact rw9_of _ (by decide))
  have : Pw_28.rB xr = Pw_23.rB xo := (by rw [ePw_28]; exact rw9_at _ _ _ _)
  have : Pw_28.rg xr = Pw_23.rg xr := (by rw [ePw_28]; exact rw9_of _ (by decide))
  have hy_30 : Pw_28.kd xo = 17 := (by rw [ePw_28]; exact hy_25)
  have : Pw_28.ro xo = Pw_23.ro xo := wPw_28.2 _ hX_n _
  have : Pw_28.rt xo = Pw_23.rt xo := wPw_28.2 _ hX_n _
  have : Pw_28.ra xo = Pw_23.ra xo := wPw_28.2 _ hX_n _
  have : Pw_28.rb xo = Pw_23.rb xo := wPw_28.2 _ hX_n _
  have : Pw_28.rA xo = Pw_23.rA xo := wPw_28.2 _ hX_n _
  have : Pw_28.rB xo = Pw_23.rB xo := wPw_28.2 _ hX_n _
  have : Pw_28.rg xo = Pw_23.rg xo := wPw_28.2 _ hX_n _
  refine lv_aload_n hx hb dX17_put_48 rfl (lv_at hl 0 rfl) ?_
  refine lv_iconst (v := 0) hx hb dX17_put_49 (by decide) ?_
  refine lv_topi (fun z ez => ?_)
  obtain rfl : z = zI (0) := ez
  obtain ⟨kp_31, gkp_31⟩ := va_pl_get (X := []) (f := pE Pw_28) hX_x
  have hkp_31 := gkp_31
  rw [pE_row hy_29] at hkp_31
  have hD0 := hD
  refine va_put (D := (dC, dI)) (ci := 21) (v := .int (zI (0))) (ty := .boolean) (C := RX17) (T := TX17) (N := 7) hx hb hts mem_PR_put_0 tyX17 tyX17_ok nmX17 hown hK hP hD hS kp_31 hkp_31 rfl 6 (by decide) (ow (k := 6) rfl) (fun _ h9 => h9) rfl (by decide +kernel) (zI_bool (by omega) (by omega)) (zI_fitb (by omega) (by omega)) (Nat.le_of_ble_eq_true rfl) dX17_put_50 (fun H locs hP hD hS => ?_)
  obtain ⟨Pw_32, ePw_32⟩ : ∃ q9 : PO, q9 = Pw_28.rw9 6 xr (0) := ⟨_, rfl⟩
  have eU : (([] : va_W) ++ va_pl L (pE Pw_28)).set kp_31 (xr, rowE (Pw_28.ro xr) (Pw_28.rt xr) (Pw_28.ra xr) (Pw_28.rb xr) (Pw_28.rA xr) (Pw_28.rB xr) (0)) = ([] : va_W) ++ va_pl L (pE Pw_32) := (by rw [va_pl_set hD0 hX_x gkp_31, ePw_32]; exact congrArg (fun f9 => ([] : va_W) ++ va_pl L f9) (put17_6 hy_29))
  have hP : va_P (dC, dI) vwQ ([] ++ va_pl L (pE Pw_32)) H := (by rw [← eU]; exact hP)
  have hD : va_D A ([] ++ va_pl L (pE Pw_32)) := (by rw [← eU]; exact hD)
  clear eU hD0 gkp_31 hkp_31
  have wPw_32 : RW1 xr Pw_28 Pw_32 := (by rw [ePw_32]; exact RW1.put _ _ _ _)
  have hy_33 : Pw_32.kd xr = 17 := (by rw [ePw_32]; exact hy_29)
  have : Pw_32.ro xr = Pw_28.ro xr := (by rw [ePw_32]; exact rw9_of _ (by decide))
  have : Pw_32.rt xr = Pw_28.rt xr := (by rw [ePw_32]; exact rw9_of _ (by decide))
  have : Pw_32.ra xr = Pw_28.ra xr := (by rw [ePw_32]; exact rw9_of _ (by decide))
  have : Pw_32.rb xr = Pw_28.rb xr := (by rw [ePw_32]; exact rw9_of _ (by decide))
  have : Pw_32.rA xr = Pw_28.rA xr := (by rw [ePw_32]; exact rw9_of _ (by decide))
  have : Pw_32.rB xr = Pw_28.rB xr := (by rw [ePw_32]; exact rw9_of _ (by decide))
  have : Pw_32.rg xr = 0 := (by rw [ePw_32]; exact rw9_at _ _ _ _)
  have hy_34 : Pw_32.kd xo = 17 := (by rw [ePw_32]; exact hy_30)
  have : Pw_32.ro xo = Pw_28.ro xo := wPw_32.2 _ hX_n _
  have : Pw_32.rt xo = Pw_28.rt xo := wPw_32.2 _ hX_n _
  have : Pw_32.ra xo = Pw_28.ra xo := wPw_32.2 _ hX_n _
  have : Pw_32.rb xo = Pw_28.rb xo := wPw_32.2 _ hX_n _
  have : Pw_32.rA xo = Pw_28.rA xo := wPw_32.2 _ hX_n _
  have : Pw_32.rB xo = Pw_28.rB xo := wPw_32.2 _ hX_n _
  have : Pw_32.rg xo = Pw_28.rg xo := wPw_32.2 _ hX_n _
  subst hQ
  refine W.widen (k := 0) (n := 0) (Nat.le_of_ble_eq_true rfl) (Nat.le_of_ble_eq_true rfl) ?_
  exact W.vret hx hb hr (fun t ht hW => ⟨⟨(), rfl, trivial, Pw_32, ⟨wPw_3.trans (wPw_8.trans (wPw_13.trans (wPw_18.trans (wPw_23.trans (wPw_28.trans (wPw_32)))))), by omega, by omega, by omega, by omega, by omega, by omega, by omega⟩, by rw [ht]; exact hP, va_K.moved hW.alike hK, hD⟩, hS.F ht⟩) hS.2.2 dX17_put_53
