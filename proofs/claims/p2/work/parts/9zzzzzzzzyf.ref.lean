theorem dX19_word__0 : decode cX19_word_ 0 = .ok (.aload_n 0, 1) := by decide +kernel
theorem dX19_word__1 : decode cX19_word_ 1 = .ok (.iconst 0, 1) := by decide +kernel
theorem dX19_word__2 : decode cX19_word_ 2 = .ok (.putfield 560, 3) := by decide +kernel
theorem dX19_word__5 : decode cX19_word_ 5 = .ok (.iload_n 1, 1) := by decide +kernel
theorem dX19_word__6 : decode cX19_word_ 6 = .ok (.ifCond .lt 11, 3) := by decide +kernel
theorem dX19_word__17 : decode cX19_word_ 17 = .ok (.aload_n 0, 1) := by decide +kernel
theorem dX19_word__18 : decode cX19_word_ 18 = .ok (.iconst 1, 1) := by decide +kernel
theorem dX19_word__19 : decode cX19_word_ 19 = .ok (.invokevirtual 565, 3) := by decide +kernel
theorem dX19_word__22 : decode cX19_word_ 22 = .ok (.i2l, 1) := by decide +kernel
theorem dX19_word__23 : decode cX19_word_ 23 = .ok (.lreturn, 1) := by decide +kernel
theorem dX19_word__9 : decode cX19_word_ 9 = .ok (.iload_n 1, 1) := by decide +kernel
theorem dX19_word__10 : decode cX19_word_ 10 = .ok (.aload_n 0, 1) := by decide +kernel
theorem dX19_word__11 : decode cX19_word_ 11 = .ok (.getfield 635, 3) := by decide +kernel
theorem dX19_word__14 : decode cX19_word_ 14 = .ok (.if_icmp .lt 10, 3) := by decide +kernel
theorem dX19_word__24 : decode cX19_word_ 24 = .ok (.lconst 0, 1) := by decide +kernel
theorem dX19_word__25 : decode cX19_word_ 25 = .ok (.lstore_n 2, 1) := by decide +kernel
theorem dX19_word__26 : decode cX19_word_ 26 = .ok (.iconst 0, 1) := by decide +kernel
theorem dX19_word__27 : decode cX19_word_ 27 = .ok (.istore 4, 2) := by decide +kernel
theorem dX19_word__29 : decode cX19_word_ 29 = .ok (.iload 4, 2) := by decide +kernel
theorem dX19_word__31 : decode cX19_word_ 31 = .ok (.bipush 8, 2) := by decide +kernel
theorem dX19_word__33 : decode cX19_word_ 33 = .ok (.if_icmp .ge 44, 3) := by decide +kernel
theorem dX19_word__77 : decode cX19_word_ 77 = .ok (.lload_n 2, 1) := by decide +kernel
theorem dX19_word__78 : decode cX19_word_ 78 = .ok (.lreturn, 1) := by decide +kernel
theorem dX19_word__36 : decode cX19_word_ 36 = .ok (.lload_n 2, 1) := by decide +kernel
theorem dX19_word__37 : decode cX19_word_ 37 = .ok (.bipush 8, 2) := by decide +kernel
theorem dX19_word__39 : decode cX19_word_ 39 = .ok (.lshl, 1) := by decide +kernel
theorem dX19_word__40 : decode cX19_word_ 40 = .ok (.iload_n 1, 1) := by decide +kernel
theorem dX19_word__41 : decode cX19_word_ 41 = .ok (.iload 4, 2) := by decide +kernel
theorem dX19_word__43 : decode cX19_word_ 43 = .ok (.iadd, 1) := by decide +kernel
theorem dX19_word__44 : decode cX19_word_ 44 = .ok (.aload_n 0, 1) := by decide +kernel
theorem dX19_word__45 : decode cX19_word_ 45 = .ok (.getfield 635, 3) := by decide +kernel
theorem dX19_word__48 : decode cX19_word_ 48 = .ok (.if_icmp .ge 19, 3) := by decide +kernel
theorem dX19_word__67 : decode cX19_word_ 67 = .ok (.iconst 0, 1) := by decide +kernel
theorem dX19_word__68 : decode cX19_word_ 68 = .ok (.i2l, 1) := by decide +kernel
theorem dX19_word__69 : decode cX19_word_ 69 = .ok (.lor, 1) := by decide +kernel
theorem dX19_word__70 : decode cX19_word_ 70 = .ok (.lstore_n 2, 1) := by decide +kernel
theorem dX19_word__71 : decode cX19_word_ 71 = .ok (.iinc 4 1, 3) := by decide +kernel
theorem dX19_word__74 : decode cX19_word_ 74 = .ok (.goto (-45), 3) := by decide +kernel
theorem dX19_word__51 : decode cX19_word_ 51 = .ok (.aload_n 0, 1) := by decide +kernel
theorem dX19_word__52 : decode cX19_word_ 52 = .ok (.getfield 558, 3) := by decide +kernel
theorem dX19_word__55 : decode cX19_word_ 55 = .ok (.iload_n 1, 1) := by decide +kernel
theorem dX19_word__56 : decode cX19_word_ 56 = .ok (.iload 4, 2) := by decide +kernel
theorem dX19_word__58 : decode cX19_word_ 58 = .ok (.iadd, 1) := by decide +kernel
theorem dX19_word__59 : decode cX19_word_ 59 = .ok (.baload, 1) := by decide +kernel
theorem dX19_word__60 : decode cX19_word_ 60 = .ok (.sipush 255, 3) := by decide +kernel
theorem dX19_word__63 : decode cX19_word_ 63 = .ok (.iand, 1) := by decide +kernel
theorem dX19_word__64 : decode cX19_word_ 64 = .ok (.goto 4, 3) := by decide +kernel
def o_X19_wordL : List Cond := [.fieldLink RX19 560 "SsaForgeModel" "thrown" "I", .methodLink RX19 565 yX19_no, .instanceMethod yX19_no, .selects RX19 yX19_no yX19_no, .initialized RX19, .fieldLink RX19 635 "SsaForgeModel" "results" "I", .fieldLink RX19 558 "SsaForgeModel" "result" "[B"]
def v_X19_wordL : List Cond := .code yX19_word_ cX19_word_ 5 (some .long) :: (o_X19_wordL ++ (wsX190 ++ (v_X19_no ++ [])))
theorem mow_X19_wordL : ∀ w ∈ o_X19_wordL, w ∈ v_X19_wordL := fun _ h => List.mem_cons_of_mem _ (List.mem_append_left _ h)
theorem mem_X19_wordL_0 : ∀ w ∈ wsX190, w ∈ v_X19_wordL := fun _ h => List.mem_cons_of_mem _ (List.mem_append_right _ (List.mem_append_left _ h))
theorem mem_X19_wordL_1 : ∀ w ∈ v_X19_no, w ∈ v_X19_wordL := fun _ h => List.mem_cons_of_mem _ (List.mem_append_right _ (List.mem_append_right _ (List.mem_append_left _ h)))
set_option maxRecDepth 20000 in
theorem gw_X19_wordL : v_X19_wordL.all goodWord = true := by decide +kernel
set_option maxRecDepth 20000 in
theorem g_X19_wordL_X19_no : GoodIn v_X19_wordL (wsV RX19 565 RX19 yX19_no v_X19_no) := goodIn_app (goodIn_sub (fun w h => mow_X19_wordL w (by revert w h; decide +kernel)) (by decide +kernel)) (goodIn_sub mem_X19_wordL_1 gw_X19_no)
set_option maxHeartbeats 4000000 in
set_option maxRecDepth 100000 in
theorem c_X19_wordL (l : Launch) (dC : Nat → ClassId) (dI : Nat → Nat → Nat) (h0 : Nat) (v19_0 : Value) (v19_1 : Value) (v19_2 : Value) (v19_3 : Value) (v19_4 : Value) (v19_5 : Value) (v19_6 : Value) (v19_7 : Value) (v19_8 : Value) (v19_9 : Value) (v19_10 : Value) (v19_11 : Value) (v19_12 : Value) (v19_13 : Value) (v19_14 : Value) (v19_15 : Value) (v19_16 : Value) (v19_17 : Value) (v19_18 : Value) (v19_19 : Value) (v19_20 : Value) (v19_21 : Value) (v19_22 : Value) (v19_23 : Value) (v19_24 : Value) (v19_25 : Value) (v19_26 : Value) (v19_27 : Value) (v19_28 : Value) (v19_29 : Value) (v19_30 : Value) (v19_31 : Value) (v19_32 : Value) (z19_thrown : Int) (v19_34 : Value) (v19_35 : Value) (v19_36 : Value) (v19_37 : Value) (z19_results : Int) (v19_40 : Value) (q_rs : Nat) (cT : ClassId) (nr : Nat) (a_rs : Int → Int) (n0 : Int) (hNz19_thrown : 0 ≤ z19_thrown ∧ z19_thrown ≤ 2) (hNz19_results : 0 ≤ z19_results ∧ z19_results ≤ 65536) (hNnr : nr ≤ 200000) (hR_a_rs : ∀ j : Int, -128 ≤ a_rs j ∧ a_rs j ≤ 127) (hNn : -2147483648 ≤ n0 ∧ n0 ≤ 2147483647) (hNl : z19_results ≤ nr) (sz : Nat) : Met l yX19_word_ v_X19_wordL ({ frames := 1, cells := 0, slots := 0, locals := 21 }) (va_Pc [.ref h0, .int (zI (n0))] (fun U => U.heap.size = sz ∧ va_P (dC, dI) vwQ [(h0, .inr (16, [v19_0, v19_1, v19_2, v19_3, v19_4, v19_5, v19_6, v19_7, v19_8, v19_9, v19_10, v19_11, v19_12, v19_13, v19_14, v19_15, v19_16, v19_17, v19_18, v19_19, v19_20, v19_21, v19_22, v19_23, v19_24, v19_25, v19_26, v19_27, v19_28, v19_29, v19_30, v19_31, v19_32, .int (zI (z19_thrown)), v19_34, v19_35, v19_36, v19_37, .int (zI (z19_results)), .ref q_rs, v19_40])), (q_rs, .inl (cT, nr, .inl (fun j : Nat => zI (a_rs (j : Int)))))] U.heap ∧ va_K (dC, dI) vwQ [(cT, .byte)] U ∧ va_D (fun _ => True) [(h0, .inr (16, [v19_0, v19_1, v19_2, v19_3, v19_4, v19_5, v19_6, v19_7, v19_8, v19_9, v19_10, v19_11, v19_12, v19_13, v19_14, v19_15, v19_16, v19_17, v19_18, v19_19, v19_20, v19_21, v19_22, v19_23, v19_24, v19_25, v19_26, v19_27, v19_28, v19_29, v19_30, v19_31, v19_32, .int (zI (z19_thrown)), v19_34, v19_35, v19_36, v19_37, .int (zI (z19_results)), .ref q_rs, v19_40])), (q_rs, .inl (cT, nr, .inl (fun j : Nat => zI (a_rs (j : Int)))))])) (va_Ql (fun (r : Int64) (_ : Unit) => True) (fun (_ : Unit) (t : State) => ∃ (z0_9 : Int), ((0 ≤ z0_9 ∧ z0_9 ≤ 2)) ∧ va_P (dC, dI) vwQ [(h0, .inr (16, [v19_0, v19_1, v19_2, v19_3, v19_4, v19_5, v19_6, v19_7, v19_8, v19_9, v19_10, v19_11, v19_12, v19_13, v19_14, v19_15, v19_16, v19_17, v19_18, v19_19, v19_20, v19_21, v19_22, v19_23, v19_24, v19_25, v19_26, v19_27, v19_28, v19_29, v19_30, v19_31, v19_32, .int (zI (z0_9)), v19_34, v19_35, v19_36, v19_37, .int (zI (z19_results)), .ref q_rs, v19_40])), (q_rs, .inl (cT, nr, .inl (fun j : Nat => zI (a_rs (j : Int)))))] t.heap ∧ va_K (dC, dI) vwQ [(cT, .byte)] t ∧ va_D (va_A [(h0, .inr (16, [v19_0, v19_1, v19_2, v19_3, v19_4, v19_5, v19_6, v19_7, v19_8, v19_9, v19_10, v19_11, v19_12, v19_13, v19_14, v19_15, v19_16, v19_17, v19_18, v19_19, v19_20, v19_21, v19_22, v19_23, v19_24, v19_25, v19_26, v19_27, v19_28, v19_29, v19_30, v19_31, v19_32, .int (zI (z19_thrown)), v19_34, v19_35, v19_36, v19_37, .int (zI (z19_results)), .ref q_rs, v19_40])), (q_rs, .inl (cT, nr, .inl (fun j : Nat => zI (a_rs (j : Int)))))] sz) [(h0, .inr (16, [v19_0, v19_1, v19_2, v19_3, v19_4, v19_5, v19_6, v19_7, v19_8, v19_9, v19_10, v19_11, v19_12, v19_13, v19_14, v19_15, v19_16, v19_17, v19_18, v19_19, v19_20, v19_21, v19_22, v19_23, v19_24, v19_25, v19_26, v19_27, v19_28, v19_29, v19_30, v19_31, v19_32, .int (zI (z0_9)), v19_34, v19_35, v19_36, v19_37, .int (zI (z19_results)), .ref q_rs, v19_40])), (q_rs, .inl (cT, nr, .inl (fun j : Nat => zI (a_rs (j : Int)))))]) (va_A [(h0, .inr (16, [v19_0, v19_1, v19_2, v19_3, v19_4, v19_5, v19_6, v19_7, v19_8, v19_9, v19_10, v19_11, v19_12, v19_13, v19_14, v19_15, v19_16, v19_17, v19_18, v19_19, v19_20, v19_21, v19_22, v19_23, v19_24, v19_25, v19_26, v19_27, v19_28, v19_29, v19_30, v19_31, v19_32, .int (zI (z19_thrown)), v19_34, v19_35, v19_36, v19_37, .int (zI (z19_results)), .ref q_rs, v19_40])), (q_rs, .inl (cT, nr, .inl (fun j : Nat => zI (a_rs (j : Int)))))] sz)) 0 0 (va_A [(h0, .inr (16, [v19_0, v19_1, v19_2, v19_3, v19_4, v19_5, v19_6, v19_7, v19_8, v19_9, v19_10, v19_11, v19_12, v19_13, v19_14, v19_15, v19_16, v19_17, v19_18, v19_19, v19_20, v19_21, v19_22, v19_23, v19_24, v19_25, v19_26, v19_27, v19_28, v19_29, v19_30, v19_31, v19_32, .int (zI (z19_thrown)), v19_34, v19_35, v19_36, v19_37, .int (zI (z19_results)), .ref q_rs, v19_40])), (q_rs, .inl (cT, nr, .inl (fun j : Nat => zI (a_rs (j : Int)))))] sz) := by
  refine Met.ofW (cc := cX19_word_) (maxL := 5) (ret := (some .long)) (by decide) rfl ?_
  intro p e s m args below meth c s₁ B hml hv
  obtain ⟨rfl, hsz, hP, hK, hD0⟩ := hv
  have hx := B.exec
  have hb := B.bytes
  have hr := B.returns
  have hts := atoms_spec (ws := v_X19_wordL) B.pre
  have hown : s.vm.findClass RX19 = some m.cls := findClass_of_methodNamed B.named
  have hlocks := B.notSynchronized
  have ow : ∀ {k : Nat} {w : Cond}, o_X19_wordL[k]? = some w → w.before ([.ref h0, .int (zI (n0))] : List Value).toArray s = true := fun h => hts _ (mow_X19_wordL _ (List.mem_of_getElem? h))
  subst hsz
  have hD := hD0.self (sz := s.heap.size)
  generalize hAe : va_A [(h0, .inr (16, [v19_0, v19_1, v19_2, v19_3, v19_4, v19_5, v19_6, v19_7, v19_8, v19_9, v19_10, v19_11, v19_12, v19_13, v19_14, v19_15, v19_16, v19_17, v19_18, v19_19, v19_20, v19_21, v19_22, v19_23, v19_24, v19_25, v19_26, v19_27, v19_28, v19_29, v19_30, v19_31, v19_32, .int (zI (z19_thrown)), v19_34, v19_35, v19_36, v19_37, .int (zI (z19_results)), .ref q_rs, v19_40])), (q_rs, .inl (cT, nr, .inl (fun j : Nat => zI (a_rs (j : Int)))))] s.heap.size = A at hD ⊢
  have hA : ∀ q : Nat, s.heap.size ≤ q → A q := fun q h => by rw [← hAe]; exact Or.inr h
  have hS : va_S A s.heap s.heap [] := va_S.rf
  have hP : va_P (dC, dI) vwQ [(h0, .inr (16, [v19_0, v19_1, v19_2, v19_3, v19_4, v19_5, v19_6, v19_7, v19_8, v19_9, v19_10, v19_11, v19_12, v19_13, v19_14, v19_15, v19_16, v19_17, v19_18, v19_19, v19_20, v19_21, v19_22, v19_23, v19_24, v19_25, v19_26, v19_27, v19_28, v19_29, v19_30, v19_31, v19_32, .int (zI (z19_thrown)), v19_34, v19_35, v19_36, v19_37, .int (zI (z19_results)), .ref q_rs, v19_40])), (q_rs, .inl (cT, nr, .inl (fun j : Nat => zI (a_rs (j : Int)))))] s.heap := hP
  have hl := lv_entry ([.ref h0, .int (zI (n0))]) (n := 5) (Nat.le_of_ble_eq_true rfl)
  rw [lg_entry_eq]
  generalize (lg_sl ([.ref h0, .int (zI (n0))]) ++ List.replicate (5 - (lg_sl ([.ref h0, .int (zI (n0))])).length) Slot.unset).toArray = ls at hl ⊢
  have hl : lv_has ls 5 [(0, .ref h0), (1, .int (zI (n0)))] := hl
  obtain ⟨H, hH⟩ : ∃ H, H = s.heap := ⟨_, rfl⟩
  rw [← hH] at hP
  have hS : va_S A s.heap H [] := by rw [hH]; exact hS
  rw [← hH]
  refine zW_cap (fun Q hQ => ?_)
  refine lv_aload_n hx hb dX19_word__0 rfl (lv_at hl 0 rfl) ?_
  refine lv_iconst (v := 0) hx hb dX19_word__1 (by decide) ?_
  refine va_put (D := (dC, dI)) (ci := 16) (v := .int 0) (ty := .int) (C := RX19) (T := TX19) (N := 41) hx hb hts mem_X19_wordL_0 tyX19 tyX19_ok nmX19 hown hK hP hD hS 0 rfl rfl 33 (by decide) (ow (k := 0) rfl) (fun _ h9 => h9) rfl (by decide +kernel) rfl rfl (Nat.le_of_ble_eq_true rfl) dX19_word__2 (fun H locs hP hD hS => ?_)
  have hP : va_P (dC, dI) vwQ [(h0, .inr (16, [v19_0, v19_1, v19_2, v19_3, v19_4, v19_5, v19_6, v19_7, v19_8, v19_9, v19_10, v19_11, v19_12, v19_13, v19_14, v19_15, v19_16, v19_17, v19_18, v19_19, v19_20, v19_21, v19_22, v19_23, v19_24, v19_25, v19_26, v19_27, v19_28, v19_29, v19_30, v19_31, v19_32, .int 0, v19_34, v19_35, v19_36, v19_37, .int (zI (z19_results)), .ref q_rs, v19_40])), (q_rs, .inl (cT, nr, .inl (fun j : Nat => zI (a_rs (j : Int)))))] H := hP
  have hD : va_D A [(h0, .inr (16, [v19_0, v19_1, v19_2, v19_3, v19_4, v19_5, v19_6, v19_7, v19_8, v19_9, v19_10, v19_11, v19_12, v19_13, v19_14, v19_15, v19_16, v19_17, v19_18, v19_19, v19_20, v19_21, v19_22, v19_23, v19_24, v19_25, v19_26, v19_27, v19_28, v19_29, v19_30, v19_31, v19_32, .int 0, v19_34, v19_35, v19_36, v19_37, .int (zI (z19_results)), .ref q_rs, v19_40])), (q_rs, .inl (cT, nr, .inl (fun j : Nat => zI (a_rs (j : Int)))))] := hD
  refine lv_iload_n hx hb dX19_word__5 rfl (lv_at hl 1 rfl) ?_
  refine lv_if_lt (tgt := 17) hx hb dX19_word__6 (by decide) (fun b6 => ?_) (fun b6 => ?_)
  · have yb6 : (n0 : Int) < (0 : Int) := (zI_lt (a := n0) (b := 0) (by omega) (by omega) (by omega) (by omega)).mp b6
    refine lv_aload_n hx hb dX19_word__17 rfl (lv_at hl 0 rfl) ?_
    refine lv_iconst (v := 1) hx hb dX19_word__18 (by decide) ?_
    have hPc := hP.sub (ws' := [(h0, .inr (16, [v19_0, v19_1, v19_2, v19_3, v19_4, v19_5, v19_6, v19_7, v19_8, v19_9, v19_10, v19_11, v19_12, v19_13, v19_14, v19_15, v19_16, v19_17, v19_18, v19_19, v19_20, v19_21, v19_22, v19_23, v19_24, v19_25, v19_26, v19_27, v19_28, v19_29, v19_30, v19_31, v19_32, .int (zI (0)), v19_34, v19_35, v19_36, v19_37, .int (zI (z19_results)), .ref q_rs, v19_40]))]) [0] rfl
    have hDc := hD.sub (ws' := [(h0, .inr (16, [v19_0, v19_1, v19_2, v19_3, v19_4, v19_5, v19_6, v19_7, v19_8, v19_9, v19_10, v19_11, v19_12, v19_13, v19_14, v19_15, v19_16, v19_17, v19_18, v19_19, v19_20, v19_21, v19_22, v19_23, v19_24, v19_25, v19_26, v19_27, v19_28, v19_29, v19_30, v19_31, v19_32, .int (zI (0)), v19_34, v19_35, v19_36, v19_37, .int (zI (z19_results)), .ref q_rs, v19_40]))]) [0] (by decide) rfl
    have hKc := hK.sub (tys' := []) [] rfl
    have hFc := va_free (wc := [(h0, .inr (16, [v19_0, v19_1, v19_2, v19_3, v19_4, v19_5, v19_6, v19_7, v19_8, v19_9, v19_10, v19_11, v19_12, v19_13, v19_14, v19_15, v19_16, v19_17, v19_18, v19_19, v19_20, v19_21, v19_22, v19_23, v19_24, v19_25, v19_26, v19_27, v19_28, v19_29, v19_30, v19_31, v19_32, .int (zI (0)), v19_34, v19_35, v19_36, v19_37, .int (zI (z19_results)), .ref q_rs, v19_40]))]) hD hS hA [0] rfl
    refine va_calli (va_runV (As := [.int 1]) (rest := []) ⟨hx, hb, hml, hown, hts⟩ (c_X19_no l dC dI h0 v19_0 v19_1 v19_2 v19_3 v19_4 v19_5 v19_6 v19_7 v19_8 v19_9 v19_10 v19_11 v19_12 v19_13 v19_14 v19_15 v19_16 v19_17 v19_18 v19_19 v19_20 v19_21 v19_22 v19_23 v19_24 v19_25 v19_26 v19_27 v19_28 v19_29 v19_30 v19_31 v19_32 0 v19_34 v19_35 v19_36 v19_37 (.int (zI (z19_results))) (.ref q_rs) v19_40 1 (by omega) (by omega) H.size) (cwV 1 hts g_X19_wordL_X19_no rfl rfl rfl (by decide +kernel) ⟨(Nat.le_of_ble_eq_true rfl), (Nat.le_of_ble_eq_true rfl)⟩) ⟨fun a U g mk q => by obtain ⟨q0, q1, qP, qK, qD⟩ := q; exact ⟨q0, q1, qP, va_K.moved (u := U) (U := U.calling g mk a) (Vm.Alike.refl U.vm) qK, qD⟩, va_recv hKc hPc (ci := 16) (q0 := 0) rfl rfl, fun U hU hW => ⟨rfl, by rw [hU], by rw [hU]; exact hPc, va_K.moved hW.alike hKc, hDc.weaken (fun _ _ _ _ => trivial)⟩⟩ rfl rfl hl.1 rfl (lv_room (Nat.le_of_ble_eq_true rfl)) dX19_word__19 ⟨(Nat.le_of_ble_eq_true rfl), (Nat.le_of_ble_eq_true rfl)⟩) hS (fun q _ h => hFc q h) hFc (fun r_1 z_2 t H1 locs ht hvm hw hB hz1 hk1 hS => ?_)
    obtain ⟨z0_3, hxt_3, hP1, hK1, hD1⟩ := hB
    rw [ht] at hP1
    have hK1 := va_K.moved hvm.symm hK1
    obtain ⟨hP, hD⟩ := va_join (wr := [(q_rs, .inl (cT, nr, .inl (fun j : Nat => zI (a_rs (j : Int)))))]) (w1 := [(h0, .inr (16, [v19_0, v19_1, v19_2, v19_3, v19_4, v19_5, v19_6, v19_7, v19_8, v19_9, v19_10, v19_11, v19_12, v19_13, v19_14, v19_15, v19_16, v19_17, v19_18, v19_19, v19_20, v19_21, v19_22, v19_23, v19_24, v19_25, v19_26, v19_27, v19_28, v19_29, v19_30, v19_31, v19_32, .int (zI (z0_3)), v19_34, v19_35, v19_36, v19_37, .int (zI (z19_results)), .ref q_rs, v19_40]))]) hP hD [0] [1] rfl rfl (by decide) (by decide) hk1 hFc hP1 hD1
    have hK := (hK.sub (tys' := [(cT, .byte)]) [0] rfl).app hK1
    generalize H1 = H at hP hS ⊢
    have hP : va_P (dC, dI) vwQ [(q_rs, .inl (cT, nr, .inl (fun j : Nat => zI (a_rs (j : Int))))), (h0, .inr (16, [v19_0, v19_1, v19_2, v19_3, v19_4, v19_5, v19_6, v19_7, v19_8, v19_9, v19_10, v19_11, v19_12, v19_13, v19_14, v19_15, v19_16, v19_17, v19_18, v19_19, v19_20, v19_21, v19_22, v19_23, v19_24, v19_25, v19_26, v19_27, v19_28, v19_29, v19_30, v19_31, v19_32, .int (zI (z0_3)), v19_34, v19_35, v19_36, v19_37, .int (zI (z19_results)), .ref q_rs, v19_40]))] H := hP
    have hD : va_D A [(q_rs, .inl (cT, nr, .inl (fun j : Nat => zI (a_rs (j : Int))))), (h0, .inr (16, [v19_0, v19_1, v19_2, v19_3, v19_4, v19_5, v19_6, v19_7, v19_8, v19_9, v19_10, v19_11, v19_12, v19_13, v19_14, v19_15, v19_16, v19_17, v19_18, v19_19, v19_20, v19_21, v19_22, v19_23, v19_24, v19_25, v19_26, v19_27, v19_28, v19_29, v19_30, v19_31, v19_32, .int (zI (z0_3)), v19_34, v19_35, v19_36, v19_37, .int (zI (z19_results)), .ref q_rs, v19_40]))] := hD
    have hK : va_K (dC, dI) vwQ [(cT, .byte)] s := hK
    refine W.widen (k := 0) (n := 0) (Nat.le_of_ble_eq_true rfl) (Nat.le_of_ble_eq_true rfl) ?_
    obtain ⟨rfl, hzz_2⟩ := hw
    obtain ⟨rk_4, hu_4⟩ := hxt_3
    refine lv_i2l (v := lI (z_2)) hx hb dX19_word__22 (zI_l (a := z_2) (by omega) (by omega)) ?_
    subst hQ
    have hP := hP.sub (ws' := [(h0, .inr (16, [v19_0, v19_1, v19_2, v19_3, v19_4, v19_5, v19_6, v19_7, v19_8, v19_9, v19_10, v19_11, v19_12, v19_13, v19_14, v19_15, v19_16, v19_17, v19_18, v19_19, v19_20, v19_21, v19_22, v19_23, v19_24, v19_25, v19_26, v19_27, v19_28, v19_29, v19_30, v19_31, v19_32, .int (zI (z0_3)), v19_34, v19_35, v19_36, v19_37, .int (zI (z19_results)), .ref q_rs, v19_40])), (q_rs, .inl (cT, nr, .inl (fun j : Nat => zI (a_rs (j : Int)))))]) [1, 0] rfl
    have hD := hD.sub (ws' := [(h0, .inr (16, [v19_0, v19_1, v19_2, v19_3, v19_4, v19_5, v19_6, v19_7, v19_8, v19_9, v19_10, v19_11, v19_12, v19_13, v19_14, v19_15, v19_16, v19_17, v19_18, v19_19, v19_20, v19_21, v19_22, v19_23, v19_24, v19_25, v19_26, v19_27, v19_28, v19_29, v19_30, v19_31, v19_32, .int (zI (z0_3)), v19_34, v19_35, v19_36, v19_37, .int (zI (z19_results)), .ref q_rs, v19_40])), (q_rs, .inl (cT, nr, .inl (fun j : Nat => zI (a_rs (j : Int)))))]) [1, 0] (by decide) rfl
    refine W.widen (k := 0) (n := 0) (Nat.le_of_ble_eq_true rfl) (Nat.le_of_ble_eq_true rfl) ?_
    exact W.lret (v := (lI (z_2))) hx hb hr (fun t ht hW => ⟨⟨(lI (z_2)), (), rfl, trivial, z0_3, (by omega), by rw [ht]; exact hP, va_K.moved hW.alike hK, hD⟩, hS.F ht⟩) hS.2.2 dX19_word__23
  · have yb6 : ¬ (n0 : Int) < (0 : Int) := fun q => b6 ((zI_lt (a := n0) (b := 0) (by omega) (by omega) (by omega) (by omega)).mpr q)
    refine lv_iload_n hx hb dX19_word__9 rfl (lv_at hl 1 rfl) ?_
    refine lv_aload_n hx hb dX19_word__10 rfl (lv_at hl 0 rfl) ?_
    refine va_get (D := (dC, dI)) (ci := 16) (v := .int (zI (z19_results))) (C := RX19) (T := TX19) (N := 41) hx hb hts mem_X19_wordL_0 hown hK hP 0 rfl rfl 38 (by decide) (ow (k := 5) rfl) (fun _ h9 => h9) rfl dX19_word__11 ?_
    refine lv_icmp_lt (tgt := 24) hx hb dX19_word__14 (by decide) (fun b14 => ?_) (fun b14 => ?_)
    · have yb14 : (n0 : Int) < (z19_results : Int) := (zI_lt (a := n0) (b := z19_results) (by omega) (by omega) (by omega) (by omega)).mp b14
      refine lv_lconst (v := lI (0)) hx hb dX19_word__24 (by decide) ?_
      refine lv_lstore_n (lv' := [(2, .long (lI (0))), (0, .ref h0), (1, .int (zI (n0)))]) hx hb dX19_word__25 rfl hl (by decide) rfl (fun ls hl => ?_)
      refine lv_iconst (v := 0) hx hb dX19_word__26 (by decide) ?_
      refine lv_istore (lv' := [(4, .int 0), (2, .long (lI (0))), (0, .ref h0), (1, .int (zI (n0)))]) hx hb dX19_word__27 hl (by decide) rfl (fun ls hl => ?_)
      have key29 : ∀ n29 : Nat, ∀ (d29_4 : Int) (d29_2 : Int64) (ls : Array Slot) (H : Heap) (locs : List Loc), (0 ≤ d29_4 ∧ d29_4 ≤ 8) → ((10 - d29_4 : Int).toNat) < n29 → lv_has ls 5 [(0, .ref h0), (1, .int (zI (n0))), (2, .long d29_2), (4, .int (zI (d29_4)))] → va_P (dC, dI) vwQ [(h0, .inr (16, [v19_0, v19_1, v19_2, v19_3, v19_4, v19_5, v19_6, v19_7, v19_8, v19_9, v19_10, v19_11, v19_12, v19_13, v19_14, v19_15, v19_16, v19_17, v19_18, v19_19, v19_20, v19_21, v19_22, v19_23, v19_24, v19_25, v19_26, v19_27, v19_28, v19_29, v19_30, v19_31, v19_32, .int 0, v19_34, v19_35, v19_36, v19_37, .int (zI (z19_results)), .ref q_rs, v19_40])), (q_rs, .inl (cT, nr, .inl (fun j : Nat => zI (a_rs (j : Int)))))] H → va_D A [(h0, .inr (16, [v19_0, v19_1, v19_2, v19_3, v19_4, v19_5, v19_6, v19_7, v19_8, v19_9, v19_10, v19_11, v19_12, v19_13, v19_14, v19_15, v19_16, v19_17, v19_18, v19_19, v19_20, v19_21, v19_22, v19_23, v19_24, v19_25, v19_26, v19_27, v19_28, v19_29, v19_30, v19_31, v19_32, .int 0, v19_34, v19_35, v19_36, v19_37, .int (zI (z19_results)), .ref q_rs, v19_40])), (q_rs, .inl (cT, nr, .inl (fun j : Nat => zI (a_rs (j : Int)))))] → va_S A s.heap H locs → W p l e (headSpec v_X19_wordL ({ frames := 1, cells := 0, slots := 0, locals := 21 })).room s m ([.ref h0, .int (zI (n0))] : List Value).toArray below meth c H locs 0 0 Q (F0 m 29 ls []) := by
        intro n29
        induction n29 with
        | zero => intro d29_4 d29_2 ls H locs jd29_4 hm29; exact absurd hm29 (by omega)
        | succ n29 ih29 =>
          intro d29_4 d29_2 ls H locs jd29_4 hm29 hl hP hD hS
          refine lv_iload hx hb dX19_word__29 (lv_at hl 3 rfl) ?_
          refine lv_bipush (v := 8) hx hb dX19_word__31 (by decide) ?_
          refine lv_icmp_ge (tgt := 77) hx hb dX19_word__33 (by decide) (fun b33 => ?_) (fun b33 => ?_)
          · have yb33 : (8 : Int) ≤ (d29_4 : Int) := (zI_le (a := 8) (b := d29_4) (by omega) (by omega) (by omega) (by omega)).mp b33
            refine lv_lload_n hx hb dX19_word__77 rfl (lv_at hl 2 rfl) ?_
            subst hQ
            refine W.widen (k := 0) (n := 0) (Nat.le_of_ble_eq_true rfl) (Nat.le_of_ble_eq_true rfl) ?_
            exact W.lret (v := d29_2) hx hb hr (fun t ht hW => ⟨⟨d29_2, (), rfl, trivial, 0, (by omega), by rw [ht]; exact hP, va_K.moved hW.alike hK, hD⟩, hS.F ht⟩) hS.2.2 dX19_word__78
          · have yb33 : ¬ (8 : Int) ≤ (d29_4 : Int) := fun q => b33 ((zI_le (a := 8) (b := d29_4) (by omega) (by omega) (by omega) (by omega)).mpr q)
            refine lv_lload_n hx hb dX19_word__36 rfl (lv_at hl 2 rfl) ?_
            refine lv_bipush (v := 8) hx hb dX19_word__37 (by decide) ?_
            refine lv_lshl hx hb dX19_word__39 rfl ?_
            refine lv_topl (fun x_5 _ => ?_)
            refine lv_iload_n hx hb dX19_word__40 rfl (lv_at hl 1 rfl) ?_
            refine lv_iload hx hb dX19_word__41 (lv_at hl 3 rfl) ?_
            refine lv_iadd hx hb dX19_word__43 ?_
            refine lv_topi (fun z ez => ?_)
            obtain rfl : z = zI (n0 + d29_4) := ez.trans (zI_add (n0) (d29_4))
            refine lv_aload_n hx hb dX19_word__44 rfl (lv_at hl 0 rfl) ?_
            refine va_get (D := (dC, dI)) (ci := 16) (v := .int (zI (z19_results))) (C := RX19) (T := TX19) (N := 41) hx hb hts mem_X19_wordL_0 hown hK hP 0 rfl rfl 38 (by decide) (ow (k := 5) rfl) (fun _ h9 => h9) rfl dX19_word__45 ?_
            refine lv_icmp_ge (tgt := 67) hx hb dX19_word__48 (by decide) (fun b48 => ?_) (fun b48 => ?_)
            · have yb48 : (z19_results : Int) ≤ (n0 + d29_4 : Int) := (zI_le (a := z19_results) (b := n0 + d29_4) (by omega) (by omega) (by omega) (by omega)).mp b48
              refine lv_iconst (v := 0) hx hb dX19_word__67 (by decide) ?_
              refine lv_i2l (v := lI (0)) hx hb dX19_word__68 (zI_l (a := 0) (by omega) (by omega)) ?_
              refine lv_lor hx hb dX19_word__69 ?_
              refine lv_topl (fun x_6 _ => ?_)
              refine lv_lstore_n (lv' := [(2, .long x_6), (0, .ref h0), (1, .int (zI (n0))), (4, .int (zI (d29_4)))]) hx hb dX19_word__70 rfl hl (by decide) rfl (fun ls hl => ?_)
              refine lv_iinc (v := zI (d29_4 + 1)) (lv' := [(4, .int (zI (d29_4 + 1))), (2, .long x_6), (0, .ref h0), (1, .int (zI (n0)))]) hx hb dX19_word__71 hl (k := 3) rfl (zI_add (d29_4) (1)) (by decide) rfl (fun ls hl => ?_)
              refine lv_goto (tgt := 29) hx hb dX19_word__74 (by decide) ?_
              exact ih29 (d29_4 + 1) x_6 ls H _ (by omega) (by omega) (lv_sub hl [2, 3, 1, 0] rfl) hP hD hS
            · have yb48 : ¬ (z19_results : Int) ≤ (n0 + d29_4 : Int) := fun q => b48 ((zI_le (a := z19_results) (b := n0 + d29_4) (by omega) (by omega) (by omega) (by omega)).mpr q)
              refine lv_aload_n hx hb dX19_word__51 rfl (lv_at hl 0 rfl) ?_
              refine va_get (D := (dC, dI)) (ci := 16) (v := .ref q_rs) (C := RX19) (T := TX19) (N := 41) hx hb hts mem_X19_wordL_0 hown hK hP 0 rfl rfl 39 (by decide) (ow (k := 6) rfl) (fun _ h9 => h9) rfl dX19_word__52 ?_
              refine lv_iload_n hx hb dX19_word__55 rfl (lv_at hl 1 rfl) ?_
              refine lv_iload hx hb dX19_word__56 (lv_at hl 3 rfl) ?_
              refine lv_iadd hx hb dX19_word__58 ?_
              refine lv_topi (fun z ez => ?_)
              obtain rfl : z = zI (n0 + d29_4) := ez.trans (zI_add (n0) (d29_4))
              refine va_bald hx hb hK hP 1 0 rfl rfl (zI_in (a := n0 + d29_4) (n := nr) (by omega) (by omega) (by omega)) dX19_word__59 ?_
              refine lv_topi (fun z ez => ?_)
              obtain rfl : z = zI (a_rs (n0 + d29_4)) := ez.trans (zI_ld (a_rs) (by omega) (by omega))
              have k1 := hR_a_rs (n0 + d29_4)
              refine lv_sipush (v := 255) hx hb dX19_word__60 (by decide) ?_
              refine lv_iand hx hb dX19_word__63 ?_
              refine lv_topi (fun z9 ez => ?_)
              obtain ⟨z_7, rfl, hzz_7⟩ := zI_and 8 (m := 255) (by decide) (by decide) ez
              refine lv_goto (tgt := 68) hx hb dX19_word__64 (by decide) ?_
              refine lv_i2l (v := lI (z_7)) hx hb dX19_word__68 (zI_l (a := z_7) (by omega) (by omega)) ?_
              refine lv_lor hx hb dX19_word__69 ?_
              refine lv_topl (fun x_8 _ => ?_)
              refine lv_lstore_n (lv' := [(2, .long x_8), (0, .ref h0), (1, .int (zI (n0))), (4, .int (zI (d29_4)))]) hx hb dX19_word__70 rfl hl (by decide) rfl (fun ls hl => ?_)
              refine lv_iinc (v := zI (d29_4 + 1)) (lv' := [(4, .int (zI (d29_4 + 1))), (2, .long x_8), (0, .ref h0), (1, .int (zI (n0)))]) hx hb dX19_word__71 hl (k := 3) rfl (zI_add (d29_4) (1)) (by decide) rfl (fun ls hl => ?_)
              refine lv_goto (tgt := 29) hx hb dX19_word__74 (by decide) ?_
              exact ih29 (d29_4 + 1) x_8 ls H _ (by omega) (by omega) (lv_sub hl [2, 3, 1, 0] rfl) hP hD hS
      exact key29 ((10 - 0 : Int).toNat + 1) 0 ((lI (0))) ls H _ (by omega) (by omega) (lv_sub hl [2, 3, 1, 0] rfl) hP hD hS
    · have yb14 : ¬ (n0 : Int) < (z19_results : Int) := fun q => b14 ((zI_lt (a := n0) (b := z19_results) (by omega) (by omega) (by omega) (by omega)).mpr q)
      refine lv_aload_n hx hb dX19_word__17 rfl (lv_at hl 0 rfl) ?_
      refine lv_iconst (v := 1) hx hb dX19_word__18 (by decide) ?_
      have hPc := hP.sub (ws' := [(h0, .inr (16, [v19_0, v19_1, v19_2, v19_3, v19_4, v19_5, v19_6, v19_7, v19_8, v19_9, v19_10, v19_11, v19_12, v19_13, v19_14, v19_15, v19_16, v19_17, v19_18, v19_19, v19_20, v19_21, v19_22, v19_23, v19_24, v19_25, v19_26, v19_27, v19_28, v19_29, v19_30, v19_31, v19_32, .int (zI (0)), v19_34, v19_35, v19_36, v19_37, .int (zI (z19_results)), .ref q_rs, v19_40]))]) [0] rfl
      have hDc := hD.sub (ws' := [(h0, .inr (16, [v19_0, v19_1, v19_2, v19_3, v19_4, v19_5, v19_6, v19_7, v19_8, v19_9, v19_10, v19_11, v19_12, v19_13, v19_14, v19_15, v19_16, v19_17, v19_18, v19_19, v19_20, v19_21, v19_22, v19_23, v19_24, v19_25, v19_26, v19_27, v19_28, v19_29, v19_30, v19_31, v19_32, .int (zI (0)), v19_34, v19_35, v19_36, v19_37, .int (zI (z19_results)), .ref q_rs, v19_40]))]) [0] (by decide) rfl
      have hKc := hK.sub (tys' := []) [] rfl
      have hFc := va_free (wc := [(h0, .inr (16, [v19_0, v19_1, v19_2, v19_3, v19_4, v19_5, v19_6, v19_7, v19_8, v19_9, v19_10, v19_11, v19_12, v19_13, v19_14, v19_15, v19_16, v19_17, v19_18, v19_19, v19_20, v19_21, v19_22, v19_23, v19_24, v19_25, v19_26, v19_27, v19_28, v19_29, v19_30, v19_31, v19_32, .int (zI (0)), v19_34, v19_35, v19_36, v19_37, .int (zI (z19_results)), .ref q_rs, v19_40]))]) hD hS hA [0] rfl
      refine va_calli (va_runV (As := [.int 1]) (rest := []) ⟨hx, hb, hml, hown, hts⟩ (c_X19_no l dC dI h0 v19_0 v19_1 v19_2 v19_3 v19_4 v19_5 v19_6 v19_7 v19_8 v19_9 v19_10 v19_11 v19_12 v19_13 v19_14 v19_15 v19_16 v19_17 v19_18 v19_19 v19_20 v19_21 v19_22 v19_23 v19_24 v19_25 v19_26 v19_27 v19_28 v19_29 v19_30 v19_31 v19_32 0 v19_34 v19_35 v19_36 v19_37 (.int (zI (z19_results))) (.ref q_rs) v19_40 1 (by omega) (by omega) H.size) (cwV 1 hts g_X19_wordL_X19_no rfl rfl rfl (by decide +kernel) ⟨(Nat.le_of_ble_eq_true rfl), (Nat.le_of_ble_eq_true rfl)⟩) ⟨fun a U g mk q => by obtain ⟨q0, q1, qP, qK, qD⟩ := q; exact ⟨q0, q1, qP, va_K.moved (u := U) (U := U.calling g mk a) (Vm.Alike.refl U.vm) qK, qD⟩, va_recv hKc hPc (ci := 16) (q0 := 0) rfl rfl, fun U hU hW => ⟨rfl, by rw [hU], by rw [hU]; exact hPc, va_K.moved hW.alike hKc, hDc.weaken (fun _ _ _ _ => trivial)⟩⟩ rfl rfl hl.1 rfl (lv_room (Nat.le_of_ble_eq_true rfl)) dX19_word__19 ⟨(Nat.le_of_ble_eq_true rfl), (Nat.le_of_ble_eq_true rfl)⟩) hS (fun q _ h => hFc q h) hFc (fun r_9 z_10 t H1 locs ht hvm hw hB hz1 hk1 hS => ?_)
      obtain ⟨z0_11, hxt_11, hP1, hK1, hD1⟩ := hB
      rw [ht] at hP1
      have hK1 := va_K.moved hvm.symm hK1
      obtain ⟨hP, hD⟩ := va_join (wr := [(q_rs, .inl (cT, nr, .inl (fun j : Nat => zI (a_rs (j : Int)))))]) (w1 := [(h0, .inr (16, [v19_0, v19_1, v19_2, v19_3, v19_4, v19_5, v19_6, v19_7, v19_8, v19_9, v19_10, v19_11, v19_12, v19_13, v19_14, v19_15, v19_16, v19_17, v19_18, v19_19, v19_20, v19_21, v19_22, v19_23, v19_24, v19_25, v19_26, v19_27, v19_28, v19_29, v19_30, v19_31, v19_32, .int (zI (z0_11)), v19_34, v19_35, v19_36, v19_37, .int (zI (z19_results)), .ref q_rs, v19_40]))]) hP hD [0] [1] rfl rfl (by decide) (by decide) hk1 hFc hP1 hD1
      have hK := (hK.sub (tys' := [(cT, .byte)]) [0] rfl).app hK1
      generalize H1 = H at hP hS ⊢
      have hP : va_P (dC, dI) vwQ [(q_rs, .inl (cT, nr, .inl (fun j : Nat => zI (a_rs (j : Int))))), (h0, .inr (16, [v19_0, v19_1, v19_2, v19_3, v19_4, v19_5, v19_6, v19_7, v19_8, v19_9, v19_10, v19_11, v19_12, v19_13, v19_14, v19_15, v19_16, v19_17, v19_18, v19_19, v19_20, v19_21, v19_22, v19_23, v19_24, v19_25, v19_26, v19_27, v19_28, v19_29, v19_30, v19_31, v19_32, .int (zI (z0_11)), v19_34, v19_35, v19_36, v19_37, .int (zI (z19_results)), .ref q_rs, v19_40]))] H := hP
      have hD : va_D A [(q_rs, .inl (cT, nr, .inl (fun j : Nat => zI (a_rs (j : Int))))), (h0, .inr (16, [v19_0, v19_1, v19_2, v19_3, v19_4, v19_5, v19_6, v19_7, v19_8, v19_9, v19_10, v19_11, v19_12, v19_13, v19_14, v19_15, v19_16, v19_17, v19_18, v19_19, v19_20, v19_21, v19_22, v19_23, v19_24, v19_25, v19_26, v19_27, v19_28, v19_29, v19_30, v19_31, v19_32, .int (zI (z0_11)), v19_34, v19_35, v19_36, v19_37, .int (zI (z19_results)), .ref q_rs, v19_40]))] := hD
      have hK : va_K (dC, dI) vwQ [(cT, .byte)] s := hK
      refine W.widen (k := 0) (n := 0) (Nat.le_of_ble_eq_true rfl) (Nat.le_of_ble_eq_true rfl) ?_
      obtain ⟨rfl, hzz_10⟩ := hw
      obtain ⟨rk_12, hu_12⟩ := hxt_11
      refine lv_i2l (v := lI (z_10)) hx hb dX19_word__22 (zI_l (a := z_10) (by omega) (by omega)) ?_
      subst hQ
      have hP := hP.sub (ws' := [(h0, .inr (16, [v19_0, v19_1, v19_2, v19_3, v19_4, v19_5, v19_6, v19_7, v19_8, v19_9, v19_10, v19_11, v19_12, v19_13, v19_14, v19_15, v19_16, v19_17, v19_18, v19_19, v19_20, v19_21, v19_22, v19_23, v19_24, v19_25, v19_26, v19_27, v19_28, v19_29, v19_30, v19_31, v19_32, .int (zI (z0_11)), v19_34, v19_35, v19_36, v19_37, .int (zI (z19_results)), .ref q_rs, v19_40])), (q_rs, .inl (cT, nr, .inl (fun j : Nat => zI (a_rs (j : Int)))))]) [1, 0] rfl
      have hD := hD.sub (ws' := [(h0, .inr (16, [v19_0, v19_1, v19_2, v19_3, v19_4, v19_5, v19_6, v19_7, v19_8, v19_9, v19_10, v19_11, v19_12, v19_13, v19_14, v19_15, v19_16, v19_17, v19_18, v19_19, v19_20, v19_21, v19_22, v19_23, v19_24, v19_25, v19_26, v19_27, v19_28, v19_29, v19_30, v19_31, v19_32, .int (zI (z0_11)), v19_34, v19_35, v19_36, v19_37, .int (zI (z19_results)), .ref q_rs, v19_40])), (q_rs, .inl (cT, nr, .inl (fun j : Nat => zI (a_rs (j : Int)))))]) [1, 0] (by decide) rfl
      refine W.widen (k := 0) (n := 0) (Nat.le_of_ble_eq_true rfl) (Nat.le_of_ble_eq_true rfl) ?_
      exact W.lret (v := (lI (z_10))) hx hb hr (fun t ht hW => ⟨⟨(lI (z_10)), (), rfl, trivial, z0_11, (by omega), by rw [ht]; exact hP, va_K.moved hW.alike hK, hD⟩, hS.F ht⟩) hS.2.2 dX19_word__23
