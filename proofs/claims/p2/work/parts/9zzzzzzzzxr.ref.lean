theorem dX16_number_0 : decode cX16_number 0 = .ok (.iload_n 1, 1) := by decide +kernel
theorem dX16_number_1 : decode cX16_number 1 = .ok (.ifCond .eq 13, 3) := by decide +kernel
theorem dX16_number_14 : decode cX16_number 14 = .ok (.lconst 0, 1) := by decide +kernel
theorem dX16_number_15 : decode cX16_number 15 = .ok (.lstore_n 2, 1) := by decide +kernel
theorem dX16_number_16 : decode cX16_number 16 = .ok (.aload_n 0, 1) := by decide +kernel
theorem dX16_number_17 : decode cX16_number 17 = .ok (.getfield 44, 3) := by decide +kernel
theorem dX16_number_20 : decode cX16_number 20 = .ok (.aload_n 0, 1) := by decide +kernel
theorem dX16_number_21 : decode cX16_number 21 = .ok (.getfield 32, 3) := by decide +kernel
theorem dX16_number_24 : decode cX16_number 24 = .ok (.if_icmp .ge 58, 3) := by decide +kernel
theorem dX16_number_82 : decode cX16_number 82 = .ok (.iload_n 1, 1) := by decide +kernel
theorem dX16_number_83 : decode cX16_number 83 = .ok (.ifCond .eq 6, 3) := by decide +kernel
theorem dX16_number_89 : decode cX16_number 89 = .ok (.aload_n 0, 1) := by decide +kernel
theorem dX16_number_90 : decode cX16_number 90 = .ok (.lload_n 2, 1) := by decide +kernel
theorem dX16_number_91 : decode cX16_number 91 = .ok (.l2i, 1) := by decide +kernel
theorem dX16_number_92 : decode cX16_number 92 = .ok (.putfield 80, 3) := by decide +kernel
theorem dX16_number_95 : decode cX16_number 95 = .ok (.aload_n 0, 1) := by decide +kernel
theorem dX16_number_96 : decode cX16_number 96 = .ok (.lload_n 2, 1) := by decide +kernel
theorem dX16_number_97 : decode cX16_number 97 = .ok (.lload_n 2, 1) := by decide +kernel
theorem dX16_number_98 : decode cX16_number 98 = .ok (.l2i, 1) := by decide +kernel
theorem dX16_number_99 : decode cX16_number 99 = .ok (.i2l, 1) := by decide +kernel
theorem dX16_number_100 : decode cX16_number 100 = .ok (.lcmp, 1) := by decide +kernel
theorem dX16_number_101 : decode cX16_number 101 = .ok (.ifCond .ne 7, 3) := by decide +kernel
theorem dX16_number_108 : decode cX16_number 108 = .ok (.bipush 6, 2) := by decide +kernel
theorem dX16_number_110 : decode cX16_number 110 = .ok (.putfield 38, 3) := by decide +kernel
theorem dX16_number_113 : decode cX16_number 113 = .ok (.return_, 1) := by decide +kernel
theorem dX16_number_104 : decode cX16_number 104 = .ok (.iconst 4, 1) := by decide +kernel
theorem dX16_number_105 : decode cX16_number 105 = .ok (.goto 5, 3) := by decide +kernel
theorem dX16_number_86 : decode cX16_number 86 = .ok (.lload_n 2, 1) := by decide +kernel
theorem dX16_number_87 : decode cX16_number 87 = .ok (.lneg, 1) := by decide +kernel
theorem dX16_number_88 : decode cX16_number 88 = .ok (.lstore_n 2, 1) := by decide +kernel
theorem dX16_number_27 : decode cX16_number 27 = .ok (.aload_n 0, 1) := by decide +kernel
theorem dX16_number_28 : decode cX16_number 28 = .ok (.getfield 28, 3) := by decide +kernel
theorem dX16_number_31 : decode cX16_number 31 = .ok (.aload_n 0, 1) := by decide +kernel
theorem dX16_number_32 : decode cX16_number 32 = .ok (.getfield 44, 3) := by decide +kernel
theorem dX16_number_35 : decode cX16_number 35 = .ok (.baload, 1) := by decide +kernel
theorem dX16_number_36 : decode cX16_number 36 = .ok (.invokestatic 50, 3) := by decide +kernel
theorem dX16_number_39 : decode cX16_number 39 = .ok (.ifCond .eq 43, 3) := by decide +kernel
theorem dX16_number_42 : decode cX16_number 42 = .ok (.lload_n 2, 1) := by decide +kernel
theorem dX16_number_43 : decode cX16_number 43 = .ok (.ldc2_w 68, 3) := by decide +kernel
theorem dX16_number_46 : decode cX16_number 46 = .ok (.lmul, 1) := by decide +kernel
theorem dX16_number_47 : decode cX16_number 47 = .ok (.aload_n 0, 1) := by decide +kernel
theorem dX16_number_48 : decode cX16_number 48 = .ok (.getfield 28, 3) := by decide +kernel
theorem dX16_number_51 : decode cX16_number 51 = .ok (.aload_n 0, 1) := by decide +kernel
theorem dX16_number_52 : decode cX16_number 52 = .ok (.getfield 44, 3) := by decide +kernel
theorem dX16_number_55 : decode cX16_number 55 = .ok (.baload, 1) := by decide +kernel
theorem dX16_number_56 : decode cX16_number 56 = .ok (.i2l, 1) := by decide +kernel
theorem dX16_number_57 : decode cX16_number 57 = .ok (.ladd, 1) := by decide +kernel
theorem dX16_number_58 : decode cX16_number 58 = .ok (.ldc2_w 70, 3) := by decide +kernel
theorem dX16_number_61 : decode cX16_number 61 = .ok (.lsub, 1) := by decide +kernel
theorem dX16_number_62 : decode cX16_number 62 = .ok (.ldc2_w 111, 3) := by decide +kernel
theorem dX16_number_65 : decode cX16_number 65 = .ok (.invokestatic 74, 3) := by decide +kernel
theorem dX16_number_68 : decode cX16_number 68 = .ok (.lstore_n 2, 1) := by decide +kernel
theorem dX16_number_69 : decode cX16_number 69 = .ok (.aload_n 0, 1) := by decide +kernel
theorem dX16_number_70 : decode cX16_number 70 = .ok (.dup, 1) := by decide +kernel
theorem dX16_number_71 : decode cX16_number 71 = .ok (.getfield 44, 3) := by decide +kernel
theorem dX16_number_74 : decode cX16_number 74 = .ok (.iconst 1, 1) := by decide +kernel
theorem dX16_number_75 : decode cX16_number 75 = .ok (.iadd, 1) := by decide +kernel
theorem dX16_number_76 : decode cX16_number 76 = .ok (.putfield 44, 3) := by decide +kernel
theorem dX16_number_79 : decode cX16_number 79 = .ok (.goto (-63), 3) := by decide +kernel
theorem dX16_number_4 : decode cX16_number 4 = .ok (.aload_n 0, 1) := by decide +kernel
theorem dX16_number_5 : decode cX16_number 5 = .ok (.dup, 1) := by decide +kernel
theorem dX16_number_6 : decode cX16_number 6 = .ok (.getfield 44, 3) := by decide +kernel
theorem dX16_number_9 : decode cX16_number 9 = .ok (.iconst 1, 1) := by decide +kernel
theorem dX16_number_10 : decode cX16_number 10 = .ok (.iadd, 1) := by decide +kernel
theorem dX16_number_11 : decode cX16_number 11 = .ok (.putfield 44, 3) := by decide +kernel
def o_X16_number : List Cond := [.fieldLink RX16 44 "SsaForgeModel$Reader" "at" "I", .fieldLink RX16 32 "SsaForgeModel$Reader" "n" "I", .fieldLink RX16 80 "SsaForgeModel$Reader" "value" "I", .fieldLink RX16 38 "SsaForgeModel$Reader" "kind" "I", .fieldLink RX16 28 "SsaForgeModel$Reader" "t" "[B", .methodLink RX16 50 yX16_isDigit, .static yX16_isDigit, .initialized RX16, .constantLong RX16 68 (10), .constantLong RX16 70 (48), .constantLong RX16 111 (1099511627776), .methodLink RX16 74 Lib.MathLoose.min_long.x, .static Lib.MathLoose.min_long.x, .initialized "java/lang/Math", .code Lib.MathLoose.min_long.x Lib.MathLoose.min_long.code 4 (some .long)]
def v_X16_number : List Cond := .code yX16_number cX16_number 4 none :: (o_X16_number ++ (wsX160 ++ (v_X16_isDigit ++ [])))
theorem mow_X16_number : ∀ w ∈ o_X16_number, w ∈ v_X16_number := fun _ h => List.mem_cons_of_mem _ (List.mem_append_left _ h)
theorem mem_X16_number_0 : ∀ w ∈ wsX160, w ∈ v_X16_number := fun _ h => List.mem_cons_of_mem _ (List.mem_append_right _ (List.mem_append_left _ h))
theorem mem_X16_number_1 : ∀ w ∈ v_X16_isDigit, w ∈ v_X16_number := fun _ h => List.mem_cons_of_mem _ (List.mem_append_right _ (List.mem_append_right _ (List.mem_append_left _ h)))
set_option maxRecDepth 20000 in
theorem gw_X16_number : v_X16_number.all goodWord = true := by decide +kernel
set_option maxRecDepth 20000 in
theorem g_X16_number_X16_isDigit : GoodIn v_X16_number (wsS RX16 50 yX16_isDigit v_X16_isDigit) := goodIn_app (goodIn_sub (fun w h => mow_X16_number w (by revert w h; decide +kernel)) (by decide +kernel)) (goodIn_sub mem_X16_number_1 gw_X16_isDigit)
set_option maxHeartbeats 4000000 in
set_option maxRecDepth 100000 in
theorem c_X16_number (l : Launch) (dC : Nat → ClassId) (dI : Nat → Nat → Nat) (h0 : Nat) (z16_n : Int) (z16_at : Int) (z16_kind : Int) (v16_4 : Value) (z16_value : Int) (v16_6 : Value) (v16_7 : Value) (v16_8 : Value) (v16_9 : Value) (v16_10 : Value) (v16_11 : Value) (v16_12 : Value) (v16_13 : Value) (q_t : Nat) (cT : ClassId) (a_t : Int → Int) (b0 : Int) (hNz16_n : 0 ≤ z16_n ∧ z16_n ≤ 8192) (hNz16_at : 0 ≤ z16_at ∧ z16_at ≤ 8192) (hNz16_kind : 0 ≤ z16_kind ∧ z16_kind ≤ 6) (hNz16_value : -2147483648 ≤ z16_value ∧ z16_value ≤ 2147483647) (hR_a_t : ∀ j : Int, -128 ≤ a_t j ∧ a_t j ≤ 127) (hNd : (b0 = 0 ∨ b0 = 1) ∧ z16_at + b0 < z16_n ∧ (b0 = 1 ∨ (48 ≤ a_t z16_at ∧ a_t z16_at ≤ 57))) (sz : Nat) : Met l yX16_number v_X16_number ({ frames := 1, cells := 0, slots := 0, locals := 20 }) (va_Pc [.ref h0, .int (zI (b0))] (fun U => U.heap.size = sz ∧ va_P (dC, dI) vwQ [(h0, .inr (14, [.ref q_t, .int (zI (z16_n)), .int (zI (z16_at)), .int (zI (z16_kind)), v16_4, .int (zI (z16_value)), v16_6, v16_7, v16_8, v16_9, v16_10, v16_11, v16_12, v16_13])), (q_t, .inl (cT, 8192, .inl (fun j : Nat => zI (a_t (j : Int)))))] U.heap ∧ va_K (dC, dI) vwQ [(cT, .byte)] U ∧ va_D (fun _ => True) [(h0, .inr (14, [.ref q_t, .int (zI (z16_n)), .int (zI (z16_at)), .int (zI (z16_kind)), v16_4, .int (zI (z16_value)), v16_6, v16_7, v16_8, v16_9, v16_10, v16_11, v16_12, v16_13])), (q_t, .inl (cT, 8192, .inl (fun j : Nat => zI (a_t (j : Int)))))])) (va_Qv (fun _ : Unit => True) (fun (_ : Unit) (t : State) => ∃ (z0_9 : Int) (z1_9 : Int) (z2_9 : Int), ((0 ≤ z0_9 ∧ z0_9 ≤ 8192) ∧ (0 ≤ z1_9 ∧ z1_9 ≤ 6) ∧ (-2147483648 ≤ z2_9 ∧ z2_9 ≤ 2147483647) ∧ (z16_at + 1 ≤ z0_9 ∧ z0_9 ≤ z16_n ∧ (z1_9 = 4 ∨ z1_9 = 6))) ∧ va_P (dC, dI) vwQ [(h0, .inr (14, [.ref q_t, .int (zI (z16_n)), .int (zI (z0_9)), .int (zI (z1_9)), v16_4, .int (zI (z2_9)), v16_6, v16_7, v16_8, v16_9, v16_10, v16_11, v16_12, v16_13])), (q_t, .inl (cT, 8192, .inl (fun j : Nat => zI (a_t (j : Int)))))] t.heap ∧ va_K (dC, dI) vwQ [(cT, .byte)] t ∧ va_D (va_A [(h0, .inr (14, [.ref q_t, .int (zI (z16_n)), .int (zI (z16_at)), .int (zI (z16_kind)), v16_4, .int (zI (z16_value)), v16_6, v16_7, v16_8, v16_9, v16_10, v16_11, v16_12, v16_13])), (q_t, .inl (cT, 8192, .inl (fun j : Nat => zI (a_t (j : Int)))))] sz) [(h0, .inr (14, [.ref q_t, .int (zI (z16_n)), .int (zI (z0_9)), .int (zI (z1_9)), v16_4, .int (zI (z2_9)), v16_6, v16_7, v16_8, v16_9, v16_10, v16_11, v16_12, v16_13])), (q_t, .inl (cT, 8192, .inl (fun j : Nat => zI (a_t (j : Int)))))]) (va_A [(h0, .inr (14, [.ref q_t, .int (zI (z16_n)), .int (zI (z16_at)), .int (zI (z16_kind)), v16_4, .int (zI (z16_value)), v16_6, v16_7, v16_8, v16_9, v16_10, v16_11, v16_12, v16_13])), (q_t, .inl (cT, 8192, .inl (fun j : Nat => zI (a_t (j : Int)))))] sz)) 0 0 (va_A [(h0, .inr (14, [.ref q_t, .int (zI (z16_n)), .int (zI (z16_at)), .int (zI (z16_kind)), v16_4, .int (zI (z16_value)), v16_6, v16_7, v16_8, v16_9, v16_10, v16_11, v16_12, v16_13])), (q_t, .inl (cT, 8192, .inl (fun j : Nat => zI (a_t (j : Int)))))] sz) := by
  refine Met.ofW (cc := cX16_number) (maxL := 4) (ret := none) (by decide) rfl ?_
  intro p e s m args below meth c s₁ B hml hv
  obtain ⟨rfl, hsz, hP, hK, hD0⟩ := hv
  have hx := B.exec
  have hb := B.bytes
  have hr := B.returns
  have hts := atoms_spec (ws := v_X16_number) B.pre
  have hown : s.vm.findClass RX16 = some m.cls := findClass_of_methodNamed B.named
  have hlocks := B.notSynchronized
  have ow : ∀ {k : Nat} {w : Cond}, o_X16_number[k]? = some w → w.before ([.ref h0, .int (zI (b0))] : List Value).toArray s = true := fun h => hts _ (mow_X16_number _ (List.mem_of_getElem? h))
  subst hsz
  have hD := hD0.self (sz := s.heap.size)
  generalize hAe : va_A [(h0, .inr (14, [.ref q_t, .int (zI (z16_n)), .int (zI (z16_at)), .int (zI (z16_kind)), v16_4, .int (zI (z16_value)), v16_6, v16_7, v16_8, v16_9, v16_10, v16_11, v16_12, v16_13])), (q_t, .inl (cT, 8192, .inl (fun j : Nat => zI (a_t (j : Int)))))] s.heap.size = A at hD ⊢
  have hA : ∀ q : Nat, s.heap.size ≤ q → A q := fun q h => by rw [← hAe]; exact Or.inr h
  have hS : va_S A s.heap s.heap [] := va_S.rf
  have hP : va_P (dC, dI) vwQ [(h0, .inr (14, [.ref q_t, .int (zI (z16_n)), .int (zI (z16_at)), .int (zI (z16_kind)), v16_4, .int (zI (z16_value)), v16_6, v16_7, v16_8, v16_9, v16_10, v16_11, v16_12, v16_13])), (q_t, .inl (cT, 8192, .inl (fun j : Nat => zI (a_t (j : Int)))))] s.heap := hP
  have hl := lv_entry ([.ref h0, .int (zI (b0))]) (n := 4) (Nat.le_of_ble_eq_true rfl)
  rw [lg_entry_eq]
  generalize (lg_sl ([.ref h0, .int (zI (b0))]) ++ List.replicate (4 - (lg_sl ([.ref h0, .int (zI (b0))])).length) Slot.unset).toArray = ls at hl ⊢
  have hl : lv_has ls 4 [(0, .ref h0), (1, .int (zI (b0)))] := hl
  obtain ⟨H, hH⟩ : ∃ H, H = s.heap := ⟨_, rfl⟩
  rw [← hH] at hP
  have hS : va_S A s.heap H [] := by rw [hH]; exact hS
  rw [← hH]
  refine zW_cap (fun Q hQ => ?_)
  refine lv_iload_n hx hb dX16_number_0 rfl (lv_at hl 1 rfl) ?_
  refine lv_if_eq (tgt := 14) hx hb dX16_number_1 (by decide) (fun b1 => ?_) (fun b1 => ?_)
  · have yb1 : (b0 : Int) = (0 : Int) := (zI_eq (a := b0) (b := 0) (by omega) (by omega) (by omega) (by omega)).mp b1
    refine lv_lconst (v := lI (0)) hx hb dX16_number_14 (by decide) ?_
    refine lv_lstore_n (lv' := [(2, .long (lI (0))), (0, .ref h0), (1, .int (zI (b0)))]) hx hb dX16_number_15 rfl hl (by decide) rfl (fun ls hl => ?_)
    have key16 : ∀ n16 : Nat, ∀ (d16_2 : Int) (e16_0_2 : Int) (ls : Array Slot) (H : Heap) (locs : List Loc), (0 ≤ d16_2 ∧ d16_2 ≤ 1099511627776) → (0 ≤ e16_0_2 ∧ e16_0_2 ≤ 8192) → (z16_at + b0 ≤ e16_0_2 ∧ e16_0_2 ≤ z16_n) → ((z16_n - e16_0_2 : Int).toNat) < n16 → lv_has ls 4 [(0, .ref h0), (1, .int (zI (b0))), (2, .long (lI (d16_2)))] → va_P (dC, dI) vwQ [(h0, .inr (14, [.ref q_t, .int (zI (z16_n)), .int (zI (e16_0_2)), .int (zI (z16_kind)), v16_4, .int (zI (z16_value)), v16_6, v16_7, v16_8, v16_9, v16_10, v16_11, v16_12, v16_13])), (q_t, .inl (cT, 8192, .inl (fun j : Nat => zI (a_t (j : Int)))))] H → va_D A [(h0, .inr (14, [.ref q_t, .int (zI (z16_n)), .int (zI (e16_0_2)), .int (zI (z16_kind)), v16_4, .int (zI (z16_value)), v16_6, v16_7, v16_8, v16_9, v16_10, v16_11, v16_12, v16_13])), (q_t, .inl (cT, 8192, .inl (fun j : Nat => zI (a_t (j : Int)))))] → va_S A s.heap H locs → W p l e (headSpec v_X16_number ({ frames := 1, cells := 0, slots := 0, locals := 20 })).room s m ([.ref h0, .int (zI (b0))] : List Value).toArray below meth c H locs 0 0 Q (F0 m 16 ls []) := by
      intro n16
      induction n16 with
      | zero => intro d16_2 e16_0_2 ls H locs jd16_2 je16_0_2 ja hm16; exact absurd hm16 (by omega)
      | succ n16 ih16 =>
        intro d16_2 e16_0_2 ls H locs jd16_2 je16_0_2 ja hm16 hl hP hD hS
        refine lv_aload_n hx hb dX16_number_16 rfl (lv_at hl 0 rfl) ?_
        refine va_get (D := (dC, dI)) (ci := 14) (v := .int (zI (e16_0_2))) (C := RX16) (T := TX16) (N := 14) hx hb hts mem_X16_number_0 hown hK hP 0 rfl rfl 2 (by decide) (ow (k := 0) rfl) (fun _ h9 => h9) rfl dX16_number_17 ?_
        refine lv_aload_n hx hb dX16_number_20 rfl (lv_at hl 0 rfl) ?_
        refine va_get (D := (dC, dI)) (ci := 14) (v := .int (zI (z16_n))) (C := RX16) (T := TX16) (N := 14) hx hb hts mem_X16_number_0 hown hK hP 0 rfl rfl 1 (by decide) (ow (k := 1) rfl) (fun _ h9 => h9) rfl dX16_number_21 ?_
        refine lv_icmp_ge (tgt := 82) hx hb dX16_number_24 (by decide) (fun b24 => ?_) (fun b24 => ?_)
        · have yb24 : (z16_n : Int) ≤ (e16_0_2 : Int) := (zI_le (a := z16_n) (b := e16_0_2) (by omega) (by omega) (by omega) (by omega)).mp b24
          have hq9 : e16_0_2 = z16_at → a_t (e16_0_2) = a_t (z16_at) := (fun h => by rw [h])
          refine lv_iload_n hx hb dX16_number_82 rfl (lv_at hl 1 rfl) ?_
          refine lv_if_eq (tgt := 89) hx hb dX16_number_83 (by decide) (fun b83 => ?_) (fun b83 => ?_)
          · have yb83 : (b0 : Int) = (0 : Int) := (zI_eq (a := b0) (b := 0) (by omega) (by omega) (by omega) (by omega)).mp b83
            refine lv_aload_n hx hb dX16_number_89 rfl (lv_at hl 0 rfl) ?_
            refine lv_lload_n hx hb dX16_number_90 rfl (lv_at hl 2 rfl) ?_
            refine lv_l2i hx hb dX16_number_91 rfl ?_
            refine lv_topi (fun z ez => ?_)
            obtain ⟨w_1, rfl, hw_1⟩ := xI_ex z
            clear ez
            refine va_put (D := (dC, dI)) (ci := 14) (v := .int (zI (w_1))) (ty := .int) (C := RX16) (T := TX16) (N := 14) hx hb hts mem_X16_number_0 tyX16 tyX16_ok nmX16 hown hK hP hD hS 0 rfl rfl 5 (by decide) (ow (k := 2) rfl) (fun _ h9 => h9) rfl (by decide +kernel) rfl rfl (Nat.le_of_ble_eq_true rfl) dX16_number_92 (fun H locs hP hD hS => ?_)
            have hP : va_P (dC, dI) vwQ [(h0, .inr (14, [.ref q_t, .int (zI (z16_n)), .int (zI (e16_0_2)), .int (zI (z16_kind)), v16_4, .int (zI (w_1)), v16_6, v16_7, v16_8, v16_9, v16_10, v16_11, v16_12, v16_13])), (q_t, .inl (cT, 8192, .inl (fun j : Nat => zI (a_t (j : Int)))))] H := hP
            have hD : va_D A [(h0, .inr (14, [.ref q_t, .int (zI (z16_n)), .int (zI (e16_0_2)), .int (zI (z16_kind)), v16_4, .int (zI (w_1)), v16_6, v16_7, v16_8, v16_9, v16_10, v16_11, v16_12, v16_13])), (q_t, .inl (cT, 8192, .inl (fun j : Nat => zI (a_t (j : Int)))))] := hD
            refine lv_aload_n hx hb dX16_number_95 rfl (lv_at hl 0 rfl) ?_
            refine lv_lload_n hx hb dX16_number_96 rfl (lv_at hl 2 rfl) ?_
            refine lv_lload_n hx hb dX16_number_97 rfl (lv_at hl 2 rfl) ?_
            refine lv_l2i hx hb dX16_number_98 rfl ?_
            refine lv_topi (fun z ez => ?_)
            obtain ⟨w_2, rfl, hw_2⟩ := xI_ex z
            clear ez
            refine lv_i2l (v := lI (w_2)) hx hb dX16_number_99 (zI_l (a := w_2) (by omega) (by omega)) ?_
            refine W.lcmp hx hb dX16_number_100 ?_
            refine lv_if_ne (tgt := 108) hx hb dX16_number_101 (by decide) (fun b101 => ?_) (fun b101 => ?_)
            · have yb101 : ¬ (d16_2 : Int) = w_2 := fun q => b101 ((lc_eq (a := d16_2) (b := w_2) (by omega) (by omega) (by omega) (by omega)).mpr q)
              refine lv_bipush (v := 6) hx hb dX16_number_108 (by decide) ?_
              refine va_put (D := (dC, dI)) (ci := 14) (v := .int 6) (ty := .int) (C := RX16) (T := TX16) (N := 14) hx hb hts mem_X16_number_0 tyX16 tyX16_ok nmX16 hown hK hP hD hS 0 rfl rfl 3 (by decide) (ow (k := 3) rfl) (fun _ h9 => h9) rfl (by decide +kernel) rfl rfl (Nat.le_of_ble_eq_true rfl) dX16_number_110 (fun H locs hP hD hS => ?_)
              have hP : va_P (dC, dI) vwQ [(h0, .inr (14, [.ref q_t, .int (zI (z16_n)), .int (zI (e16_0_2)), .int 6, v16_4, .int (zI (w_1)), v16_6, v16_7, v16_8, v16_9, v16_10, v16_11, v16_12, v16_13])), (q_t, .inl (cT, 8192, .inl (fun j : Nat => zI (a_t (j : Int)))))] H := hP
              have hD : va_D A [(h0, .inr (14, [.ref q_t, .int (zI (z16_n)), .int (zI (e16_0_2)), .int 6, v16_4, .int (zI (w_1)), v16_6, v16_7, v16_8, v16_9, v16_10, v16_11, v16_12, v16_13])), (q_t, .inl (cT, 8192, .inl (fun j : Nat => zI (a_t (j : Int)))))] := hD
              subst hQ
              refine W.widen (k := 0) (n := 0) (Nat.le_of_ble_eq_true rfl) (Nat.le_of_ble_eq_true rfl) ?_
              exact W.vret hx hb hr (fun t ht hW => ⟨⟨(), rfl, trivial, e16_0_2, 6, w_1, ⟨(by omega), (by omega), (by omega), ⟨by omega, by omega, by omega⟩⟩, by rw [ht]; exact hP, va_K.moved hW.alike hK, hD⟩, hS.F ht⟩) hS.2.2 dX16_number_113
            · have yb101 : (d16_2 : Int) = w_2 := (lc_eq (a := d16_2) (b := w_2) (by omega) (by omega) (by omega) (by omega)).mp b101
              refine lv_iconst (v := 4) hx hb dX16_number_104 (by decide) ?_
              refine lv_goto (tgt := 110) hx hb dX16_number_105 (by decide) ?_
              refine va_put (D := (dC, dI)) (ci := 14) (v := .int 4) (ty := .int) (C := RX16) (T := TX16) (N := 14) hx hb hts mem_X16_number_0 tyX16 tyX16_ok nmX16 hown hK hP hD hS 0 rfl rfl 3 (by decide) (ow (k := 3) rfl) (fun _ h9 => h9) rfl (by decide +kernel) rfl rfl (Nat.le_of_ble_eq_true rfl) dX16_number_110 (fun H locs hP hD hS => ?_)
              have hP : va_P (dC, dI) vwQ [(h0, .inr (14, [.ref q_t, .int (zI (z16_n)), .int (zI (e16_0_2)), .int 4, v16_4, .int (zI (w_1)), v16_6, v16_7, v16_8, v16_9, v16_10, v16_11, v16_12, v16_13])), (q_t, .inl (cT, 8192, .inl (fun j : Nat => zI (a_t (j : Int)))))] H := hP
              have hD : va_D A [(h0, .inr (14, [.ref q_t, .int (zI (z16_n)), .int (zI (e16_0_2)), .int 4, v16_4, .int (zI (w_1)), v16_6, v16_7, v16_8, v16_9, v16_10, v16_11, v16_12, v16_13])), (q_t, .inl (cT, 8192, .inl (fun j : Nat => zI (a_t (j : Int)))))] := hD
              subst hQ
              refine W.widen (k := 0) (n := 0) (Nat.le_of_ble_eq_true rfl) (Nat.le_of_ble_eq_true rfl) ?_
              exact W.vret hx hb hr (fun t ht hW => ⟨⟨(), rfl, trivial, e16_0_2, 4, w_1, ⟨(by omega), (by omega), (by omega), ⟨by omega, by omega, by omega⟩⟩, by rw [ht]; exact hP, va_K.moved hW.alike hK, hD⟩, hS.F ht⟩) hS.2.2 dX16_number_113
          · have yb83 : ¬ (b0 : Int) = (0 : Int) := fun q => b83 ((zI_eq (a := b0) (b := 0) (by omega) (by omega) (by omega) (by omega)).mpr q)
            refine lv_lload_n hx hb dX16_number_86 rfl (lv_at hl 2 rfl) ?_
            refine lv_lneg hx hb dX16_number_87 ?_
            refine lv_topl (fun z ez => ?_)
            obtain rfl : z = lI (-(d16_2)) := ez.trans (lI_neg (d16_2))
            refine lv_lstore_n (lv' := [(2, .long (lI (-(d16_2)))), (0, .ref h0), (1, .int (zI (b0)))]) hx hb dX16_number_88 rfl hl (by decide) rfl (fun ls hl => ?_)
            refine lv_aload_n hx hb dX16_number_89 rfl (lv_at hl 1 rfl) ?_
            refine lv_lload_n hx hb dX16_number_90 rfl (lv_at hl 0 rfl) ?_
            refine lv_l2i hx hb dX16_number_91 rfl ?_
            refine lv_topi (fun z ez => ?_)
            obtain ⟨w_3, rfl, hw_3⟩ := xI_ex z
            clear ez
            refine va_put (D := (dC, dI)) (ci := 14) (v := .int (zI (w_3))) (ty := .int) (C := RX16) (T := TX16) (N := 14) hx hb hts mem_X16_number_0 tyX16 tyX16_ok nmX16 hown hK hP hD hS 0 rfl rfl 5 (by decide) (ow (k := 2) rfl) (fun _ h9 => h9) rfl (by decide +kernel) rfl rfl (Nat.le_of_ble_eq_true rfl) dX16_number_92 (fun H locs hP hD hS => ?_)
            have hP : va_P (dC, dI) vwQ [(h0, .inr (14, [.ref q_t, .int (zI (z16_n)), .int (zI (e16_0_2)), .int (zI (z16_kind)), v16_4, .int (zI (w_3)), v16_6, v16_7, v16_8, v16_9, v16_10, v16_11, v16_12, v16_13])), (q_t, .inl (cT, 8192, .inl (fun j : Nat => zI (a_t (j : Int)))))] H := hP
            have hD : va_D A [(h0, .inr (14, [.ref q_t, .int (zI (z16_n)), .int (zI (e16_0_2)), .int (zI (z16_kind)), v16_4, .int (zI (w_3)), v16_6, v16_7, v16_8, v16_9, v16_10, v16_11, v16_12, v16_13])), (q_t, .inl (cT, 8192, .inl (fun j : Nat => zI (a_t (j : Int)))))] := hD
            refine lv_aload_n hx hb dX16_number_95 rfl (lv_at hl 1 rfl) ?_
            refine lv_lload_n hx hb dX16_number_96 rfl (lv_at hl 0 rfl) ?_
            refine lv_lload_n hx hb dX16_number_97 rfl (lv_at hl 0 rfl) ?_
            refine lv_l2i hx hb dX16_number_98 rfl ?_
            refine lv_topi (fun z ez => ?_)
            obtain ⟨w_4, rfl, hw_4⟩ := xI_ex z
            clear ez
            refine lv_i2l (v := lI (w_4)) hx hb dX16_number_99 (zI_l (a := w_4) (by omega) (by omega)) ?_
            refine W.lcmp hx hb dX16_number_100 ?_
            refine lv_if_ne (tgt := 108) hx hb dX16_number_101 (by decide) (fun b101 => ?_) (fun b101 => ?_)
            · have yb101 : ¬ (-(d16_2) : Int) = w_4 := fun q => b101 ((lc_eq (a := -(d16_2)) (b := w_4) (by omega) (by omega) (by omega) (by omega)).mpr q)
              refine lv_bipush (v := 6) hx hb dX16_number_108 (by decide) ?_
              refine va_put (D := (dC, dI)) (ci := 14) (v := .int 6) (ty := .int) (C := RX16) (T := TX16) (N := 14) hx hb hts mem_X16_number_0 tyX16 tyX16_ok nmX16 hown hK hP hD hS 0 rfl rfl 3 (by decide) (ow (k := 3) rfl) (fun _ h9 => h9) rfl (by decide +kernel) rfl rfl (Nat.le_of_ble_eq_true rfl) dX16_number_110 (fun H locs hP hD hS => ?_)
              have hP : va_P (dC, dI) vwQ [(h0, .inr (14, [.ref q_t, .int (zI (z16_n)), .int (zI (e16_0_2)), .int 6, v16_4, .int (zI (w_3)), v16_6, v16_7, v16_8, v16_9, v16_10, v16_11, v16_12, v16_13])), (q_t, .inl (cT, 8192, .inl (fun j : Nat => zI (a_t (j : Int)))))] H := hP
              have hD : va_D A [(h0, .inr (14, [.ref q_t, .int (zI (z16_n)), .int (zI (e16_0_2)), .int 6, v16_4, .int (zI (w_3)), v16_6, v16_7, v16_8, v16_9, v16_10, v16_11, v16_12, v16_13])), (q_t, .inl (cT, 8192, .inl (fun j : Nat => zI (a_t (j : Int)))))] := hD
              subst hQ
              refine W.widen (k := 0) (n := 0) (Nat.le_of_ble_eq_true rfl) (Nat.le_of_ble_eq_true rfl) ?_
              exact W.vret hx hb hr (fun t ht hW => ⟨⟨(), rfl, trivial, e16_0_2, 6, w_3, ⟨(by omega), (by omega), (by omega), ⟨by omega, by omega, by omega⟩⟩, by rw [ht]; exact hP, va_K.moved hW.alike hK, hD⟩, hS.F ht⟩) hS.2.2 dX16_number_113
            · have yb101 : (-(d16_2) : Int) = w_4 := (lc_eq (a := -(d16_2)) (b := w_4) (by omega) (by omega) (by omega) (by omega)).mp b101
              refine lv_iconst (v := 4) hx hb dX16_number_104 (by decide) ?_
              refine lv_goto (tgt := 110) hx hb dX16_number_105 (by decide) ?_
              refine va_put (D := (dC, dI)) (ci := 14) (v := .int 4) (ty := .int) (C := RX16) (T := TX16) (N := 14) hx hb hts mem_X16_number_0 tyX16 tyX16_ok nmX16 hown hK hP hD hS 0 rfl rfl 3 (by decide) (ow (k := 3) rfl) (fun _ h9 => h9) rfl (by decide +kernel) rfl rfl (Nat.le_of_ble_eq_true rfl) dX16_number_110 (fun H locs hP hD hS => ?_)
              have hP : va_P (dC, dI) vwQ [(h0, .inr (14, [.ref q_t, .int (zI (z16_n)), .int (zI (e16_0_2)), .int 4, v16_4, .int (zI (w_3)), v16_6, v16_7, v16_8, v16_9, v16_10, v16_11, v16_12, v16_13])), (q_t, .inl (cT, 8192, .inl (fun j : Nat => zI (a_t (j : Int)))))] H := hP
              have hD : va_D A [(h0, .inr (14, [.ref q_t, .int (zI (z16_n)), .int (zI (e16_0_2)), .int 4, v16_4, .int (zI (w_3)), v16_6, v16_7, v16_8, v16_9, v16_10, v16_11, v16_12, v16_13])), (q_t, .inl (cT, 8192, .inl (fun j : Nat => zI (a_t (j : Int)))))] := hD
              subst hQ
              refine W.widen (k := 0) (n := 0) (Nat.le_of_ble_eq_true rfl) (Nat.le_of_ble_eq_true rfl) ?_
              exact W.vret hx hb hr (fun t ht hW => ⟨⟨(), rfl, trivial, e16_0_2, 4, w_3, ⟨(by omega), (by omega), (by omega), ⟨by omega, by omega, by omega⟩⟩, by rw [ht]; exact hP, va_K.moved hW.alike hK, hD⟩, hS.F ht⟩) hS.2.2 dX16_number_113
        · have yb24 : ¬ (z16_n : Int) ≤ (e16_0_2 : Int) := fun q => b24 ((zI_le (a := z16_n) (b := e16_0_2) (by omega) (by omega) (by omega) (by omega)).mpr q)
          have hq9 : e16_0_2 = z16_at → a_t (e16_0_2) = a_t (z16_at) := (fun h => by rw [h])
          refine lv_aload_n hx hb dX16_number_27 rfl (lv_at hl 0 rfl) ?_
          refine va_get (D := (dC, dI)) (ci := 14) (v := .ref q_t) (C := RX16) (T := TX16) (N := 14) hx hb hts mem_X16_number_0 hown hK hP 0 rfl rfl 0 (by decide) (ow (k := 4) rfl) (fun _ h9 => h9) rfl dX16_number_28 ?_
          refine lv_aload_n hx hb dX16_number_31 rfl (lv_at hl 0 rfl) ?_
          refine va_get (D := (dC, dI)) (ci := 14) (v := .int (zI (e16_0_2))) (C := RX16) (T := TX16) (N := 14) hx hb hts mem_X16_number_0 hown hK hP 0 rfl rfl 2 (by decide) (ow (k := 0) rfl) (fun _ h9 => h9) rfl dX16_number_32 ?_
          refine va_bald hx hb hK hP 1 0 rfl rfl (zI_in (a := e16_0_2) (n := 8192) (by omega) (by omega) (by decide)) dX16_number_35 ?_
          refine lv_topi (fun z ez => ?_)
          obtain rfl : z = zI (a_t (e16_0_2)) := ez.trans (zI_ld (a_t) (by omega) (by omega))
          have k1 := hR_a_t (e16_0_2)
          have hPc := hP.sub (ws' := []) [] rfl
          have hDc := hD.sub (ws' := []) [] (by decide) rfl
          have hKc := hK.sub (tys' := []) [] rfl
          have hFc := va_free (wc := []) hD hS hA [] rfl
          refine va_calli (va_runS (As := [.int (zI (a_t (e16_0_2)))]) (rest := []) ⟨hx, hb, hml, hown, hts⟩ (c_X16_isDigit l dC dI (a_t (e16_0_2)) (by omega) H.size) (cwS 1 hts g_X16_number_X16_isDigit rfl rfl rfl (by decide +kernel) ⟨(Nat.le_of_ble_eq_true rfl), (Nat.le_of_ble_eq_true rfl)⟩) ⟨fun a U g mk q => by obtain ⟨q0, q1, qP, qK, qD⟩ := q; exact ⟨q0, q1, qP, va_K.moved (u := U) (U := U.calling g mk a) (Vm.Alike.refl U.vm) qK, qD⟩, fun U hU hW => ⟨rfl, by rw [hU], by rw [hU]; exact hPc, va_K.moved hW.alike hKc, hDc.weaken (fun _ _ _ _ => trivial)⟩⟩ rfl rfl hl.1 rfl (lv_room (Nat.le_of_ble_eq_true rfl)) dX16_number_36 ⟨(Nat.le_of_ble_eq_true rfl), (Nat.le_of_ble_eq_true rfl)⟩) hS (fun q _ h => hFc q h) hFc (fun r_5 u t H1 locs ht hvm hw hB hz1 hk1 hS => ?_)
          obtain ⟨hP1, hK1, hD1⟩ := hB
          rw [ht] at hP1
          have hK1 := va_K.moved hvm.symm hK1
          obtain ⟨hP, hD⟩ := va_join (wr := [(h0, .inr (14, [.ref q_t, .int (zI (z16_n)), .int (zI (e16_0_2)), .int (zI (z16_kind)), v16_4, .int (zI (z16_value)), v16_6, v16_7, v16_8, v16_9, v16_10, v16_11, v16_12, v16_13])), (q_t, .inl (cT, 8192, .inl (fun j : Nat => zI (a_t (j : Int)))))]) (w1 := []) hP hD [] [0, 1] rfl rfl (by decide) (by decide) hk1 hFc hP1 hD1
          have hK := (hK.sub (tys' := [(cT, .byte)]) [0] rfl).app hK1
          generalize H1 = H at hP hS ⊢
          have hP : va_P (dC, dI) vwQ [(h0, .inr (14, [.ref q_t, .int (zI (z16_n)), .int (zI (e16_0_2)), .int (zI (z16_kind)), v16_4, .int (zI (z16_value)), v16_6, v16_7, v16_8, v16_9, v16_10, v16_11, v16_12, v16_13])), (q_t, .inl (cT, 8192, .inl (fun j : Nat => zI (a_t (j : Int)))))] H := hP
          have hD : va_D A [(h0, .inr (14, [.ref q_t, .int (zI (z16_n)), .int (zI (e16_0_2)), .int (zI (z16_kind)), v16_4, .int (zI (z16_value)), v16_6, v16_7, v16_8, v16_9, v16_10, v16_11, v16_12, v16_13])), (q_t, .inl (cT, 8192, .inl (fun j : Nat => zI (a_t (j : Int)))))] := hD
          have hK : va_K (dC, dI) vwQ [(cT, .byte)] s := hK
          refine W.widen (k := 0) (n := 0) (Nat.le_of_ble_eq_true rfl) (Nat.le_of_ble_eq_true rfl) ?_
          have hw_6 := hw
          obtain ⟨z_7, rfl, hzz_7⟩ := hw_6
          refine lv_if_eq (tgt := 82) hx hb dX16_number_39 (by decide) (fun b39 => ?_) (fun b39 => ?_)
          · have yb39 : (z_7 : Int) = (0 : Int) := (zI_eq (a := z_7) (b := 0) (by omega) (by omega) (by omega) (by omega)).mp b39
            have hq9 : e16_0_2 = z16_at → a_t (e16_0_2) = a_t (z16_at) := (fun h => by rw [h])
            refine lv_iload_n hx hb dX16_number_82 rfl (lv_at hl 1 rfl) ?_
            refine lv_if_eq (tgt := 89) hx hb dX16_number_83 (by decide) (fun b83 => ?_) (fun b83 => ?_)
            · have yb83 : (b0 : Int) = (0 : Int) := (zI_eq (a := b0) (b := 0) (by omega) (by omega) (by omega) (by omega)).mp b83
              refine lv_aload_n hx hb dX16_number_89 rfl (lv_at hl 0 rfl) ?_
              refine lv_lload_n hx hb dX16_number_90 rfl (lv_at hl 2 rfl) ?_
              refine lv_l2i hx hb dX16_number_91 rfl ?_
              refine lv_topi (fun z ez => ?_)
              obtain ⟨w_8, rfl, hw_8⟩ := xI_ex z
              clear ez
              refine va_put (D := (dC, dI)) (ci := 14) (v := .int (zI (w_8))) (ty := .int) (C := RX16) (T := TX16) (N := 14) hx hb hts mem_X16_number_0 tyX16 tyX16_ok nmX16 hown hK hP hD hS 0 rfl rfl 5 (by decide) (ow (k := 2) rfl) (fun _ h9 => h9) rfl (by decide +kernel) rfl rfl (Nat.le_of_ble_eq_true rfl) dX16_number_92 (fun H locs hP hD hS => ?_)
              have hP : va_P (dC, dI) vwQ [(h0, .inr (14, [.ref q_t, .int (zI (z16_n)), .int (zI (e16_0_2)), .int (zI (z16_kind)), v16_4, .int (zI (w_8)), v16_6, v16_7, v16_8, v16_9, v16_10, v16_11, v16_12, v16_13])), (q_t, .inl (cT, 8192, .inl (fun j : Nat => zI (a_t (j : Int)))))] H := hP
              have hD : va_D A [(h0, .inr (14, [.ref q_t, .int (zI (z16_n)), .int (zI (e16_0_2)), .int (zI (z16_kind)), v16_4, .int (zI (w_8)), v16_6, v16_7, v16_8, v16_9, v16_10, v16_11, v16_12, v16_13])), (q_t, .inl (cT, 8192, .inl (fun j : Nat => zI (a_t (j : Int)))))] := hD
              refine lv_aload_n hx hb dX16_number_95 rfl (lv_at hl 0 rfl) ?_
              refine lv_lload_n hx hb dX16_number_96 rfl (lv_at hl 2 rfl) ?_
              refine lv_lload_n hx hb dX16_number_97 rfl (lv_at hl 2 rfl) ?_
              refine lv_l2i hx hb dX16_number_98 rfl ?_
              refine lv_topi (fun z ez => ?_)
              obtain ⟨w_9, rfl, hw_9⟩ := xI_ex z
              clear ez
              refine lv_i2l (v := lI (w_9)) hx hb dX16_number_99 (zI_l (a := w_9) (by omega) (by omega)) ?_
              refine W.lcmp hx hb dX16_number_100 ?_
              refine lv_if_ne (tgt := 108) hx hb dX16_number_101 (by decide) (fun b101 => ?_) (fun b101 => ?_)
              · have yb101 : ¬ (d16_2 : Int) = w_9 := fun q => b101 ((lc_eq (a := d16_2) (b := w_9) (by omega) (by omega) (by omega) (by omega)).mpr q)
                refine lv_bipush (v := 6) hx hb dX16_number_108 (by decide) ?_
                refine va_put (D := (dC, dI)) (ci := 14) (v := .int 6) (ty := .int) (C := RX16) (T := TX16) (N := 14) hx hb hts mem_X16_number_0 tyX16 tyX16_ok nmX16 hown hK hP hD hS 0 rfl rfl 3 (by decide) (ow (k := 3) rfl) (fun _ h9 => h9) rfl (by decide +kernel) rfl rfl (Nat.le_of_ble_eq_true rfl) dX16_number_110 (fun H locs hP hD hS => ?_)
                have hP : va_P (dC, dI) vwQ [(h0, .inr (14, [.ref q_t, .int (zI (z16_n)), .int (zI (e16_0_2)), .int 6, v16_4, .int (zI (w_8)), v16_6, v16_7, v16_8, v16_9, v16_10, v16_11, v16_12, v16_13])), (q_t, .inl (cT, 8192, .inl (fun j : Nat => zI (a_t (j : Int)))))] H := hP
                have hD : va_D A [(h0, .inr (14, [.ref q_t, .int (zI (z16_n)), .int (zI (e16_0_2)), .int 6, v16_4, .int (zI (w_8)), v16_6, v16_7, v16_8, v16_9, v16_10, v16_11, v16_12, v16_13])), (q_t, .inl (cT, 8192, .inl (fun j : Nat => zI (a_t (j : Int)))))] := hD
                subst hQ
                refine W.widen (k := 0) (n := 0) (Nat.le_of_ble_eq_true rfl) (Nat.le_of_ble_eq_true rfl) ?_
                exact W.vret hx hb hr (fun t ht hW => ⟨⟨(), rfl, trivial, e16_0_2, 6, w_8, ⟨(by omega), (by omega), (by omega), ⟨by omega, by omega, by omega⟩⟩, by rw [ht]; exact hP, va_K.moved hW.alike hK, hD⟩, hS.F ht⟩) hS.2.2 dX16_number_113
              · have yb101 : (d16_2 : Int) = w_9 := (lc_eq (a := d16_2) (b := w_9) (by omega) (by omega) (by omega) (by omega)).mp b101
                refine lv_iconst (v := 4) hx hb dX16_number_104 (by decide) ?_
                refine lv_goto (tgt := 110) hx hb dX16_number_105 (by decide) ?_
                refine va_put (D := (dC, dI)) (ci := 14) (v := .int 4) (ty := .int) (C := RX16) (T := TX16) (N := 14) hx hb hts mem_X16_number_0 tyX16 tyX16_ok nmX16 hown hK hP hD hS 0 rfl rfl 3 (by decide) (ow (k := 3) rfl) (fun _ h9 => h9) rfl (by decide +kernel) rfl rfl (Nat.le_of_ble_eq_true rfl) dX16_number_110 (fun H locs hP hD hS => ?_)
                have hP : va_P (dC, dI) vwQ [(h0, .inr (14, [.ref q_t, .int (zI (z16_n)), .int (zI (e16_0_2)), .int 4, v16_4, .int (zI (w_8)), v16_6, v16_7, v16_8, v16_9, v16_10, v16_11, v16_12, v16_13])), (q_t, .inl (cT, 8192, .inl (fun j : Nat => zI (a_t (j : Int)))))] H := hP
                have hD : va_D A [(h0, .inr (14, [.ref q_t, .int (zI (z16_n)), .int (zI (e16_0_2)), .int 4, v16_4, .int (zI (w_8)), v16_6, v16_7, v16_8, v16_9, v16_10, v16_11, v16_12, v16_13])), (q_t, .inl (cT, 8192, .inl (fun j : Nat => zI (a_t (j : Int)))))] := hD
                subst hQ
                refine W.widen (k := 0) (n := 0) (Nat.le_of_ble_eq_true rfl) (Nat.le_of_ble_eq_true rfl) ?_
                exact W.vret hx hb hr (fun t ht hW => ⟨⟨(), rfl, trivial, e16_0_2, 4, w_8, ⟨(by omega), (by omega), (by omega), ⟨by omega, by omega, by omega⟩⟩, by rw [ht]; exact hP, va_K.moved hW.alike hK, hD⟩, hS.F ht⟩) hS.2.2 dX16_number_113
            · have yb83 : ¬ (b0 : Int) = (0 : Int) := fun q => b83 ((zI_eq (a := b0) (b := 0) (by omega) (by omega) (by omega) (by omega)).mpr q)
              refine lv_lload_n hx hb dX16_number_86 rfl (lv_at hl 2 rfl) ?_
              refine lv_lneg hx hb dX16_number_87 ?_
              refine lv_topl (fun z ez => ?_)
              obtain rfl : z = lI (-(d16_2)) := ez.trans (lI_neg (d16_2))
              refine lv_lstore_n (lv' := [(2, .long (lI (-(d16_2)))), (0, .ref h0), (1, .int (zI (b0)))]) hx hb dX16_number_88 rfl hl (by decide) rfl (fun ls hl => ?_)
              refine lv_aload_n hx hb dX16_number_89 rfl (lv_at hl 1 rfl) ?_
              refine lv_lload_n hx hb dX16_number_90 rfl (lv_at hl 0 rfl) ?_
              refine lv_l2i hx hb dX16_number_91 rfl ?_
              refine lv_topi (fun z ez => ?_)
              obtain ⟨w_10, rfl, hw_10⟩ := xI_ex z
              clear ez
              refine va_put (D := (dC, dI)) (ci := 14) (v := .int (zI (w_10))) (ty := .int) (C := RX16) (T := TX16) (N := 14) hx hb hts mem_X16_number_0 tyX16 tyX16_ok nmX16 hown hK hP hD hS 0 rfl rfl 5 (by decide) (ow (k := 2) rfl) (fun _ h9 => h9) rfl (by decide +kernel) rfl rfl (Nat.le_of_ble_eq_true rfl) dX16_number_92 (fun H locs hP hD hS => ?_)
              have hP : va_P (dC, dI) vwQ [(h0, .inr (14, [.ref q_t, .int (zI (z16_n)), .int (zI (e16_0_2)), .int (zI (z16_kind)), v16_4, .int (zI (w_10)), v16_6, v16_7, v16_8, v16_9, v16_10, v16_11, v16_12, v16_13])), (q_t, .inl (cT, 8192, .inl (fun j : Nat => zI (a_t (j : Int)))))] H := hP
              have hD : va_D A [(h0, .inr (14, [.ref q_t, .int (zI (z16_n)), .int (zI (e16_0_2)), .int (zI (z16_kind)), v16_4, .int (zI (w_10)), v16_6, v16_7, v16_8, v16_9, v16_10, v16_11, v16_12, v16_13])), (q_t, .inl (cT, 8192, .inl (fun j : Nat => zI (a_t (j : Int)))))] := hD
              refine lv_aload_n hx hb dX16_number_95 rfl (lv_at hl 1 rfl) ?_
              refine lv_lload_n hx hb dX16_number_96 rfl (lv_at hl 0 rfl) ?_
              refine lv_lload_n hx hb dX16_number_97 rfl (lv_at hl 0 rfl) ?_
              refine lv_l2i hx hb dX16_number_98 rfl ?_
              refine lv_topi (fun z ez => ?_)
              obtain ⟨w_11, rfl, hw_11⟩ := xI_ex z
              clear ez
              refine lv_i2l (v := lI (w_11)) hx hb dX16_number_99 (zI_l (a := w_11) (by omega) (by omega)) ?_
              refine W.lcmp hx hb dX16_number_100 ?_
              refine lv_if_ne (tgt := 108) hx hb dX16_number_101 (by decide) (fun b101 => ?_) (fun b101 => ?_)
              · have yb101 : ¬ (-(d16_2) : Int) = w_11 := fun q => b101 ((lc_eq (a := -(d16_2)) (b := w_11) (by omega) (by omega) (by omega) (by omega)).mpr q)
                refine lv_bipush (v := 6) hx hb dX16_number_108 (by decide) ?_
                refine va_put (D := (dC, dI)) (ci := 14) (v := .int 6) (ty := .int) (C := RX16) (T := TX16) (N := 14) hx hb hts mem_X16_number_0 tyX16 tyX16_ok nmX16 hown hK hP hD hS 0 rfl rfl 3 (by decide) (ow (k := 3) rfl) (fun _ h9 => h9) rfl (by decide +kernel) rfl rfl (Nat.le_of_ble_eq_true rfl) dX16_number_110 (fun H locs hP hD hS => ?_)
                have hP : va_P (dC, dI) vwQ [(h0, .inr (14, [.ref q_t, .int (zI (z16_n)), .int (zI (e16_0_2)), .int 6, v16_4, .int (zI (w_10)), v16_6, v16_7, v16_8, v16_9, v16_10, v16_11, v16_12, v16_13])), (q_t, .inl (cT, 8192, .inl (fun j : Nat => zI (a_t (j : Int)))))] H := hP
                have hD : va_D A [(h0, .inr (14, [.ref q_t, .int (zI (z16_n)), .int (zI (e16_0_2)), .int 6, v16_4, .int (zI (w_10)), v16_6, v16_7, v16_8, v16_9, v16_10, v16_11, v16_12, v16_13])), (q_t, .inl (cT, 8192, .inl (fun j : Nat => zI (a_t (j : Int)))))] := hD
                subst hQ
                refine W.widen (k := 0) (n := 0) (Nat.le_of_ble_eq_true rfl) (Nat.le_of_ble_eq_true rfl) ?_
                exact W.vret hx hb hr (fun t ht hW => ⟨⟨(), rfl, trivial, e16_0_2, 6, w_10, ⟨(by omega), (by omega), (by omega), ⟨by omega, by omega, by omega⟩⟩, by rw [ht]; exact hP, va_K.moved hW.alike hK, hD⟩, hS.F ht⟩) hS.2.2 dX16_number_113
              · have yb101 : (-(d16_2) : Int) = w_11 := (lc_eq (a := -(d16_2)) (b := w_11) (by omega) (by omega) (by omega) (by omega)).mp b101
                refine lv_iconst (v := 4) hx hb dX16_number_104 (by decide) ?_
                refine lv_goto (tgt := 110) hx hb dX16_number_105 (by decide) ?_
                refine va_put (D := (dC, dI)) (ci := 14) (v := .int 4) (ty := .int) (C := RX16) (T := TX16) (N := 14) hx hb hts mem_X16_number_0 tyX16 tyX16_ok nmX16 hown hK hP hD hS 0 rfl rfl 3 (by decide) (ow (k := 3) rfl) (fun _ h9 => h9) rfl (by decide +kernel) rfl rfl (Nat.le_of_ble_eq_true rfl) dX16_number_110 (fun H locs hP hD hS => ?_)
                have hP : va_P (dC, dI) vwQ [(h0, .inr (14, [.ref q_t, .int (zI (z16_n)), .int (zI (e16_0_2)), .int 4, v16_4, .int (zI (w_10)), v16_6, v16_7, v16_8, v16_9, v16_10, v16_11, v16_12, v16_13])), (q_t, .inl (cT, 8192, .inl (fun j : Nat => zI (a_t (j : Int)))))] H := hP
                have hD : va_D A [(h0, .inr (14, [.ref q_t, .int (zI (z16_n)), .int (zI (e16_0_2)), .int 4, v16_4, .int (zI (w_10)), v16_6, v16_7, v16_8, v16_9, v16_10, v16_11, v16_12, v16_13])), (q_t, .inl (cT, 8192, .inl (fun j : Nat => zI (a_t (j : Int)))))] := hD
                subst hQ
                refine W.widen (k := 0) (n := 0) (Nat.le_of_ble_eq_true rfl) (Nat.le_of_ble_eq_true rfl) ?_
                exact W.vret hx hb hr (fun t ht hW => ⟨⟨(), rfl, trivial, e16_0_2, 4, w_10, ⟨(by omega), (by omega), (by omega), ⟨by omega, by omega, by omega⟩⟩, by rw [ht]; exact hP, va_K.moved hW.alike hK, hD⟩, hS.F ht⟩) hS.2.2 dX16_number_113
          · have yb39 : ¬ (z_7 : Int) = (0 : Int) := fun q => b39 ((zI_eq (a := z_7) (b := 0) (by omega) (by omega) (by omega) (by omega)).mpr q)
            refine lv_lload_n hx hb dX16_number_42 rfl (lv_at hl 2 rfl) ?_
            refine lv_ldc2 (v := 10) hx hb hown (ow (k := 8) rfl) dX16_number_43 ?_
            refine lv_topl (fun z ez => ?_)
            obtain rfl : z = lI (10) := ez
            refine lv_lmul hx hb dX16_number_46 ?_
            refine lv_topl (fun z ez => ?_)
            obtain rfl : z = lI (d16_2 * 10) := ez.trans (lI_mul (d16_2) (10))
            refine lv_aload_n hx hb dX16_number_47 rfl (lv_at hl 0 rfl) ?_
            refine va_get (D := (dC, dI)) (ci := 14) (v := .ref q_t) (C := RX16) (T := TX16) (N := 14) hx hb hts mem_X16_number_0 hown hK hP 0 rfl rfl 0 (by decide) (ow (k := 4) rfl) (fun _ h9 => h9) rfl dX16_number_48 ?_
            refine lv_aload_n hx hb dX16_number_51 rfl (lv_at hl 0 rfl) ?_
            refine va_get (D := (dC, dI)) (ci := 14) (v := .int (zI (e16_0_2))) (C := RX16) (T := TX16) (N := 14) hx hb hts mem_X16_number_0 hown hK hP 0 rfl rfl 2 (by decide) (ow (k := 0) rfl) (fun _ h9 => h9) rfl dX16_number_52 ?_
            refine va_bald hx hb hK hP 1 0 rfl rfl (zI_in (a := e16_0_2) (n := 8192) (by omega) (by omega) (by decide)) dX16_number_55 ?_
            refine lv_topi (fun z ez => ?_)
            obtain rfl : z = zI (a_t (e16_0_2)) := ez.trans (zI_ld (a_t) (by omega) (by omega))
            have k2 := hR_a_t (e16_0_2)
            refine lv_i2l (v := lI (a_t (e16_0_2))) hx hb dX16_number_56 (zI_l (a := a_t (e16_0_2)) (by omega) (by omega)) ?_
            refine lv_ladd hx hb dX16_number_57 ?_
            refine lv_topl (fun z ez => ?_)
            obtain rfl : z = lI ((d16_2 * 10) + (a_t (e16_0_2))) := ez.trans (lI_add (d16_2 * 10) (a_t (e16_0_2)))
            refine lv_ldc2 (v := 48) hx hb hown (ow (k := 9) rfl) dX16_number_58 ?_
            refine lv_topl (fun z ez => ?_)
            obtain rfl : z = lI (48) := ez
            refine lv_lsub hx hb dX16_number_61 ?_
            refine lv_topl (fun z ez => ?_)
            obtain rfl : z = lI (((d16_2 * 10) + (a_t (e16_0_2))) - 48) := ez.trans (lI_sub ((d16_2 * 10) + (a_t (e16_0_2))) (48))
            refine lv_ldc2 (v := 1099511627776) hx hb hown (ow (k := 10) rfl) dX16_number_62 ?_
            refine lv_topl (fun z ez => ?_)
            obtain rfl : z = lI (1099511627776) := ez
            refine va_mmin_long hx hb (hml.trans hl.1.symm) hown (ow (k := 11) rfl) (ow (k := 12) rfl) (ow (k := 13) rfl) (ow (k := 14) rfl) (Nat.le_of_ble_eq_true rfl) (Nat.le_of_ble_eq_true rfl) (Nat.le_of_ble_eq_true rfl) (Nat.le_of_ble_eq_true rfl) dX16_number_65 ?_
            refine lv_topl (fun z9 ez => ?_)
            obtain ⟨z_12, rfl, hzz_12⟩ := lI_min (a := ((d16_2 * 10) + (a_t (e16_0_2))) - 48) (b := 1099511627776) (by omega) (by omega) (by omega) (by omega) ez
            refine lv_lstore_n (lv' := [(2, .long (lI (z_12))), (0, .ref h0), (1, .int (zI (b0)))]) hx hb dX16_number_68 rfl hl (by decide) rfl (fun ls hl => ?_)
            refine lv_aload_n hx hb dX16_number_69 rfl (lv_at hl 1 rfl) ?_
            refine lv_dup hx hb dX16_number_70 rfl ?_
            refine va_get (D := (dC, dI)) (ci := 14) (v := .int (zI (e16_0_2))) (C := RX16) (T := TX16) (N := 14) hx hb hts mem_X16_number_0 hown hK hP 0 rfl rfl 2 (by decide) (ow (k := 0) rfl) (fun _ h9 => h9) rfl dX16_number_71 ?_
            refine lv_iconst (v := 1) hx hb dX16_number_74 (by decide) ?_
            refine lv_iadd hx hb dX16_number_75 ?_
            refine lv_topi (fun z ez => ?_)
            obtain rfl : z = zI (e16_0_2 + 1) := ez.trans (zI_add (e16_0_2) (1))
            refine va_put (D := (dC, dI)) (ci := 14) (v := .int (zI (e16_0_2 + 1))) (ty := .int) (C := RX16) (T := TX16) (N := 14) hx hb hts mem_X16_number_0 tyX16 tyX16_ok nmX16 hown hK hP hD hS 0 rfl rfl 2 (by decide) (ow (k := 0) rfl) (fun _ h9 => h9) rfl (by decide +kernel) rfl rfl (Nat.le_of_ble_eq_true rfl) dX16_number_76 (fun H locs hP hD hS => ?_)
            have hP : va_P (dC, dI) vwQ [(h0, .inr (14, [.ref q_t, .int (zI (z16_n)), .int (zI (e16_0_2 + 1)), .int (zI (z16_kind)), v16_4, .int (zI (z16_value)), v16_6, v16_7, v16_8, v16_9, v16_10, v16_11, v16_12, v16_13])), (q_t, .inl (cT, 8192, .inl (fun j : Nat => zI (a_t (j : Int)))))] H := hP
            have hD : va_D A [(h0, .inr (14, [.ref q_t, .int (zI (z16_n)), .int (zI (e16_0_2 + 1)), .int (zI (z16_kind)), v16_4, .int (zI (z16_value)), v16_6, v16_7, v16_8, v16_9, v16_10, v16_11, v16_12, v16_13])), (q_t, .inl (cT, 8192, .inl (fun j : Nat => zI (a_t (j : Int)))))] := hD
            obtain ⟨z_13, ez_13⟩ : ∃ z9 : Int, z9 = e16_0_2 + 1 := ⟨_, rfl⟩
            rw [← ez_13] at hP hD
            have hP : va_P (dC, dI) vwQ [(h0, .inr (14, [.ref q_t, .int (zI (z16_n)), .int (zI (z_13)), .int (zI (z16_kind)), v16_4, .int (zI (z16_value)), v16_6, v16_7, v16_8, v16_9, v16_10, v16_11, v16_12, v16_13])), (q_t, .inl (cT, 8192, .inl (fun j : Nat => zI (a_t (j : Int)))))] H := hP
            have hD : va_D A [(h0, .inr (14, [.ref q_t, .int (zI (z16_n)), .int (zI (z_13)), .int (zI (z16_kind)), v16_4, .int (zI (z16_value)), v16_6, v16_7, v16_8, v16_9, v16_10, v16_11, v16_12, v16_13])), (q_t, .inl (cT, 8192, .inl (fun j : Nat => zI (a_t (j : Int)))))] := hD
            refine lv_goto (tgt := 16) hx hb dX16_number_79 (by decide) ?_
            exact ih16 z_12 z_13 ls H _ (by omega) (by omega) (by omega) (by omega) (lv_sub hl [1, 2, 0] rfl) hP hD hS
    exact key16 ((z16_n - z16_at : Int).toNat + 1) 0 z16_at ls H _ (by omega) (by omega) (by omega) (by omega) (lv_sub hl [1, 2, 0] rfl) hP hD hS
  · have yb1 : ¬ (b0 : Int) = (0 : Int) := fun q => b1 ((zI_eq (a := b0) (b := 0) (by omega) (by omega) (by omega) (by omega)).mpr q)
    refine lv_aload_n hx hb dX16_number_4 rfl (lv_at hl 0 rfl) ?_
    refine lv_dup hx hb dX16_number_5 rfl ?_
    refine va_get (D := (dC, dI)) (ci := 14) (v := .int (zI (z16_at))) (C := RX16) (T := TX16) (N := 14) hx hb hts mem_X16_number_0 hown hK hP 0 rfl rfl 2 (by decide) (ow (k := 0) rfl) (fun _ h9 => h9) rfl dX16_number_6 ?_
    refine lv_iconst (v := 1) hx hb dX16_number_9 (by decide) ?_
    refine lv_iadd hx hb dX16_number_10 ?_
    refine lv_topi (fun z ez => ?_)
    obtain rfl : z = zI (z16_at + 1) := ez.trans (zI_add (z16_at) (1))
    refine va_put (D := (dC, dI)) (ci := 14) (v := .int (zI (z16_at + 1))) (ty := .int) (C := RX16) (T := TX16) (N := 14) hx hb hts mem_X16_number_0 tyX16 tyX16_ok nmX16 hown hK hP hD hS 0 rfl rfl 2 (by decide) (ow (k := 0) rfl) (fun _ h9 => h9) rfl (by decide +kernel) rfl rfl (Nat.le_of_ble_eq_true rfl) dX16_number_11 (fun H locs hP hD hS => ?_)
    have hP : va_P (dC, dI) vwQ [(h0, .inr (14, [.ref q_t, .int (zI (z16_n)), .int (zI (z16_at + 1)), .int (zI (z16_kind)), v16_4, .int (zI (z16_value)), v16_6, v16_7, v16_8, v16_9, v16_10, v16_11, v16_12, v16_13])), (q_t, .inl (cT, 8192, .inl (fun j : Nat => zI (a_t (j : Int)))))] H := hP
    have hD : va_D A [(h0, .inr (14, [.ref q_t, .int (zI (z16_n)), .int (zI (z16_at + 1)), .int (zI (z16_kind)), v16_4, .int (zI (z16_value)), v16_6, v16_7, v16_8, v16_9, v16_10, v16_11, v16_12, v16_13])), (q_t, .inl (cT, 8192, .inl (fun j : Nat => zI (a_t (j : Int)))))] := hD
    obtain ⟨z_14, ez_14⟩ : ∃ z9 : Int, z9 = z16_at + 1 := ⟨_, rfl⟩
    rw [← ez_14] at hP hD
    have hP : va_P (dC, dI) vwQ [(h0, .inr (14, [.ref q_t, .int (zI (z16_n)), .int (zI (z_14)), .int (zI (z16_kind)), v16_4, .int (zI (z16_value)), v16_6, v16_7, v16_8, v16_9, v16_10, v16_11, v16_12, v16_13])), (q_t, .inl (cT, 8192, .inl (fun j : Nat => zI (a_t (j : Int)))))] H := hP
    have hD : va_D A [(h0, .inr (14, [.ref q_t, .int (zI (z16_n)), .int (zI (z_14)), .int (zI (z16_kind)), v16_4, .int (zI (z16_value)), v16_6, v16_7, v16_8, v16_9, v16_10, v16_11, v16_12, v16_13])), (q_t, .inl (cT, 8192, .inl (fun j : Nat => zI (a_t (j : Int)))))] := hD
    refine lv_lconst (v := lI (0)) hx hb dX16_number_14 (by decide) ?_
    refine lv_lstore_n (lv' := [(2, .long (lI (0))), (0, .ref h0), (1, .int (zI (b0)))]) hx hb dX16_number_15 rfl hl (by decide) rfl (fun ls hl => ?_)
    have key16 : ∀ n16 : Nat, ∀ (d16_2 : Int) (e16_0_2 : Int) (ls : Array Slot) (H : Heap) (locs : List Loc), (0 ≤ d16_2 ∧ d16_2 ≤ 1099511627776) → (0 ≤ e16_0_2 ∧ e16_0_2 ≤ 8192) → (z16_at + b0 ≤ e16_0_2 ∧ e16_0_2 ≤ z16_n) → ((z16_n - e16_0_2 : Int).toNat) < n16 → lv_has ls 4 [(0, .ref h0), (1, .int (zI (b0))), (2, .long (lI (d16_2)))] → va_P (dC, dI) vwQ [(h0, .inr (14, [.ref q_t, .int (zI (z16_n)), .int (zI (e16_0_2)), .int (zI (z16_kind)), v16_4, .int (zI (z16_value)), v16_6, v16_7, v16_8, v16_9, v16_10, v16_11, v16_12, v16_13])), (q_t, .inl (cT, 8192, .inl (fun j : Nat => zI (a_t (j : Int)))))] H → va_D A [(h0, .inr (14, [.ref q_t, .int (zI (z16_n)), .int (zI (e16_0_2)), .int (zI (z16_kind)), v16_4, .int (zI (z16_value)), v16_6, v16_7, v16_8, v16_9, v16_10, v16_11, v16_12, v16_13])), (q_t, .inl (cT, 8192, .inl (fun j : Nat => zI (a_t (j : Int)))))] → va_S A s.heap H locs → W p l e (headSpec v_X16_number ({ frames := 1, cells := 0, slots := 0, locals := 20 })).room s m ([.ref h0, .int (zI (b0))] : List Value).toArray below meth c H locs 0 0 Q (F0 m 16 ls []) := by
      intro n16
      induction n16 with
      | zero => intro d16_2 e16_0_2 ls H locs jd16_2 je16_0_2 ja hm16; exact absurd hm16 (by omega)
      | succ n16 ih16 =>
        intro d16_2 e16_0_2 ls H locs jd16_2 je16_0_2 ja hm16 hl hP hD hS
        refine lv_aload_n hx hb dX16_number_16 rfl (lv_at hl 0 rfl) ?_
        refine va_get (D := (dC, dI)) (ci := 14) (v := .int (zI (e16_0_2))) (C := RX16) (T := TX16) (N := 14) hx hb hts mem_X16_number_0 hown hK hP 0 rfl rfl 2 (by decide) (ow (k := 0) rfl) (fun _ h9 => h9) rfl dX16_number_17 ?_
        refine lv_aload_n hx hb dX16_number_20 rfl (lv_at hl 0 rfl) ?_
        refine va_get (D := (dC, dI)) (ci := 14) (v := .int (zI (z16_n))) (C := RX16) (T := TX16) (N := 14) hx hb hts mem_X16_number_0 hown hK hP 0 rfl rfl 1 (by decide) (ow (k := 1) rfl) (fun _ h9 => h9) rfl dX16_number_21 ?_
        refine lv_icmp_ge (tgt := 82) hx hb dX16_number_24 (by decide) (fun b24 => ?_) (fun b24 => ?_)
        · have yb24 : (z16_n : Int) ≤ (e16_0_2 : Int) := (zI_le (a := z16_n) (b := e16_0_2) (by omega) (by omega) (by omega) (by omega)).mp b24
          have hq9 : e16_0_2 = z16_at → a_t (e16_0_2) = a_t (z16_at) := (fun h => by rw [h])
          refine lv_iload_n hx hb dX16_number_82 rfl (lv_at hl 1 rfl) ?_
          refine lv_if_eq (tgt := 89) hx hb dX16_number_83 (by decide) (fun b83 => ?_) (fun b83 => ?_)
          · have yb83 : (b0 : Int) = (0 : Int) := (zI_eq (a := b0) (b := 0) (by omega) (by omega) (by omega) (by omega)).mp b83
            refine lv_aload_n hx hb dX16_number_89 rfl (lv_at hl 0 rfl) ?_
            refine lv_lload_n hx hb dX16_number_90 rfl (lv_at hl 2 rfl) ?_
            refine lv_l2i hx hb dX16_number_91 rfl ?_
            refine lv_topi (fun z ez => ?_)
            obtain ⟨w_15, rfl, hw_15⟩ := xI_ex z
            clear ez
            refine va_put (D := (dC, dI)) (ci := 14) (v := .int (zI (w_15))) (ty := .int) (C := RX16) (T := TX16) (N := 14) hx hb hts mem_X16_number_0 tyX16 tyX16_ok nmX16 hown hK hP hD hS 0 rfl rfl 5 (by decide) (ow (k := 2) rfl) (fun _ h9 => h9) rfl (by decide +kernel) rfl rfl (Nat.le_of_ble_eq_true rfl) dX16_number_92 (fun H locs hP hD hS => ?_)
            have hP : va_P (dC, dI) vwQ [(h0, .inr (14, [.ref q_t, .int (zI (z16_n)), .int (zI (e16_0_2)), .int (zI (z16_kind)), v16_4, .int (zI (w_15)), v16_6, v16_7, v16_8, v16_9, v16_10, v16_11, v16_12, v16_13])), (q_t, .inl (cT, 8192, .inl (fun j : Nat => zI (a_t (j : Int)))))] H := hP
            have hD : va_D A [(h0, .inr (14, [.ref q_t, .int (zI (z16_n)), .int (zI (e16_0_2)), .int (zI (z16_kind)), v16_4, .int (zI (w_15)), v16_6, v16_7, v16_8, v16_9, v16_10, v16_11, v16_12, v16_13])), (q_t, .inl (cT, 8192, .inl (fun j : Nat => zI (a_t (j : Int)))))] := hD
            refine lv_aload_n hx hb dX16_number_95 rfl (lv_at hl 0 rfl) ?_
            refine lv_lload_n hx hb dX16_number_96 rfl (lv_at hl 2 rfl) ?_
            refine lv_lload_n hx hb dX16_number_97 rfl (lv_at hl 2 rfl) ?_
            refine lv_l2i hx hb dX16_number_98 rfl ?_
            refine lv_topi (fun z ez => ?_)
            obtain ⟨w_16, rfl, hw_16⟩ := xI_ex z
            clear ez
            refine lv_i2l (v := lI (w_16)) hx hb dX16_number_99 (zI_l (a := w_16) (by omega) (by omega)) ?_
            refine W.lcmp hx hb dX16_number_100 ?_
            refine lv_if_ne (tgt := 108) hx hb dX16_number_101 (by decide) (fun b101 => ?_) (fun b101 => ?_)
            · have yb101 : ¬ (d16_2 : Int) = w_16 := fun q => b101 ((lc_eq (a := d16_2) (b := w_16) (by omega) (by omega) (by omega) (by omega)).mpr q)
              refine lv_bipush (v := 6) hx hb dX16_number_108 (by decide) ?_
              refine va_put (D := (dC, dI)) (ci := 14) (v := .int 6) (ty := .int) (C := RX16) (T := TX16) (N := 14) hx hb hts mem_X16_number_0 tyX16 tyX16_ok nmX16 hown hK hP hD hS 0 rfl rfl 3 (by decide) (ow (k := 3) rfl) (fun _ h9 => h9) rfl (by decide +kernel) rfl rfl (Nat.le_of_ble_eq_true rfl) dX16_number_110 (fun H locs hP hD hS => ?_)
              have hP : va_P (dC, dI) vwQ [(h0, .inr (14, [.ref q_t, .int (zI (z16_n)), .int (zI (e16_0_2)), .int 6, v16_4, .int (zI (w_15)), v16_6, v16_7, v16_8, v16_9, v16_10, v16_11, v16_12, v16_13])), (q_t, .inl (cT, 8192, .inl (fun j : Nat => zI (a_t (j : Int)))))] H := hP
              have hD : va_D A [(h0, .inr (14, [.ref q_t, .int (zI (z16_n)), .int (zI (e16_0_2)), .int 6, v16_4, .int (zI (w_15)), v16_6, v16_7, v16_8, v16_9, v16_10, v16_11, v16_12, v16_13])), (q_t, .inl (cT, 8192, .inl (fun j : Nat => zI (a_t (j : Int)))))] := hD
              subst hQ
              refine W.widen (k := 0) (n := 0) (Nat.le_of_ble_eq_true rfl) (Nat.le_of_ble_eq_true rfl) ?_
              exact W.vret hx hb hr (fun t ht hW => ⟨⟨(), rfl, trivial, e16_0_2, 6, w_15, ⟨(by omega), (by omega), (by omega), ⟨by omega, by omega, by omega⟩⟩, by rw [ht]; exact hP, va_K.moved hW.alike hK, hD⟩, hS.F ht⟩) hS.2.2 dX16_number_113
            · have yb101 : (d16_2 : Int) = w_16 := (lc_eq (a := d16_2) (b := w_16) (by omega) (by omega) (by omega) (by omega)).mp b101
              refine lv_iconst (v := 4) hx hb dX16_number_104 (by decide) ?_
              refine lv_goto (tgt := 110) hx hb dX16_number_105 (by decide) ?_
              refine va_put (D := (dC, dI)) (ci := 14) (v := .int 4) (ty := .int) (C := RX16) (T := TX16) (N := 14) hx hb hts mem_X16_number_0 tyX16 tyX16_ok nmX16 hown hK hP hD hS 0 rfl rfl 3 (by decide) (ow (k := 3) rfl) (fun _ h9 => h9) rfl (by decide +kernel) rfl rfl (Nat.le_of_ble_eq_true rfl) dX16_number_110 (fun H locs hP hD hS => ?_)
              have hP : va_P (dC, dI) vwQ [(h0, .inr (14, [.ref q_t, .int (zI (z16_n)), .int (zI (e16_0_2)), .int 4, v16_4, .int (zI (w_15)), v16_6, v16_7, v16_8, v16_9, v16_10, v16_11, v16_12, v16_13])), (q_t, .inl (cT, 8192, .inl (fun j : Nat => zI (a_t (j : Int)))))] H := hP
              have hD : va_D A [(h0, .inr (14, [.ref q_t, .int (zI (z16_n)), .int (zI (e16_0_2)), .int 4, v16_4, .int (zI (w_15)), v16_6, v16_7, v16_8, v16_9, v16_10, v16_11, v16_12, v16_13])), (q_t, .inl (cT, 8192, .inl (fun j : Nat => zI (a_t (j : Int)))))] := hD
              subst hQ
              refine W.widen (k := 0) (n := 0) (Nat.le_of_ble_eq_true rfl) (Nat.le_of_ble_eq_true rfl) ?_
              exact W.vret hx hb hr (fun t ht hW => ⟨⟨(), rfl, trivial, e16_0_2, 4, w_15, ⟨(by omega), (by omega), (by omega), ⟨by omega, by omega, by omega⟩⟩, by rw [ht]; exact hP, va_K.moved hW.alike hK, hD⟩, hS.F ht⟩) hS.2.2 dX16_number_113
          · have yb83 : ¬ (b0 : Int) = (0 : Int) := fun q => b83 ((zI_eq (a := b0) (b := 0) (by omega) (by omega) (by omega) (by omega)).mpr q)
            refine lv_lload_n hx hb dX16_number_86 rfl (lv_at hl 2 rfl) ?_
            refine lv_lneg hx hb dX16_number_87 ?_
            refine lv_topl (fun z ez => ?_)
            obtain rfl : z = lI (-(d16_2)) := ez.trans (lI_neg (d16_2))
            refine lv_lstore_n (lv' := [(2, .long (lI (-(d16_2)))), (0, .ref h0), (1, .int (zI (b0)))]) hx hb dX16_number_88 rfl hl (by decide) rfl (fun ls hl => ?_)
            refine lv_aload_n hx hb dX16_number_89 rfl (lv_at hl 1 rfl) ?_
            refine lv_lload_n hx hb dX16_number_90 rfl (lv_at hl 0 rfl) ?_
            refine lv_l2i hx hb dX16_number_91 rfl ?_
            refine lv_topi (fun z ez => ?_)
            obtain ⟨w_17, rfl, hw_17⟩ := xI_ex z
            clear ez
            refine va_put (D := (dC, dI)) (ci := 14) (v := .int (zI (w_17))) (ty := .int) (C := RX16) (T := TX16) (N := 14) hx hb hts mem_X16_number_0 tyX16 tyX16_ok nmX16 hown hK hP hD hS 0 rfl rfl 5 (by decide) (ow (k := 2) rfl) (fun _ h9 => h9) rfl (by decide +kernel) rfl rfl (Nat.le_of_ble_eq_true rfl) dX16_number_92 (fun H locs hP hD hS => ?_)
            have hP : va_P (dC, dI) vwQ [(h0, .inr (14, [.ref q_t, .int (zI (z16_n)), .int (zI (e16_0_2)), .int (zI (z16_kind)), v16_4, .int (zI (w_17)), v16_6, v16_7, v16_8, v16_9, v16_10, v16_11, v16_12, v16_13])), (q_t, .inl (cT, 8192, .inl (fun j : Nat => zI (a_t (j : Int)))))] H := hP
            have hD : va_D A [(h0, .inr (14, [.ref q_t, .int (zI (z16_n)), .int (zI (e16_0_2)), .int (zI (z16_kind)), v16_4, .int (zI (w_17)), v16_6, v16_7, v16_8, v16_9, v16_10, v16_11, v16_12, v16_13])), (q_t, .inl (cT, 8192, .inl (fun j : Nat => zI (a_t (j : Int)))))] := hD
            refine lv_aload_n hx hb dX16_number_95 rfl (lv_at hl 1 rfl) ?_
            refine lv_lload_n hx hb dX16_number_96 rfl (lv_at hl 0 rfl) ?_
            refine lv_lload_n hx hb dX16_number_97 rfl (lv_at hl 0 rfl) ?_
            refine lv_l2i hx hb dX16_number_98 rfl ?_
            refine lv_topi (fun z ez => ?_)
            obtain ⟨w_18, rfl, hw_18⟩ := xI_ex z
            clear ez
            refine lv_i2l (v := lI (w_18)) hx hb dX16_number_99 (zI_l (a := w_18) (by omega) (by omega)) ?_
            refine W.lcmp hx hb dX16_number_100 ?_
            refine lv_if_ne (tgt := 108) hx hb dX16_number_101 (by decide) (fun b101 => ?_) (fun b101 => ?_)
            · have yb101 : ¬ (-(d16_2) : Int) = w_18 := fun q => b101 ((lc_eq (a := -(d16_2)) (b := w_18) (by omega) (by omega) (by omega) (by omega)).mpr q)
              refine lv_bipush (v := 6) hx hb dX16_number_108 (by decide) ?_
              refine va_put (D := (dC, dI)) (ci := 14) (v := .int 6) (ty := .int) (C := RX16) (T := TX16) (N := 14) hx hb hts mem_X16_number_0 tyX16 tyX16_ok nmX16 hown hK hP hD hS 0 rfl rfl 3 (by decide) (ow (k := 3) rfl) (fun _ h9 => h9) rfl (by decide +kernel) rfl rfl (Nat.le_of_ble_eq_true rfl) dX16_number_110 (fun H locs hP hD hS => ?_)
              have hP : va_P (dC, dI) vwQ [(h0, .inr (14, [.ref q_t, .int (zI (z16_n)), .int (zI (e16_0_2)), .int 6, v16_4, .int (zI (w_17)), v16_6, v16_7, v16_8, v16_9, v16_10, v16_11, v16_12, v16_13])), (q_t, .inl (cT, 8192, .inl (fun j : Nat => zI (a_t (j : Int)))))] H := hP
              have hD : va_D A [(h0, .inr (14, [.ref q_t, .int (zI (z16_n)), .int (zI (e16_0_2)), .int 6, v16_4, .int (zI (w_17)), v16_6, v16_7, v16_8, v16_9, v16_10, v16_11, v16_12, v16_13])), (q_t, .inl (cT, 8192, .inl (fun j : Nat => zI (a_t (j : Int)))))] := hD
              subst hQ
              refine W.widen (k := 0) (n := 0) (Nat.le_of_ble_eq_true rfl) (Nat.le_of_ble_eq_true rfl) ?_
              exact W.vret hx hb hr (fun t ht hW => ⟨⟨(), rfl, trivial, e16_0_2, 6, w_17, ⟨(by omega), (by omega), (by omega), ⟨by omega, by omega, by omega⟩⟩, by rw [ht]; exact hP, va_K.moved hW.alike hK, hD⟩, hS.F ht⟩) hS.2.2 dX16_number_113
            · have yb101 : (-(d16_2) : Int) = w_18 := (lc_eq (a := -(d16_2)) (b := w_18) (by omega) (by omega) (by omega) (by omega)).mp b101
              refine lv_iconst (v := 4) hx hb dX16_number_104 (by decide) ?_
              refine lv_goto (tgt := 110) hx hb dX16_number_105 (by decide) ?_
              refine va_put (D := (dC, dI)) (ci := 14) (v := .int 4) (ty := .int) (C := RX16) (T := TX16) (N := 14) hx hb hts mem_X16_number_0 tyX16 tyX16_ok nmX16 hown hK hP hD hS 0 rfl rfl 3 (by decide) (ow (k := 3) rfl) (fun _ h9 => h9) rfl (by decide +kernel) rfl rfl (Nat.le_of_ble_eq_true rfl) dX16_number_110 (fun H locs hP hD hS => ?_)
              have hP : va_P (dC, dI) vwQ [(h0, .inr (14, [.ref q_t, .int (zI (z16_n)), .int (zI (e16_0_2)), .int 4, v16_4, .int (zI (w_17)), v16_6, v16_7, v16_8, v16_9, v16_10, v16_11, v16_12, v16_13])), (q_t, .inl (cT, 8192, .inl (fun j : Nat => zI (a_t (j : Int)))))] H := hP
              have hD : va_D A [(h0, .inr (14, [.ref q_t, .int (zI (z16_n)), .int (zI (e16_0_2)), .int 4, v16_4, .int (zI (w_17)), v16_6, v16_7, v16_8, v16_9, v16_10, v16_11, v16_12, v16_13])), (q_t, .inl (cT, 8192, .inl (fun j : Nat => zI (a_t (j : Int)))))] := hD
              subst hQ
              refine W.widen (k := 0) (n := 0) (Nat.le_of_ble_eq_true rfl) (Nat.le_of_ble_eq_true rfl) ?_
              exact W.vret hx hb hr (fun t ht hW => ⟨⟨(), rfl, trivial, e16_0_2, 4, w_17, ⟨(by omega), (by omega), (by omega), ⟨by omega, by omega, by omega⟩⟩, by rw [ht]; exact hP, va_K.moved hW.alike hK, hD⟩, hS.F ht⟩) hS.2.2 dX16_number_113
        · have yb24 : ¬ (z16_n : Int) ≤ (e16_0_2 : Int) := fun q => b24 ((zI_le (a := z16_n) (b := e16_0_2) (by omega) (by omega) (by omega) (by omega)).mpr q)
          have hq9 : e16_0_2 = z16_at → a_t (e16_0_2) = a_t (z16_at) := (fun h => by rw [h])
          refine lv_aload_n hx hb dX16_number_27 rfl (lv_at hl 0 rfl) ?_
          refine va_get (D := (dC, dI)) (ci := 14) (v := .ref q_t) (C := RX16) (T := TX16) (N := 14) hx hb hts mem_X16_number_0 hown hK hP 0 rfl rfl 0 (by decide) (ow (k := 4) rfl) (fun _ h9 => h9) rfl dX16_number_28 ?_
          refine lv_aload_n hx hb dX16_number_31 rfl (lv_at hl 0 rfl) ?_
          refine va_get (D := (dC, dI)) (ci := 14) (v := .int (zI (e16_0_2))) (C := RX16) (T := TX16) (N := 14) hx hb hts mem_X16_number_0 hown hK hP 0 rfl rfl 2 (by decide) (ow (k := 0) rfl) (fun _ h9 => h9) rfl dX16_number_32 ?_
          refine va_bald hx hb hK hP 1 0 rfl rfl (zI_in (a := e16_0_2) (n := 8192) (by omega) (by omega) (by decide)) dX16_number_35 ?_
          refine lv_topi (fun z ez => ?_)
          obtain rfl : z = zI (a_t (e16_0_2)) := ez.trans (zI_ld (a_t) (by omega) (by omega))
          have k3 := hR_a_t (e16_0_2)
          have hPc := hP.sub (ws' := []) [] rfl
          have hDc := hD.sub (ws' := []) [] (by decide) rfl
          have hKc := hK.sub (tys' := []) [] rfl
          have hFc := va_free (wc := []) hD hS hA [] rfl
          refine va_calli (va_runS (As := [.int (zI (a_t (e16_0_2)))]) (rest := []) ⟨hx, hb, hml, hown, hts⟩ (c_X16_isDigit l dC dI (a_t (e16_0_2)) (by omega) H.size) (cwS 1 hts g_X16_number_X16_isDigit rfl rfl rfl (by decide +kernel) ⟨(Nat.le_of_ble_eq_true rfl), (Nat.le_of_ble_eq_true rfl)⟩) ⟨fun a U g mk q => by obtain ⟨q0, q1, qP, qK, qD⟩ := q; exact ⟨q0, q1, qP, va_K.moved (u := U) (U := U.calling g mk a) (Vm.Alike.refl U.vm) qK, qD⟩, fun U hU hW => ⟨rfl, by rw [hU], by rw [hU]; exact hPc, va_K.moved hW.alike hKc, hDc.weaken (fun _ _ _ _ => trivial)⟩⟩ rfl rfl hl.1 rfl (lv_room (Nat.le_of_ble_eq_true rfl)) dX16_number_36 ⟨(Nat.le_of_ble_eq_true rfl), (Nat.le_of_ble_eq_true rfl)⟩) hS (fun q _ h => hFc q h) hFc (fun r_19 u t H1 locs ht hvm hw hB hz1 hk1 hS => ?_)
          obtain ⟨hP1, hK1, hD1⟩ := hB
          rw [ht] at hP1
          have hK1 := va_K.moved hvm.symm hK1
          obtain ⟨hP, hD⟩ := va_join (wr := [(h0, .inr (14, [.ref q_t, .int (zI (z16_n)), .int (zI (e16_0_2)), .int (zI (z16_kind)), v16_4, .int (zI (z16_value)), v16_6, v16_7, v16_8, v16_9, v16_10, v16_11, v16_12, v16_13])), (q_t, .inl (cT, 8192, .inl (fun j : Nat => zI (a_t (j : Int)))))]) (w1 := []) hP hD [] [0, 1] rfl rfl (by decide) (by decide) hk1 hFc hP1 hD1
          have hK := (hK.sub (tys' := [(cT, .byte)]) [0] rfl).app hK1
          generalize H1 = H at hP hS ⊢
          have hP : va_P (dC, dI) vwQ [(h0, .inr (14, [.ref q_t, .int (zI (z16_n)), .int (zI (e16_0_2)), .int (zI (z16_kind)), v16_4, .int (zI (z16_value)), v16_6, v16_7, v16_8, v16_9, v16_10, v16_11, v16_12, v16_13])), (q_t, .inl (cT, 8192, .inl (fun j : Nat => zI (a_t (j : Int)))))] H := hP
          have hD : va_D A [(h0, .inr (14, [.ref q_t, .int (zI (z16_n)), .int (zI (e16_0_2)), .int (zI (z16_kind)), v16_4, .int (zI (z16_value)), v16_6, v16_7, v16_8, v16_9, v16_10, v16_11, v16_12, v16_13])), (q_t, .inl (cT, 8192, .inl (fun j : Nat => zI (a_t (j : Int)))))] := hD
          have hK : va_K (dC, dI) vwQ [(cT, .byte)] s := hK
          refine W.widen (k := 0) (n := 0) (Nat.le_of_ble_eq_true rfl) (Nat.le_of_ble_eq_true rfl) ?_
          have hw_20 := hw
          obtain ⟨z_21, rfl, hzz_21⟩ := hw_20
          refine lv_if_eq (tgt := 82) hx hb dX16_number_39 (by decide) (fun b39 => ?_) (fun b39 => ?_)
          · have yb39 : (z_21 : Int) = (0 : Int) := (zI_eq (a := z_21) (b := 0) (by omega) (by omega) (by omega) (by omega)).mp b39
            have hq9 : e16_0_2 = z16_at → a_t (e16_0_2) = a_t (z16_at) := (fun h => by rw [h])
            refine lv_iload_n hx hb dX16_number_82 rfl (lv_at hl 1 rfl) ?_
            refine lv_if_eq (tgt := 89) hx hb dX16_number_83 (by decide) (fun b83 => ?_) (fun b83 => ?_)
            · have yb83 : (b0 : Int) = (0 : Int) := (zI_eq (a := b0) (b := 0) (by omega) (by omega) (by omega) (by omega)).mp b83
              refine lv_aload_n hx hb dX16_number_89 rfl (lv_at hl 0 rfl) ?_
              refine lv_lload_n hx hb dX16_number_90 rfl (lv_at hl 2 rfl) ?_
              refine lv_l2i hx hb dX16_number_91 rfl ?_
              refine lv_topi (fun z ez => ?_)
              obtain ⟨w_22, rfl, hw_22⟩ := xI_ex z
              clear ez
              refine va_put (D := (dC, dI)) (ci := 14) (v := .int (zI (w_22))) (ty := .int) (C := RX16) (T := TX16) (N := 14) hx hb hts mem_X16_number_0 tyX16 tyX16_ok nmX16 hown hK hP hD hS 0 rfl rfl 5 (by decide) (ow (k := 2) rfl) (fun _ h9 => h9) rfl (by decide +kernel) rfl rfl (Nat.le_of_ble_eq_true rfl) dX16_number_92 (fun H locs hP hD hS => ?_)
              have hP : va_P (dC, dI) vwQ [(h0, .inr (14, [.ref q_t, .int (zI (z16_n)), .int (zI (e16_0_2)), .int (zI (z16_kind)), v16_4, .int (zI (w_22)), v16_6, v16_7, v16_8, v16_9, v16_10, v16_11, v16_12, v16_13])), (q_t, .inl (cT, 8192, .inl (fun j : Nat => zI (a_t (j : Int)))))] H := hP
              have hD : va_D A [(h0, .inr (14, [.ref q_t, .int (zI (z16_n)), .int (zI (e16_0_2)), .int (zI (z16_kind)), v16_4, .int (zI (w_22)), v16_6, v16_7, v16_8, v16_9, v16_10, v16_11, v16_12, v16_13])), (q_t, .inl (cT, 8192, .inl (fun j : Nat => zI (a_t (j : Int)))))] := hD
              refine lv_aload_n hx hb dX16_number_95 rfl (lv_at hl 0 rfl) ?_
              refine lv_lload_n hx hb dX16_number_96 rfl (lv_at hl 2 rfl) ?_
              refine lv_lload_n hx hb dX16_number_97 rfl (lv_at hl 2 rfl) ?_
              refine lv_l2i hx hb dX16_number_98 rfl ?_
              refine lv_topi (fun z ez => ?_)
              obtain ⟨w_23, rfl, hw_23⟩ := xI_ex z
              clear ez
              refine lv_i2l (v := lI (w_23)) hx hb dX16_number_99 (zI_l (a := w_23) (by omega) (by omega)) ?_
              refine W.lcmp hx hb dX16_number_100 ?_
              refine lv_if_ne (tgt := 108) hx hb dX16_number_101 (by decide) (fun b101 => ?_) (fun b101 => ?_)
              · have yb101 : ¬ (d16_2 : Int) = w_23 := fun q => b101 ((lc_eq (a := d16_2) (b := w_23) (by omega) (by omega) (by omega) (by omega)).mpr q)
                refine lv_bipush (v := 6) hx hb dX16_number_108 (by decide) ?_
                refine va_put (D := (dC, dI)) (ci := 14) (v := .int 6) (ty := .int) (C := RX16) (T := TX16) (N := 14) hx hb hts mem_X16_number_0 tyX16 tyX16_ok nmX16 hown hK hP hD hS 0 rfl rfl 3 (by decide) (ow (k := 3) rfl) (fun _ h9 => h9) rfl (by decide +kernel) rfl rfl (Nat.le_of_ble_eq_true rfl) dX16_number_110 (fun H locs hP hD hS => ?_)
                have hP : va_P (dC, dI) vwQ [(h0, .inr (14, [.ref q_t, .int (zI (z16_n)), .int (zI (e16_0_2)), .int 6, v16_4, .int (zI (w_22)), v16_6, v16_7, v16_8, v16_9, v16_10, v16_11, v16_12, v16_13])), (q_t, .inl (cT, 8192, .inl (fun j : Nat => zI (a_t (j : Int)))))] H := hP
                have hD : va_D A [(h0, .inr (14, [.ref q_t, .int (zI (z16_n)), .int (zI (e16_0_2)), .int 6, v16_4, .int (zI (w_22)), v16_6, v16_7, v16_8, v16_9, v16_10, v16_11, v16_12, v16_13])), (q_t, .inl (cT, 8192, .inl (fun j : Nat => zI (a_t (j : Int)))))] := hD
                subst hQ
                refine W.widen (k := 0) (n := 0) (Nat.le_of_ble_eq_true rfl) (Nat.le_of_ble_eq_true rfl) ?_
                exact W.vret hx hb hr (fun t ht hW => ⟨⟨(), rfl, trivial, e16_0_2, 6, w_22, ⟨(by omega), (by omega), (by omega), ⟨by omega, by omega, by omega⟩⟩, by rw [ht]; exact hP, va_K.moved hW.alike hK, hD⟩, hS.F ht⟩) hS.2.2 dX16_number_113
              · have yb101 : (d16_2 : Int) = w_23 := (lc_eq (a := d16_2) (b := w_23) (by omega) (by omega) (by omega) (by omega)).mp b101
                refine lv_iconst (v := 4) hx hb dX16_number_104 (by decide) ?_
                refine lv_goto (tgt := 110) hx hb dX16_number_105 (by decide) ?_
                refine va_put (D := (dC, dI)) (ci := 14) (v := .int 4) (ty := .int) (C := RX16) (T := TX16) (N := 14) hx hb hts mem_X16_number_0 tyX16 tyX16_ok nmX16 hown hK hP hD hS 0 rfl rfl 3 (by decide) (ow (k := 3) rfl) (fun _ h9 => h9) rfl (by decide +kernel) rfl rfl (Nat.le_of_ble_eq_true rfl) dX16_number_110 (fun H locs hP hD hS => ?_)
                have hP : va_P (dC, dI) vwQ [(h0, .inr (14, [.ref q_t, .int (zI (z16_n)), .int (zI (e16_0_2)), .int 4, v16_4, .int (zI (w_22)), v16_6, v16_7, v16_8, v16_9, v16_10, v16_11, v16_12, v16_13])), (q_t, .inl (cT, 8192, .inl (fun j : Nat => zI (a_t (j : Int)))))] H := hP
                have hD : va_D A [(h0, .inr (14, [.ref q_t, .int (zI (z16_n)), .int (zI (e16_0_2)), .int 4, v16_4, .int (zI (w_22)), v16_6, v16_7, v16_8, v16_9, v16_10, v16_11, v16_12, v16_13])), (q_t, .inl (cT, 8192, .inl (fun j : Nat => zI (a_t (j : Int)))))] := hD
                subst hQ
                refine W.widen (k := 0) (n := 0) (Nat.le_of_ble_eq_true rfl) (Nat.le_of_ble_eq_true rfl) ?_
                exact W.vret hx hb hr (fun t ht hW => ⟨⟨(), rfl, trivial, e16_0_2, 4, w_22, ⟨(by omega), (by omega), (by omega), ⟨by omega, by omega, by omega⟩⟩, by rw [ht]; exact hP, va_K.moved hW.alike hK, hD⟩, hS.F ht⟩) hS.2.2 dX16_number_113
            · have yb83 : ¬ (b0 : Int) = (0 : Int) := fun q => b83 ((zI_eq (a := b0) (b := 0) (by omega) (by omega) (by omega) (by omega)).mpr q)
              refine lv_lload_n hx hb dX16_number_86 rfl (lv_at hl 2 rfl) ?_
              refine lv_lneg hx hb dX16_number_87 ?_
              refine lv_topl (fun z ez => ?_)
              obtain rfl : z = lI (-(d16_2)) := ez.trans (lI_neg (d16_2))
              refine lv_lstore_n (lv' := [(2, .long (lI (-(d16_2)))), (0, .ref h0), (1, .int (zI (b0)))]) hx hb dX16_number_88 rfl hl (by decide) rfl (fun ls hl => ?_)
              refine lv_aload_n hx hb dX16_number_89 rfl (lv_at hl 1 rfl) ?_
              refine lv_lload_n hx hb dX16_number_90 rfl (lv_at hl 0 rfl) ?_
              refine lv_l2i hx hb dX16_number_91 rfl ?_
              refine lv_topi (fun z ez => ?_)
              obtain ⟨w_24, rfl, hw_24⟩ := xI_ex z
              clear ez
              refine va_put (D := (dC, dI)) (ci := 14) (v := .int (zI (w_24))) (ty := .int) (C := RX16) (T := TX16) (N := 14) hx hb hts mem_X16_number_0 tyX16 tyX16_ok nmX16 hown hK hP hD hS 0 rfl rfl 5 (by decide) (ow (k := 2) rfl) (fun _ h9 => h9) rfl (by decide +kernel) rfl rfl (Nat.le_of_ble_eq_true rfl) dX16_number_92 (fun H locs hP hD hS => ?_)
              have hP : va_P (dC, dI) vwQ [(h0, .inr (14, [.ref q_t, .int (zI (z16_n)), .int (zI (e16_0_2)), .int (zI (z16_kind)), v16_4, .int (zI (w_24)), v16_6, v16_7, v16_8, v16_9, v16_10, v16_11, v16_12, v16_13])), (q_t, .inl (cT, 8192, .inl (fun j : Nat => zI (a_t (j : Int)))))] H := hP
              have hD : va_D A [(h0, .inr (14, [.ref q_t, .int (zI (z16_n)), .int (zI (e16_0_2)), .int (zI (z16_kind)), v16_4, .int (zI (w_24)), v16_6, v16_7, v16_8, v16_9, v16_10, v16_11, v16_12, v16_13])), (q_t, .inl (cT, 8192, .inl (fun j : Nat => zI (a_t (j : Int)))))] := hD
              refine lv_aload_n hx hb dX16_number_95 rfl (lv_at hl 1 rfl) ?_
              refine lv_lload_n hx hb dX16_number_96 rfl (lv_at hl 0 rfl) ?_
              refine lv_lload_n hx hb dX16_number_97 rfl (lv_at hl 0 rfl) ?_
              refine lv_l2i hx hb dX16_number_98 rfl ?_
              refine lv_topi (fun z ez => ?_)
              obtain ⟨w_25, rfl, hw_25⟩ := xI_ex z
              clear ez
              refine lv_i2l (v := lI (w_25)) hx hb dX16_number_99 (zI_l (a := w_25) (by omega) (by omega)) ?_
              refine W.lcmp hx hb dX16_number_100 ?_
              refine lv_if_ne (tgt := 108) hx hb dX16_number_101 (by decide) (fun b101 => ?_) (fun b101 => ?_)
              · have yb101 : ¬ (-(d16_2) : Int) = w_25 := fun q => b101 ((lc_eq (a := -(d16_2)) (b := w_25) (by omega) (by omega) (by omega) (by omega)).mpr q)
                refine lv_bipush (v := 6) hx hb dX16_number_108 (by decide) ?_
                refine va_put (D := (dC, dI)) (ci := 14) (v := .int 6) (ty := .int) (C := RX16) (T := TX16) (N := 14) hx hb hts mem_X16_number_0 tyX16 tyX16_ok nmX16 hown hK hP hD hS 0 rfl rfl 3 (by decide) (ow (k := 3) rfl) (fun _ h9 => h9) rfl (by decide +kernel) rfl rfl (Nat.le_of_ble_eq_true rfl) dX16_number_110 (fun H locs hP hD hS => ?_)
                have hP : va_P (dC, dI) vwQ [(h0, .inr (14, [.ref q_t, .int (zI (z16_n)), .int (zI (e16_0_2)), .int 6, v16_4, .int (zI (w_24)), v16_6, v16_7, v16_8, v16_9, v16_10, v16_11, v16_12, v16_13])), (q_t, .inl (cT, 8192, .inl (fun j : Nat => zI (a_t (j : Int)))))] H := hP
                have hD : va_D A [(h0, .inr (14, [.ref q_t, .int (zI (z16_n)), .int (zI (e16_0_2)), .int 6, v16_4, .int (zI (w_24)), v16_6, v16_7, v16_8, v16_9, v16_10, v16_11, v16_12, v16_13])), (q_t, .inl (cT, 8192, .inl (fun j : Nat => zI (a_t (j : Int)))))] := hD
                subst hQ
                refine W.widen (k := 0) (n := 0) (Nat.le_of_ble_eq_true rfl) (Nat.le_of_ble_eq_true rfl) ?_
                exact W.vret hx hb hr (fun t ht hW => ⟨⟨(), rfl, trivial, e16_0_2, 6, w_24, ⟨(by omega), (by omega), (by omega), ⟨by omega, by omega, by omega⟩⟩, by rw [ht]; exact hP, va_K.moved hW.alike hK, hD⟩, hS.F ht⟩) hS.2.2 dX16_number_113
              · have yb101 : (-(d16_2) : Int) = w_25 := (lc_eq (a := -(d16_2)) (b := w_25) (by omega) (by omega) (by omega) (by omega)).mp b101
                refine lv_iconst (v := 4) hx hb dX16_number_104 (by decide) ?_
                refine lv_goto (tgt := 110) hx hb dX16_number_105 (by decide) ?_
                refine va_put (D := (dC, dI)) (ci := 14) (v := .int 4) (ty := .int) (C := RX16) (T := TX16) (N := 14) hx hb hts mem_X16_number_0 tyX16 tyX16_ok nmX16 hown hK hP hD hS 0 rfl rfl 3 (by decide) (ow (k := 3) rfl) (fun _ h9 => h9) rfl (by decide +kernel) rfl rfl (Nat.le_of_ble_eq_true rfl) dX16_number_110 (fun H locs hP hD hS => ?_)
                have hP : va_P (dC, dI) vwQ [(h0, .inr (14, [.ref q_t, .int (zI (z16_n)), .int (zI (e16_0_2)), .int 4, v16_4, .int (zI (w_24)), v16_6, v16_7, v16_8, v16_9, v16_10, v16_11, v16_12, v16_13])), (q_t, .inl (cT, 8192, .inl (fun j : Nat => zI (a_t (j : Int)))))] H := hP
                have hD : va_D A [(h0, .inr (14, [.ref q_t, .int (zI (z16_n)), .int (zI (e16_0_2)), .int 4, v16_4, .int (zI (w_24)), v16_6, v16_7, v16_8, v16_9, v16_10, v16_11, v16_12, v16_13])), (q_t, .inl (cT, 8192, .inl (fun j : Nat => zI (a_t (j : Int)))))] := hD
                subst hQ
                refine W.widen (k := 0) (n := 0) (Nat.le_of_ble_eq_true rfl) (Nat.le_of_ble_eq_true rfl) ?_
                exact W.vret hx hb hr (fun t ht hW => ⟨⟨(), rfl, trivial, e16_0_2, 4, w_24, ⟨(by omega), (by omega), (by omega), ⟨by omega, by omega, by omega⟩⟩, by rw [ht]; exact hP, va_K.moved hW.alike hK, hD⟩, hS.F ht⟩) hS.2.2 dX16_number_113
          · have yb39 : ¬ (z_21 : Int) = (0 : Int) := fun q => b39 ((zI_eq (a := z_21) (b := 0) (by omega) (by omega) (by omega) (by omega)).mpr q)
            refine lv_lload_n hx hb dX16_number_42 rfl (lv_at hl 2 rfl) ?_
            refine lv_ldc2 (v := 10) hx hb hown (ow (k := 8) rfl) dX16_number_43 ?_
            refine lv_topl (fun z ez => ?_)
            obtain rfl : z = lI (10) := ez
            refine lv_lmul hx hb dX16_number_46 ?_
            refine lv_topl (fun z ez => ?_)
            obtain rfl : z = lI (d16_2 * 10) := ez.trans (lI_mul (d16_2) (10))
            refine lv_aload_n hx hb dX16_number_47 rfl (lv_at hl 0 rfl) ?_
            refine va_get (D := (dC, dI)) (ci := 14) (v := .ref q_t) (C := RX16) (T := TX16) (N := 14) hx hb hts mem_X16_number_0 hown hK hP 0 rfl rfl 0 (by decide) (ow (k := 4) rfl) (fun _ h9 => h9) rfl dX16_number_48 ?_
            refine lv_aload_n hx hb dX16_number_51 rfl (lv_at hl 0 rfl) ?_
            refine va_get (D := (dC, dI)) (ci := 14) (v := .int (zI (e16_0_2))) (C := RX16) (T := TX16) (N := 14) hx hb hts mem_X16_number_0 hown hK hP 0 rfl rfl 2 (by decide) (ow (k := 0) rfl) (fun _ h9 => h9) rfl dX16_number_52 ?_
            refine va_bald hx hb hK hP 1 0 rfl rfl (zI_in (a := e16_0_2) (n := 8192) (by omega) (by omega) (by decide)) dX16_number_55 ?_
            refine lv_topi (fun z ez => ?_)
            obtain rfl : z = zI (a_t (e16_0_2)) := ez.trans (zI_ld (a_t) (by omega) (by omega))
            have k4 := hR_a_t (e16_0_2)
            refine lv_i2l (v := lI (a_t (e16_0_2))) hx hb dX16_number_56 (zI_l (a := a_t (e16_0_2)) (by omega) (by omega)) ?_
            refine lv_ladd hx hb dX16_number_57 ?_
            refine lv_topl (fun z ez => ?_)
            obtain rfl : z = lI ((d16_2 * 10) + (a_t (e16_0_2))) := ez.trans (lI_add (d16_2 * 10) (a_t (e16_0_2)))
            refine lv_ldc2 (v := 48) hx hb hown (ow (k := 9) rfl) dX16_number_58 ?_
            refine lv_topl (fun z ez => ?_)
            obtain rfl : z = lI (48) := ez
            refine lv_lsub hx hb dX16_number_61 ?_
            refine lv_topl (fun z ez => ?_)
            obtain rfl : z = lI (((d16_2 * 10) + (a_t (e16_0_2))) - 48) := ez.trans (lI_sub ((d16_2 * 10) + (a_t (e16_0_2))) (48))
            refine lv_ldc2 (v := 1099511627776) hx hb hown (ow (k := 10) rfl) dX16_number_62 ?_
            refine lv_topl (fun z ez => ?_)
            obtain rfl : z = lI (1099511627776) := ez
            refine va_mmin_long hx hb (hml.trans hl.1.symm) hown (ow (k := 11) rfl) (ow (k := 12) rfl) (ow (k := 13) rfl) (ow (k := 14) rfl) (Nat.le_of_ble_eq_true rfl) (Nat.le_of_ble_eq_true rfl) (Nat.le_of_ble_eq_true rfl) (Nat.le_of_ble_eq_true rfl) dX16_number_65 ?_
            refine lv_topl (fun z9 ez => ?_)
            obtain ⟨z_26, rfl, hzz_26⟩ := lI_min (a := ((d16_2 * 10) + (a_t (e16_0_2))) - 48) (b := 1099511627776) (by omega) (by omega) (by omega) (by omega) ez
            refine lv_lstore_n (lv' := [(2, .long (lI (z_26))), (0, .ref h0), (1, .int (zI (b0)))]) hx hb dX16_number_68 rfl hl (by decide) rfl (fun ls hl => ?_)
            refine lv_aload_n hx hb dX16_number_69 rfl (lv_at hl 1 rfl) ?_
            refine lv_dup hx hb dX16_number_70 rfl ?_
            refine va_get (D := (dC, dI)) (ci := 14) (v := .int (zI (e16_0_2))) (C := RX16) (T := TX16) (N := 14) hx hb hts mem_X16_number_0 hown hK hP 0 rfl rfl 2 (by decide) (ow (k := 0) rfl) (fun _ h9 => h9) rfl dX16_number_71 ?_
            refine lv_iconst (v := 1) hx hb dX16_number_74 (by decide) ?_
            refine lv_iadd hx hb dX16_number_75 ?_
            refine lv_topi (fun z ez => ?_)
            obtain rfl : z = zI (e16_0_2 + 1) := ez.trans (zI_add (e16_0_2) (1))
            refine va_put (D := (dC, dI)) (ci := 14) (v := .int (zI (e16_0_2 + 1))) (ty := .int) (C := RX16) (T := TX16) (N := 14) hx hb hts mem_X16_number_0 tyX16 tyX16_ok nmX16 hown hK hP hD hS 0 rfl rfl 2 (by decide) (ow (k := 0) rfl) (fun _ h9 => h9) rfl (by decide +kernel) rfl rfl (Nat.le_of_ble_eq_true rfl) dX16_number_76 (fun H locs hP hD hS => ?_)
            have hP : va_P (dC, dI) vwQ [(h0, .inr (14, [.ref q_t, .int (zI (z16_n)), .int (zI (e16_0_2 + 1)), .int (zI (z16_kind)), v16_4, .int (zI (z16_value)), v16_6, v16_7, v16_8, v16_9, v16_10, v16_11, v16_12, v16_13])), (q_t, .inl (cT, 8192, .inl (fun j : Nat => zI (a_t (j : Int)))))] H := hP
            have hD : va_D A [(h0, .inr (14, [.ref q_t, .int (zI (z16_n)), .int (zI (e16_0_2 + 1)), .int (zI (z16_kind)), v16_4, .int (zI (z16_value)), v16_6, v16_7, v16_8, v16_9, v16_10, v16_11, v16_12, v16_13])), (q_t, .inl (cT, 8192, .inl (fun j : Nat => zI (a_t (j : Int)))))] := hD
            obtain ⟨z_27, ez_27⟩ : ∃ z9 : Int, z9 = e16_0_2 + 1 := ⟨_, rfl⟩
            rw [← ez_27] at hP hD
            have hP : va_P (dC, dI) vwQ [(h0, .inr (14, [.ref q_t, .int (zI (z16_n)), .int (zI (z_27)), .int (zI (z16_kind)), v16_4, .int (zI (z16_value)), v16_6, v16_7, v16_8, v16_9, v16_10, v16_11, v16_12, v16_13])), (q_t, .inl (cT, 8192, .inl (fun j : Nat => zI (a_t (j : Int)))))] H := hP
            have hD : va_D A [(h0, .inr (14, [.ref q_t, .int (zI (z16_n)), .int (zI (z_27)), .int (zI (z16_kind)), v16_4, .int (zI (z16_value)), v16_6, v16_7, v16_8, v16_9, v16_10, v16_11, v16_12, v16_13])), (q_t, .inl (cT, 8192, .inl (fun j : Nat => zI (a_t (j : Int)))))] := hD
            refine lv_goto (tgt := 16) hx hb dX16_number_79 (by decide) ?_
            exact ih16 z_26 z_27 ls H _ (by omega) (by omega) (by omega) (by omega) (lv_sub hl [1, 2, 0] rfl) hP hD hS
    exact key16 ((z16_n - z_14 : Int).toNat + 1) 0 z_14 ls H _ (by omega) (by omega) (by omega) (by omega) (lv_sub hl [1, 2, 0] rfl) hP hD hS
