theorem dJ6_getChars_ba4f3_0 : decode cJ6_getChars_ba4f3 0 = .ok (.iload_n 1, 1) := by decide +kernel
theorem dJ6_getChars_ba4f3_1 : decode cJ6_getChars_ba4f3 1 = .ok (.istore 5, 2) := by decide +kernel
theorem dJ6_getChars_ba4f3_3 : decode cJ6_getChars_ba4f3 3 = .ok (.iload_n 0, 1) := by decide +kernel
theorem dJ6_getChars_ba4f3_4 : decode cJ6_getChars_ba4f3 4 = .ok (.ifCond .ge 7, 3) := by decide +kernel
theorem dJ6_getChars_ba4f3_11 : decode cJ6_getChars_ba4f3 11 = .ok (.iconst 0, 1) := by decide +kernel
theorem dJ6_getChars_ba4f3_12 : decode cJ6_getChars_ba4f3 12 = .ok (.istore 6, 2) := by decide +kernel
theorem dJ6_getChars_ba4f3_14 : decode cJ6_getChars_ba4f3 14 = .ok (.iload 6, 2) := by decide +kernel
theorem dJ6_getChars_ba4f3_16 : decode cJ6_getChars_ba4f3 16 = .ok (.ifCond .ne 6, 3) := by decide +kernel
theorem dJ6_getChars_ba4f3_19 : decode cJ6_getChars_ba4f3 19 = .ok (.iload_n 0, 1) := by decide +kernel
theorem dJ6_getChars_ba4f3_20 : decode cJ6_getChars_ba4f3 20 = .ok (.ineg, 1) := by decide +kernel
theorem dJ6_getChars_ba4f3_21 : decode cJ6_getChars_ba4f3 21 = .ok (.istore_n 0, 1) := by decide +kernel
theorem dJ6_getChars_ba4f3_22 : decode cJ6_getChars_ba4f3 22 = .ok (.iload_n 0, 1) := by decide +kernel
theorem dJ6_getChars_ba4f3_23 : decode cJ6_getChars_ba4f3 23 = .ok (.bipush (-100), 2) := by decide +kernel
theorem dJ6_getChars_ba4f3_25 : decode cJ6_getChars_ba4f3 25 = .ok (.if_icmp .gt 47, 3) := by decide +kernel
theorem dJ6_getChars_ba4f3_72 : decode cJ6_getChars_ba4f3 72 = .ok (.aload_n 2, 1) := by decide +kernel
theorem dJ6_getChars_ba4f3_73 : decode cJ6_getChars_ba4f3 73 = .ok (.iinc 5 (-1), 3) := by decide +kernel
theorem dJ6_getChars_ba4f3_76 : decode cJ6_getChars_ba4f3 76 = .ok (.iload 5, 2) := by decide +kernel
theorem dJ6_getChars_ba4f3_78 : decode cJ6_getChars_ba4f3 78 = .ok (.getstatic 83, 3) := by decide +kernel
theorem dJ6_getChars_ba4f3_81 : decode cJ6_getChars_ba4f3 81 = .ok (.iload_n 0, 1) := by decide +kernel
theorem dJ6_getChars_ba4f3_82 : decode cJ6_getChars_ba4f3 82 = .ok (.ineg, 1) := by decide +kernel
theorem dJ6_getChars_ba4f3_83 : decode cJ6_getChars_ba4f3 83 = .ok (.baload, 1) := by decide +kernel
theorem dJ6_getChars_ba4f3_84 : decode cJ6_getChars_ba4f3 84 = .ok (.bastore, 1) := by decide +kernel
theorem dJ6_getChars_ba4f3_85 : decode cJ6_getChars_ba4f3 85 = .ok (.iload_n 0, 1) := by decide +kernel
theorem dJ6_getChars_ba4f3_86 : decode cJ6_getChars_ba4f3 86 = .ok (.bipush (-9), 2) := by decide +kernel
theorem dJ6_getChars_ba4f3_88 : decode cJ6_getChars_ba4f3 88 = .ok (.if_icmp .ge 16, 3) := by decide +kernel
theorem dJ6_getChars_ba4f3_104 : decode cJ6_getChars_ba4f3 104 = .ok (.iload 6, 2) := by decide +kernel
theorem dJ6_getChars_ba4f3_106 : decode cJ6_getChars_ba4f3 106 = .ok (.ifCond .eq 12, 3) := by decide +kernel
theorem dJ6_getChars_ba4f3_118 : decode cJ6_getChars_ba4f3 118 = .ok (.iload 5, 2) := by decide +kernel
theorem dJ6_getChars_ba4f3_120 : decode cJ6_getChars_ba4f3 120 = .ok (.ireturn, 1) := by decide +kernel
theorem dJ6_getChars_ba4f3_91 : decode cJ6_getChars_ba4f3 91 = .ok (.aload_n 2, 1) := by decide +kernel
theorem dJ6_getChars_ba4f3_92 : decode cJ6_getChars_ba4f3 92 = .ok (.iinc 5 (-1), 3) := by decide +kernel
theorem dJ6_getChars_ba4f3_95 : decode cJ6_getChars_ba4f3 95 = .ok (.iload 5, 2) := by decide +kernel
theorem dJ6_getChars_ba4f3_97 : decode cJ6_getChars_ba4f3 97 = .ok (.getstatic 87, 3) := by decide +kernel
theorem dJ6_getChars_ba4f3_100 : decode cJ6_getChars_ba4f3 100 = .ok (.iload_n 0, 1) := by decide +kernel
theorem dJ6_getChars_ba4f3_101 : decode cJ6_getChars_ba4f3 101 = .ok (.ineg, 1) := by decide +kernel
theorem dJ6_getChars_ba4f3_102 : decode cJ6_getChars_ba4f3 102 = .ok (.baload, 1) := by decide +kernel
theorem dJ6_getChars_ba4f3_103 : decode cJ6_getChars_ba4f3 103 = .ok (.bastore, 1) := by decide +kernel
theorem dJ6_getChars_ba4f3_28 : decode cJ6_getChars_ba4f3 28 = .ok (.iload_n 0, 1) := by decide +kernel
theorem dJ6_getChars_ba4f3_29 : decode cJ6_getChars_ba4f3 29 = .ok (.bipush 100, 2) := by decide +kernel
theorem dJ6_getChars_ba4f3_31 : decode cJ6_getChars_ba4f3 31 = .ok (.idiv, 1) := by decide +kernel
theorem dJ6_getChars_ba4f3_32 : decode cJ6_getChars_ba4f3 32 = .ok (.istore_n 3, 1) := by decide +kernel
theorem dJ6_getChars_ba4f3_33 : decode cJ6_getChars_ba4f3 33 = .ok (.iload_n 3, 1) := by decide +kernel
theorem dJ6_getChars_ba4f3_34 : decode cJ6_getChars_ba4f3 34 = .ok (.bipush 100, 2) := by decide +kernel
theorem dJ6_getChars_ba4f3_36 : decode cJ6_getChars_ba4f3 36 = .ok (.imul, 1) := by decide +kernel
theorem dJ6_getChars_ba4f3_37 : decode cJ6_getChars_ba4f3 37 = .ok (.iload_n 0, 1) := by decide +kernel
theorem dJ6_getChars_ba4f3_38 : decode cJ6_getChars_ba4f3 38 = .ok (.isub, 1) := by decide +kernel
theorem dJ6_getChars_ba4f3_39 : decode cJ6_getChars_ba4f3 39 = .ok (.istore 4, 2) := by decide +kernel
theorem dJ6_getChars_ba4f3_41 : decode cJ6_getChars_ba4f3 41 = .ok (.iload_n 3, 1) := by decide +kernel
theorem dJ6_getChars_ba4f3_42 : decode cJ6_getChars_ba4f3 42 = .ok (.istore_n 0, 1) := by decide +kernel
theorem dJ6_getChars_ba4f3_43 : decode cJ6_getChars_ba4f3 43 = .ok (.aload_n 2, 1) := by decide +kernel
theorem dJ6_getChars_ba4f3_44 : decode cJ6_getChars_ba4f3 44 = .ok (.iinc 5 (-1), 3) := by decide +kernel
theorem dJ6_getChars_ba4f3_47 : decode cJ6_getChars_ba4f3 47 = .ok (.iload 5, 2) := by decide +kernel
theorem dJ6_getChars_ba4f3_49 : decode cJ6_getChars_ba4f3 49 = .ok (.getstatic 83, 3) := by decide +kernel
theorem dJ6_getChars_ba4f3_52 : decode cJ6_getChars_ba4f3 52 = .ok (.iload 4, 2) := by decide +kernel
theorem dJ6_getChars_ba4f3_54 : decode cJ6_getChars_ba4f3 54 = .ok (.baload, 1) := by decide +kernel
theorem dJ6_getChars_ba4f3_55 : decode cJ6_getChars_ba4f3 55 = .ok (.bastore, 1) := by decide +kernel
theorem dJ6_getChars_ba4f3_56 : decode cJ6_getChars_ba4f3 56 = .ok (.aload_n 2, 1) := by decide +kernel
theorem dJ6_getChars_ba4f3_57 : decode cJ6_getChars_ba4f3 57 = .ok (.iinc 5 (-1), 3) := by decide +kernel
theorem dJ6_getChars_ba4f3_60 : decode cJ6_getChars_ba4f3 60 = .ok (.iload 5, 2) := by decide +kernel
theorem dJ6_getChars_ba4f3_62 : decode cJ6_getChars_ba4f3 62 = .ok (.getstatic 87, 3) := by decide +kernel
theorem dJ6_getChars_ba4f3_65 : decode cJ6_getChars_ba4f3 65 = .ok (.iload 4, 2) := by decide +kernel
theorem dJ6_getChars_ba4f3_67 : decode cJ6_getChars_ba4f3 67 = .ok (.baload, 1) := by decide +kernel
theorem dJ6_getChars_ba4f3_68 : decode cJ6_getChars_ba4f3 68 = .ok (.bastore, 1) := by decide +kernel
theorem dJ6_getChars_ba4f3_69 : decode cJ6_getChars_ba4f3 69 = .ok (.goto (-47), 3) := by decide +kernel
theorem dJ6_getChars_ba4f3_7 : decode cJ6_getChars_ba4f3 7 = .ok (.iconst 1, 1) := by decide +kernel
theorem dJ6_getChars_ba4f3_8 : decode cJ6_getChars_ba4f3 8 = .ok (.goto 4, 3) := by decide +kernel
theorem dJ6_getChars_ba4f3_109 : decode cJ6_getChars_ba4f3 109 = .ok (.aload_n 2, 1) := by decide +kernel
theorem dJ6_getChars_ba4f3_110 : decode cJ6_getChars_ba4f3 110 = .ok (.iinc 5 (-1), 3) := by decide +kernel
theorem dJ6_getChars_ba4f3_113 : decode cJ6_getChars_ba4f3 113 = .ok (.iload 5, 2) := by decide +kernel
theorem dJ6_getChars_ba4f3_115 : decode cJ6_getChars_ba4f3 115 = .ok (.bipush 45, 2) := by decide +kernel
theorem dJ6_getChars_ba4f3_117 : decode cJ6_getChars_ba4f3 117 = .ok (.bastore, 1) := by decide +kernel
def o_J6_getChars : List Cond := [.fieldLink RJ6 83 "java/lang/Integer" "DigitOnes" "[B", .fieldLink RJ6 87 "java/lang/Integer" "DigitTens" "[B"]
def v_J6_getChars : List Cond := .code yJ6_getChars_ba4f3 cJ6_getChars_ba4f3 7 (some .int) :: (o_J6_getChars ++ [])
theorem mow_J6_getChars : ∀ w ∈ o_J6_getChars, w ∈ v_J6_getChars := fun _ h => List.mem_cons_of_mem _ (List.mem_append_left _ h)
set_option maxRecDepth 20000 in
theorem gw_J6_getChars : v_J6_getChars.all goodWord = true := by decide +kernel
set_option maxHeartbeats 4000000 in
set_option maxRecDepth 100000 in
theorem c_J6_getChars (l : Launch) (dC : Nat → ClassId) (dI : Nat → Nat → Nat) (q_b : Nat) (cB : ClassId) (nb : Nat) (a_b : Int → Int) (x0 : Int) (p0 : Int) (k0 : Int) (hNnb : nb ≤ 2000000) (hR_a_b : ∀ j : Int, -128 ≤ a_b j ∧ a_b j ≤ 127) (hNx : -2147483648 ≤ x0 ∧ x0 ≤ 2147483647) (hX_dg : DGT (rAb (x0)) k0) (hNp : k0 + rSg (x0) ≤ p0 ∧ p0 ≤ nb ∧ k0 ≤ 10) (sz : Nat) (sx_d1 : Nat) (fsx_d1 : Nat → Int32) (sx_d2 : Nat) (fsx_d2 : Nat → Int32) : Met l yJ6_getChars_ba4f3 v_J6_getChars ({ frames := 0, cells := 0, slots := 0, locals := 0 }) (va_Pc [.int (zI (x0)), .int (zI (p0)), .ref q_b] (fun U => U.heap.size = sz ∧ va_P (dC, dI) vwQ [(q_b, .inl (cB, nb, .inl (fun j : Nat => zI (a_b (j : Int)))))] U.heap ∧ va_K (dC, dI) vwQ [(cB, .byte)] U ∧ va_D (fun _ => True) [(q_b, .inl (cB, nb, .inl (fun j : Nat => zI (a_b (j : Int)))))] ∧ va_Z "java/lang/Integer" "DigitOnes" "[B" (.ref sx_d1) (va_A [(q_b, .inl (cB, nb, .inl (fun j : Nat => zI (a_b (j : Int)))))] sz) U U.heap ∧ va_T .byte sx_d1 100 (fun j => .int (fsx_d1 j)) (va_A [(q_b, .inl (cB, nb, .inl (fun j : Nat => zI (a_b (j : Int)))))] sz) U U.heap ∧ va_Z "java/lang/Integer" "DigitTens" "[B" (.ref sx_d2) (va_A [(q_b, .inl (cB, nb, .inl (fun j : Nat => zI (a_b (j : Int)))))] sz) U U.heap ∧ va_T .byte sx_d2 100 (fun j => .int (fsx_d2 j)) (va_A [(q_b, .inl (cB, nb, .inl (fun j : Nat => zI (a_b (j : Int)))))] sz) U U.heap)) (va_Qi (fun (r : Int32) (_ : Unit) => ∃ z : Int, r = zI z ∧ (0 ≤ z ∧ z ≤ 2000000)) (fun (_ : Unit) (t : State) => ∃ (a0_9 : Int → Int), ((∀ j : Int, -128 ≤ a0_9 j ∧ a0_9 j ≤ 127)) ∧ va_P (dC, dI) vwQ [(q_b, .inl (cB, nb, .inl (fun j : Nat => zI (a0_9 (j : Int)))))] t.heap ∧ va_K (dC, dI) vwQ [(cB, .byte)] t ∧ va_D (va_A [(q_b, .inl (cB, nb, .inl (fun j : Nat => zI (a_b (j : Int)))))] sz) [(q_b, .inl (cB, nb, .inl (fun j : Nat => zI (a0_9 (j : Int)))))]) (va_A [(q_b, .inl (cB, nb, .inl (fun j : Nat => zI (a_b (j : Int)))))] sz)) 0 0 (va_A [(q_b, .inl (cB, nb, .inl (fun j : Nat => zI (a_b (j : Int)))))] sz) := by
  refine Met.ofW (cc := cJ6_getChars_ba4f3) (maxL := 7) (ret := (some .int)) (by decide) rfl ?_
  intro p e s m args below meth c s₁ B hml hv
  obtain ⟨rfl, hsz, hP, hK, hD0, hp0, hp1, hp2, hp3⟩ := hv
  have hx := B.exec
  have hb := B.bytes
  have hr := B.returns
  have hts := atoms_spec (ws := v_J6_getChars) B.pre
  have hown : s.vm.findClass RJ6 = some m.cls := findClass_of_methodNamed B.named
  have hlocks := B.notSynchronized
  have ow : ∀ {k : Nat} {w : Cond}, o_J6_getChars[k]? = some w → w.before ([.int (zI (x0)), .int (zI (p0)), .ref q_b] : List Value).toArray s = true := fun h => hts _ (mow_J6_getChars _ (List.mem_of_getElem? h))
  subst hsz
  have hD := hD0.self (sz := s.heap.size)
  generalize hAe : va_A [(q_b, .inl (cB, nb, .inl (fun j : Nat => zI (a_b (j : Int)))))] s.heap.size = A at hD hp0 hp1 hp2 hp3 ⊢
  have hA : ∀ q : Nat, s.heap.size ≤ q → A q := fun q h => by rw [← hAe]; exact Or.inr h
  have hS : va_S A s.heap s.heap [] := va_S.rf
  have hP : va_P (dC, dI) vwQ [(q_b, .inl (cB, nb, .inl (fun j : Nat => zI (a_b (j : Int)))))] s.heap := hP
  have hl := lv_entry ([.int (zI (x0)), .int (zI (p0)), .ref q_b]) (n := 7) (Nat.le_of_ble_eq_true rfl)
  rw [lg_entry_eq]
  generalize (lg_sl ([.int (zI (x0)), .int (zI (p0)), .ref q_b]) ++ List.replicate (7 - (lg_sl ([.int (zI (x0)), .int (zI (p0)), .ref q_b])).length) Slot.unset).toArray = ls at hl ⊢
  have hl : lv_has ls 7 [(0, .int (zI (x0))), (1, .int (zI (p0))), (2, .ref q_b)] := hl
  obtain ⟨H, hH⟩ : ∃ H, H = s.heap := ⟨_, rfl⟩
  rw [← hH] at hP
  have hS : va_S A s.heap H [] := by rw [hH]; exact hS
  rw [← hH]
  refine zW_cap (fun Q hQ => ?_)
  have hsg := rSg_spec (x0)
  have hdg1 := hX_dg.2.1
  refine lv_iload_n hx hb dJ6_getChars_ba4f3_0 rfl (lv_at hl 1 rfl) ?_
  refine lv_istore (lv' := [(5, .int (zI (p0))), (0, .int (zI (x0))), (1, .int (zI (p0))), (2, .ref q_b)]) hx hb dJ6_getChars_ba4f3_1 hl (by decide) rfl (fun ls hl => ?_)
  refine lv_iload_n hx hb dJ6_getChars_ba4f3_3 rfl (lv_at hl 1 rfl) ?_
  refine lv_if_ge (tgt := 11) hx hb dJ6_getChars_ba4f3_4 (by decide) (fun b4 => ?_) (fun b4 => ?_)
  · have yb4 : (0 : Int) ≤ (x0 : Int) := (zI_le (a := 0) (b := x0) (by omega) (by omega) (by omega) (by omega)).mp b4
    refine lv_iconst (v := 0) hx hb dJ6_getChars_ba4f3_11 (by decide) ?_
    refine lv_istore (lv' := [(6, .int 0), (5, .int (zI (p0))), (0, .int (zI (x0))), (1, .int (zI (p0))), (2, .ref q_b)]) hx hb dJ6_getChars_ba4f3_12 hl (by decide) rfl (fun ls hl => ?_)
    refine lv_iload hx hb dJ6_getChars_ba4f3_14 (lv_at hl 0 rfl) ?_
    refine lv_if_ne (tgt := 22) hx hb dJ6_getChars_ba4f3_16 (by decide) (fun h9 => absurd h9 (by decide)) (fun _ => ?_)
    refine lv_iload_n hx hb dJ6_getChars_ba4f3_19 rfl (lv_at hl 2 rfl) ?_
    refine lv_ineg hx hb dJ6_getChars_ba4f3_20 ?_
    refine lv_topi (fun z ez => ?_)
    obtain rfl : z = zI (-(x0)) := ez.trans (zI_neg (x0))
    refine lv_istore_n (lv' := [(0, .int (zI (-(x0)))), (6, .int 0), (5, .int (zI (p0))), (1, .int (zI (p0))), (2, .ref q_b)]) hx hb dJ6_getChars_ba4f3_21 rfl hl (by decide) rfl (fun ls hl => ?_)
    have key22 : ∀ n22 : Nat, ∀ (d22_0 : Int) (d22_5 : Int) (w22_b : Int → Int) (ls : Array Slot) (H : Heap) (locs : List Loc), (-2147483648 ≤ d22_0 ∧ d22_0 ≤ 0) → (0 ≤ d22_5 ∧ d22_5 ≤ p0) → (∀ j : Int, -128 ≤ w22_b j ∧ w22_b j ≤ 127) → (DGT (-d22_0) (d22_5 - rSg (x0))) → ((-(d22_0) : Int).toNat) < n22 → lv_has ls 7 [(0, .int (zI (d22_0))), (1, .int (zI (p0))), (2, .ref q_b), (5, .int (zI (d22_5))), (6, .int 0)] → va_P (dC, dI) vwQ [(q_b, .inl (cB, nb, .inl (fun j : Nat => zI (w22_b (j : Int)))))] H → va_D A [(q_b, .inl (cB, nb, .inl (fun j : Nat => zI (w22_b (j : Int)))))] → va_S A s.heap H locs → W p l e (headSpec v_J6_getChars ({ frames := 0, cells := 0, slots := 0, locals := 0 })).room s m ([.int (zI (x0)), .int (zI (p0)), .ref q_b] : List Value).toArray below meth c H locs 0 0 Q (F0 m 22 ls []) := by
      intro n22
      induction n22 with
      | zero => intro d22_0 d22_5 w22_b ls H locs jd22_0 jd22_5 jw22_b jg hm22; exact absurd hm22 (by omega)
      | succ n22 ih22 =>
        intro d22_0 d22_5 w22_b ls H locs jd22_0 jd22_5 jw22_b jg hm22 hl hP hD hS
        refine lv_iload_n hx hb dJ6_getChars_ba4f3_22 rfl (lv_at hl 0 rfl) ?_
        refine lv_bipush (v := (-100)) hx hb dJ6_getChars_ba4f3_23 (by decide) ?_
        refine lv_icmp_gt (tgt := 72) hx hb dJ6_getChars_ba4f3_25 (by decide) (fun b25 => ?_) (fun b25 => ?_)
        · have yb25 : (-100 : Int) < (d22_0 : Int) := (zI_lt (a := -100) (b := d22_0) (by omega) (by omega) (by omega) (by omega)).mp b25
          have h1 := jg.2.1
          refine lv_aload_n hx hb dJ6_getChars_ba4f3_72 rfl (lv_at hl 2 rfl) ?_
          refine lv_iinc (v := zI (d22_5 - 1)) (lv' := [(5, .int (zI (d22_5 - 1))), (0, .int (zI (d22_0))), (1, .int (zI (p0))), (2, .ref q_b), (6, .int 0)]) hx hb dJ6_getChars_ba4f3_73 hl (k := 3) rfl (zI_dec (d22_5) (1)) (by decide) rfl (fun ls hl => ?_)
          refine lv_iload hx hb dJ6_getChars_ba4f3_76 (lv_at hl 0 rfl) ?_
          refine va_gets (v := .ref sx_d1) hx hb hp0 hS hown (ow (k := 0) rfl) (fun _ h9 => h9) dJ6_getChars_ba4f3_78 ?_
          refine lv_iload_n hx hb dJ6_getChars_ba4f3_81 rfl (lv_at hl 1 rfl) ?_
          refine lv_ineg hx hb dJ6_getChars_ba4f3_82 ?_
          refine lv_topi (fun z ez => ?_)
          obtain rfl : z = zI (-(d22_0)) := ez.trans (zI_neg (d22_0))
          refine va_tb hx hb hp1 hS (zI_in (a := -(d22_0)) (n := 100) (by omega) (by omega) (by omega)) rfl dJ6_getChars_ba4f3_83 ?_
          refine lv_topi (fun x_1 _ => ?_)
          refine va_bast (i := zI (d22_5 - 1)) hx hb hK hP hD hS 0 0 rfl rfl (zI_in (a := d22_5 - 1) (n := nb) (by omega) (by omega) (by omega)) dJ6_getChars_ba4f3_84 (fun H locs hP hD hS => ?_)
          obtain ⟨be_3, ebe_3, hrbe_3⟩ := nar_byte x_1
          rw [ebe_3] at hP hD
          have eQ : upd (fun j : Nat => zI (w22_b (j : Int))) (zI (d22_5 - 1)).toNatClampNeg (zI (be_3)) = (fun j : Nat => zI (zup w22_b (d22_5 - 1) (be_3) (j : Int))) := zI_st w22_b (e := d22_5 - 1) (v := be_3) (by omega) (by omega)
          rw [eQ] at hP hD
          clear eQ
          have ra_2 : ∀ j : Int, -128 ≤ zup w22_b (d22_5 - 1) (be_3) j ∧ zup w22_b (d22_5 - 1) (be_3) j ≤ 127 := zup_P (P := fun x9 => -128 ≤ x9 ∧ x9 ≤ 127) jw22_b (show -128 ≤ (be_3) ∧ (be_3) ≤ 127 by omega)
          generalize zup w22_b (d22_5 - 1) (be_3) = a_2 at hP hD ra_2
          have hP : va_P (dC, dI) vwQ [(q_b, .inl (cB, nb, .inl (fun j : Nat => zI (a_2 (j : Int)))))] H := hP
          have hD : va_D A [(q_b, .inl (cB, nb, .inl (fun j : Nat => zI (a_2 (j : Int)))))] := hD
          refine lv_iload_n hx hb dJ6_getChars_ba4f3_85 rfl (lv_at hl 1 rfl) ?_
          refine lv_bipush (v := (-9)) hx hb dJ6_getChars_ba4f3_86 (by decide) ?_
          refine lv_icmp_ge (tgt := 104) hx hb dJ6_getChars_ba4f3_88 (by decide) (fun b88 => ?_) (fun b88 => ?_)
          · have yb88 : (-9 : Int) ≤ (d22_0 : Int) := (zI_le (a := -9) (b := d22_0) (by omega) (by omega) (by omega) (by omega)).mp b88
            refine lv_iload hx hb dJ6_getChars_ba4f3_104 (lv_at hl 4 rfl) ?_
            refine lv_if_eq (tgt := 118) hx hb dJ6_getChars_ba4f3_106 (by decide) (fun _ => ?_) (fun h9 => absurd h9 (by decide))
            refine lv_iload hx hb dJ6_getChars_ba4f3_118 (lv_at hl 0 rfl) ?_
            subst hQ
            refine W.widen (k := 0) (n := 0) (Nat.le_of_ble_eq_true rfl) (Nat.le_of_ble_eq_true rfl) ?_
            exact W.iret (v := (zI (d22_5 - 1))) hx hb hr (fun t ht hW => ⟨⟨(zI (d22_5 - 1)), (), rfl, ⟨d22_5 - 1, rfl, by omega⟩, a_2, ra_2, by rw [ht]; exact hP, va_K.moved hW.alike hK, hD⟩, hS.F ht⟩) hS.2.2 dJ6_getChars_ba4f3_120
          · have yb88 : ¬ (-9 : Int) ≤ (d22_0 : Int) := fun q => b88 ((zI_le (a := -9) (b := d22_0) (by omega) (by omega) (by omega) (by omega)).mpr q)
            have h2 := jg.two (by omega)
            refine lv_aload_n hx hb dJ6_getChars_ba4f3_91 rfl (lv_at hl 3 rfl) ?_
            refine lv_iinc (v := zI (d22_5 - 1 - 1)) (lv' := [(5, .int (zI (d22_5 - 1 - 1))), (0, .int (zI (d22_0))), (1, .int (zI (p0))), (2, .ref q_b), (6, .int 0)]) hx hb dJ6_getChars_ba4f3_92 hl (k := 0) rfl (zI_dec (d22_5 - 1) (1)) (by decide) rfl (fun ls hl => ?_)
            refine lv_iload hx hb dJ6_getChars_ba4f3_95 (lv_at hl 0 rfl) ?_
            refine va_gets (v := .ref sx_d2) hx hb hp2 hS hown (ow (k := 1) rfl) (fun _ h9 => h9) dJ6_getChars_ba4f3_97 ?_
            refine lv_iload_n hx hb dJ6_getChars_ba4f3_100 rfl (lv_at hl 1 rfl) ?_
            refine lv_ineg hx hb dJ6_getChars_ba4f3_101 ?_
            refine lv_topi (fun z ez => ?_)
            obtain rfl : z = zI (-(d22_0)) := ez.trans (zI_neg (d22_0))
            refine va_tb hx hb hp3 hS (zI_in (a := -(d22_0)) (n := 100) (by omega) (by omega) (by omega)) rfl dJ6_getChars_ba4f3_102 ?_
            refine lv_topi (fun x_4 _ => ?_)
            refine va_bast (i := zI (d22_5 - 1 - 1)) hx hb hK hP hD hS 0 0 rfl rfl (zI_in (a := d22_5 - 1 - 1) (n := nb) (by omega) (by omega) (by omega)) dJ6_getChars_ba4f3_103 (fun H locs hP hD hS => ?_)
            obtain ⟨be_6, ebe_6, hrbe_6⟩ := nar_byte x_4
            rw [ebe_6] at hP hD
            have eQ : upd (fun j : Nat => zI (a_2 (j : Int))) (zI (d22_5 - 1 - 1)).toNatClampNeg (zI (be_6)) = (fun j : Nat => zI (zup a_2 (d22_5 - 1 - 1) (be_6) (j : Int))) := zI_st a_2 (e := d22_5 - 1 - 1) (v := be_6) (by omega) (by omega)
            rw [eQ] at hP hD
            clear eQ
            have ra_5 : ∀ j : Int, -128 ≤ zup a_2 (d22_5 - 1 - 1) (be_6) j ∧ zup a_2 (d22_5 - 1 - 1) (be_6) j ≤ 127 := zup_P (P := fun x9 => -128 ≤ x9 ∧ x9 ≤ 127) ra_2 (show -128 ≤ (be_6) ∧ (be_6) ≤ 127 by omega)
            generalize zup a_2 (d22_5 - 1 - 1) (be_6) = a_5 at hP hD ra_5
            have hP : va_P (dC, dI) vwQ [(q_b, .inl (cB, nb, .inl (fun j : Nat => zI (a_5 (j : Int)))))] H := hP
            have hD : va_D A [(q_b, .inl (cB, nb, .inl (fun j : Nat => zI (a_5 (j : Int)))))] := hD
            refine lv_iload hx hb dJ6_getChars_ba4f3_104 (lv_at hl 4 rfl) ?_
            refine lv_if_eq (tgt := 118) hx hb dJ6_getChars_ba4f3_106 (by decide) (fun _ => ?_) (fun h9 => absurd h9 (by decide))
            refine lv_iload hx hb dJ6_getChars_ba4f3_118 (lv_at hl 0 rfl) ?_
            subst hQ
            refine W.widen (k := 0) (n := 0) (Nat.le_of_ble_eq_true rfl) (Nat.le_of_ble_eq_true rfl) ?_
            exact W.iret (v := (zI (d22_5 - 1 - 1))) hx hb hr (fun t ht hW => ⟨⟨(zI (d22_5 - 1 - 1)), (), rfl, ⟨d22_5 - 1 - 1, rfl, by omega⟩, a_5, ra_5, by rw [ht]; exact hP, va_K.moved hW.alike hK, hD⟩, hS.F ht⟩) hS.2.2 dJ6_getChars_ba4f3_120
        · have yb25 : ¬ (-100 : Int) < (d22_0 : Int) := fun q => b25 ((zI_lt (a := -100) (b := d22_0) (by omega) (by omega) (by omega) (by omega)).mpr q)
          have h3 := jg.three (by omega)
          have hst := jg.step (by omega)
          refine lv_iload_n hx hb dJ6_getChars_ba4f3_28 rfl (lv_at hl 0 rfl) ?_
          refine lv_bipush (v := 100) hx hb dJ6_getChars_ba4f3_29 (by decide) ?_
          refine lv_idiv hx hb dJ6_getChars_ba4f3_31 (by decide) ?_
          refine lv_topi (fun z ez => ?_)
          obtain rfl : z = zI (-(-(d22_0) / 100)) := ez.trans (zI_ndiv (a := d22_0) 100 (by omega) (by omega) (by decide) (by decide))
          refine lv_istore_n (lv' := [(3, .int (zI (-(-(d22_0) / 100)))), (0, .int (zI (d22_0))), (1, .int (zI (p0))), (2, .ref q_b), (5, .int (zI (d22_5))), (6, .int 0)]) hx hb dJ6_getChars_ba4f3_32 rfl hl (by decide) rfl (fun ls hl => ?_)
          refine lv_iload_n hx hb dJ6_getChars_ba4f3_33 rfl (lv_at hl 0 rfl) ?_
          refine lv_bipush (v := 100) hx hb dJ6_getChars_ba4f3_34 (by decide) ?_
          refine lv_imul hx hb dJ6_getChars_ba4f3_36 ?_
          refine lv_topi (fun z ez => ?_)
          obtain rfl : z = zI ((-(-(d22_0) / 100)) * 100) := ez.trans (zI_mul (-(-(d22_0) / 100)) (100))
          refine lv_iload_n hx hb dJ6_getChars_ba4f3_37 rfl (lv_at hl 1 rfl) ?_
          refine lv_isub hx hb dJ6_getChars_ba4f3_38 ?_
          refine lv_topi (fun z ez => ?_)
          obtain rfl : z = zI (((-(-(d22_0) / 100)) * 100) - d22_0) := ez.trans (zI_sub ((-(-(d22_0) / 100)) * 100) (d22_0))
          refine lv_istore (lv' := [(4, .int (zI (((-(-(d22_0) / 100)) * 100) - d22_0))), (3, .int (zI (-(-(d22_0) / 100)))), (0, .int (zI (d22_0))), (1, .int (zI (p0))), (2, .ref q_b), (5, .int (zI (d22_5))), (6, .int 0)]) hx hb dJ6_getChars_ba4f3_39 hl (by decide) rfl (fun ls hl => ?_)
          refine lv_iload_n hx hb dJ6_getChars_ba4f3_41 rfl (lv_at hl 1 rfl) ?_
          refine lv_istore_n (lv' := [(0, .int (zI (-(-(d22_0) / 100)))), (4, .int (zI (((-(-(d22_0) / 100)) * 100) - d22_0))), (3, .int (zI (-(-(d22_0) / 100)))), (1, .int (zI (p0))), (2, .ref q_b), (5, .int (zI (d22_5))), (6, .int 0)]) hx hb dJ6_getChars_ba4f3_42 rfl hl (by decide) rfl (fun ls hl => ?_)
          refine lv_aload_n hx hb dJ6_getChars_ba4f3_43 rfl (lv_at hl 4 rfl) ?_
          refine lv_iinc (v := zI (d22_5 - 1)) (lv' := [(5, .int (zI (d22_5 - 1))), (0, .int (zI (-(-(d22_0) / 100)))), (4, .int (zI (((-(-(d22_0) / 100)) * 100) - d22_0))), (3, .int (zI (-(-(d22_0) / 100)))), (1, .int (zI (p0))), (2, .ref q_b), (6, .int 0)]) hx hb dJ6_getChars_ba4f3_44 hl (k := 5) rfl (zI_dec (d22_5) (1)) (by decide) rfl (fun ls hl => ?_)
          refine lv_iload hx hb dJ6_getChars_ba4f3_47 (lv_at hl 0 rfl) ?_
          refine va_gets (v := .ref sx_d1) hx hb hp0 hS hown (ow (k := 0) rfl) (fun _ h9 => h9) dJ6_getChars_ba4f3_49 ?_
          refine lv_iload hx hb dJ6_getChars_ba4f3_52 (lv_at hl 2 rfl) ?_
          refine va_tb hx hb hp1 hS (zI_in (a := ((-(-(d22_0) / 100)) * 100) - d22_0) (n := 100) (by omega) (by omega) (by omega)) rfl dJ6_getChars_ba4f3_54 ?_
          refine lv_topi (fun x_7 _ => ?_)
          refine va_bast (i := zI (d22_5 - 1)) hx hb hK hP hD hS 0 0 rfl rfl (zI_in (a := d22_5 - 1) (n := nb) (by omega) (by omega) (by omega)) dJ6_getChars_ba4f3_55 (fun H locs hP hD hS => ?_)
          obtain ⟨be_9, ebe_9, hrbe_9⟩ := nar_byte x_7
          rw [ebe_9] at hP hD
          have eQ : upd (fun j : Nat => zI (w22_b (j : Int))) (zI (d22_5 - 1)).toNatClampNeg (zI (be_9)) = (fun j : Nat => zI (zup w22_b (d22_5 - 1) (be_9) (j : Int))) := zI_st w22_b (e := d22_5 - 1) (v := be_9) (by omega) (by omega)
          rw [eQ] at hP hD
          clear eQ
          have ra_8 : ∀ j : Int, -128 ≤ zup w22_b (d22_5 - 1) (be_9) j ∧ zup w22_b (d22_5 - 1) (be_9) j ≤ 127 := zup_P (P := fun x9 => -128 ≤ x9 ∧ x9 ≤ 127) jw22_b (show -128 ≤ (be_9) ∧ (be_9) ≤ 127 by omega)
          generalize zup w22_b (d22_5 - 1) (be_9) = a_8 at hP hD ra_8
          have hP : va_P (dC, dI) vwQ [(q_b, .inl (cB, nb, .inl (fun j : Nat => zI (a_8 (j : Int)))))] H := hP
          have hD : va_D A [(q_b, .inl (cB, nb, .inl (fun j : Nat => zI (a_8 (j : Int)))))] := hD
          refine lv_aload_n hx hb dJ6_getChars_ba4f3_56 rfl (lv_at hl 5 rfl) ?_
          refine lv_iinc (v := zI (d22_5 - 1 - 1)) (lv' := [(5, .int (zI (d22_5 - 1 - 1))), (0, .int (zI (-(-(d22_0) / 100)))), (4, .int (zI (((-(-(d22_0) / 100)) * 100) - d22_0))), (3, .int (zI (-(-(d22_0) / 100)))), (1, .int (zI (p0))), (2, .ref q_b), (6, .int 0)]) hx hb dJ6_getChars_ba4f3_57 hl (k := 0) rfl (zI_dec (d22_5 - 1) (1)) (by decide) rfl (fun ls hl => ?_)
          refine lv_iload hx hb dJ6_getChars_ba4f3_60 (lv_at hl 0 rfl) ?_
          refine va_gets (v := .ref sx_d2) hx hb hp2 hS hown (ow (k := 1) rfl) (fun _ h9 => h9) dJ6_getChars_ba4f3_62 ?_
          refine lv_iload hx hb dJ6_getChars_ba4f3_65 (lv_at hl 2 rfl) ?_
          refine va_tb hx hb hp3 hS (zI_in (a := ((-(-(d22_0) / 100)) * 100) - d22_0) (n := 100) (by omega) (by omega) (by omega)) rfl dJ6_getChars_ba4f3_67 ?_
          refine lv_topi (fun x_10 _ => ?_)
          refine va_bast (i := zI (d22_5 - 1 - 1)) hx hb hK hP hD hS 0 0 rfl rfl (zI_in (a := d22_5 - 1 - 1) (n := nb) (by omega) (by omega) (by omega)) dJ6_getChars_ba4f3_68 (fun H locs hP hD hS => ?_)
          obtain ⟨be_12, ebe_12, hrbe_12⟩ := nar_byte x_10
          rw [ebe_12] at hP hD
          have eQ : upd (fun j : Nat => zI (a_8 (j : Int))) (zI (d22_5 - 1 - 1)).toNatClampNeg (zI (be_12)) = (fun j : Nat => zI (zup a_8 (d22_5 - 1 - 1) (be_12) (j : Int))) := zI_st a_8 (e := d22_5 - 1 - 1) (v := be_12) (by omega) (by omega)
          rw [eQ] at hP hD
          clear eQ
          have ra_11 : ∀ j : Int, -128 ≤ zup a_8 (d22_5 - 1 - 1) (be_12) j ∧ zup a_8 (d22_5 - 1 - 1) (be_12) j ≤ 127 := zup_P (P := fun x9 => -128 ≤ x9 ∧ x9 ≤ 127) ra_8 (show -128 ≤ (be_12) ∧ (be_12) ≤ 127 by omega)
          generalize zup a_8 (d22_5 - 1 - 1) (be_12) = a_11 at hP hD ra_11
          have hP : va_P (dC, dI) vwQ [(q_b, .inl (cB, nb, .inl (fun j : Nat => zI (a_11 (j : Int)))))] H := hP
          have hD : va_D A [(q_b, .inl (cB, nb, .inl (fun j : Nat => zI (a_11 (j : Int)))))] := hD
          refine lv_goto (tgt := 22) hx hb dJ6_getChars_ba4f3_69 (by decide) ?_
          exact ih22 (-(-(d22_0) / 100)) (d22_5 - 1 - 1) a_11 ls H _ (by omega) (by omega) ra_11 (by have q9 := hst; rw [show d22_5 - rSg (x0) - 2 = d22_5 - 1 - 1 - rSg (x0) by omega, show -d22_0 / 100 = -(-(-(d22_0) / 100)) by omega] at q9; exact q9) (by omega) (lv_sub hl [1, 4, 5, 0, 6] rfl) hP hD hS
    exact key22 ((-(-(x0)) : Int).toNat + 1) (-(x0)) p0 a_b ls H _ (by omega) (by omega) hR_a_b (by have q9 := rSg_spec (x0); have q8 := hX_dg.wk (show k0 ≤ p0 - rSg (x0) by omega); first | (rw [show rAb (x0) = -(x0) by omega] at q8; exact q8) | (rw [show rAb (x0) = -(-(x0)) by omega] at q8; exact q8)) (by omega) (lv_sub hl [0, 3, 4, 2, 1] rfl) hP hD hS
  · have yb4 : ¬ (0 : Int) ≤ (x0 : Int) := fun q => b4 ((zI_le (a := 0) (b := x0) (by omega) (by omega) (by omega) (by omega)).mpr q)
    refine lv_iconst (v := 1) hx hb dJ6_getChars_ba4f3_7 (by decide) ?_
    refine lv_goto (tgt := 12) hx hb dJ6_getChars_ba4f3_8 (by decide) ?_
    refine lv_istore (lv' := [(6, .int 1), (5, .int (zI (p0))), (0, .int (zI (x0))), (1, .int (zI (p0))), (2, .ref q_b)]) hx hb dJ6_getChars_ba4f3_12 hl (by decide) rfl (fun ls hl => ?_)
    refine lv_iload hx hb dJ6_getChars_ba4f3_14 (lv_at hl 0 rfl) ?_
    refine lv_if_ne (tgt := 22) hx hb dJ6_getChars_ba4f3_16 (by decide) (fun _ => ?_) (fun h9 => absurd h9 (by decide))
    have key22 : ∀ n22 : Nat, ∀ (d22_5 : Int) (d22_0 : Int) (w22_b : Int → Int) (ls : Array Slot) (H : Heap) (locs : List Loc), (0 ≤ d22_5 ∧ d22_5 ≤ p0) → (-2147483648 ≤ d22_0 ∧ d22_0 ≤ 0) → (∀ j : Int, -128 ≤ w22_b j ∧ w22_b j ≤ 127) → (DGT (-d22_0) (d22_5 - rSg (x0))) → ((-(d22_0) : Int).toNat) < n22 → lv_has ls 7 [(0, .int (zI (d22_0))), (1, .int (zI (p0))), (2, .ref q_b), (5, .int (zI (d22_5))), (6, .int 1)] → va_P (dC, dI) vwQ [(q_b, .inl (cB, nb, .inl (fun j : Nat => zI (w22_b (j : Int)))))] H → va_D A [(q_b, .inl (cB, nb, .inl (fun j : Nat => zI (w22_b (j : Int)))))] → va_S A s.heap H locs → W p l e (headSpec v_J6_getChars ({ frames := 0, cells := 0, slots := 0, locals := 0 })).room s m ([.int (zI (x0)), .int (zI (p0)), .ref q_b] : List Value).toArray below meth c H locs 0 0 Q (F0 m 22 ls []) := by
      intro n22
      induction n22 with
      | zero => intro d22_5 d22_0 w22_b ls H locs jd22_5 jd22_0 jw22_b jg hm22; exact absurd hm22 (by omega)
      | succ n22 ih22 =>
        intro d22_5 d22_0 w22_b ls H locs jd22_5 jd22_0 jw22_b jg hm22 hl hP hD hS
        refine lv_iload_n hx hb dJ6_getChars_ba4f3_22 rfl (lv_at hl 0 rfl) ?_
        refine lv_bipush (v := (-100)) hx hb dJ6_getChars_ba4f3_23 (by decide) ?_
        refine lv_icmp_gt (tgt := 72) hx hb dJ6_getChars_ba4f3_25 (by decide) (fun b25 => ?_) (fun b25 => ?_)
        · have yb25 : (-100 : Int) < (d22_0 : Int) := (zI_lt (a := -100) (b := d22_0) (by omega) (by omega) (by omega) (by omega)).mp b25
          have h1 := jg.2.1
          refine lv_aload_n hx hb dJ6_getChars_ba4f3_72 rfl (lv_at hl 2 rfl) ?_
          refine lv_iinc (v := zI (d22_5 - 1)) (lv' := [(5, .int (zI (d22_5 - 1))), (0, .int (zI (d22_0))), (1, .int (zI (p0))), (2, .ref q_b), (6, .int 1)]) hx hb dJ6_getChars_ba4f3_73 hl (k := 3) rfl (zI_dec (d22_5) (1)) (by decide) rfl (fun ls hl => ?_)
          refine lv_iload hx hb dJ6_getChars_ba4f3_76 (lv_at hl 0 rfl) ?_
          refine va_gets (v := .ref sx_d1) hx hb hp0 hS hown (ow (k := 0) rfl) (fun _ h9 => h9) dJ6_getChars_ba4f3_78 ?_
          refine lv_iload_n hx hb dJ6_getChars_ba4f3_81 rfl (lv_at hl 1 rfl) ?_
          refine lv_ineg hx hb dJ6_getChars_ba4f3_82 ?_
          refine lv_topi (fun z ez => ?_)
          obtain rfl : z = zI (-(d22_0)) := ez.trans (zI_neg (d22_0))
          refine va_tb hx hb hp1 hS (zI_in (a := -(d22_0)) (n := 100) (by omega) (by omega) (by omega)) rfl dJ6_getChars_ba4f3_83 ?_
          refine lv_topi (fun x_13 _ => ?_)
          refine va_bast (i := zI (d22_5 - 1)) hx hb hK hP hD hS 0 0 rfl rfl (zI_in (a := d22_5 - 1) (n := nb) (by omega) (by omega) (by omega)) dJ6_getChars_ba4f3_84 (fun H locs hP hD hS => ?_)
          obtain ⟨be_15, ebe_15, hrbe_15⟩ := nar_byte x_13
          rw [ebe_15] at hP hD
          have eQ : upd (fun j : Nat => zI (w22_b (j : Int))) (zI (d22_5 - 1)).toNatClampNeg (zI (be_15)) = (fun j : Nat => zI (zup w22_b (d22_5 - 1) (be_15) (j : Int))) := zI_st w22_b (e := d22_5 - 1) (v := be_15) (by omega) (by omega)
          rw [eQ] at hP hD
          clear eQ
          have ra_14 : ∀ j : Int, -128 ≤ zup w22_b (d22_5 - 1) (be_15) j ∧ zup w22_b (d22_5 - 1) (be_15) j ≤ 127 := zup_P (P := fun x9 => -128 ≤ x9 ∧ x9 ≤ 127) jw22_b (show -128 ≤ (be_15) ∧ (be_15) ≤ 127 by omega)
          generalize zup w22_b (d22_5 - 1) (be_15) = a_14 at hP hD ra_14
          have hP : va_P (dC, dI) vwQ [(q_b, .inl (cB, nb, .inl (fun j : Nat => zI (a_14 (j : Int)))))] H := hP
          have hD : va_D A [(q_b, .inl (cB, nb, .inl (fun j : Nat => zI (a_14 (j : Int)))))] := hD
          refine lv_iload_n hx hb dJ6_getChars_ba4f3_85 rfl (lv_at hl 1 rfl) ?_
          refine lv_bipush (v := (-9)) hx hb dJ6_getChars_ba4f3_86 (by decide) ?_
          refine lv_icmp_ge (tgt := 104) hx hb dJ6_getChars_ba4f3_88 (by decide) (fun b88 => ?_) (fun b88 => ?_)
          · have yb88 : (-9 : Int) ≤ (d22_0 : Int) := (zI_le (a := -9) (b := d22_0) (by omega) (by omega) (by omega) (by omega)).mp b88
            refine lv_iload hx hb dJ6_getChars_ba4f3_104 (lv_at hl 4 rfl) ?_
            refine lv_if_eq (tgt := 118) hx hb dJ6_getChars_ba4f3_106 (by decide) (fun h9 => absurd h9 (by decide)) (fun _ => ?_)
            refine lv_aload_n hx hb dJ6_getChars_ba4f3_109 rfl (lv_at hl 3 rfl) ?_
            refine lv_iinc (v := zI (d22_5 - 1 - 1)) (lv' := [(5, .int (zI (d22_5 - 1 - 1))), (0, .int (zI (d22_0))), (1, .int (zI (p0))), (2, .ref q_b), (6, .int 1)]) hx hb dJ6_getChars_ba4f3_110 hl (k := 0) rfl (zI_dec (d22_5 - 1) (1)) (by decide) rfl (fun ls hl => ?_)
            refine lv_iload hx hb dJ6_getChars_ba4f3_113 (lv_at hl 0 rfl) ?_
            refine lv_bipush (v := 45) hx hb dJ6_getChars_ba4f3_115 (by decide) ?_
            refine va_bast (i := zI (d22_5 - 1 - 1)) hx hb hK hP hD hS 0 0 rfl rfl (zI_in (a := d22_5 - 1 - 1) (n := nb) (by omega) (by omega) (by omega)) dJ6_getChars_ba4f3_117 (fun H locs hP hD hS => ?_)
            rw [show vp_nar .byte 45 = zI (45) from (by decide)] at hP hD
            have eQ : upd (fun j : Nat => zI (a_14 (j : Int))) (zI (d22_5 - 1 - 1)).toNatClampNeg (zI (45)) = (fun j : Nat => zI (zup a_14 (d22_5 - 1 - 1) (45) (j : Int))) := zI_st a_14 (e := d22_5 - 1 - 1) (v := 45) (by omega) (by omega)
            rw [eQ] at hP hD
            clear eQ
            have ra_16 : ∀ j : Int, -128 ≤ zup a_14 (d22_5 - 1 - 1) (45) j ∧ zup a_14 (d22_5 - 1 - 1) (45) j ≤ 127 := zup_P (P := fun x9 => -128 ≤ x9 ∧ x9 ≤ 127) ra_14 (show -128 ≤ (45) ∧ (45) ≤ 127 by omega)
            generalize zup a_14 (d22_5 - 1 - 1) (45) = a_16 at hP hD ra_16
            have hP : va_P (dC, dI) vwQ [(q_b, .inl (cB, nb, .inl (fun j : Nat => zI (a_16 (j : Int)))))] H := hP
            have hD : va_D A [(q_b, .inl (cB, nb, .inl (fun j : Nat => zI (a_16 (j : Int)))))] := hD
            refine lv_iload hx hb dJ6_getChars_ba4f3_118 (lv_at hl 0 rfl) ?_
            subst hQ
            refine W.widen (k := 0) (n := 0) (Nat.le_of_ble_eq_true rfl) (Nat.le_of_ble_eq_true rfl) ?_
            exact W.iret (v := (zI (d22_5 - 1 - 1))) hx hb hr (fun t ht hW => ⟨⟨(zI (d22_5 - 1 - 1)), (), rfl, ⟨d22_5 - 1 - 1, rfl, by omega⟩, a_16, ra_16, by rw [ht]; exact hP, va_K.moved hW.alike hK, hD⟩, hS.F ht⟩) hS.2.2 dJ6_getChars_ba4f3_120
          · have yb88 : ¬ (-9 : Int) ≤ (d22_0 : Int) := fun q => b88 ((zI_le (a := -9) (b := d22_0) (by omega) (by omega) (by omega) (by omega)).mpr q)
            have h2 := jg.two (by omega)
            refine lv_aload_n hx hb dJ6_getChars_ba4f3_91 rfl (lv_at hl 3 rfl) ?_
            refine lv_iinc (v := zI (d22_5 - 1 - 1)) (lv' := [(5, .int (zI (d22_5 - 1 - 1))), (0, .int (zI (d22_0))), (1, .int (zI (p0))), (2, .ref q_b), (6, .int 1)]) hx hb dJ6_getChars_ba4f3_92 hl (k := 0) rfl (zI_dec (d22_5 - 1) (1)) (by decide) rfl (fun ls hl => ?_)
            refine lv_iload hx hb dJ6_getChars_ba4f3_95 (lv_at hl 0 rfl) ?_
            refine va_gets (v := .ref sx_d2) hx hb hp2 hS hown (ow (k := 1) rfl) (fun _ h9 => h9) dJ6_getChars_ba4f3_97 ?_
            refine lv_iload_n hx hb dJ6_getChars_ba4f3_100 rfl (lv_at hl 1 rfl) ?_
            refine lv_ineg hx hb dJ6_getChars_ba4f3_101 ?_
            refine lv_topi (fun z ez => ?_)
            obtain rfl : z = zI (-(d22_0)) := ez.trans (zI_neg (d22_0))
            refine va_tb hx hb hp3 hS (zI_in (a := -(d22_0)) (n := 100) (by omega) (by omega) (by omega)) rfl dJ6_getChars_ba4f3_102 ?_
            refine lv_topi (fun x_17 _ => ?_)
            refine va_bast (i := zI (d22_5 - 1 - 1)) hx hb hK hP hD hS 0 0 rfl rfl (zI_in (a := d22_5 - 1 - 1) (n := nb) (by omega) (by omega) (by omega)) dJ6_getChars_ba4f3_103 (fun H locs hP hD hS => ?_)
            obtain ⟨be_19, ebe_19, hrbe_19⟩ := nar_byte x_17
            rw [ebe_19] at hP hD
            have eQ : upd (fun j : Nat => zI (a_14 (j : Int))) (zI (d22_5 - 1 - 1)).toNatClampNeg (zI (be_19)) = (fun j : Nat => zI (zup a_14 (d22_5 - 1 - 1) (be_19) (j : Int))) := zI_st a_14 (e := d22_5 - 1 - 1) (v := be_19) (by omega) (by omega)
            rw [eQ] at hP hD
            clear eQ
            have ra_18 : ∀ j : Int, -128 ≤ zup a_14 (d22_5 - 1 - 1) (be_19) j ∧ zup a_14 (d22_5 - 1 - 1) (be_19) j ≤ 127 := zup_P (P := fun x9 => -128 ≤ x9 ∧ x9 ≤ 127) ra_14 (show -128 ≤ (be_19) ∧ (be_19) ≤ 127 by omega)
            generalize zup a_14 (d22_5 - 1 - 1) (be_19) = a_18 at hP hD ra_18
            have hP : va_P (dC, dI) vwQ [(q_b, .inl (cB, nb, .inl (fun j : Nat => zI (a_18 (j : Int)))))] H := hP
            have hD : va_D A [(q_b, .inl (cB, nb, .inl (fun j : Nat => zI (a_18 (j : Int)))))] := hD
            refine lv_iload hx hb dJ6_getChars_ba4f3_104 (lv_at hl 4 rfl) ?_
            refine lv_if_eq (tgt := 118) hx hb dJ6_getChars_ba4f3_106 (by decide) (fun h9 => absurd h9 (by decide)) (fun _ => ?_)
            refine lv_aload_n hx hb dJ6_getChars_ba4f3_109 rfl (lv_at hl 3 rfl) ?_
            refine lv_iinc (v := zI (d22_5 - 1 - 1 - 1)) (lv' := [(5, .int (zI (d22_5 - 1 - 1 - 1))), (0, .int (zI (d22_0))), (1, .int (zI (p0))), (2, .ref q_b), (6, .int 1)]) hx hb dJ6_getChars_ba4f3_110 hl (k := 0) rfl (zI_dec (d22_5 - 1 - 1) (1)) (by decide) rfl (fun ls hl => ?_)
            refine lv_iload hx hb dJ6_getChars_ba4f3_113 (lv_at hl 0 rfl) ?_
            refine lv_bipush (v := 45) hx hb dJ6_getChars_ba4f3_115 (by decide) ?_
            refine va_bast (i := zI (d22_5 - 1 - 1 - 1)) hx hb hK hP hD hS 0 0 rfl rfl (zI_in (a := d22_5 - 1 - 1 - 1) (n := nb) (by omega) (by omega) (by omega)) dJ6_getChars_ba4f3_117 (fun H locs hP hD hS => ?_)
            rw [show vp_nar .byte 45 = zI (45) from (by decide)] at hP hD
            have eQ : upd (fun j : Nat => zI (a_18 (j : Int))) (zI (d22_5 - 1 - 1 - 1)).toNatClampNeg (zI (45)) = (fun j : Nat => zI (zup a_18 (d22_5 - 1 - 1 - 1) (45) (j : Int))) := zI_st a_18 (e := d22_5 - 1 - 1 - 1) (v := 45) (by omega) (by omega)
            rw [eQ] at hP hD
            clear eQ
            have ra_20 : ∀ j : Int, -128 ≤ zup a_18 (d22_5 - 1 - 1 - 1) (45) j ∧ zup a_18 (d22_5 - 1 - 1 - 1) (45) j ≤ 127 := zup_P (P := fun x9 => -128 ≤ x9 ∧ x9 ≤ 127) ra_18 (show -128 ≤ (45) ∧ (45) ≤ 127 by omega)
            generalize zup a_18 (d22_5 - 1 - 1 - 1) (45) = a_20 at hP hD ra_20
            have hP : va_P (dC, dI) vwQ [(q_b, .inl (cB, nb, .inl (fun j : Nat => zI (a_20 (j : Int)))))] H := hP
            have hD : va_D A [(q_b, .inl (cB, nb, .inl (fun j : Nat => zI (a_20 (j : Int)))))] := hD
            refine lv_iload hx hb dJ6_getChars_ba4f3_118 (lv_at hl 0 rfl) ?_
            subst hQ
            refine W.widen (k := 0) (n := 0) (Nat.le_of_ble_eq_true rfl) (Nat.le_of_ble_eq_true rfl) ?_
            exact W.iret (v := (zI (d22_5 - 1 - 1 - 1))) hx hb hr (fun t ht hW => ⟨⟨(zI (d22_5 - 1 - 1 - 1)), (), rfl, ⟨d22_5 - 1 - 1 - 1, rfl, by omega⟩, a_20, ra_20, by rw [ht]; exact hP, va_K.moved hW.alike hK, hD⟩, hS.F ht⟩) hS.2.2 dJ6_getChars_ba4f3_120
        · have yb25 : ¬ (-100 : Int) < (d22_0 : Int) := fun q => b25 ((zI_lt (a := -100) (b := d22_0) (by omega) (by omega) (by omega) (by omega)).mpr q)
          have h3 := jg.three (by omega)
          have hst := jg.step (by omega)
          refine lv_iload_n hx hb dJ6_getChars_ba4f3_28 rfl (lv_at hl 0 rfl) ?_
          refine lv_bipush (v := 100) hx hb dJ6_getChars_ba4f3_29 (by decide) ?_
          refine lv_idiv hx hb dJ6_getChars_ba4f3_31 (by decide) ?_
          refine lv_topi (fun z ez => ?_)
          obtain rfl : z = zI (-(-(d22_0) / 100)) := ez.trans (zI_ndiv (a := d22_0) 100 (by omega) (by omega) (by decide) (by decide))
          refine lv_istore_n (lv' := [(3, .int (zI (-(-(d22_0) / 100)))), (0, .int (zI (d22_0))), (1, .int (zI (p0))), (2, .ref q_b), (5, .int (zI (d22_5))), (6, .int 1)]) hx hb dJ6_getChars_ba4f3_32 rfl hl (by decide) rfl (fun ls hl => ?_)
          refine lv_iload_n hx hb dJ6_getChars_ba4f3_33 rfl (lv_at hl 0 rfl) ?_
          refine lv_bipush (v := 100) hx hb dJ6_getChars_ba4f3_34 (by decide) ?_
          refine lv_imul hx hb dJ6_getChars_ba4f3_36 ?_
          refine lv_topi (fun z ez => ?_)
          obtain rfl : z = zI ((-(-(d22_0) / 100)) * 100) := ez.trans (zI_mul (-(-(d22_0) / 100)) (100))
          refine lv_iload_n hx hb dJ6_getChars_ba4f3_37 rfl (lv_at hl 1 rfl) ?_
          refine lv_isub hx hb dJ6_getChars_ba4f3_38 ?_
          refine lv_topi (fun z ez => ?_)
          obtain rfl : z = zI (((-(-(d22_0) / 100)) * 100) - d22_0) := ez.trans (zI_sub ((-(-(d22_0) / 100)) * 100) (d22_0))
          refine lv_istore (lv' := [(4, .int (zI (((-(-(d22_0) / 100)) * 100) - d22_0))), (3, .int (zI (-(-(d22_0) / 100)))), (0, .int (zI (d22_0))), (1, .int (zI (p0))), (2, .ref q_b), (5, .int (zI (d22_5))), (6, .int 1)]) hx hb dJ6_getChars_ba4f3_39 hl (by decide) rfl (fun ls hl => ?_)
          refine lv_iload_n hx hb dJ6_getChars_ba4f3_41 rfl (lv_at hl 1 rfl) ?_
          refine lv_istore_n (lv' := [(0, .int (zI (-(-(d22_0) / 100)))), (4, .int (zI (((-(-(d22_0) / 100)) * 100) - d22_0))), (3, .int (zI (-(-(d22_0) / 100)))), (1, .int (zI (p0))), (2, .ref q_b), (5, .int (zI (d22_5))), (6, .int 1)]) hx hb dJ6_getChars_ba4f3_42 rfl hl (by decide) rfl (fun ls hl => ?_)
          refine lv_aload_n hx hb dJ6_getChars_ba4f3_43 rfl (lv_at hl 4 rfl) ?_
          refine lv_iinc (v := zI (d22_5 - 1)) (lv' := [(5, .int (zI (d22_5 - 1))), (0, .int (zI (-(-(d22_0) / 100)))), (4, .int (zI (((-(-(d22_0) / 100)) * 100) - d22_0))), (3, .int (zI (-(-(d22_0) / 100)))), (1, .int (zI (p0))), (2, .ref q_b), (6, .int 1)]) hx hb dJ6_getChars_ba4f3_44 hl (k := 5) rfl (zI_dec (d22_5) (1)) (by decide) rfl (fun ls hl => ?_)
          refine lv_iload hx hb dJ6_getChars_ba4f3_47 (lv_at hl 0 rfl) ?_
          refine va_gets (v := .ref sx_d1) hx hb hp0 hS hown (ow (k := 0) rfl) (fun _ h9 => h9) dJ6_getChars_ba4f3_49 ?_
          refine lv_iload hx hb dJ6_getChars_ba4f3_52 (lv_at hl 2 rfl) ?_
          refine va_tb hx hb hp1 hS (zI_in (a := ((-(-(d22_0) / 100)) * 100) - d22_0) (n := 100) (by omega) (by omega) (by omega)) rfl dJ6_getChars_ba4f3_54 ?_
          refine lv_topi (fun x_21 _ => ?_)
          refine va_bast (i := zI (d22_5 - 1)) hx hb hK hP hD hS 0 0 rfl rfl (zI_in (a := d22_5 - 1) (n := nb) (by omega) (by omega) (by omega)) dJ6_getChars_ba4f3_55 (fun H locs hP hD hS => ?_)
          obtain ⟨be_23, ebe_23, hrbe_23⟩ := nar_byte x_21
          rw [ebe_23] at hP hD
          have eQ : upd (fun j : Nat => zI (w22_b (j : Int))) (zI (d22_5 - 1)).toNatClampNeg (zI (be_23)) = (fun j : Nat => zI (zup w22_b (d22_5 - 1) (be_23) (j : Int))) := zI_st w22_b (e := d22_5 - 1) (v := be_23) (by omega) (by omega)
          rw [eQ] at hP hD
          clear eQ
          have ra_22 : ∀ j : Int, -128 ≤ zup w22_b (d22_5 - 1) (be_23) j ∧ zup w22_b (d22_5 - 1) (be_23) j ≤ 127 := zup_P (P := fun x9 => -128 ≤ x9 ∧ x9 ≤ 127) jw22_b (show -128 ≤ (be_23) ∧ (be_23) ≤ 127 by omega)
          generalize zup w22_b (d22_5 - 1) (be_23) = a_22 at hP hD ra_22
          have hP : va_P (dC, dI) vwQ [(q_b, .inl (cB, nb, .inl (fun j : Nat => zI (a_22 (j : Int)))))] H := hP
          have hD : va_D A [(q_b, .inl (cB, nb, .inl (fun j : Nat => zI (a_22 (j : Int)))))] := hD
          refine lv_aload_n hx hb dJ6_getChars_ba4f3_56 rfl (lv_at hl 5 rfl) ?_
          refine lv_iinc (v := zI (d22_5 - 1 - 1)) (lv' := [(5, .int (zI (d22_5 - 1 - 1))), (0, .int (zI (-(-(d22_0) / 100)))), (4, .int (zI (((-(-(d22_0) / 100)) * 100) - d22_0))), (3, .int (zI (-(-(d22_0) / 100)))), (1, .int (zI (p0))), (2, .ref q_b), (6, .int 1)]) hx hb dJ6_getChars_ba4f3_57 hl (k := 0) rfl (zI_dec (d22_5 - 1) (1)) (by decide) rfl (fun ls hl => ?_)
          refine lv_iload hx hb dJ6_getChars_ba4f3_60 (lv_at hl 0 rfl) ?_
          refine va_gets (v := .ref sx_d2) hx hb hp2 hS hown (ow (k := 1) rfl) (fun _ h9 => h9) dJ6_getChars_ba4f3_62 ?_
          refine lv_iload hx hb dJ6_getChars_ba4f3_65 (lv_at hl 2 rfl) ?_
          refine va_tb hx hb hp3 hS (zI_in (a := ((-(-(d22_0) / 100)) * 100) - d22_0) (n := 100) (by omega) (by omega) (by omega)) rfl dJ6_getChars_ba4f3_67 ?_
          refine lv_topi (fun x_24 _ => ?_)
          refine va_bast (i := zI (d22_5 - 1 - 1)) hx hb hK hP hD hS 0 0 rfl rfl (zI_in (a := d22_5 - 1 - 1) (n := nb) (by omega) (by omega) (by omega)) dJ6_getChars_ba4f3_68 (fun H locs hP hD hS => ?_)
          obtain ⟨be_26, ebe_26, hrbe_26⟩ := nar_byte x_24
          rw [ebe_26] at hP hD
          have eQ : upd (fun j : Nat => zI (a_22 (j : Int))) (zI (d22_5 - 1 - 1)).toNatClampNeg (zI (be_26)) = (fun j : Nat => zI (zup a_22 (d22_5 - 1 - 1) (be_26) (j : Int))) := zI_st a_22 (e := d22_5 - 1 - 1) (v := be_26) (by omega) (by omega)
          rw [eQ] at hP hD
          clear eQ
          have ra_25 : ∀ j : Int, -128 ≤ zup a_22 (d22_5 - 1 - 1) (be_26) j ∧ zup a_22 (d22_5 - 1 - 1) (be_26) j ≤ 127 := zup_P (P := fun x9 => -128 ≤ x9 ∧ x9 ≤ 127) ra_22 (show -128 ≤ (be_26) ∧ (be_26) ≤ 127 by omega)
          generalize zup a_22 (d22_5 - 1 - 1) (be_26) = a_25 at hP hD ra_25
          have hP : va_P (dC, dI) vwQ [(q_b, .inl (cB, nb, .inl (fun j : Nat => zI (a_25 (j : Int)))))] H := hP
          have hD : va_D A [(q_b, .inl (cB, nb, .inl (fun j : Nat => zI (a_25 (j : Int)))))] := hD
          refine lv_goto (tgt := 22) hx hb dJ6_getChars_ba4f3_69 (by decide) ?_
          exact ih22 (d22_5 - 1 - 1) (-(-(d22_0) / 100)) a_25 ls H _ (by omega) (by omega) ra_25 (by have q9 := hst; rw [show d22_5 - rSg (x0) - 2 = d22_5 - 1 - 1 - rSg (x0) by omega, show -d22_0 / 100 = -(-(-(d22_0) / 100)) by omega] at q9; exact q9) (by omega) (lv_sub hl [1, 4, 5, 0, 6] rfl) hP hD hS
    exact key22 ((-(x0) : Int).toNat + 1) p0 x0 a_b ls H _ (by omega) (by omega) hR_a_b (by have q9 := rSg_spec (x0); have q8 := hX_dg.wk (show k0 ≤ p0 - rSg (x0) by omega); first | (rw [show rAb (x0) = -(x0) by omega] at q8; exact q8) | (rw [show rAb (x0) = -(-(x0)) by omega] at q8; exact q8)) (by omega) (lv_sub hl [2, 3, 4, 1, 0] rfl) hP hD hS
