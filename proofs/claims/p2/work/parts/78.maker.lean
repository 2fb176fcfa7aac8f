theorem dX8_rowsThatSet_0 : decode cX8_rowsThatSet 0 = .ok (.iconst 0, 1) := by decide +kernel
theorem dX8_rowsThatSet_1 : decode cX8_rowsThatSet 1 = .ok (.istore_n 1, 1) := by decide +kernel
theorem dX8_rowsThatSet_2 : decode cX8_rowsThatSet 2 = .ok (.iconst 0, 1) := by decide +kernel
theorem dX8_rowsThatSet_3 : decode cX8_rowsThatSet 3 = .ok (.istore_n 2, 1) := by decide +kernel
theorem dX8_rowsThatSet_4 : decode cX8_rowsThatSet 4 = .ok (.iload_n 2, 1) := by decide +kernel
theorem dX8_rowsThatSet_5 : decode cX8_rowsThatSet 5 = .ok (.aload_n 0, 1) := by decide +kernel
theorem dX8_rowsThatSet_6 : decode cX8_rowsThatSet 6 = .ok (.getfield 67, 3) := by decide +kernel
theorem dX8_rowsThatSet_9 : decode cX8_rowsThatSet 9 = .ok (.if_icmp .ge 21, 3) := by decide +kernel
theorem dX8_rowsThatSet_30 : decode cX8_rowsThatSet 30 = .ok (.iload_n 1, 1) := by decide +kernel
theorem dX8_rowsThatSet_31 : decode cX8_rowsThatSet 31 = .ok (.ireturn, 1) := by decide +kernel
theorem dX8_rowsThatSet_12 : decode cX8_rowsThatSet 12 = .ok (.aload_n 0, 1) := by decide +kernel
theorem dX8_rowsThatSet_13 : decode cX8_rowsThatSet 13 = .ok (.getfield 87, 3) := by decide +kernel
theorem dX8_rowsThatSet_16 : decode cX8_rowsThatSet 16 = .ok (.iload_n 2, 1) := by decide +kernel
theorem dX8_rowsThatSet_17 : decode cX8_rowsThatSet 17 = .ok (.iaload, 1) := by decide +kernel
theorem dX8_rowsThatSet_18 : decode cX8_rowsThatSet 18 = .ok (.ifCond .lt 6, 3) := by decide +kernel
theorem dX8_rowsThatSet_24 : decode cX8_rowsThatSet 24 = .ok (.iinc 2 1, 3) := by decide +kernel
theorem dX8_rowsThatSet_27 : decode cX8_rowsThatSet 27 = .ok (.goto (-23), 3) := by decide +kernel
theorem dX8_rowsThatSet_21 : decode cX8_rowsThatSet 21 = .ok (.iinc 1 1, 3) := by decide +kernel
def o_X8_rowsThatSet : List Cond := [.fieldLink RX8 67 "SsaForge$Code" "rows" "I", .fieldLink RX8 87 "SsaForge$Code" "target" "[I"]
def v_X8_rowsThatSet : List Cond := .code yX8_rowsThatSet cX8_rowsThatSet 3 (some .int) :: (o_X8_rowsThatSet ++ (wsX00 ++ []))
theorem mow_X8_rowsThatSet : ∀ w ∈ o_X8_rowsThatSet, w ∈ v_X8_rowsThatSet := fun _ h => List.mem_cons_of_mem _ (List.mem_append_left _ h)
theorem mem_X8_rowsThatSet_0 : ∀ w ∈ wsX00, w ∈ v_X8_rowsThatSet := fun _ h => List.mem_cons_of_mem _ (List.mem_append_right _ (List.mem_append_left _ h))
set_option maxRecDepth 20000 in
theorem gw_X8_rowsThatSet : v_X8_rowsThatSet.all goodWord = true := by decide +kernel
set_option maxHeartbeats 4000000 in
set_option maxRecDepth 100000 in
theorem c_X8_rowsThatSet (l : Launch) (dC : Nat → ClassId) (dI : Nat → Nat → Nat) (hc : Nat) (v_0 : Value) (R1 : Int) (v_2 : Value) (v_3 : Value) (v_4 : Value) (v_5 : Value) (q_706 : Nat) (cA_706 : ClassId) (a_6 : Int → Int) (v_7 : Value) (v_8 : Value) (v_9 : Value) (v_10 : Value) (v_11 : Value) (v_12 : Value) (v_13 : Value) (v_14 : Value) (v_15 : Value) (v_16 : Value) (v_17 : Value) (v_18 : Value) (hNR1 : 0 ≤ R1 ∧ R1 ≤ 2000) (hR_a_6 : ∀ j : Int, -1 ≤ a_6 j ∧ a_6 j ≤ 1023) (sz : Nat) : Met l yX8_rowsThatSet v_X8_rowsThatSet ({ frames := 0, cells := 0, slots := 0, locals := 0 }) (va_Pc [.ref hc] (fun U => U.heap.size = sz ∧ va_P (dC, dI) vwP [(hc, .inr (0, [v_0, .int (zI (R1)), v_2, v_3, v_4, v_5, .ref q_706, v_7, v_8, v_9, v_10, v_11, v_12, v_13, v_14, v_15, v_16, v_17, v_18])), (q_706, .inl (cA_706, 2000, .inl (fun j : Nat => zI (a_6 (j : Int)))))] U.heap ∧ va_K (dC, dI) vwP [(cA_706, .int)] U ∧ va_D (fun _ => True) [(hc, .inr (0, [v_0, .int (zI (R1)), v_2, v_3, v_4, v_5, .ref q_706, v_7, v_8, v_9, v_10, v_11, v_12, v_13, v_14, v_15, v_16, v_17, v_18])), (q_706, .inl (cA_706, 2000, .inl (fun j : Nat => zI (a_6 (j : Int)))))])) (va_Qi (fun (r : Int32) (_ : Unit) => r = zI (sg (setF a_6) R1.toNat)) (fun (_ : Unit) (t : State) => va_P (dC, dI) vwP [(hc, .inr (0, [v_0, .int (zI (R1)), v_2, v_3, v_4, v_5, .ref q_706, v_7, v_8, v_9, v_10, v_11, v_12, v_13, v_14, v_15, v_16, v_17, v_18])), (q_706, .inl (cA_706, 2000, .inl (fun j : Nat => zI (a_6 (j : Int)))))] t.heap ∧ va_K (dC, dI) vwP [(cA_706, .int)] t ∧ va_D (va_A [(hc, .inr (0, [v_0, .int (zI (R1)), v_2, v_3, v_4, v_5, .ref q_706, v_7, v_8, v_9, v_10, v_11, v_12, v_13, v_14, v_15, v_16, v_17, v_18])), (q_706, .inl (cA_706, 2000, .inl (fun j : Nat => zI (a_6 (j : Int)))))] sz) [(hc, .inr (0, [v_0, .int (zI (R1)), v_2, v_3, v_4, v_5, .ref q_706, v_7, v_8, v_9, v_10, v_11, v_12, v_13, v_14, v_15, v_16, v_17, v_18])), (q_706, .inl (cA_706, 2000, .inl (fun j : Nat => zI (a_6 (j : Int)))))]) (va_A [(hc, .inr (0, [v_0, .int (zI (R1)), v_2, v_3, v_4, v_5, .ref q_706, v_7, v_8, v_9, v_10, v_11, v_12, v_13, v_14, v_15, v_16, v_17, v_18])), (q_706, .inl (cA_706, 2000, .inl (fun j : Nat => zI (a_6 (j : Int)))))] sz)) 0 0 (va_A [(hc, .inr (0, [v_0, .int (zI (R1)), v_2, v_3, v_4, v_5, .ref q_706, v_7, v_8, v_9, v_10, v_11, v_12, v_13, v_14, v_15, v_16, v_17, v_18])), (q_706, .inl (cA_706, 2000, .inl (fun j : Nat => zI (a_6 (j : Int)))))] sz) := by
  refine Met.ofW (cc := cX8_rowsThatSet) (maxL := 3) (ret := (some .int)) (by decide) rfl ?_
  intro p e s m args below meth c s₁ B hml hv
  obtain ⟨rfl, hsz, hP, hK, hD0⟩ := hv
  have hx := B.exec
  have hb := B.bytes
  have hr := B.returns
  have hts := atoms_spec (ws := v_X8_rowsThatSet) B.pre
  have hown : s.vm.findClass RX8 = some m.cls := findClass_of_methodNamed B.named
  have hlocks := B.notSynchronized
  have ow : ∀ {k : Nat} {w : Cond}, o_X8_rowsThatSet[k]? = some w → w.before ([.ref hc] : List Value).toArray s = true := fun h => hts _ (mow_X8_rowsThatSet _ (List.mem_of_getElem? h))
  subst hsz
  have hD := hD0.self (sz := s.heap.size)
  generalize hAe : va_A [(hc, .inr (0, [v_0, .int (zI (R1)), v_2, v_3, v_4, v_5, .ref q_706, v_7, v_8, v_9, v_10, v_11, v_12, v_13, v_14, v_15, v_16, v_17, v_18])), (q_706, .inl (cA_706, 2000, .inl (fun j : Nat => zI (a_6 (j : Int)))))] s.heap.size = A at hD ⊢
  have hA : ∀ q : Nat, s.heap.size ≤ q → A q := fun q h => by rw [← hAe]; exact Or.inr h
  have hS : va_S A s.heap s.heap [] := va_S.rf
  have hP : va_P (dC, dI) vwP [(hc, .inr (0, [v_0, .int (zI (R1)), v_2, v_3, v_4, v_5, .ref q_706, v_7, v_8, v_9, v_10, v_11, v_12, v_13, v_14, v_15, v_16, v_17, v_18])), (q_706, .inl (cA_706, 2000, .inl (fun j : Nat => zI (a_6 (j : Int)))))] s.heap := hP
  have hl := lv_entry ([.ref hc]) (n := 3) (Nat.le_of_ble_eq_true rfl)
  rw [lg_entry_eq]
  generalize (lg_sl ([.ref hc]) ++ List.replicate (3 - (lg_sl ([.ref hc])).length) Slot.unset).toArray = ls at hl ⊢
  have hl : lv_has ls 3 [(0, .ref hc)] := hl
  obtain ⟨H, hH⟩ : ∃ H, H = s.heap := ⟨_, rfl⟩
  rw [← hH] at hP
  have hS : va_S A s.heap H [] := by rw [hH]; exact hS
  rw [← hH]
  refine zW_cap (fun Q hQ => ?_)
  refine lv_iconst (v := 0) hx hb dX8_rowsThatSet_0 (by decide) ?_
  refine lv_istore_n (lv' := [(1, .int 0), (0, .ref hc)]) hx hb dX8_rowsThatSet_1 rfl hl (by decide) rfl (fun ls hl => ?_)
  refine lv_iconst (v := 0) hx hb dX8_rowsThatSet_2 (by decide) ?_
  refine lv_istore_n (lv' := [(2, .int 0), (1, .int 0), (0, .ref hc)]) hx hb dX8_rowsThatSet_3 rfl hl (by decide) rfl (fun ls hl => ?_)
  have key4 : ∀ n4 : Nat, ∀ (d4_2 : Int) (d4_1 : Int) (ls : Array Slot) (H : Heap) (locs : List Loc), (0 ≤ d4_2 ∧ d4_2 ≤ R1) → (0 ≤ d4_1 ∧ d4_1 ≤ 1000000000) → (d4_1 = sg (setF a_6) (d4_2).toNat) → (((R1) - (d4_2) : Int).toNat) < n4 → lv_has ls 3 [(0, .ref hc), (1, .int (zI (d4_1))), (2, .int (zI (d4_2)))] → va_P (dC, dI) vwP [(hc, .inr (0, [v_0, .int (zI (R1)), v_2, v_3, v_4, v_5, .ref q_706, v_7, v_8, v_9, v_10, v_11, v_12, v_13, v_14, v_15, v_16, v_17, v_18])), (q_706, .inl (cA_706, 2000, .inl (fun j : Nat => zI (a_6 (j : Int)))))] H → va_D A [(hc, .inr (0, [v_0, .int (zI (R1)), v_2, v_3, v_4, v_5, .ref q_706, v_7, v_8, v_9, v_10, v_11, v_12, v_13, v_14, v_15, v_16, v_17, v_18])), (q_706, .inl (cA_706, 2000, .inl (fun j : Nat => zI (a_6 (j : Int)))))] → va_S A s.heap H locs → W p l e (headSpec v_X8_rowsThatSet ({ frames := 0, cells := 0, slots := 0, locals := 0 })).room s m ([.ref hc] : List Value).toArray below meth c H locs 0 0 Q (F0 m 4 ls []) := by
    intro n4
    induction n4 with
    | zero => intro d4_2 d4_1 ls H locs jd4_2 jd4_1 jc hm4; exact absurd hm4 (by omega)
    | succ n4 ih4 =>
      intro d4_2 d4_1 ls H locs jd4_2 jd4_1 jc hm4 hl hP hD hS
      have hc9 := setF_rng a_6 (d4_2).toNat
      refine lv_iload_n hx hb dX8_rowsThatSet_4 rfl (lv_at hl 2 rfl) ?_
      refine lv_aload_n hx hb dX8_rowsThatSet_5 rfl (lv_at hl 0 rfl) ?_
      refine va_get (D := (dC, dI)) (ci := 0) (v := .int (zI (R1))) (C := RX0) (T := TX0) (N := 19) hx hb hts mem_X8_rowsThatSet_0 hown hK hP 0 rfl rfl 1 (by decide) (ow (k := 0) rfl) (fun _ h9 => h9) rfl dX8_rowsThatSet_6 ?_
      refine lv_icmp_ge (tgt := 30) hx hb dX8_rowsThatSet_9 (by decide) (fun b9 => ?_) (fun b9 => ?_)
      · have yb9 : (R1 : Int) ≤ (d4_2 : Int) := (zI_le (a := R1) (b := d4_2) (by omega) (by omega) (by omega) (by omega)).mp b9
        refine lv_iload_n hx hb dX8_rowsThatSet_30 rfl (lv_at hl 1 rfl) ?_
        subst hQ
        refine W.widen (k := 0) (n := 0) (Nat.le_of_ble_eq_true rfl) (Nat.le_of_ble_eq_true rfl) ?_
        exact W.iret (v := (zI (d4_1))) hx hb hr (fun t ht hW => ⟨⟨(zI (d4_1)), (), rfl, (by rw [jc, show d4_2 = R1 by omega]), by rw [ht]; exact hP, va_K.moved hW.alike hK, hD⟩, hS.F ht⟩) hS.2.2 dX8_rowsThatSet_31
      · have yb9 : ¬ (R1 : Int) ≤ (d4_2 : Int) := fun q => b9 ((zI_le (a := R1) (b := d4_2) (by omega) (by omega) (by omega) (by omega)).mpr q)
        refine lv_aload_n hx hb dX8_rowsThatSet_12 rfl (lv_at hl 0 rfl) ?_
        refine va_get (D := (dC, dI)) (ci := 0) (v := .ref q_706) (C := RX0) (T := TX0) (N := 19) hx hb hts mem_X8_rowsThatSet_0 hown hK hP 0 rfl rfl 6 (by decide) (ow (k := 1) rfl) (fun _ h9 => h9) rfl dX8_rowsThatSet_13 ?_
        refine lv_iload_n hx hb dX8_rowsThatSet_16 rfl (lv_at hl 2 rfl) ?_
        refine va_iald hx hb hK hP 1 0 rfl rfl (zI_in (a := d4_2) (n := 2000) (by omega) (by omega) (by decide)) dX8_rowsThatSet_17 ?_
        refine lv_topi (fun z ez => ?_)
        obtain rfl : z = zI (a_6 (d4_2)) := ez.trans (zI_ld (a_6) (by omega) (by omega))
        have k1 := hR_a_6 (d4_2)
        refine lv_if_lt (tgt := 24) hx hb dX8_rowsThatSet_18 (by decide) (fun b18 => ?_) (fun b18 => ?_)
        · have yb18 : (a_6 (d4_2) : Int) < (0 : Int) := (zI_lt (a := a_6 (d4_2)) (b := 0) (by omega) (by omega) (by omega) (by omega)).mp b18
          refine lv_iinc (v := zI (d4_2 + 1)) (lv' := [(2, .int (zI (d4_2 + 1))), (0, .ref hc), (1, .int (zI (d4_1)))]) hx hb dX8_rowsThatSet_24 hl (k := 2) rfl (zI_add (d4_2) (1)) (by decide) rfl (fun ls hl => ?_)
          refine lv_goto (tgt := 4) hx hb dX8_rowsThatSet_27 (by decide) ?_
          exact ih4 (d4_2 + 1) d4_1 ls H _ (by omega) (by omega) (by have q9 := sg_suc (setF a_6) (i := d4_2) (by omega); have q8 : setF a_6 d4_2 = 0 := (by unfold setF; rw [if_neg (by omega)]); omega) (by omega) (lv_sub hl [1, 2, 0] rfl) hP hD hS
        · have yb18 : ¬ (a_6 (d4_2) : Int) < (0 : Int) := fun q => b18 ((zI_lt (a := a_6 (d4_2)) (b := 0) (by omega) (by omega) (by omega) (by omega)).mpr q)
          refine lv_iinc (v := zI (d4_1 + 1)) (lv' := [(1, .int (zI (d4_1 + 1))), (0, .ref hc), (2, .int (zI (d4_2)))]) hx hb dX8_rowsThatSet_21 hl (k := 1) rfl (zI_add (d4_1) (1)) (by decide) rfl (fun ls hl => ?_)
          refine lv_iinc (v := zI (d4_2 + 1)) (lv' := [(2, .int (zI (d4_2 + 1))), (1, .int (zI (d4_1 + 1))), (0, .ref hc)]) hx hb dX8_rowsThatSet_24 hl (k := 2) rfl (zI_add (d4_2) (1)) (by decide) rfl (fun ls hl => ?_)
          refine lv_goto (tgt := 4) hx hb dX8_rowsThatSet_27 (by decide) ?_
          exact ih4 (d4_2 + 1) (d4_1 + 1) ls H _ (by omega) (by omega) (by have q9 := sg_suc (setF a_6) (i := d4_2) (by omega); have q8 : setF a_6 d4_2 = 1 := (by unfold setF; rw [if_pos (by omega)]); omega) (by omega) (lv_sub hl [2, 1, 0] rfl) hP hD hS
  exact key4 (((R1) - (0) : Int).toNat + 1) 0 0 ls H _ (by omega) (by omega) rfl (by omega) (lv_sub hl [2, 1, 0] rfl) hP hD hS
theorem dX8_spread_0 : decode cX8_spread 0 = .ok (.iconst 0, 1) := by decide +kernel
theorem dX8_spread_1 : decode cX8_spread 1 = .ok (.istore 5, 2) := by decide +kernel
theorem dX8_spread_3 : decode cX8_spread 3 = .ok (.iconst 0, 1) := by decide +kernel
theorem dX8_spread_4 : decode cX8_spread 4 = .ok (.istore 6, 2) := by decide +kernel
theorem dX8_spread_6 : decode cX8_spread 6 = .ok (.iload 6, 2) := by decide +kernel
theorem dX8_spread_8 : decode cX8_spread 8 = .ok (.aload_n 1, 1) := by decide +kernel
theorem dX8_spread_9 : decode cX8_spread 9 = .ok (.getfield 54, 3) := by decide +kernel
theorem dX8_spread_12 : decode cX8_spread 12 = .ok (.if_icmp .ge 132, 3) := by decide +kernel
theorem dX8_spread_144 : decode cX8_spread 144 = .ok (.iload 5, 2) := by decide +kernel
theorem dX8_spread_146 : decode cX8_spread 146 = .ok (.ireturn, 1) := by decide +kernel
theorem dX8_spread_15 : decode cX8_spread 15 = .ok (.aload_n 2, 1) := by decide +kernel
theorem dX8_spread_16 : decode cX8_spread 16 = .ok (.iload 4, 2) := by decide +kernel
theorem dX8_spread_18 : decode cX8_spread 18 = .ok (.iload 6, 2) := by decide +kernel
theorem dX8_spread_20 : decode cX8_spread 20 = .ok (.invokevirtual 104, 3) := by decide +kernel
theorem dX8_spread_23 : decode cX8_spread 23 = .ok (.ifCond .ne 6, 3) := by decide +kernel
theorem dX8_spread_29 : decode cX8_spread 29 = .ok (.iconst 0, 1) := by decide +kernel
theorem dX8_spread_30 : decode cX8_spread 30 = .ok (.istore 7, 2) := by decide +kernel
theorem dX8_spread_32 : decode cX8_spread 32 = .ok (.iload 7, 2) := by decide +kernel
theorem dX8_spread_34 : decode cX8_spread 34 = .ok (.aload_n 3, 1) := by decide +kernel
theorem dX8_spread_35 : decode cX8_spread 35 = .ok (.getfield 42, 3) := by decide +kernel
theorem dX8_spread_38 : decode cX8_spread 38 = .ok (.if_icmp .ge 100, 3) := by decide +kernel
theorem dX8_spread_138 : decode cX8_spread 138 = .ok (.iinc 6 1, 3) := by decide +kernel
theorem dX8_spread_141 : decode cX8_spread 141 = .ok (.goto (-135), 3) := by decide +kernel
theorem dX8_spread_41 : decode cX8_spread 41 = .ok (.iload 6, 2) := by decide +kernel
theorem dX8_spread_43 : decode cX8_spread 43 = .ok (.aload_n 3, 1) := by decide +kernel
theorem dX8_spread_44 : decode cX8_spread 44 = .ok (.getfield 42, 3) := by decide +kernel
theorem dX8_spread_47 : decode cX8_spread 47 = .ok (.imul, 1) := by decide +kernel
theorem dX8_spread_48 : decode cX8_spread 48 = .ok (.iload 7, 2) := by decide +kernel
theorem dX8_spread_50 : decode cX8_spread 50 = .ok (.iadd, 1) := by decide +kernel
theorem dX8_spread_51 : decode cX8_spread 51 = .ok (.istore 8, 2) := by decide +kernel
theorem dX8_spread_53 : decode cX8_spread 53 = .ok (.aload_n 3, 1) := by decide +kernel
theorem dX8_spread_54 : decode cX8_spread 54 = .ok (.getfield 108, 3) := by decide +kernel
theorem dX8_spread_57 : decode cX8_spread 57 = .ok (.iload 4, 2) := by decide +kernel
theorem dX8_spread_59 : decode cX8_spread 59 = .ok (.aload_n 3, 1) := by decide +kernel
theorem dX8_spread_60 : decode cX8_spread 60 = .ok (.getfield 42, 3) := by decide +kernel
theorem dX8_spread_63 : decode cX8_spread 63 = .ok (.imul, 1) := by decide +kernel
theorem dX8_spread_64 : decode cX8_spread 64 = .ok (.iload 7, 2) := by decide +kernel
theorem dX8_spread_66 : decode cX8_spread 66 = .ok (.iadd, 1) := by decide +kernel
theorem dX8_spread_67 : decode cX8_spread 67 = .ok (.laload, 1) := by decide +kernel
theorem dX8_spread_68 : decode cX8_spread 68 = .ok (.aload_n 0, 1) := by decide +kernel
theorem dX8_spread_69 : decode cX8_spread 69 = .ok (.getfield 9, 3) := by decide +kernel
theorem dX8_spread_72 : decode cX8_spread 72 = .ok (.iload 4, 2) := by decide +kernel
theorem dX8_spread_74 : decode cX8_spread 74 = .ok (.aload_n 3, 1) := by decide +kernel
theorem dX8_spread_75 : decode cX8_spread 75 = .ok (.getfield 42, 3) := by decide +kernel
theorem dX8_spread_78 : decode cX8_spread 78 = .ok (.imul, 1) := by decide +kernel
theorem dX8_spread_79 : decode cX8_spread 79 = .ok (.iload 7, 2) := by decide +kernel
theorem dX8_spread_81 : decode cX8_spread 81 = .ok (.iadd, 1) := by decide +kernel
theorem dX8_spread_82 : decode cX8_spread 82 = .ok (.laload, 1) := by decide +kernel
theorem dX8_spread_83 : decode cX8_spread 83 = .ok (.lor, 1) := by decide +kernel
theorem dX8_spread_84 : decode cX8_spread 84 = .ok (.lstore 9, 2) := by decide +kernel
theorem dX8_spread_86 : decode cX8_spread 86 = .ok (.lload 9, 2) := by decide +kernel
theorem dX8_spread_88 : decode cX8_spread 88 = .ok (.aload_n 3, 1) := by decide +kernel
theorem dX8_spread_89 : decode cX8_spread 89 = .ok (.getfield 47, 3) := by decide +kernel
theorem dX8_spread_92 : decode cX8_spread 92 = .ok (.iload 8, 2) := by decide +kernel
theorem dX8_spread_94 : decode cX8_spread 94 = .ok (.laload, 1) := by decide +kernel
theorem dX8_spread_95 : decode cX8_spread 95 = .ok (.land, 1) := by decide +kernel
theorem dX8_spread_96 : decode cX8_spread 96 = .ok (.aload_n 0, 1) := by decide +kernel
theorem dX8_spread_97 : decode cX8_spread 97 = .ok (.getfield 9, 3) := by decide +kernel
theorem dX8_spread_100 : decode cX8_spread 100 = .ok (.iload 8, 2) := by decide +kernel
theorem dX8_spread_102 : decode cX8_spread 102 = .ok (.laload, 1) := by decide +kernel
theorem dX8_spread_103 : decode cX8_spread 103 = .ok (.ldc2_w 111, 3) := by decide +kernel
theorem dX8_spread_106 : decode cX8_spread 106 = .ok (.lxor, 1) := by decide +kernel
theorem dX8_spread_107 : decode cX8_spread 107 = .ok (.land, 1) := by decide +kernel
theorem dX8_spread_108 : decode cX8_spread 108 = .ok (.lstore 11, 2) := by decide +kernel
theorem dX8_spread_110 : decode cX8_spread 110 = .ok (.lload 11, 2) := by decide +kernel
theorem dX8_spread_112 : decode cX8_spread 112 = .ok (.lconst 0, 1) := by decide +kernel
theorem dX8_spread_113 : decode cX8_spread 113 = .ok (.lcmp, 1) := by decide +kernel
theorem dX8_spread_114 : decode cX8_spread 114 = .ok (.ifCond .eq 18, 3) := by decide +kernel
theorem dX8_spread_132 : decode cX8_spread 132 = .ok (.iinc 7 1, 3) := by decide +kernel
theorem dX8_spread_135 : decode cX8_spread 135 = .ok (.goto (-103), 3) := by decide +kernel
theorem dX8_spread_117 : decode cX8_spread 117 = .ok (.aload_n 0, 1) := by decide +kernel
theorem dX8_spread_118 : decode cX8_spread 118 = .ok (.getfield 9, 3) := by decide +kernel
theorem dX8_spread_121 : decode cX8_spread 121 = .ok (.iload 8, 2) := by decide +kernel
theorem dX8_spread_123 : decode cX8_spread 123 = .ok (.dup2, 1) := by decide +kernel
theorem dX8_spread_124 : decode cX8_spread 124 = .ok (.laload, 1) := by decide +kernel
theorem dX8_spread_125 : decode cX8_spread 125 = .ok (.lload 11, 2) := by decide +kernel
theorem dX8_spread_127 : decode cX8_spread 127 = .ok (.lor, 1) := by decide +kernel
theorem dX8_spread_128 : decode cX8_spread 128 = .ok (.lastore, 1) := by decide +kernel
theorem dX8_spread_129 : decode cX8_spread 129 = .ok (.iconst 1, 1) := by decide +kernel
theorem dX8_spread_130 : decode cX8_spread 130 = .ok (.istore 5, 2) := by decide +kernel
theorem dX8_spread_26 : decode cX8_spread 26 = .ok (.goto 112, 3) := by decide +kernel
def o_X8_spread : List Cond := [.fieldLink RX8 54 "SsaForge$Code" "blocks" "I", .methodLink RX8 104 yX2_inFrontier, .instanceMethod yX2_inFrontier, .selects RX2 yX2_inFrontier yX2_inFrontier, .initialized RX2, .fieldLink RX8 42 "SsaForge$Live" "words" "I", .fieldLink RX8 108 "SsaForge$Live" "sets" "[J", .fieldLink RX8 9 "SsaForge$SsaMaker" "wanted" "[J", .fieldLink RX8 47 "SsaForge$Live" "start" "[J", .constantLong RX8 111 (-1)]
def v_X8_spread : List Cond := .code yX8_spread cX8_spread 13 (some .boolean) :: (o_X8_spread ++ (wsX00 ++ (v_X2_inFrontier ++ (wsX40 ++ (wsX80 ++ [])))))
theorem mow_X8_spread : ∀ w ∈ o_X8_spread, w ∈ v_X8_spread := fun _ h => List.mem_cons_of_mem _ (List.mem_append_left _ h)
theorem mem_X8_spread_0 : ∀ w ∈ wsX00, w ∈ v_X8_spread := fun _ h => List.mem_cons_of_mem _ (List.mem_append_right _ (List.mem_append_left _ h))
theorem mem_X8_spread_1 : ∀ w ∈ v_X2_inFrontier, w ∈ v_X8_spread := fun _ h => List.mem_cons_of_mem _ (List.mem_append_right _ (List.mem_append_right _ (List.mem_append_left _ h)))
theorem mem_X8_spread_2 : ∀ w ∈ wsX40, w ∈ v_X8_spread := fun _ h => List.mem_cons_of_mem _ (List.mem_append_right _ (List.mem_append_right _ (List.mem_append_right _ (List.mem_append_left _ h))))
theorem mem_X8_spread_3 : ∀ w ∈ wsX80, w ∈ v_X8_spread := fun _ h => List.mem_cons_of_mem _ (List.mem_append_right _ (List.mem_append_right _ (List.mem_append_right _ (List.mem_append_right _ (List.mem_append_left _ h)))))
set_option maxRecDepth 20000 in
theorem gw_X8_spread : v_X8_spread.all goodWord = true := by decide +kernel
set_option maxRecDepth 20000 in
theorem g_X8_spread_X2_inFrontier : GoodIn v_X8_spread (wsV RX8 104 RX2 yX2_inFrontier v_X2_inFrontier) := goodIn_app (goodIn_sub (fun w h => mow_X8_spread w (by revert w h; decide +kernel)) (by decide +kernel)) (goodIn_sub mem_X8_spread_1 gw_X2_inFrontier)
set_option maxHeartbeats 4000000 in
set_option maxRecDepth 100000 in
theorem c_X8_spread (l : Launch) (dC : Nat → ClassId) (dI : Nat → Nat → Nat) (h0 : Nat) (q_800 : Nat) (cA_800 : ClassId) (fa8_wanted : Nat → Int64) (v8_1 : Value) (v8_2 : Value) (v8_3 : Value) (v8_4 : Value) (v8_5 : Value) (v8_6 : Value) (v8_7 : Value) (hc : Nat) (B1 : Int) (v_1 : Value) (v_2 : Value) (v_3 : Value) (v_4 : Value) (v_5 : Value) (v_6 : Value) (v_7 : Value) (v_8 : Value) (v_9 : Value) (v_10 : Value) (v_11 : Value) (v_12 : Value) (v_13 : Value) (v_14 : Value) (v_15 : Value) (v_16 : Value) (v_17 : Value) (v_18 : Value) (hf : Nat) (v2_0 : Value) (v2_1 : Value) (v2_2 : Value) (v2_3 : Value) (v2_4 : Value) (v2_5 : Value) (q_206 : Nat) (cA_206 : ClassId) (fa2_frontier : Nat → Int64) (v2_7 : Value) (v2_8 : Value) (v2_9 : Value) (v2_10 : Value) (v2_11 : Value) (v2_12 : Value) (hv4 : Nat) (z4_words : Int) (q_401 : Nat) (cA_401 : ClassId) (fa4_start : Nat → Int64) (v4_2 : Value) (q_403 : Nat) (cA_403 : ClassId) (fa4_sets : Nat → Int64) (v4_4 : Value) (v4_5 : Value) (v4_6 : Value) (v4_7 : Value) (b : Int) (hNB1 : 0 ≤ B1 ∧ B1 ≤ 300) (hNz4_words : 0 ≤ z4_words ∧ z4_words ≤ 16) (hNb : 0 ≤ b ∧ b < 300) (sz : Nat) : Met l yX8_spread v_X8_spread ({ frames := 2, cells := 0, slots := 0, locals := 44 }) (va_Pc [.ref h0, .ref hc, .ref hf, .ref hv4, .int (zI (b))] (fun U => U.heap.size = sz ∧ va_P (dC, dI) vwP [(h0, .inr (8, [.ref q_800, v8_1, v8_2, v8_3, v8_4, v8_5, v8_6, v8_7])), (q_800, .inl (cA_800, 4800, .inr (.inl fa8_wanted))), (hc, .inr (0, [.int (zI (B1)), v_1, v_2, v_3, v_4, v_5, v_6, v_7, v_8, v_9, v_10, v_11, v_12, v_13, v_14, v_15, v_16, v_17, v_18])), (hf, .inr (2, [v2_0, v2_1, v2_2, v2_3, v2_4, v2_5, .ref q_206, v2_7, v2_8, v2_9, v2_10, v2_11, v2_12])), (q_206, .inl (cA_206, 1500, .inr (.inl fa2_frontier))), (hv4, .inr (4, [.int (zI (z4_words)), .ref q_401, v4_2, .ref q_403, v4_4, v4_5, v4_6, v4_7])), (q_401, .inl (cA_401, 4800, .inr (.inl fa4_start))), (q_403, .inl (cA_403, 4800, .inr (.inl fa4_sets)))] U.heap ∧ va_K (dC, dI) vwP [(cA_800, .long), (cA_206, .long), (cA_401, .long), (cA_403, .long)] U ∧ va_D (fun _ => True) [(h0, .inr (8, [.ref q_800, v8_1, v8_2, v8_3, v8_4, v8_5, v8_6, v8_7])), (q_800, .inl (cA_800, 4800, .inr (.inl fa8_wanted))), (hc, .inr (0, [.int (zI (B1)), v_1, v_2, v_3, v_4, v_5, v_6, v_7, v_8, v_9, v_10, v_11, v_12, v_13, v_14, v_15, v_16, v_17, v_18])), (hf, .inr (2, [v2_0, v2_1, v2_2, v2_3, v2_4, v2_5, .ref q_206, v2_7, v2_8, v2_9, v2_10, v2_11, v2_12])), (q_206, .inl (cA_206, 1500, .inr (.inl fa2_frontier))), (hv4, .inr (4, [.int (zI (z4_words)), .ref q_401, v4_2, .ref q_403, v4_4, v4_5, v4_6, v4_7])), (q_401, .inl (cA_401, 4800, .inr (.inl fa4_start))), (q_403, .inl (cA_403, 4800, .inr (.inl fa4_sets)))] ∧ va_Nw (.methodLinkNest RX2 67 yX11_hasBit "SsaForge") U)) (va_Qi (fun (r : Int32) (_ : Unit) => ∃ z : Int, r = zI z ∧ (0 ≤ z ∧ z ≤ 1)) (fun (_ : Unit) (t : State) => ∃ (g0_9 : Nat → Int64), va_P (dC, dI) vwP [(h0, .inr (8, [.ref q_800, v8_1, v8_2, v8_3, v8_4, v8_5, v8_6, v8_7])), (q_800, .inl (cA_800, 4800, .inr (.inl g0_9))), (hc, .inr (0, [.int (zI (B1)), v_1, v_2, v_3, v_4, v_5, v_6, v_7, v_8, v_9, v_10, v_11, v_12, v_13, v_14, v_15, v_16, v_17, v_18])), (hf, .inr (2, [v2_0, v2_1, v2_2, v2_3, v2_4, v2_5, .ref q_206, v2_7, v2_8, v2_9, v2_10, v2_11, v2_12])), (q_206, .inl (cA_206, 1500, .inr (.inl fa2_frontier))), (hv4, .inr (4, [.int (zI (z4_words)), .ref q_401, v4_2, .ref q_403, v4_4, v4_5, v4_6, v4_7])), (q_401, .inl (cA_401, 4800, .inr (.inl fa4_start))), (q_403, .inl (cA_403, 4800, .inr (.inl fa4_sets)))] t.heap ∧ va_K (dC, dI) vwP [(cA_800, .long), (cA_206, .long), (cA_401, .long), (cA_403, .long)] t ∧ va_D (va_A [(h0, .inr (8, [.ref q_800, v8_1, v8_2, v8_3, v8_4, v8_5, v8_6, v8_7])), (q_800, .inl (cA_800, 4800, .inr (.inl fa8_wanted))), (hc, .inr (0, [.int (zI (B1)), v_1, v_2, v_3, v_4, v_5, v_6, v_7, v_8, v_9, v_10, v_11, v_12, v_13, v_14, v_15, v_16, v_17, v_18])), (hf, .inr (2, [v2_0, v2_1, v2_2, v2_3, v2_4, v2_5, .ref q_206, v2_7, v2_8, v2_9, v2_10, v2_11, v2_12])), (q_206, .inl (cA_206, 1500, .inr (.inl fa2_frontier))), (hv4, .inr (4, [.int (zI (z4_words)), .ref q_401, v4_2, .ref q_403, v4_4, v4_5, v4_6, v4_7])), (q_401, .inl (cA_401, 4800, .inr (.inl fa4_start))), (q_403, .inl (cA_403, 4800, .inr (.inl fa4_sets)))] sz) [(h0, .inr (8, [.ref q_800, v8_1, v8_2, v8_3, v8_4, v8_5, v8_6, v8_7])), (q_800, .inl (cA_800, 4800, .inr (.inl g0_9))), (hc, .inr (0, [.int (zI (B1)), v_1, v_2, v_3, v_4, v_5, v_6, v_7, v_8, v_9, v_10, v_11, v_12, v_13, v_14, v_15, v_16, v_17, v_18])), (hf, .inr (2, [v2_0, v2_1, v2_2, v2_3, v2_4, v2_5, .ref q_206, v2_7, v2_8, v2_9, v2_10, v2_11, v2_12])), (q_206, .inl (cA_206, 1500, .inr (.inl fa2_frontier))), (hv4, .inr (4, [.int (zI (z4_words)), .ref q_401, v4_2, .ref q_403, v4_4, v4_5, v4_6, v4_7])), (q_401, .inl (cA_401, 4800, .inr (.inl fa4_start))), (q_403, .inl (cA_403, 4800, .inr (.inl fa4_sets)))]) (va_A [(h0, .inr (8, [.ref q_800, v8_1, v8_2, v8_3, v8_4, v8_5, v8_6, v8_7])), (q_800, .inl (cA_800, 4800, .inr (.inl fa8_wanted))), (hc, .inr (0, [.int (zI (B1)), v_1, v_2, v_3, v_4, v_5, v_6, v_7, v_8, v_9, v_10, v_11, v_12, v_13, v_14, v_15, v_16, v_17, v_18])), (hf, .inr (2, [v2_0, v2_1, v2_2, v2_3, v2_4, v2_5, .ref q_206, v2_7, v2_8, v2_9, v2_10, v2_11, v2_12])), (q_206, .inl (cA_206, 1500, .inr (.inl fa2_frontier))), (hv4, .inr (4, [.int (zI (z4_words)), .ref q_401, v4_2, .ref q_403, v4_4, v4_5, v4_6, v4_7])), (q_401, .inl (cA_401, 4800, .inr (.inl fa4_start))), (q_403, .inl (cA_403, 4800, .inr (.inl fa4_sets)))] sz)) 0 0 (va_A [(h0, .inr (8, [.ref q_800, v8_1, v8_2, v8_3, v8_4, v8_5, v8_6, v8_7])), (q_800, .inl (cA_800, 4800, .inr (.inl fa8_wanted))), (hc, .inr (0, [.int (zI (B1)), v_1, v_2, v_3, v_4, v_5, v_6, v_7, v_8, v_9, v_10, v_11, v_12, v_13, v_14, v_15, v_16, v_17, v_18])), (hf, .inr (2, [v2_0, v2_1, v2_2, v2_3, v2_4, v2_5, .ref q_206, v2_7, v2_8, v2_9, v2_10, v2_11, v2_12])), (q_206, .inl (cA_206, 1500, .inr (.inl fa2_frontier))), (hv4, .inr (4, [.int (zI (z4_words)), .ref q_401, v4_2, .ref q_403, v4_4, v4_5, v4_6, v4_7])), (q_401, .inl (cA_401, 4800, .inr (.inl fa4_start))), (q_403, .inl (cA_403, 4800, .inr (.inl fa4_sets)))] sz) := by
  refine Met.ofW (cc := cX8_spread) (maxL := 13) (ret := (some .boolean)) (by decide) rfl ?_
  intro p e s m args below meth c s₁ B hml hv
  obtain ⟨rfl, hsz, hP, hK, hD0, hp0⟩ := hv
  have hx := B.exec
  have hb := B.bytes
  have hr := B.returns
  have hts := atoms_spec (ws := v_X8_spread) B.pre
  have hown : s.vm.findClass RX8 = some m.cls := findClass_of_methodNamed B.named
  have hlocks := B.notSynchronized
  have ow : ∀ {k : Nat} {w : Cond}, o_X8_spread[k]? = some w → w.before ([.ref h0, .ref hc, .ref hf, .ref hv4, .int (zI (b))] : List Value).toArray s = true := fun h => hts _ (mow_X8_spread _ (List.mem_of_getElem? h))
  subst hsz
  have hD := hD0.self (sz := s.heap.size)
  generalize hAe : va_A [(h0, .inr (8, [.ref q_800, v8_1, v8_2, v8_3, v8_4, v8_5, v8_6, v8_7])), (q_800, .inl (cA_800, 4800, .inr (.inl fa8_wanted))), (hc, .inr (0, [.int (zI (B1)), v_1, v_2, v_3, v_4, v_5, v_6, v_7, v_8, v_9, v_10, v_11, v_12, v_13, v_14, v_15, v_16, v_17, v_18])), (hf, .inr (2, [v2_0, v2_1, v2_2, v2_3, v2_4, v2_5, .ref q_206, v2_7, v2_8, v2_9, v2_10, v2_11, v2_12])), (q_206, .inl (cA_206, 1500, .inr (.inl fa2_frontier))), (hv4, .inr (4, [.int (zI (z4_words)), .ref q_401, v4_2, .ref q_403, v4_4, v4_5, v4_6, v4_7])), (q_401, .inl (cA_401, 4800, .inr (.inl fa4_start))), (q_403, .inl (cA_403, 4800, .inr (.inl fa4_sets)))] s.heap.size = A at hD ⊢
  have hA : ∀ q : Nat, s.heap.size ≤ q → A q := fun q h => by rw [← hAe]; exact Or.inr h
  have hS : va_S A s.heap s.heap [] := va_S.rf
  have hP : va_P (dC, dI) vwP [(h0, .inr (8, [.ref q_800, v8_1, v8_2, v8_3, v8_4, v8_5, v8_6, v8_7])), (q_800, .inl (cA_800, 4800, .inr (.inl fa8_wanted))), (hc, .inr (0, [.int (zI (B1)), v_1, v_2, v_3, v_4, v_5, v_6, v_7, v_8, v_9, v_10, v_11, v_12, v_13, v_14, v_15, v_16, v_17, v_18])), (hf, .inr (2, [v2_0, v2_1, v2_2, v2_3, v2_4, v2_5, .ref q_206, v2_7, v2_8, v2_9, v2_10, v2_11, v2_12])), (q_206, .inl (cA_206, 1500, .inr (.inl fa2_frontier))), (hv4, .inr (4, [.int (zI (z4_words)), .ref q_401, v4_2, .ref q_403, v4_4, v4_5, v4_6, v4_7])), (q_401, .inl (cA_401, 4800, .inr (.inl fa4_start))), (q_403, .inl (cA_403, 4800, .inr (.inl fa4_sets)))] s.heap := hP
  have hl := lv_entry ([.ref h0, .ref hc, .ref hf, .ref hv4, .int (zI (b))]) (n := 13) (Nat.le_of_ble_eq_true rfl)
  rw [lg_entry_eq]
  generalize (lg_sl ([.ref h0, .ref hc, .ref hf, .ref hv4, .int (zI (b))]) ++ List.replicate (13 - (lg_sl ([.ref h0, .ref hc, .ref hf, .ref hv4, .int (zI (b))])).length) Slot.unset).toArray = ls at hl ⊢
  have hl : lv_has ls 13 [(0, .ref h0), (1, .ref hc), (2, .ref hf), (3, .ref hv4), (4, .int (zI (b)))] := hl
  obtain ⟨H, hH⟩ : ∃ H, H = s.heap := ⟨_, rfl⟩
  rw [← hH] at hP
  have hS : va_S A s.heap H [] := by rw [hH]; exact hS
  rw [← hH]
  refine zW_cap (fun Q hQ => ?_)
  refine lv_iconst (v := 0) hx hb dX8_spread_0 (by decide) ?_
  refine lv_istore (lv' := [(5, .int 0), (0, .ref h0), (1, .ref hc), (2, .ref hf), (3, .ref hv4), (4, .int (zI (b)))]) hx hb dX8_spread_1 hl (by decide) rfl (fun ls hl => ?_)
  refine lv_iconst (v := 0) hx hb dX8_spread_3 (by decide) ?_
  refine lv_istore (lv' := [(6, .int 0), (5, .int 0), (0, .ref h0), (1, .ref hc), (2, .ref hf), (3, .ref hv4), (4, .int (zI (b)))]) hx hb dX8_spread_4 hl (by decide) rfl (fun ls hl => ?_)
  have key6 : ∀ n6 : Nat, ∀ (d6_6 : Int) (d6_5 : Int) (w6_800 : Nat → Int64) (ls : Array Slot) (H : Heap) (locs : List Loc), (0 ≤ d6_6 ∧ d6_6 ≤ 1000000000) → (0 ≤ d6_5 ∧ d6_5 ≤ 1) → (((B1) - (d6_6) : Int).toNat) < n6 → lv_has ls 13 [(0, .ref h0), (1, .ref hc), (2, .ref hf), (3, .ref hv4), (4, .int (zI (b))), (5, .int (zI (d6_5))), (6, .int (zI (d6_6)))] → va_P (dC, dI) vwP [(h0, .inr (8, [.ref q_800, v8_1, v8_2, v8_3, v8_4, v8_5, v8_6, v8_7])), (q_800, .inl (cA_800, 4800, .inr (.inl w6_800))), (hc, .inr (0, [.int (zI (B1)), v_1, v_2, v_3, v_4, v_5, v_6, v_7, v_8, v_9, v_10, v_11, v_12, v_13, v_14, v_15, v_16, v_17, v_18])), (hf, .inr (2, [v2_0, v2_1, v2_2, v2_3, v2_4, v2_5, .ref q_206, v2_7, v2_8, v2_9, v2_10, v2_11, v2_12])), (q_206, .inl (cA_206, 1500, .inr (.inl fa2_frontier))), (hv4, .inr (4, [.int (zI (z4_words)), .ref q_401, v4_2, .ref q_403, v4_4, v4_5, v4_6, v4_7])), (q_401, .inl (cA_401, 4800, .inr (.inl fa4_start))), (q_403, .inl (cA_403, 4800, .inr (.inl fa4_sets)))] H → va_D A [(h0, .inr (8, [.ref q_800, v8_1, v8_2, v8_3, v8_4, v8_5, v8_6, v8_7])), (q_800, .inl (cA_800, 4800, .inr (.inl w6_800))), (hc, .inr (0, [.int (zI (B1)), v_1, v_2, v_3, v_4, v_5, v_6, v_7, v_8, v_9, v_10, v_11, v_12, v_13, v_14, v_15, v_16, v_17, v_18])), (hf, .inr (2, [v2_0, v2_1, v2_2, v2_3, v2_4, v2_5, .ref q_206, v2_7, v2_8, v2_9, v2_10, v2_11, v2_12])), (q_206, .inl (cA_206, 1500, .inr (.inl fa2_frontier))), (hv4, .inr (4, [.int (zI (z4_words)), .ref q_401, v4_2, .ref q_403, v4_4, v4_5, v4_6, v4_7])), (q_401, .inl (cA_401, 4800, .inr (.inl fa4_start))), (q_403, .inl (cA_403, 4800, .inr (.inl fa4_sets)))] → va_S A s.heap H locs → W p l e (headSpec v_X8_spread ({ frames := 2, cells := 0, slots := 0, locals := 44 })).room s m ([.ref h0, .ref hc, .ref hf, .ref hv4, .int (zI (b))] : List Value).toArray below meth c H locs 0 0 Q (F0 m 6 ls []) := by
    intro n6
    induction n6 with
    | zero => intro d6_6 d6_5 w6_800 ls H locs jd6_6 jd6_5 hm6; exact absurd hm6 (by omega)
    | succ n6 ih6 =>
      intro d6_6 d6_5 w6_800 ls H locs jd6_6 jd6_5 hm6 hl hP hD hS
      refine lv_iload hx hb dX8_spread_6 (lv_at hl 6 rfl) ?_
      refine lv_aload_n hx hb dX8_spread_8 rfl (lv_at hl 1 rfl) ?_
      refine va_get (D := (dC, dI)) (ci := 0) (v := .int (zI (B1))) (C := RX0) (T := TX0) (N := 19) hx hb hts mem_X8_spread_0 hown hK hP 2 rfl rfl 0 (by decide) (ow (k := 0) rfl) (fun _ h9 => h9) rfl dX8_spread_9 ?_
      refine lv_icmp_ge (tgt := 144) hx hb dX8_spread_12 (by decide) (fun b12 => ?_) (fun b12 => ?_)
      · have yb12 : (B1 : Int) ≤ (d6_6 : Int) := (zI_le (a := B1) (b := d6_6) (by omega) (by omega) (by omega) (by omega)).mp b12
        refine lv_iload hx hb dX8_spread_144 (lv_at hl 5 rfl) ?_
        subst hQ
        refine W.widen (k := 0) (n := 0) (Nat.le_of_ble_eq_true rfl) (Nat.le_of_ble_eq_true rfl) ?_
        exact W.zret (v := (zI (d6_5))) hx hb hr (zI_bool (by omega) (by omega)) (fun t ht hW => ⟨⟨(zI (d6_5)), (), rfl, ⟨d6_5, rfl, by omega⟩, w6_800, by rw [ht]; exact hP, va_K.moved hW.alike hK, hD⟩, hS.F ht⟩) hS.2.2 dX8_spread_146
      · have yb12 : ¬ (B1 : Int) ≤ (d6_6 : Int) := fun q => b12 ((zI_le (a := B1) (b := d6_6) (by omega) (by omega) (by omega) (by omega)).mpr q)
        refine lv_aload_n hx hb dX8_spread_15 rfl (lv_at hl 2 rfl) ?_
        refine lv_iload hx hb dX8_spread_16 (lv_at hl 4 rfl) ?_
        refine lv_iload hx hb dX8_spread_18 (lv_at hl 6 rfl) ?_
        have hPc := hP.sub (ws' := [(hf, .inr (2, [v2_0, v2_1, v2_2, v2_3, v2_4, v2_5, .ref q_206, v2_7, v2_8, v2_9, v2_10, v2_11, v2_12])), (q_206, .inl (cA_206, 1500, .inr (.inl fa2_frontier)))]) [3, 4] rfl
        have hDc := hD.sub (ws' := [(hf, .inr (2, [v2_0, v2_1, v2_2, v2_3, v2_4, v2_5, .ref q_206, v2_7, v2_8, v2_9, v2_10, v2_11, v2_12])), (q_206, .inl (cA_206, 1500, .inr (.inl fa2_frontier)))]) [3, 4] (by decide) rfl
        have hKc := hK.sub (tys' := [(cA_206, .long)]) [1] rfl
        have hFc := va_free (wc := [(hf, .inr (2, [v2_0, v2_1, v2_2, v2_3, v2_4, v2_5, .ref q_206, v2_7, v2_8, v2_9, v2_10, v2_11, v2_12])), (q_206, .inl (cA_206, 1500, .inr (.inl fa2_frontier)))]) hD hS hA [3, 4] rfl
        refine va_calli (va_runV (As := [.int (zI (b)), .int (zI (d6_6))]) (rest := []) ⟨hx, hb, hml, hown, hts⟩ (c_X2_inFrontier l dC dI hf v2_0 v2_1 v2_2 v2_3 v2_4 v2_5 q_206 cA_206 fa2_frontier v2_7 v2_8 v2_9 v2_10 v2_11 v2_12 b d6_6 (by omega) (by omega) H.size) (cwV 2 hts g_X8_spread_X2_inFrontier rfl rfl rfl (by decide +kernel) ⟨(Nat.le_of_ble_eq_true rfl), (Nat.le_of_ble_eq_true rfl)⟩) ⟨fun a U g mk q => by obtain ⟨q0, q1, qP, qK, qD, e0⟩ := q; exact ⟨q0, q1, qP, va_K.moved (u := U) (U := U.calling g mk a) (Vm.Alike.refl U.vm) qK, qD, va_Nw.same rfl (u := U) (U := U.calling g mk a) rfl e0⟩, va_recv hKc hPc (ci := 2) (q0 := 0) rfl rfl, fun U hU hW => ⟨rfl, by rw [hU], by rw [hU]; exact hPc, va_K.moved hW.alike hKc, hDc.weaken (fun _ _ _ _ => trivial), va_Nw.warmM hW hp0⟩⟩ rfl rfl hl.1 rfl (lv_room (Nat.le_of_ble_eq_true rfl)) dX8_spread_20 ⟨(Nat.le_of_ble_eq_true rfl), (Nat.le_of_ble_eq_true rfl)⟩) hS (fun q _ h => hFc q h) hFc (fun r_2001 u t H1 locs ht hvm hw hB hz1 hk1 hS => ?_)
        obtain ⟨hP1, hK1, hD1⟩ := hB
        rw [ht] at hP1
        have hK1 := va_K.moved hvm.symm hK1
        obtain ⟨hP, hD⟩ := va_join (wr := [(h0, .inr (8, [.ref q_800, v8_1, v8_2, v8_3, v8_4, v8_5, v8_6, v8_7])), (q_800, .inl (cA_800, 4800, .inr (.inl w6_800))), (hc, .inr (0, [.int (zI (B1)), v_1, v_2, v_3, v_4, v_5, v_6, v_7, v_8, v_9, v_10, v_11, v_12, v_13, v_14, v_15, v_16, v_17, v_18])), (hv4, .inr (4, [.int (zI (z4_words)), .ref q_401, v4_2, .ref q_403, v4_4, v4_5, v4_6, v4_7])), (q_401, .inl (cA_401, 4800, .inr (.inl fa4_start))), (q_403, .inl (cA_403, 4800, .inr (.inl fa4_sets)))]) (w1 := [(hf, .inr (2, [v2_0, v2_1, v2_2, v2_3, v2_4, v2_5, .ref q_206, v2_7, v2_8, v2_9, v2_10, v2_11, v2_12])), (q_206, .inl (cA_206, 1500, .inr (.inl fa2_frontier)))]) hP hD [3, 4] [0, 1, 2, 5, 6, 7] rfl rfl (by decide) (by decide) hk1 hFc hP1 hD1
        have hK := (hK.sub (tys' := [(cA_800, .long), (cA_401, .long), (cA_403, .long)]) [0, 2, 3] rfl).app hK1
        generalize H1 = H at hP hS ⊢
        have hP : va_P (dC, dI) vwP [(h0, .inr (8, [.ref q_800, v8_1, v8_2, v8_3, v8_4, v8_5, v8_6, v8_7])), (q_800, .inl (cA_800, 4800, .inr (.inl w6_800))), (hc, .inr (0, [.int (zI (B1)), v_1, v_2, v_3, v_4, v_5, v_6, v_7, v_8, v_9, v_10, v_11, v_12, v_13, v_14, v_15, v_16, v_17, v_18])), (hv4, .inr (4, [.int (zI (z4_words)), .ref q_401, v4_2, .ref q_403, v4_4, v4_5, v4_6, v4_7])), (q_401, .inl (cA_401, 4800, .inr (.inl fa4_start))), (q_403, .inl (cA_403, 4800, .inr (.inl fa4_sets))), (hf, .inr (2, [v2_0, v2_1, v2_2, v2_3, v2_4, v2_5, .ref q_206, v2_7, v2_8, v2_9, v2_10, v2_11, v2_12])), (q_206, .inl (cA_206, 1500, .inr (.inl fa2_frontier)))] H := hP
        have hD : va_D A [(h0, .inr (8, [.ref q_800, v8_1, v8_2, v8_3, v8_4, v8_5, v8_6, v8_7])), (q_800, .inl (cA_800, 4800, .inr (.inl w6_800))), (hc, .inr (0, [.int (zI (B1)), v_1, v_2, v_3, v_4, v_5, v_6, v_7, v_8, v_9, v_10, v_11, v_12, v_13, v_14, v_15, v_16, v_17, v_18])), (hv4, .inr (4, [.int (zI (z4_words)), .ref q_401, v4_2, .ref q_403, v4_4, v4_5, v4_6, v4_7])), (q_401, .inl (cA_401, 4800, .inr (.inl fa4_start))), (q_403, .inl (cA_403, 4800, .inr (.inl fa4_sets))), (hf, .inr (2, [v2_0, v2_1, v2_2, v2_3, v2_4, v2_5, .ref q_206, v2_7, v2_8, v2_9, v2_10, v2_11, v2_12])), (q_206, .inl (cA_206, 1500, .inr (.inl fa2_frontier)))] := hD
        have hK : va_K (dC, dI) vwP [(cA_800, .long), (cA_401, .long), (cA_403, .long), (cA_206, .long)] s := hK
        refine W.widen (k := 0) (n := 0) (Nat.le_of_ble_eq_true rfl) (Nat.le_of_ble_eq_true rfl) ?_
        have hw_2002 := hw
        obtain ⟨z_2003, rfl, hzz_2003⟩ := hw_2002
        refine lv_if_ne (tgt := 29) hx hb dX8_spread_23 (by decide) (fun b23 => ?_) (fun b23 => ?_)
        · have yb23 : ¬ (z_2003 : Int) = (0 : Int) := fun q => b23 ((zI_eq (a := z_2003) (b := 0) (by omega) (by omega) (by omega) (by omega)).mpr q)
          refine lv_iconst (v := 0) hx hb dX8_spread_29 (by decide) ?_
          refine lv_istore (lv' := [(7, .int 0), (0, .ref h0), (1, .ref hc), (2, .ref hf), (3, .ref hv4), (4, .int (zI (b))), (5, .int (zI (d6_5))), (6, .int (zI (d6_6)))]) hx hb dX8_spread_30 hl (by decide) rfl (fun ls hl => ?_)
          have key32 : ∀ n32 : Nat, ∀ (d32_7 : Int) (d32_5 : Int) (w32_800 : Nat → Int64) (ls : Array Slot) (H : Heap) (locs : List Loc), (0 ≤ d32_7 ∧ d32_7 ≤ 1000000000) → (0 ≤ d32_5 ∧ d32_5 ≤ 1) → (((z4_words) - (d32_7) : Int).toNat) < n32 → lv_has ls 13 [(0, .ref h0), (1, .ref hc), (2, .ref hf), (3, .ref hv4), (4, .int (zI (b))), (5, .int (zI (d32_5))), (6, .int (zI (d6_6))), (7, .int (zI (d32_7)))] → va_P (dC, dI) vwP [(h0, .inr (8, [.ref q_800, v8_1, v8_2, v8_3, v8_4, v8_5, v8_6, v8_7])), (q_800, .inl (cA_800, 4800, .inr (.inl w32_800))), (hc, .inr (0, [.int (zI (B1)), v_1, v_2, v_3, v_4, v_5, v_6, v_7, v_8, v_9, v_10, v_11, v_12, v_13, v_14, v_15, v_16, v_17, v_18])), (hv4, .inr (4, [.int (zI (z4_words)), .ref q_401, v4_2, .ref q_403, v4_4, v4_5, v4_6, v4_7])), (q_401, .inl (cA_401, 4800, .inr (.inl fa4_start))), (q_403, .inl (cA_403, 4800, .inr (.inl fa4_sets))), (hf, .inr (2, [v2_0, v2_1, v2_2, v2_3, v2_4, v2_5, .ref q_206, v2_7, v2_8, v2_9, v2_10, v2_11, v2_12])), (q_206, .inl (cA_206, 1500, .inr (.inl fa2_frontier)))] H → va_D A [(h0, .inr (8, [.ref q_800, v8_1, v8_2, v8_3, v8_4, v8_5, v8_6, v8_7])), (q_800, .inl (cA_800, 4800, .inr (.inl w32_800))), (hc, .inr (0, [.int (zI (B1)), v_1, v_2, v_3, v_4, v_5, v_6, v_7, v_8, v_9, v_10, v_11, v_12, v_13, v_14, v_15, v_16, v_17, v_18])), (hv4, .inr (4, [.int (zI (z4_words)), .ref q_401, v4_2, .ref q_403, v4_4, v4_5, v4_6, v4_7])), (q_401, .inl (cA_401, 4800, .inr (.inl fa4_start))), (q_403, .inl (cA_403, 4800, .inr (.inl fa4_sets))), (hf, .inr (2, [v2_0, v2_1, v2_2, v2_3, v2_4, v2_5, .ref q_206, v2_7, v2_8, v2_9, v2_10, v2_11, v2_12])), (q_206, .inl (cA_206, 1500, .inr (.inl fa2_frontier)))] → va_S A s.heap H locs → W p l e (headSpec v_X8_spread ({ frames := 2, cells := 0, slots := 0, locals := 44 })).room s m ([.ref h0, .ref hc, .ref hf, .ref hv4, .int (zI (b))] : List Value).toArray below meth c H locs 0 0 Q (F0 m 32 ls []) := by
            intro n32
            induction n32 with
            | zero => intro d32_7 d32_5 w32_800 ls H locs jd32_7 jd32_5 hm32; exact absurd hm32 (by omega)
            | succ n32 ih32 =>
              intro d32_7 d32_5 w32_800 ls H locs jd32_7 jd32_5 hm32 hl hP hD hS
              refine lv_iload hx hb dX8_spread_32 (lv_at hl 7 rfl) ?_
              refine lv_aload_n hx hb dX8_spread_34 rfl (lv_at hl 3 rfl) ?_
              refine va_get (D := (dC, dI)) (ci := 4) (v := .int (zI (z4_words))) (C := RX4) (T := TX4) (N := 8) hx hb hts mem_X8_spread_2 hown hK hP 3 rfl rfl 0 (by decide) (ow (k := 5) rfl) (fun _ h9 => h9) rfl dX8_spread_35 ?_
              refine lv_icmp_ge (tgt := 138) hx hb dX8_spread_38 (by decide) (fun b38 => ?_) (fun b38 => ?_)
              · have yb38 : (z4_words : Int) ≤ (d32_7 : Int) := (zI_le (a := z4_words) (b := d32_7) (by omega) (by omega) (by omega) (by omega)).mp b38
                refine lv_iinc (v := zI (d6_6 + 1)) (lv' := [(6, .int (zI (d6_6 + 1))), (0, .ref h0), (1, .ref hc), (2, .ref hf), (3, .ref hv4), (4, .int (zI (b))), (5, .int (zI (d32_5))), (7, .int (zI (d32_7)))]) hx hb dX8_spread_138 hl (k := 6) rfl (zI_add (d6_6) (1)) (by decide) rfl (fun ls hl => ?_)
                refine lv_goto (tgt := 6) hx hb dX8_spread_141 (by decide) ?_
                have hP := hP.sub (ws' := [(h0, .inr (8, [.ref q_800, v8_1, v8_2, v8_3, v8_4, v8_5, v8_6, v8_7])), (q_800, .inl (cA_800, 4800, .inr (.inl w32_800))), (hc, .inr (0, [.int (zI (B1)), v_1, v_2, v_3, v_4, v_5, v_6, v_7, v_8, v_9, v_10, v_11, v_12, v_13, v_14, v_15, v_16, v_17, v_18])), (hf, .inr (2, [v2_0, v2_1, v2_2, v2_3, v2_4, v2_5, .ref q_206, v2_7, v2_8, v2_9, v2_10, v2_11, v2_12])), (q_206, .inl (cA_206, 1500, .inr (.inl fa2_frontier))), (hv4, .inr (4, [.int (zI (z4_words)), .ref q_401, v4_2, .ref q_403, v4_4, v4_5, v4_6, v4_7])), (q_401, .inl (cA_401, 4800, .inr (.inl fa4_start))), (q_403, .inl (cA_403, 4800, .inr (.inl fa4_sets)))]) [0, 1, 2, 6, 7, 3, 4, 5] rfl
                have hD := hD.sub (ws' := [(h0, .inr (8, [.ref q_800, v8_1, v8_2, v8_3, v8_4, v8_5, v8_6, v8_7])), (q_800, .inl (cA_800, 4800, .inr (.inl w32_800))), (hc, .inr (0, [.int (zI (B1)), v_1, v_2, v_3, v_4, v_5, v_6, v_7, v_8, v_9, v_10, v_11, v_12, v_13, v_14, v_15, v_16, v_17, v_18])), (hf, .inr (2, [v2_0, v2_1, v2_2, v2_3, v2_4, v2_5, .ref q_206, v2_7, v2_8, v2_9, v2_10, v2_11, v2_12])), (q_206, .inl (cA_206, 1500, .inr (.inl fa2_frontier))), (hv4, .inr (4, [.int (zI (z4_words)), .ref q_401, v4_2, .ref q_403, v4_4, v4_5, v4_6, v4_7])), (q_401, .inl (cA_401, 4800, .inr (.inl fa4_start))), (q_403, .inl (cA_403, 4800, .inr (.inl fa4_sets)))]) [0, 1, 2, 6, 7, 3, 4, 5] (by decide) rfl
                exact ih6 (d6_6 + 1) d32_5 w32_800 ls H _ (by omega) (by omega) (by omega) (lv_sub hl [1, 2, 3, 4, 5, 6, 0] rfl) hP hD hS
              · have yb38 : ¬ (z4_words : Int) ≤ (d32_7 : Int) := fun q => b38 ((zI_le (a := z4_words) (b := d32_7) (by omega) (by omega) (by omega) (by omega)).mpr q)
                refine lv_iload hx hb dX8_spread_41 (lv_at hl 6 rfl) ?_
                refine lv_aload_n hx hb dX8_spread_43 rfl (lv_at hl 3 rfl) ?_
                refine va_get (D := (dC, dI)) (ci := 4) (v := .int (zI (z4_words))) (C := RX4) (T := TX4) (N := 8) hx hb hts mem_X8_spread_2 hown hK hP 3 rfl rfl 0 (by decide) (ow (k := 5) rfl) (fun _ h9 => h9) rfl dX8_spread_44 ?_
                refine lv_imul hx hb dX8_spread_47 ?_
                refine lv_topi (fun z ez => ?_)
                obtain rfl : z = zI (d6_6 * z4_words) := ez.trans (zI_mul (d6_6) (z4_words))
                have km48 := mulb (a := d6_6) (b := z4_words) (by omega) (by omega) (by omega)
                refine lv_iload hx hb dX8_spread_48 (lv_at hl 7 rfl) ?_
                refine lv_iadd hx hb dX8_spread_50 ?_
                refine lv_topi (fun z ez => ?_)
                obtain rfl : z = zI ((d6_6 * z4_words) + d32_7) := ez.trans (zI_add (d6_6 * z4_words) (d32_7))
                refine lv_istore (lv' := [(8, .int (zI ((d6_6 * z4_words) + d32_7))), (0, .ref h0), (1, .ref hc), (2, .ref hf), (3, .ref hv4), (4, .int (zI (b))), (5, .int (zI (d32_5))), (6, .int (zI (d6_6))), (7, .int (zI (d32_7)))]) hx hb dX8_spread_51 hl (by decide) rfl (fun ls hl => ?_)
                refine lv_aload_n hx hb dX8_spread_53 rfl (lv_at hl 4 rfl) ?_
                refine va_get (D := (dC, dI)) (ci := 4) (v := .ref q_403) (C := RX4) (T := TX4) (N := 8) hx hb hts mem_X8_spread_2 hown hK hP 3 rfl rfl 3 (by decide) (ow (k := 6) rfl) (fun _ h9 => h9) rfl dX8_spread_54 ?_
                refine lv_iload hx hb dX8_spread_57 (lv_at hl 5 rfl) ?_
                refine lv_aload_n hx hb dX8_spread_59 rfl (lv_at hl 4 rfl) ?_
                refine va_get (D := (dC, dI)) (ci := 4) (v := .int (zI (z4_words))) (C := RX4) (T := TX4) (N := 8) hx hb hts mem_X8_spread_2 hown hK hP 3 rfl rfl 0 (by decide) (ow (k := 5) rfl) (fun _ h9 => h9) rfl dX8_spread_60 ?_
                refine lv_imul hx hb dX8_spread_63 ?_
                refine lv_topi (fun z ez => ?_)
                obtain rfl : z = zI (b * z4_words) := ez.trans (zI_mul (b) (z4_words))
                have km64 := mulb (a := b) (b := z4_words) (by omega) (by omega) (by omega)
                refine lv_iload hx hb dX8_spread_64 (lv_at hl 8 rfl) ?_
                refine lv_iadd hx hb dX8_spread_66 ?_
                refine lv_topi (fun z ez => ?_)
                obtain rfl : z = zI ((b * z4_words) + d32_7) := ez.trans (zI_add (b * z4_words) (d32_7))
                refine va_lald hx hb hK hP 5 2 rfl rfl (zI_in (a := (b * z4_words) + d32_7) (n := 4800) (by omega) (by omega) (by decide)) dX8_spread_67 ?_
                refine lv_topl (fun x_2004 _ => ?_)
                refine lv_aload_n hx hb dX8_spread_68 rfl (lv_at hl 1 rfl) ?_
                refine va_get (D := (dC, dI)) (ci := 8) (v := .ref q_800) (C := RX8) (T := TX8) (N := 8) hx hb hts mem_X8_spread_3 hown hK hP 0 rfl rfl 0 (by decide) (ow (k := 7) rfl) (fun _ h9 => h9) rfl dX8_spread_69 ?_
                refine lv_iload hx hb dX8_spread_72 (lv_at hl 5 rfl) ?_
                refine lv_aload_n hx hb dX8_spread_74 rfl (lv_at hl 4 rfl) ?_
                refine va_get (D := (dC, dI)) (ci := 4) (v := .int (zI (z4_words))) (C := RX4) (T := TX4) (N := 8) hx hb hts mem_X8_spread_2 hown hK hP 3 rfl rfl 0 (by decide) (ow (k := 5) rfl) (fun _ h9 => h9) rfl dX8_spread_75 ?_
                refine lv_imul hx hb dX8_spread_78 ?_
                refine lv_topi (fun z ez => ?_)
                obtain rfl : z = zI (b * z4_words) := ez.trans (zI_mul (b) (z4_words))
                have km79 := mulb (a := b) (b := z4_words) (by omega) (by omega) (by omega)
                refine lv_iload hx hb dX8_spread_79 (lv_at hl 8 rfl) ?_
                refine lv_iadd hx hb dX8_spread_81 ?_
                refine lv_topi (fun z ez => ?_)
                obtain rfl : z = zI ((b * z4_words) + d32_7) := ez.trans (zI_add (b * z4_words) (d32_7))
                refine va_lald hx hb hK hP 1 0 rfl rfl (zI_in (a := (b * z4_words) + d32_7) (n := 4800) (by omega) (by omega) (by decide)) dX8_spread_82 ?_
                refine lv_topl (fun x_2005 _ => ?_)
                refine lv_lor hx hb dX8_spread_83 ?_
                refine lv_topl (fun x_2006 _ => ?_)
                refine lv_lstore (lv' := [(9, .long x_2006), (8, .int (zI ((d6_6 * z4_words) + d32_7))), (0, .ref h0), (1, .ref hc), (2, .ref hf), (3, .ref hv4), (4, .int (zI (b))), (5, .int (zI (d32_5))), (6, .int (zI (d6_6))), (7, .int (zI (d32_7)))]) hx hb dX8_spread_84 hl (by decide) rfl (fun ls hl => ?_)
                refine lv_lload hx hb dX8_spread_86 (lv_at hl 0 rfl) ?_
                refine lv_aload_n hx hb dX8_spread_88 rfl (lv_at hl 5 rfl) ?_
                refine va_get (D := (dC, dI)) (ci := 4) (v := .ref q_401) (C := RX4) (T := TX4) (N := 8) hx hb hts mem_X8_spread_2 hown hK hP 3 rfl rfl 1 (by decide) (ow (k := 8) rfl) (fun _ h9 => h9) rfl dX8_spread_89 ?_
                refine lv_iload hx hb dX8_spread_92 (lv_at hl 1 rfl) ?_
                refine va_lald hx hb hK hP 4 1 rfl rfl (zI_in (a := (d6_6 * z4_words) + d32_7) (n := 4800) (by omega) (by omega) (by decide)) dX8_spread_94 ?_
                refine lv_topl (fun x_2007 _ => ?_)
                refine lv_land hx hb dX8_spread_95 ?_
                refine lv_topl (fun x_2008 _ => ?_)
                refine lv_aload_n hx hb dX8_spread_96 rfl (lv_at hl 2 rfl) ?_
                refine va_get (D := (dC, dI)) (ci := 8) (v := .ref q_800) (C := RX8) (T := TX8) (N := 8) hx hb hts mem_X8_spread_3 hown hK hP 0 rfl rfl 0 (by decide) (ow (k := 7) rfl) (fun _ h9 => h9) rfl dX8_spread_97 ?_
                refine lv_iload hx hb dX8_spread_100 (lv_at hl 1 rfl) ?_
                refine va_lald hx hb hK hP 1 0 rfl rfl (zI_in (a := (d6_6 * z4_words) + d32_7) (n := 4800) (by omega) (by omega) (by decide)) dX8_spread_102 ?_
                refine lv_topl (fun x_2009 _ => ?_)
                refine lv_ldc2 (v := (-1)) hx hb hown (ow (k := 9) rfl) dX8_spread_103 ?_
                refine lv_topl (fun z ez => ?_)
                obtain rfl : z = lI (-1) := ez
                refine lv_lxor hx hb dX8_spread_106 ?_
                refine lv_topl (fun x_2010 _ => ?_)
                refine lv_land hx hb dX8_spread_107 ?_
                refine lv_topl (fun x_2011 _ => ?_)
                refine lv_lstore (lv' := [(11, .long x_2011), (9, .long x_2006), (8, .int (zI ((d6_6 * z4_words) + d32_7))), (0, .ref h0), (1, .ref hc), (2, .ref hf), (3, .ref hv4), (4, .int (zI (b))), (5, .int (zI (d32_5))), (6, .int (zI (d6_6))), (7, .int (zI (d32_7)))]) hx hb dX8_spread_108 hl (by decide) rfl (fun ls hl => ?_)
                refine lv_lload hx hb dX8_spread_110 (lv_at hl 0 rfl) ?_
                refine lv_lconst (v := lI (0)) hx hb dX8_spread_112 (by decide) ?_
                refine W.lcmp hx hb dX8_spread_113 ?_
                refine lv_topi (fun x_2012 _ => ?_)
                refine lv_if_eq (tgt := 132) hx hb dX8_spread_114 (by decide) (fun b114 => ?_) (fun b114 => ?_)
                · refine lv_iinc (v := zI (d32_7 + 1)) (lv' := [(7, .int (zI (d32_7 + 1))), (11, .long x_2011), (9, .long x_2006), (8, .int (zI ((d6_6 * z4_words) + d32_7))), (0, .ref h0), (1, .ref hc), (2, .ref hf), (3, .ref hv4), (4, .int (zI (b))), (5, .int (zI (d32_5))), (6, .int (zI (d6_6)))]) hx hb dX8_spread_132 hl (k := 10) rfl (zI_add (d32_7) (1)) (by decide) rfl (fun ls hl => ?_)
                  refine lv_goto (tgt := 32) hx hb dX8_spread_135 (by decide) ?_
                  exact ih32 (d32_7 + 1) d32_5 w32_800 ls H _ (by omega) (by omega) (by omega) (lv_sub hl [4, 5, 6, 7, 8, 9, 10, 0] rfl) hP hD hS
                · refine lv_aload_n hx hb dX8_spread_117 rfl (lv_at hl 3 rfl) ?_
                  refine va_get (D := (dC, dI)) (ci := 8) (v := .ref q_800) (C := RX8) (T := TX8) (N := 8) hx hb hts mem_X8_spread_3 hown hK hP 0 rfl rfl 0 (by decide) (ow (k := 7) rfl) (fun _ h9 => h9) rfl dX8_spread_118 ?_
                  refine lv_iload hx hb dX8_spread_121 (lv_at hl 2 rfl) ?_
                  refine lv_dup2_11 hx hb dX8_spread_123 rfl rfl ?_
                  refine va_lald hx hb hK hP 1 0 rfl rfl (zI_in (a := (d6_6 * z4_words) + d32_7) (n := 4800) (by omega) (by omega) (by decide)) dX8_spread_124 ?_
                  refine lv_topl (fun x_2013 _ => ?_)
                  refine lv_lload hx hb dX8_spread_125 (lv_at hl 0 rfl) ?_
                  refine lv_lor hx hb dX8_spread_127 ?_
                  refine lv_topl (fun x_2014 _ => ?_)
                  refine va_last (i := zI ((d6_6 * z4_words) + d32_7)) hx hb hK hP hD hS 1 0 rfl rfl (zI_in (a := (d6_6 * z4_words) + d32_7) (n := 4800) (by omega) (by omega) (by decide)) dX8_spread_128 (fun H locs hP hD hS => ?_)
                  have hP : va_P (dC, dI) vwP [(h0, .inr (8, [.ref q_800, v8_1, v8_2, v8_3, v8_4, v8_5, v8_6, v8_7])), (q_800, .inl (cA_800, 4800, .inr (.inl (vp_updL w32_800 (zI ((d6_6 * z4_words) + d32_7)).toNatClampNeg x_2014)))), (hc, .inr (0, [.int (zI (B1)), v_1, v_2, v_3, v_4, v_5, v_6, v_7, v_8, v_9, v_10, v_11, v_12, v_13, v_14, v_15, v_16, v_17, v_18])), (hv4, .inr (4, [.int (zI (z4_words)), .ref q_401, v4_2, .ref q_403, v4_4, v4_5, v4_6, v4_7])), (q_401, .inl (cA_401, 4800, .inr (.inl fa4_start))), (q_403, .inl (cA_403, 4800, .inr (.inl fa4_sets))), (hf, .inr (2, [v2_0, v2_1, v2_2, v2_3, v2_4, v2_5, .ref q_206, v2_7, v2_8, v2_9, v2_10, v2_11, v2_12])), (q_206, .inl (cA_206, 1500, .inr (.inl fa2_frontier)))] H := hP
                  have hD : va_D A [(h0, .inr (8, [.ref q_800, v8_1, v8_2, v8_3, v8_4, v8_5, v8_6, v8_7])), (q_800, .inl (cA_800, 4800, .inr (.inl (vp_updL w32_800 (zI ((d6_6 * z4_words) + d32_7)).toNatClampNeg x_2014)))), (hc, .inr (0, [.int (zI (B1)), v_1, v_2, v_3, v_4, v_5, v_6, v_7, v_8, v_9, v_10, v_11, v_12, v_13, v_14, v_15, v_16, v_17, v_18])), (hv4, .inr (4, [.int (zI (z4_words)), .ref q_401, v4_2, .ref q_403, v4_4, v4_5, v4_6, v4_7])), (q_401, .inl (cA_401, 4800, .inr (.inl fa4_start))), (q_403, .inl (cA_403, 4800, .inr (.inl fa4_sets))), (hf, .inr (2, [v2_0, v2_1, v2_2, v2_3, v2_4, v2_5, .ref q_206, v2_7, v2_8, v2_9, v2_10, v2_11, v2_12])), (q_206, .inl (cA_206, 1500, .inr (.inl fa2_frontier)))] := hD
                  generalize (vp_updL w32_800 (zI ((d6_6 * z4_words) + d32_7)).toNatClampNeg x_2014) = fl_2015 at hP hD
                  have hP : va_P (dC, dI) vwP [(h0, .inr (8, [.ref q_800, v8_1, v8_2, v8_3, v8_4, v8_5, v8_6, v8_7])), (q_800, .inl (cA_800, 4800, .inr (.inl fl_2015))), (hc, .inr (0, [.int (zI (B1)), v_1, v_2, v_3, v_4, v_5, v_6, v_7, v_8, v_9, v_10, v_11, v_12, v_13, v_14, v_15, v_16, v_17, v_18])), (hv4, .inr (4, [.int (zI (z4_words)), .ref q_401, v4_2, .ref q_403, v4_4, v4_5, v4_6, v4_7])), (q_401, .inl (cA_401, 4800, .inr (.inl fa4_start))), (q_403, .inl (cA_403, 4800, .inr (.inl fa4_sets))), (hf, .inr (2, [v2_0, v2_1, v2_2, v2_3, v2_4, v2_5, .ref q_206, v2_7, v2_8, v2_9, v2_10, v2_11, v2_12])), (q_206, .inl (cA_206, 1500, .inr (.inl fa2_frontier)))] H := hP
                  have hD : va_D A [(h0, .inr (8, [.ref q_800, v8_1, v8_2, v8_3, v8_4, v8_5, v8_6, v8_7])), (q_800, .inl (cA_800, 4800, .inr (.inl fl_2015))), (hc, .inr (0, [.int (zI (B1)), v_1, v_2, v_3, v_4, v_5, v_6, v_7, v_8, v_9, v_10, v_11, v_12, v_13, v_14, v_15, v_16, v_17, v_18])), (hv4, .inr (4, [.int (zI (z4_words)), .ref q_401, v4_2, .ref q_403, v4_4, v4_5, v4_6, v4_7])), (q_401, .inl (cA_401, 4800, .inr (.inl fa4_start))), (q_403, .inl (cA_403, 4800, .inr (.inl fa4_sets))), (hf, .inr (2, [v2_0, v2_1, v2_2, v2_3, v2_4, v2_5, .ref q_206, v2_7, v2_8, v2_9, v2_10, v2_11, v2_12])), (q_206, .inl (cA_206, 1500, .inr (.inl fa2_frontier)))] := hD
                  refine lv_iconst (v := 1) hx hb dX8_spread_129 (by decide) ?_
                  refine lv_istore (lv' := [(5, .int 1), (11, .long x_2011), (9, .long x_2006), (8, .int (zI ((d6_6 * z4_words) + d32_7))), (0, .ref h0), (1, .ref hc), (2, .ref hf), (3, .ref hv4), (4, .int (zI (b))), (6, .int (zI (d6_6))), (7, .int (zI (d32_7)))]) hx hb dX8_spread_130 hl (by decide) rfl (fun ls hl => ?_)
                  refine lv_iinc (v := zI (d32_7 + 1)) (lv' := [(7, .int (zI (d32_7 + 1))), (5, .int 1), (11, .long x_2011), (9, .long x_2006), (8, .int (zI ((d6_6 * z4_words) + d32_7))), (0, .ref h0), (1, .ref hc), (2, .ref hf), (3, .ref hv4), (4, .int (zI (b))), (6, .int (zI (d6_6)))]) hx hb dX8_spread_132 hl (k := 10) rfl (zI_add (d32_7) (1)) (by decide) rfl (fun ls hl => ?_)
                  refine lv_goto (tgt := 32) hx hb dX8_spread_135 (by decide) ?_
                  exact ih32 (d32_7 + 1) 1 fl_2015 ls H _ (by omega) (by omega) (by omega) (lv_sub hl [5, 6, 7, 8, 9, 1, 10, 0] rfl) hP hD hS
          exact key32 (((z4_words) - (0) : Int).toNat + 1) 0 d6_5 w6_800 ls H _ (by omega) (by omega) (by omega) (lv_sub hl [1, 2, 3, 4, 5, 6, 7, 0] rfl) hP hD hS
        · have yb23 : (z_2003 : Int) = (0 : Int) := (zI_eq (a := z_2003) (b := 0) (by omega) (by omega) (by omega) (by omega)).mp b23
          refine lv_goto (tgt := 138) hx hb dX8_spread_26 (by decide) ?_
          refine lv_iinc (v := zI (d6_6 + 1)) (lv' := [(6, .int (zI (d6_6 + 1))), (0, .ref h0), (1, .ref hc), (2, .ref hf), (3, .ref hv4), (4, .int (zI (b))), (5, .int (zI (d6_5)))]) hx hb dX8_spread_138 hl (k := 6) rfl (zI_add (d6_6) (1)) (by decide) rfl (fun ls hl => ?_)
          refine lv_goto (tgt := 6) hx hb dX8_spread_141 (by decide) ?_
          have hP := hP.sub (ws' := [(h0, .inr (8, [.ref q_800, v8_1, v8_2, v8_3, v8_4, v8_5, v8_6, v8_7])), (q_800, .inl (cA_800, 4800, .inr (.inl w6_800))), (hc, .inr (0, [.int (zI (B1)), v_1, v_2, v_3, v_4, v_5, v_6, v_7, v_8, v_9, v_10, v_11, v_12, v_13, v_14, v_15, v_16, v_17, v_18])), (hf, .inr (2, [v2_0, v2_1, v2_2, v2_3, v2_4, v2_5, .ref q_206, v2_7, v2_8, v2_9, v2_10, v2_11, v2_12])), (q_206, .inl (cA_206, 1500, .inr (.inl fa2_frontier))), (hv4, .inr (4, [.int (zI (z4_words)), .ref q_401, v4_2, .ref q_403, v4_4, v4_5, v4_6, v4_7])), (q_401, .inl (cA_401, 4800, .inr (.inl fa4_start))), (q_403, .inl (cA_403, 4800, .inr (.inl fa4_sets)))]) [0, 1, 2, 6, 7, 3, 4, 5] rfl
          have hD := hD.sub (ws' := [(h0, .inr (8, [.ref q_800, v8_1, v8_2, v8_3, v8_4, v8_5, v8_6, v8_7])), (q_800, .inl (cA_800, 4800, .inr (.inl w6_800))), (hc, .inr (0, [.int (zI (B1)), v_1, v_2, v_3, v_4, v_5, v_6, v_7, v_8, v_9, v_10, v_11, v_12, v_13, v_14, v_15, v_16, v_17, v_18])), (hf, .inr (2, [v2_0, v2_1, v2_2, v2_3, v2_4, v2_5, .ref q_206, v2_7, v2_8, v2_9, v2_10, v2_11, v2_12])), (q_206, .inl (cA_206, 1500, .inr (.inl fa2_frontier))), (hv4, .inr (4, [.int (zI (z4_words)), .ref q_401, v4_2, .ref q_403, v4_4, v4_5, v4_6, v4_7])), (q_401, .inl (cA_401, 4800, .inr (.inl fa4_start))), (q_403, .inl (cA_403, 4800, .inr (.inl fa4_sets)))]) [0, 1, 2, 6, 7, 3, 4, 5] (by decide) rfl
          exact ih6 (d6_6 + 1) d6_5 w6_800 ls H _ (by omega) (by omega) (by omega) (lv_sub hl [1, 2, 3, 4, 5, 6, 0] rfl) hP hD hS
  exact key6 (((B1) - (0) : Int).toNat + 1) 0 0 fa8_wanted ls H _ (by omega) (by omega) (by omega) (lv_sub hl [2, 3, 4, 5, 6, 1, 0] rfl) hP hD hS
theorem dX8_placePhis_0 : decode cX8_placePhis 0 = .ok (.aload_n 0, 1) := by decide +kernel
theorem dX8_placePhis_1 : decode cX8_placePhis 1 = .ok (.getfield 9, 3) := by decide +kernel
theorem dX8_placePhis_4 : decode cX8_placePhis 4 = .ok (.aload_n 1, 1) := by decide +kernel
theorem dX8_placePhis_5 : decode cX8_placePhis 5 = .ok (.getfield 54, 3) := by decide +kernel
theorem dX8_placePhis_8 : decode cX8_placePhis 8 = .ok (.aload_n 3, 1) := by decide +kernel
theorem dX8_placePhis_9 : decode cX8_placePhis 9 = .ok (.getfield 42, 3) := by decide +kernel
theorem dX8_placePhis_12 : decode cX8_placePhis 12 = .ok (.imul, 1) := by decide +kernel
theorem dX8_placePhis_13 : decode cX8_placePhis 13 = .ok (.invokestatic 90, 3) := by decide +kernel
theorem dX8_placePhis_16 : decode cX8_placePhis 16 = .ok (.iconst 1, 1) := by decide +kernel
theorem dX8_placePhis_17 : decode cX8_placePhis 17 = .ok (.istore 4, 2) := by decide +kernel
theorem dX8_placePhis_19 : decode cX8_placePhis 19 = .ok (.iconst 0, 1) := by decide +kernel
theorem dX8_placePhis_20 : decode cX8_placePhis 20 = .ok (.istore 5, 2) := by decide +kernel
theorem dX8_placePhis_22 : decode cX8_placePhis 22 = .ok (.iload 4, 2) := by decide +kernel
theorem dX8_placePhis_24 : decode cX8_placePhis 24 = .ok (.ifCond .eq 61, 3) := by decide +kernel
theorem dX8_placePhis_85 : decode cX8_placePhis 85 = .ok (.return_, 1) := by decide +kernel
theorem dX8_placePhis_27 : decode cX8_placePhis 27 = .ok (.iload 5, 2) := by decide +kernel
theorem dX8_placePhis_29 : decode cX8_placePhis 29 = .ok (.ldc 94, 2) := by decide +kernel
theorem dX8_placePhis_31 : decode cX8_placePhis 31 = .ok (.if_icmp .ge 54, 3) := by decide +kernel
theorem dX8_placePhis_34 : decode cX8_placePhis 34 = .ok (.iconst 0, 1) := by decide +kernel
theorem dX8_placePhis_35 : decode cX8_placePhis 35 = .ok (.istore 4, 2) := by decide +kernel
theorem dX8_placePhis_37 : decode cX8_placePhis 37 = .ok (.iconst 0, 1) := by decide +kernel
theorem dX8_placePhis_38 : decode cX8_placePhis 38 = .ok (.istore 6, 2) := by decide +kernel
theorem dX8_placePhis_40 : decode cX8_placePhis 40 = .ok (.iload 6, 2) := by decide +kernel
theorem dX8_placePhis_42 : decode cX8_placePhis 42 = .ok (.aload_n 1, 1) := by decide +kernel
theorem dX8_placePhis_43 : decode cX8_placePhis 43 = .ok (.getfield 54, 3) := by decide +kernel
theorem dX8_placePhis_46 : decode cX8_placePhis 46 = .ok (.if_icmp .ge 33, 3) := by decide +kernel
theorem dX8_placePhis_79 : decode cX8_placePhis 79 = .ok (.iinc 5 1, 3) := by decide +kernel
theorem dX8_placePhis_82 : decode cX8_placePhis 82 = .ok (.goto (-60), 3) := by decide +kernel
theorem dX8_placePhis_49 : decode cX8_placePhis 49 = .ok (.aload_n 2, 1) := by decide +kernel
theorem dX8_placePhis_50 : decode cX8_placePhis 50 = .ok (.iload 6, 2) := by decide +kernel
theorem dX8_placePhis_52 : decode cX8_placePhis 52 = .ok (.invokevirtual 95, 3) := by decide +kernel
theorem dX8_placePhis_55 : decode cX8_placePhis 55 = .ok (.ifCond .le 18, 3) := by decide +kernel
theorem dX8_placePhis_73 : decode cX8_placePhis 73 = .ok (.iinc 6 1, 3) := by decide +kernel
theorem dX8_placePhis_76 : decode cX8_placePhis 76 = .ok (.goto (-36), 3) := by decide +kernel
theorem dX8_placePhis_58 : decode cX8_placePhis 58 = .ok (.aload_n 0, 1) := by decide +kernel
theorem dX8_placePhis_59 : decode cX8_placePhis 59 = .ok (.aload_n 1, 1) := by decide +kernel
theorem dX8_placePhis_60 : decode cX8_placePhis 60 = .ok (.aload_n 2, 1) := by decide +kernel
theorem dX8_placePhis_61 : decode cX8_placePhis 61 = .ok (.aload_n 3, 1) := by decide +kernel
theorem dX8_placePhis_62 : decode cX8_placePhis 62 = .ok (.iload 6, 2) := by decide +kernel
theorem dX8_placePhis_64 : decode cX8_placePhis 64 = .ok (.invokevirtual 100, 3) := by decide +kernel
theorem dX8_placePhis_67 : decode cX8_placePhis 67 = .ok (.ifCond .eq 6, 3) := by decide +kernel
theorem dX8_placePhis_70 : decode cX8_placePhis 70 = .ok (.iconst 1, 1) := by decide +kernel
theorem dX8_placePhis_71 : decode cX8_placePhis 71 = .ok (.istore 4, 2) := by decide +kernel
def o_X8_placePhis : List Cond := [.fieldLink RX8 9 "SsaForge$SsaMaker" "wanted" "[J", .fieldLink RX8 54 "SsaForge$Code" "blocks" "I", .fieldLink RX8 42 "SsaForge$Live" "words" "I", .initialized RX11, .static yX11_clearBits, .constant RX8 94 (1000000), .methodLink RX8 95 yX2_frontierSize, .instanceMethod yX2_frontierSize, .selects RX2 yX2_frontierSize yX2_frontierSize, .initialized RX2, .methodLink RX8 100 yX8_spread, .instanceMethod yX8_spread, .selects RX8 yX8_spread yX8_spread, .initialized RX8]
def v_X8_placePhis : List Cond := .code yX8_placePhis cX8_placePhis 7 none :: (o_X8_placePhis ++ (wsX80 ++ (wsX00 ++ (wsX40 ++ (v_X11_clearBits ++ (v_X2_frontierSize ++ (v_X8_spread ++ [])))))))
theorem mow_X8_placePhis : ∀ w ∈ o_X8_placePhis, w ∈ v_X8_placePhis := fun _ h => List.mem_cons_of_mem _ (List.mem_append_left _ h)
theorem mem_X8_placePhis_0 : ∀ w ∈ wsX80, w ∈ v_X8_placePhis := fun _ h => List.mem_cons_of_mem _ (List.mem_append_right _ (List.mem_append_left _ h))
theorem mem_X8_placePhis_1 : ∀ w ∈ wsX00, w ∈ v_X8_placePhis := fun _ h => List.mem_cons_of_mem _ (List.mem_append_right _ (List.mem_append_right _ (List.mem_append_left _ h)))
theorem mem_X8_placePhis_2 : ∀ w ∈ wsX40, w ∈ v_X8_placePhis := fun _ h => List.mem_cons_of_mem _ (List.mem_append_right _ (List.mem_append_right _ (List.mem_append_right _ (List.mem_append_left _ h))))
theorem mem_X8_placePhis_3 : ∀ w ∈ v_X11_clearBits, w ∈ v_X8_placePhis := fun _ h => List.mem_cons_of_mem _ (List.mem_append_right _ (List.mem_append_right _ (List.mem_append_right _ (List.mem_append_right _ (List.mem_append_left _ h)))))
theorem mem_X8_placePhis_4 : ∀ w ∈ v_X2_frontierSize, w ∈ v_X8_placePhis := fun _ h => List.mem_cons_of_mem _ (List.mem_append_right _ (List.mem_append_right _ (List.mem_append_right _ (List.mem_append_right _ (List.mem_append_right _ (List.mem_append_left _ h))))))
theorem mem_X8_placePhis_5 : ∀ w ∈ v_X8_spread, w ∈ v_X8_placePhis := fun _ h => List.mem_cons_of_mem _ (List.mem_append_right _ (List.mem_append_right _ (List.mem_append_right _ (List.mem_append_right _ (List.mem_append_right _ (List.mem_append_right _ (List.mem_append_left _ h)))))))
set_option maxRecDepth 20000 in
theorem gw_X8_placePhis : v_X8_placePhis.all goodWord = true := by decide +kernel
set_option maxRecDepth 20000 in
theorem g_X8_placePhis_X2_frontierSize : GoodIn v_X8_placePhis (wsV RX8 95 RX2 yX2_frontierSize v_X2_frontierSize) := goodIn_app (goodIn_sub (fun w h => mow_X8_placePhis w (by revert w h; decide +kernel)) (by decide +kernel)) (goodIn_sub mem_X8_placePhis_4 gw_X2_frontierSize)
set_option maxRecDepth 20000 in
theorem g_X8_placePhis_X8_spread : GoodIn v_X8_placePhis (wsV RX8 100 RX8 yX8_spread v_X8_spread) := goodIn_app (goodIn_sub (fun w h => mow_X8_placePhis w (by revert w h; decide +kernel)) (by decide +kernel)) (goodIn_sub mem_X8_placePhis_5 gw_X8_spread)
set_option maxHeartbeats 4000000 in
set_option maxRecDepth 100000 in
theorem c_X8_placePhis (l : Launch) (dC : Nat → ClassId) (dI : Nat → Nat → Nat) (h0 : Nat) (q_800 : Nat) (cA_800 : ClassId) (fa8_wanted : Nat → Int64) (v8_1 : Value) (v8_2 : Value) (v8_3 : Value) (v8_4 : Value) (v8_5 : Value) (v8_6 : Value) (v8_7 : Value) (hc : Nat) (B1 : Int) (v_1 : Value) (v_2 : Value) (v_3 : Value) (v_4 : Value) (v_5 : Value) (v_6 : Value) (v_7 : Value) (v_8 : Value) (v_9 : Value) (v_10 : Value) (v_11 : Value) (v_12 : Value) (v_13 : Value) (v_14 : Value) (v_15 : Value) (v_16 : Value) (v_17 : Value) (v_18 : Value) (hf : Nat) (v2_0 : Value) (v2_1 : Value) (v2_2 : Value) (v2_3 : Value) (v2_4 : Value) (v2_5 : Value) (q_206 : Nat) (cA_206 : ClassId) (fa2_frontier : Nat → Int64) (v2_7 : Value) (v2_8 : Value) (v2_9 : Value) (v2_10 : Value) (v2_11 : Value) (v2_12 : Value) (hv4 : Nat) (z4_words : Int) (q_401 : Nat) (cA_401 : ClassId) (fa4_start : Nat → Int64) (v4_2 : Value) (q_403 : Nat) (cA_403 : ClassId) (fa4_sets : Nat → Int64) (v4_4 : Value) (v4_5 : Value) (v4_6 : Value) (v4_7 : Value) (hNB1 : 0 ≤ B1 ∧ B1 ≤ 300) (hNz4_words : 0 ≤ z4_words ∧ z4_words ≤ 16) (sz : Nat) : Met l yX8_placePhis v_X8_placePhis ({ frames := 3, cells := 0, slots := 0, locals := 76 }) (va_Pc [.ref h0, .ref hc, .ref hf, .ref hv4] (fun U => U.heap.size = sz ∧ va_P (dC, dI) vwP [(h0, .inr (8, [.ref q_800, v8_1, v8_2, v8_3, v8_4, v8_5, v8_6, v8_7])), (q_800, .inl (cA_800, 4800, .inr (.inl fa8_wanted))), (hc, .inr (0, [.int (zI (B1)), v_1, v_2, v_3, v_4, v_5, v_6, v_7, v_8, v_9, v_10, v_11, v_12, v_13, v_14, v_15, v_16, v_17, v_18])), (hf, .inr (2, [v2_0, v2_1, v2_2, v2_3, v2_4, v2_5, .ref q_206, v2_7, v2_8, v2_9, v2_10, v2_11, v2_12])), (q_206, .inl (cA_206, 1500, .inr (.inl fa2_frontier))), (hv4, .inr (4, [.int (zI (z4_words)), .ref q_401, v4_2, .ref q_403, v4_4, v4_5, v4_6, v4_7])), (q_401, .inl (cA_401, 4800, .inr (.inl fa4_start))), (q_403, .inl (cA_403, 4800, .inr (.inl fa4_sets)))] U.heap ∧ va_K (dC, dI) vwP [(cA_800, .long), (cA_206, .long), (cA_401, .long), (cA_403, .long)] U ∧ va_D (fun _ => True) [(h0, .inr (8, [.ref q_800, v8_1, v8_2, v8_3, v8_4, v8_5, v8_6, v8_7])), (q_800, .inl (cA_800, 4800, .inr (.inl fa8_wanted))), (hc, .inr (0, [.int (zI (B1)), v_1, v_2, v_3, v_4, v_5, v_6, v_7, v_8, v_9, v_10, v_11, v_12, v_13, v_14, v_15, v_16, v_17, v_18])), (hf, .inr (2, [v2_0, v2_1, v2_2, v2_3, v2_4, v2_5, .ref q_206, v2_7, v2_8, v2_9, v2_10, v2_11, v2_12])), (q_206, .inl (cA_206, 1500, .inr (.inl fa2_frontier))), (hv4, .inr (4, [.int (zI (z4_words)), .ref q_401, v4_2, .ref q_403, v4_4, v4_5, v4_6, v4_7])), (q_401, .inl (cA_401, 4800, .inr (.inl fa4_start))), (q_403, .inl (cA_403, 4800, .inr (.inl fa4_sets)))] ∧ va_Nw (.methodLinkNest RX8 90 yX11_clearBits "SsaForge") U ∧ va_Nw (.methodLinkNest RX2 71 yX11_countBits "SsaForge") U ∧ va_Nw (.methodLinkNest RX2 67 yX11_hasBit "SsaForge") U)) (va_Qv (fun _ : Unit => True) (fun (_ : Unit) (t : State) => ∃ (g0_9 : Nat → Int64), va_P (dC, dI) vwP [(h0, .inr (8, [.ref q_800, v8_1, v8_2, v8_3, v8_4, v8_5, v8_6, v8_7])), (q_800, .inl (cA_800, 4800, .inr (.inl g0_9))), (hc, .inr (0, [.int (zI (B1)), v_1, v_2, v_3, v_4, v_5, v_6, v_7, v_8, v_9, v_10, v_11, v_12, v_13, v_14, v_15, v_16, v_17, v_18])), (hf, .inr (2, [v2_0, v2_1, v2_2, v2_3, v2_4, v2_5, .ref q_206, v2_7, v2_8, v2_9, v2_10, v2_11, v2_12])), (q_206, .inl (cA_206, 1500, .inr (.inl fa2_frontier))), (hv4, .inr (4, [.int (zI (z4_words)), .ref q_401, v4_2, .ref q_403, v4_4, v4_5, v4_6, v4_7])), (q_401, .inl (cA_401, 4800, .inr (.inl fa4_start))), (q_403, .inl (cA_403, 4800, .inr (.inl fa4_sets)))] t.heap ∧ va_K (dC, dI) vwP [(cA_800, .long), (cA_206, .long), (cA_401, .long), (cA_403, .long)] t ∧ va_D (va_A [(h0, .inr (8, [.ref q_800, v8_1, v8_2, v8_3, v8_4, v8_5, v8_6, v8_7])), (q_800, .inl (cA_800, 4800, .inr (.inl fa8_wanted))), (hc, .inr (0, [.int (zI (B1)), v_1, v_2, v_3, v_4, v_5, v_6, v_7, v_8, v_9, v_10, v_11, v_12, v_13, v_14, v_15, v_16, v_17, v_18])), (hf, .inr (2, [v2_0, v2_1, v2_2, v2_3, v2_4, v2_5, .ref q_206, v2_7, v2_8, v2_9, v2_10, v2_11, v2_12])), (q_206, .inl (cA_206, 1500, .inr (.inl fa2_frontier))), (hv4, .inr (4, [.int (zI (z4_words)), .ref q_401, v4_2, .ref q_403, v4_4, v4_5, v4_6, v4_7])), (q_401, .inl (cA_401, 4800, .inr (.inl fa4_start))), (q_403, .inl (cA_403, 4800, .inr (.inl fa4_sets)))] sz) [(h0, .inr (8, [.ref q_800, v8_1, v8_2, v8_3, v8_4, v8_5, v8_6, v8_7])), (q_800, .inl (cA_800, 4800, .inr (.inl g0_9))), (hc, .inr (0, [.int (zI (B1)), v_1, v_2, v_3, v_4, v_5, v_6, v_7, v_8, v_9, v_10, v_11, v_12, v_13, v_14, v_15, v_16, v_17, v_18])), (hf, .inr (2, [v2_0, v2_1, v2_2, v2_3, v2_4, v2_5, .ref q_206, v2_7, v2_8, v2_9, v2_10, v2_11, v2_12])), (q_206, .inl (cA_206, 1500, .inr (.inl fa2_frontier))), (hv4, .inr (4, [.int (zI (z4_words)), .ref q_401, v4_2, .ref q_403, v4_4, v4_5, v4_6, v4_7])), (q_401, .inl (cA_401, 4800, .inr (.inl fa4_start))), (q_403, .inl (cA_403, 4800, .inr (.inl fa4_sets)))]) (va_A [(h0, .inr (8, [.ref q_800, v8_1, v8_2, v8_3, v8_4, v8_5, v8_6, v8_7])), (q_800, .inl (cA_800, 4800, .inr (.inl fa8_wanted))), (hc, .inr (0, [.int (zI (B1)), v_1, v_2, v_3, v_4, v_5, v_6, v_7, v_8, v_9, v_10, v_11, v_12, v_13, v_14, v_15, v_16, v_17, v_18])), (hf, .inr (2, [v2_0, v2_1, v2_2, v2_3, v2_4, v2_5, .ref q_206, v2_7, v2_8, v2_9, v2_10, v2_11, v2_12])), (q_206, .inl (cA_206, 1500, .inr (.inl fa2_frontier))), (hv4, .inr (4, [.int (zI (z4_words)), .ref q_401, v4_2, .ref q_403, v4_4, v4_5, v4_6, v4_7])), (q_401, .inl (cA_401, 4800, .inr (.inl fa4_start))), (q_403, .inl (cA_403, 4800, .inr (.inl fa4_sets)))] sz)) 0 0 (va_A [(h0, .inr (8, [.ref q_800, v8_1, v8_2, v8_3, v8_4, v8_5, v8_6, v8_7])), (q_800, .inl (cA_800, 4800, .inr (.inl fa8_wanted))), (hc, .inr (0, [.int (zI (B1)), v_1, v_2, v_3, v_4, v_5, v_6, v_7, v_8, v_9, v_10, v_11, v_12, v_13, v_14, v_15, v_16, v_17, v_18])), (hf, .inr (2, [v2_0, v2_1, v2_2, v2_3, v2_4, v2_5, .ref q_206, v2_7, v2_8, v2_9, v2_10, v2_11, v2_12])), (q_206, .inl (cA_206, 1500, .inr (.inl fa2_frontier))), (hv4, .inr (4, [.int (zI (z4_words)), .ref q_401, v4_2, .ref q_403, v4_4, v4_5, v4_6, v4_7])), (q_401, .inl (cA_401, 4800, .inr (.inl fa4_start))), (q_403, .inl (cA_403, 4800, .inr (.inl fa4_sets)))] sz) := by
  refine Met.ofW (cc := cX8_placePhis) (maxL := 7) (ret := none) (by decide) rfl ?_
  intro p e s m args below meth c s₁ B hml hv
  obtain ⟨rfl, hsz, hP, hK, hD0, hp0, hp1, hp2⟩ := hv
  have hx := B.exec
  have hb := B.bytes
  have hr := B.returns
  have hts := atoms_spec (ws := v_X8_placePhis) B.pre
  have hown : s.vm.findClass RX8 = some m.cls := findClass_of_methodNamed B.named
  have hlocks := B.notSynchronized
  have ow : ∀ {k : Nat} {w : Cond}, o_X8_placePhis[k]? = some w → w.before ([.ref h0, .ref hc, .ref hf, .ref hv4] : List Value).toArray s = true := fun h => hts _ (mow_X8_placePhis _ (List.mem_of_getElem? h))
  subst hsz
  have hD := hD0.self (sz := s.heap.size)
  generalize hAe : va_A [(h0, .inr (8, [.ref q_800, v8_1, v8_2, v8_3, v8_4, v8_5, v8_6, v8_7])), (q_800, .inl (cA_800, 4800, .inr (.inl fa8_wanted))), (hc, .inr (0, [.int (zI (B1)), v_1, v_2, v_3, v_4, v_5, v_6, v_7, v_8, v_9, v_10, v_11, v_12, v_13, v_14, v_15, v_16, v_17, v_18])), (hf, .inr (2, [v2_0, v2_1, v2_2, v2_3, v2_4, v2_5, .ref q_206, v2_7, v2_8, v2_9, v2_10, v2_11, v2_12])), (q_206, .inl (cA_206, 1500, .inr (.inl fa2_frontier))), (hv4, .inr (4, [.int (zI (z4_words)), .ref q_401, v4_2, .ref q_403, v4_4, v4_5, v4_6, v4_7])), (q_401, .inl (cA_401, 4800, .inr (.inl fa4_start))), (q_403, .inl (cA_403, 4800, .inr (.inl fa4_sets)))] s.heap.size = A at hD ⊢
  have hA : ∀ q : Nat, s.heap.size ≤ q → A q := fun q h => by rw [← hAe]; exact Or.inr h
  have hS : va_S A s.heap s.heap [] := va_S.rf
  have hP : va_P (dC, dI) vwP [(h0, .inr (8, [.ref q_800, v8_1, v8_2, v8_3, v8_4, v8_5, v8_6, v8_7])), (q_800, .inl (cA_800, 4800, .inr (.inl fa8_wanted))), (hc, .inr (0, [.int (zI (B1)), v_1, v_2, v_3, v_4, v_5, v_6, v_7, v_8, v_9, v_10, v_11, v_12, v_13, v_14, v_15, v_16, v_17, v_18])), (hf, .inr (2, [v2_0, v2_1, v2_2, v2_3, v2_4, v2_5, .ref q_206, v2_7, v2_8, v2_9, v2_10, v2_11, v2_12])), (q_206, .inl (cA_206, 1500, .inr (.inl fa2_frontier))), (hv4, .inr (4, [.int (zI (z4_words)), .ref q_401, v4_2, .ref q_403, v4_4, v4_5, v4_6, v4_7])), (q_401, .inl (cA_401, 4800, .inr (.inl fa4_start))), (q_403, .inl (cA_403, 4800, .inr (.inl fa4_sets)))] s.heap := hP
  have hl := lv_entry ([.ref h0, .ref hc, .ref hf, .ref hv4]) (n := 7) (Nat.le_of_ble_eq_true rfl)
  rw [lg_entry_eq]
  generalize (lg_sl ([.ref h0, .ref hc, .ref hf, .ref hv4]) ++ List.replicate (7 - (lg_sl ([.ref h0, .ref hc, .ref hf, .ref hv4])).length) Slot.unset).toArray = ls at hl ⊢
  have hl : lv_has ls 7 [(0, .ref h0), (1, .ref hc), (2, .ref hf), (3, .ref hv4)] := hl
  obtain ⟨H, hH⟩ : ∃ H, H = s.heap := ⟨_, rfl⟩
  rw [← hH] at hP
  have hS : va_S A s.heap H [] := by rw [hH]; exact hS
  rw [← hH]
  refine zW_cap (fun Q hQ => ?_)
  refine lv_aload_n hx hb dX8_placePhis_0 rfl (lv_at hl 0 rfl) ?_
  refine va_get (D := (dC, dI)) (ci := 8) (v := .ref q_800) (C := RX8) (T := TX8) (N := 8) hx hb hts mem_X8_placePhis_0 hown hK hP 0 rfl rfl 0 (by decide) (ow (k := 0) rfl) (fun _ h9 => h9) rfl dX8_placePhis_1 ?_
  refine lv_aload_n hx hb dX8_placePhis_4 rfl (lv_at hl 1 rfl) ?_
  refine va_get (D := (dC, dI)) (ci := 0) (v := .int (zI (B1))) (C := RX0) (T := TX0) (N := 19) hx hb hts mem_X8_placePhis_1 hown hK hP 2 rfl rfl 0 (by decide) (ow (k := 1) rfl) (fun _ h9 => h9) rfl dX8_placePhis_5 ?_
  refine lv_aload_n hx hb dX8_placePhis_8 rfl (lv_at hl 3 rfl) ?_
  refine va_get (D := (dC, dI)) (ci := 4) (v := .int (zI (z4_words))) (C := RX4) (T := TX4) (N := 8) hx hb hts mem_X8_placePhis_2 hown hK hP 5 rfl rfl 0 (by decide) (ow (k := 2) rfl) (fun _ h9 => h9) rfl dX8_placePhis_9 ?_
  refine lv_imul hx hb dX8_placePhis_12 ?_
  refine lv_topi (fun z ez => ?_)
  obtain rfl : z = zI (B1 * z4_words) := ez.trans (zI_mul (B1) (z4_words))
  have km13 := mulb (a := B1) (b := z4_words) (by omega) (by omega) (by omega)
  have hPc := hP.sub (ws' := [(q_800, .inl (cA_800, 4800, .inr (.inl fa8_wanted)))]) [1] rfl
  have hDc := hD.sub (ws' := [(q_800, .inl (cA_800, 4800, .inr (.inl fa8_wanted)))]) [1] (by decide) rfl
  have hKc := hK.sub (tys' := [(cA_800, .long)]) [0] rfl
  have hFc := va_free (wc := [(q_800, .inl (cA_800, 4800, .inr (.inl fa8_wanted)))]) hD hS hA [1] rfl
  refine va_callv (va_runSN (As := [.ref q_800, .int (zI (B1 * z4_words))]) (rest := []) ⟨hx, hb, hml, hown, hts⟩ (c_X11_clearBits l dC dI q_800 cA_800 4800 fa8_wanted (B1 * z4_words) (by omega) H.size) ⟨va_cnB 2 hts (goodIn_sub mem_X8_placePhis_3 gw_X11_clearBits) rfl rfl rfl hp0 (ow (k := 3) rfl) (by decide +kernel) ⟨(Nat.le_of_ble_eq_true rfl), (Nat.le_of_ble_eq_true rfl)⟩, (ow (k := 4) rfl), trivial⟩ ⟨fun a U g mk q => by obtain ⟨q0, q1, qP, qK, qD⟩ := q; exact ⟨q0, q1, qP, va_K.moved (u := U) (U := U.calling g mk a) (Vm.Alike.refl U.vm) qK, qD⟩, fun U hU hW => ⟨rfl, by rw [hU], by rw [hU]; exact hPc, va_K.moved hW.alike hKc, hDc.weaken (fun _ _ _ _ => trivial)⟩⟩ rfl rfl hl.1 rfl (lv_room (Nat.le_of_ble_eq_true rfl)) dX8_placePhis_13 ⟨(Nat.le_of_ble_eq_true rfl), (Nat.le_of_ble_eq_true rfl)⟩) hS (fun q _ h => hFc q h) hFc (fun  u t H1 locs ht hvm hw hB hz1 hk1 hS => ?_)
  obtain ⟨g0_2001, hP1, hK1, hD1⟩ := hB
  rw [ht] at hP1
  have hK1 := va_K.moved hvm.symm hK1
  obtain ⟨hP, hD⟩ := va_join (wr := [(h0, .inr (8, [.ref q_800, v8_1, v8_2, v8_3, v8_4, v8_5, v8_6, v8_7])), (hc, .inr (0, [.int (zI (B1)), v_1, v_2, v_3, v_4, v_5, v_6, v_7, v_8, v_9, v_10, v_11, v_12, v_13, v_14, v_15, v_16, v_17, v_18])), (hf, .inr (2, [v2_0, v2_1, v2_2, v2_3, v2_4, v2_5, .ref q_206, v2_7, v2_8, v2_9, v2_10, v2_11, v2_12])), (q_206, .inl (cA_206, 1500, .inr (.inl fa2_frontier))), (hv4, .inr (4, [.int (zI (z4_words)), .ref q_401, v4_2, .ref q_403, v4_4, v4_5, v4_6, v4_7])), (q_401, .inl (cA_401, 4800, .inr (.inl fa4_start))), (q_403, .inl (cA_403, 4800, .inr (.inl fa4_sets)))]) (w1 := [(q_800, .inl (cA_800, 4800, .inr (.inl g0_2001)))]) hP hD [1] [0, 2, 3, 4, 5, 6, 7] rfl rfl (by decide) (by decide) hk1 hFc hP1 hD1
  have hK := (hK.sub (tys' := [(cA_206, .long), (cA_401, .long), (cA_403, .long)]) [1, 2, 3] rfl).app hK1
  generalize H1 = H at hP hS ⊢
  have hP : va_P (dC, dI) vwP [(h0, .inr (8, [.ref q_800, v8_1, v8_2, v8_3, v8_4, v8_5, v8_6, v8_7])), (hc, .inr (0, [.int (zI (B1)), v_1, v_2, v_3, v_4, v_5, v_6, v_7, v_8, v_9, v_10, v_11, v_12, v_13, v_14, v_15, v_16, v_17, v_18])), (hf, .inr (2, [v2_0, v2_1, v2_2, v2_3, v2_4, v2_5, .ref q_206, v2_7, v2_8, v2_9, v2_10, v2_11, v2_12])), (q_206, .inl (cA_206, 1500, .inr (.inl fa2_frontier))), (hv4, .inr (4, [.int (zI (z4_words)), .ref q_401, v4_2, .ref q_403, v4_4, v4_5, v4_6, v4_7])), (q_401, .inl (cA_401, 4800, .inr (.inl fa4_start))), (q_403, .inl (cA_403, 4800, .inr (.inl fa4_sets))), (q_800, .inl (cA_800, 4800, .inr (.inl g0_2001)))] H := hP
  have hD : va_D A [(h0, .inr (8, [.ref q_800, v8_1, v8_2, v8_3, v8_4, v8_5, v8_6, v8_7])), (hc, .inr (0, [.int (zI (B1)), v_1, v_2, v_3, v_4, v_5, v_6, v_7, v_8, v_9, v_10, v_11, v_12, v_13, v_14, v_15, v_16, v_17, v_18])), (hf, .inr (2, [v2_0, v2_1, v2_2, v2_3, v2_4, v2_5, .ref q_206, v2_7, v2_8, v2_9, v2_10, v2_11, v2_12])), (q_206, .inl (cA_206, 1500, .inr (.inl fa2_frontier))), (hv4, .inr (4, [.int (zI (z4_words)), .ref q_401, v4_2, .ref q_403, v4_4, v4_5, v4_6, v4_7])), (q_401, .inl (cA_401, 4800, .inr (.inl fa4_start))), (q_403, .inl (cA_403, 4800, .inr (.inl fa4_sets))), (q_800, .inl (cA_800, 4800, .inr (.inl g0_2001)))] := hD
  have hK : va_K (dC, dI) vwP [(cA_206, .long), (cA_401, .long), (cA_403, .long), (cA_800, .long)] s := hK
  refine W.widen (k := 0) (n := 0) (Nat.le_of_ble_eq_true rfl) (Nat.le_of_ble_eq_true rfl) ?_
  refine lv_iconst (v := 1) hx hb dX8_placePhis_16 (by decide) ?_
  refine lv_istore (lv' := [(4, .int 1), (0, .ref h0), (1, .ref hc), (2, .ref hf), (3, .ref hv4)]) hx hb dX8_placePhis_17 hl (by decide) rfl (fun ls hl => ?_)
  refine lv_iconst (v := 0) hx hb dX8_placePhis_19 (by decide) ?_
  refine lv_istore (lv' := [(5, .int 0), (4, .int 1), (0, .ref h0), (1, .ref hc), (2, .ref hf), (3, .ref hv4)]) hx hb dX8_placePhis_20 hl (by decide) rfl (fun ls hl => ?_)
  have key22 : ∀ n22 : Nat, ∀ (d22_5 : Int) (d22_4 : Int) (w22_800 : Nat → Int64) (ls : Array Slot) (H : Heap) (locs : List Loc), (0 ≤ d22_5 ∧ d22_5 ≤ 1000000000) → (0 ≤ d22_4 ∧ d22_4 ≤ 1) → ((1000000 - d22_5 : Int).toNat) < n22 → lv_has ls 7 [(0, .ref h0), (1, .ref hc), (2, .ref hf), (3, .ref hv4), (4, .int (zI (d22_4))), (5, .int (zI (d22_5)))] → va_P (dC, dI) vwP [(h0, .inr (8, [.ref q_800, v8_1, v8_2, v8_3, v8_4, v8_5, v8_6, v8_7])), (hc, .inr (0, [.int (zI (B1)), v_1, v_2, v_3, v_4, v_5, v_6, v_7, v_8, v_9, v_10, v_11, v_12, v_13, v_14, v_15, v_16, v_17, v_18])), (hf, .inr (2, [v2_0, v2_1, v2_2, v2_3, v2_4, v2_5, .ref q_206, v2_7, v2_8, v2_9, v2_10, v2_11, v2_12])), (q_206, .inl (cA_206, 1500, .inr (.inl fa2_frontier))), (hv4, .inr (4, [.int (zI (z4_words)), .ref q_401, v4_2, .ref q_403, v4_4, v4_5, v4_6, v4_7])), (q_401, .inl (cA_401, 4800, .inr (.inl fa4_start))), (q_403, .inl (cA_403, 4800, .inr (.inl fa4_sets))), (q_800, .inl (cA_800, 4800, .inr (.inl w22_800)))] H → va_D A [(h0, .inr (8, [.ref q_800, v8_1, v8_2, v8_3, v8_4, v8_5, v8_6, v8_7])), (hc, .inr (0, [.int (zI (B1)), v_1, v_2, v_3, v_4, v_5, v_6, v_7, v_8, v_9, v_10, v_11, v_12, v_13, v_14, v_15, v_16, v_17, v_18])), (hf, .inr (2, [v2_0, v2_1, v2_2, v2_3, v2_4, v2_5, .ref q_206, v2_7, v2_8, v2_9, v2_10, v2_11, v2_12])), (q_206, .inl (cA_206, 1500, .inr (.inl fa2_frontier))), (hv4, .inr (4, [.int (zI (z4_words)), .ref q_401, v4_2, .ref q_403, v4_4, v4_5, v4_6, v4_7])), (q_401, .inl (cA_401, 4800, .inr (.inl fa4_start))), (q_403, .inl (cA_403, 4800, .inr (.inl fa4_sets))), (q_800, .inl (cA_800, 4800, .inr (.inl w22_800)))] → va_S A s.heap H locs → W p l e (headSpec v_X8_placePhis ({ frames := 3, cells := 0, slots := 0, locals := 76 })).room s m ([.ref h0, .ref hc, .ref hf, .ref hv4] : List Value).toArray below meth c H locs 0 0 Q (F0 m 22 ls []) := by
    intro n22
    induction n22 with
    | zero => intro d22_5 d22_4 w22_800 ls H locs jd22_5 jd22_4 hm22; exact absurd hm22 (by omega)
    | succ n22 ih22 =>
      intro d22_5 d22_4 w22_800 ls H locs jd22_5 jd22_4 hm22 hl hP hD hS
      refine lv_iload hx hb dX8_placePhis_22 (lv_at hl 4 rfl) ?_
      refine lv_if_eq (tgt := 85) hx hb dX8_placePhis_24 (by decide) (fun b24 => ?_) (fun b24 => ?_)
      · have yb24 : (d22_4 : Int) = (0 : Int) := (zI_eq (a := d22_4) (b := 0) (by omega) (by omega) (by omega) (by omega)).mp b24
        subst hQ
        have hP := hP.sub (ws' := [(h0, .inr (8, [.ref q_800, v8_1, v8_2, v8_3, v8_4, v8_5, v8_6, v8_7])), (q_800, .inl (cA_800, 4800, .inr (.inl w22_800))), (hc, .inr (0, [.int (zI (B1)), v_1, v_2, v_3, v_4, v_5, v_6, v_7, v_8, v_9, v_10, v_11, v_12, v_13, v_14, v_15, v_16, v_17, v_18])), (hf, .inr (2, [v2_0, v2_1, v2_2, v2_3, v2_4, v2_5, .ref q_206, v2_7, v2_8, v2_9, v2_10, v2_11, v2_12])), (q_206, .inl (cA_206, 1500, .inr (.inl fa2_frontier))), (hv4, .inr (4, [.int (zI (z4_words)), .ref q_401, v4_2, .ref q_403, v4_4, v4_5, v4_6, v4_7])), (q_401, .inl (cA_401, 4800, .inr (.inl fa4_start))), (q_403, .inl (cA_403, 4800, .inr (.inl fa4_sets)))]) [0, 7, 1, 2, 3, 4, 5, 6] rfl
        have hD := hD.sub (ws' := [(h0, .inr (8, [.ref q_800, v8_1, v8_2, v8_3, v8_4, v8_5, v8_6, v8_7])), (q_800, .inl (cA_800, 4800, .inr (.inl w22_800))), (hc, .inr (0, [.int (zI (B1)), v_1, v_2, v_3, v_4, v_5, v_6, v_7, v_8, v_9, v_10, v_11, v_12, v_13, v_14, v_15, v_16, v_17, v_18])), (hf, .inr (2, [v2_0, v2_1, v2_2, v2_3, v2_4, v2_5, .ref q_206, v2_7, v2_8, v2_9, v2_10, v2_11, v2_12])), (q_206, .inl (cA_206, 1500, .inr (.inl fa2_frontier))), (hv4, .inr (4, [.int (zI (z4_words)), .ref q_401, v4_2, .ref q_403, v4_4, v4_5, v4_6, v4_7])), (q_401, .inl (cA_401, 4800, .inr (.inl fa4_start))), (q_403, .inl (cA_403, 4800, .inr (.inl fa4_sets)))]) [0, 7, 1, 2, 3, 4, 5, 6] (by decide) rfl
        have hK := hK.sub (tys' := [(cA_800, .long), (cA_206, .long), (cA_401, .long), (cA_403, .long)]) [3, 0, 1, 2] rfl
        refine W.widen (k := 0) (n := 0) (Nat.le_of_ble_eq_true rfl) (Nat.le_of_ble_eq_true rfl) ?_
        exact W.vret hx hb hr (fun t ht hW => ⟨⟨(), rfl, trivial, w22_800, by rw [ht]; exact hP, va_K.moved hW.alike hK, hD⟩, hS.F ht⟩) hS.2.2 dX8_placePhis_85
      · have yb24 : ¬ (d22_4 : Int) = (0 : Int) := fun q => b24 ((zI_eq (a := d22_4) (b := 0) (by omega) (by omega) (by omega) (by omega)).mpr q)
        refine lv_iload hx hb dX8_placePhis_27 (lv_at hl 5 rfl) ?_
        refine lv_ldc (v := 1000000) hx hb hown (ow (k := 5) rfl) dX8_placePhis_29 ?_
        refine lv_icmp_ge (tgt := 85) hx hb dX8_placePhis_31 (by decide) (fun b31 => ?_) (fun b31 => ?_)
        · have yb31 : (1000000 : Int) ≤ (d22_5 : Int) := (zI_le (a := 1000000) (b := d22_5) (by omega) (by omega) (by omega) (by omega)).mp b31
          subst hQ
          have hP := hP.sub (ws' := [(h0, .inr (8, [.ref q_800, v8_1, v8_2, v8_3, v8_4, v8_5, v8_6, v8_7])), (q_800, .inl (cA_800, 4800, .inr (.inl w22_800))), (hc, .inr (0, [.int (zI (B1)), v_1, v_2, v_3, v_4, v_5, v_6, v_7, v_8, v_9, v_10, v_11, v_12, v_13, v_14, v_15, v_16, v_17, v_18])), (hf, .inr (2, [v2_0, v2_1, v2_2, v2_3, v2_4, v2_5, .ref q_206, v2_7, v2_8, v2_9, v2_10, v2_11, v2_12])), (q_206, .inl (cA_206, 1500, .inr (.inl fa2_frontier))), (hv4, .inr (4, [.int (zI (z4_words)), .ref q_401, v4_2, .ref q_403, v4_4, v4_5, v4_6, v4_7])), (q_401, .inl (cA_401, 4800, .inr (.inl fa4_start))), (q_403, .inl (cA_403, 4800, .inr (.inl fa4_sets)))]) [0, 7, 1, 2, 3, 4, 5, 6] rfl
          have hD := hD.sub (ws' := [(h0, .inr (8, [.ref q_800, v8_1, v8_2, v8_3, v8_4, v8_5, v8_6, v8_7])), (q_800, .inl (cA_800, 4800, .inr (.inl w22_800))), (hc, .inr (0, [.int (zI (B1)), v_1, v_2, v_3, v_4, v_5, v_6, v_7, v_8, v_9, v_10, v_11, v_12, v_13, v_14, v_15, v_16, v_17, v_18])), (hf, .inr (2, [v2_0, v2_1, v2_2, v2_3, v2_4, v2_5, .ref q_206, v2_7, v2_8, v2_9, v2_10, v2_11, v2_12])), (q_206, .inl (cA_206, 1500, .inr (.inl fa2_frontier))), (hv4, .inr (4, [.int (zI (z4_words)), .ref q_401, v4_2, .ref q_403, v4_4, v4_5, v4_6, v4_7])), (q_401, .inl (cA_401, 4800, .inr (.inl fa4_start))), (q_403, .inl (cA_403, 4800, .inr (.inl fa4_sets)))]) [0, 7, 1, 2, 3, 4, 5, 6] (by decide) rfl
          have hK := hK.sub (tys' := [(cA_800, .long), (cA_206, .long), (cA_401, .long), (cA_403, .long)]) [3, 0, 1, 2] rfl
          refine W.widen (k := 0) (n := 0) (Nat.le_of_ble_eq_true rfl) (Nat.le_of_ble_eq_true rfl) ?_
          exact W.vret hx hb hr (fun t ht hW => ⟨⟨(), rfl, trivial, w22_800, by rw [ht]; exact hP, va_K.moved hW.alike hK, hD⟩, hS.F ht⟩) hS.2.2 dX8_placePhis_85
        · have yb31 : ¬ (1000000 : Int) ≤ (d22_5 : Int) := fun q => b31 ((zI_le (a := 1000000) (b := d22_5) (by omega) (by omega) (by omega) (by omega)).mpr q)
          refine lv_iconst (v := 0) hx hb dX8_placePhis_34 (by decide) ?_
          refine lv_istore (lv' := [(4, .int 0), (0, .ref h0), (1, .ref hc), (2, .ref hf), (3, .ref hv4), (5, .int (zI (d22_5)))]) hx hb dX8_placePhis_35 hl (by decide) rfl (fun ls hl => ?_)
          refine lv_iconst (v := 0) hx hb dX8_placePhis_37 (by decide) ?_
          refine lv_istore (lv' := [(6, .int 0), (4, .int 0), (0, .ref h0), (1, .ref hc), (2, .ref hf), (3, .ref hv4), (5, .int (zI (d22_5)))]) hx hb dX8_placePhis_38 hl (by decide) rfl (fun ls hl => ?_)
          have key40 : ∀ n40 : Nat, ∀ (d40_6 : Int) (d40_4 : Int) (w40_800 : Nat → Int64) (ls : Array Slot) (H : Heap) (locs : List Loc), (0 ≤ d40_6 ∧ d40_6 ≤ 1000000000) → (0 ≤ d40_4 ∧ d40_4 ≤ 1) → (((B1) - (d40_6) : Int).toNat) < n40 → lv_has ls 7 [(0, .ref h0), (1, .ref hc), (2, .ref hf), (3, .ref hv4), (4, .int (zI (d40_4))), (5, .int (zI (d22_5))), (6, .int (zI (d40_6)))] → va_P (dC, dI) vwP [(h0, .inr (8, [.ref q_800, v8_1, v8_2, v8_3, v8_4, v8_5, v8_6, v8_7])), (hc, .inr (0, [.int (zI (B1)), v_1, v_2, v_3, v_4, v_5, v_6, v_7, v_8, v_9, v_10, v_11, v_12, v_13, v_14, v_15, v_16, v_17, v_18])), (hf, .inr (2, [v2_0, v2_1, v2_2, v2_3, v2_4, v2_5, .ref q_206, v2_7, v2_8, v2_9, v2_10, v2_11, v2_12])), (q_206, .inl (cA_206, 1500, .inr (.inl fa2_frontier))), (hv4, .inr (4, [.int (zI (z4_words)), .ref q_401, v4_2, .ref q_403, v4_4, v4_5, v4_6, v4_7])), (q_401, .inl (cA_401, 4800, .inr (.inl fa4_start))), (q_403, .inl (cA_403, 4800, .inr (.inl fa4_sets))), (q_800, .inl (cA_800, 4800, .inr (.inl w40_800)))] H → va_D A [(h0, .inr (8, [.ref q_800, v8_1, v8_2, v8_3, v8_4, v8_5, v8_6, v8_7])), (hc, .inr (0, [.int (zI (B1)), v_1, v_2, v_3, v_4, v_5, v_6, v_7, v_8, v_9, v_10, v_11, v_12, v_13, v_14, v_15, v_16, v_17, v_18])), (hf, .inr (2, [v2_0, v2_1, v2_2, v2_3, v2_4, v2_5, .ref q_206, v2_7, v2_8, v2_9, v2_10, v2_11, v2_12])), (q_206, .inl (cA_206, 1500, .inr (.inl fa2_frontier))), (hv4, .inr (4, [.int (zI (z4_words)), .ref q_401, v4_2, .ref q_403, v4_4, v4_5, v4_6, v4_7])), (q_401, .inl (cA_401, 4800, .inr (.inl fa4_start))), (q_403, .inl (cA_403, 4800, .inr (.inl fa4_sets))), (q_800, .inl (cA_800, 4800, .inr (.inl w40_800)))] → va_S A s.heap H locs → W p l e (headSpec v_X8_placePhis ({ frames := 3, cells := 0, slots := 0, locals := 76 })).room s m ([.ref h0, .ref hc, .ref hf, .ref hv4] : List Value).toArray below meth c H locs 0 0 Q (F0 m 40 ls []) := by
            intro n40
            induction n40 with
            | zero => intro d40_6 d40_4 w40_800 ls H locs jd40_6 jd40_4 hm40; exact absurd hm40 (by omega)
            | succ n40 ih40 =>
              intro d40_6 d40_4 w40_800 ls H locs jd40_6 jd40_4 hm40 hl hP hD hS
              refine lv_iload hx hb dX8_placePhis_40 (lv_at hl 6 rfl) ?_
              refine lv_aload_n hx hb dX8_placePhis_42 rfl (lv_at hl 1 rfl) ?_
              refine va_get (D := (dC, dI)) (ci := 0) (v := .int (zI (B1))) (C := RX0) (T := TX0) (N := 19) hx hb hts mem_X8_placePhis_1 hown hK hP 1 rfl rfl 0 (by decide) (ow (k := 1) rfl) (fun _ h9 => h9) rfl dX8_placePhis_43 ?_
              refine lv_icmp_ge (tgt := 79) hx hb dX8_placePhis_46 (by decide) (fun b46 => ?_) (fun b46 => ?_)
              · have yb46 : (B1 : Int) ≤ (d40_6 : Int) := (zI_le (a := B1) (b := d40_6) (by omega) (by omega) (by omega) (by omega)).mp b46
                refine lv_iinc (v := zI (d22_5 + 1)) (lv' := [(5, .int (zI (d22_5 + 1))), (0, .ref h0), (1, .ref hc), (2, .ref hf), (3, .ref hv4), (4, .int (zI (d40_4))), (6, .int (zI (d40_6)))]) hx hb dX8_placePhis_79 hl (k := 5) rfl (zI_add (d22_5) (1)) (by decide) rfl (fun ls hl => ?_)
                refine lv_goto (tgt := 22) hx hb dX8_placePhis_82 (by decide) ?_
                exact ih22 (d22_5 + 1) d40_4 w40_800 ls H _ (by omega) (by omega) (by omega) (lv_sub hl [1, 2, 3, 4, 5, 0] rfl) hP hD hS
              · have yb46 : ¬ (B1 : Int) ≤ (d40_6 : Int) := fun q => b46 ((zI_le (a := B1) (b := d40_6) (by omega) (by omega) (by omega) (by omega)).mpr q)
                refine lv_aload_n hx hb dX8_placePhis_49 rfl (lv_at hl 2 rfl) ?_
                refine lv_iload hx hb dX8_placePhis_50 (lv_at hl 6 rfl) ?_
                have hPc := hP.sub (ws' := [(hf, .inr (2, [v2_0, v2_1, v2_2, v2_3, v2_4, v2_5, .ref q_206, v2_7, v2_8, v2_9, v2_10, v2_11, v2_12])), (q_206, .inl (cA_206, 1500, .inr (.inl fa2_frontier)))]) [2, 3] rfl
                have hDc := hD.sub (ws' := [(hf, .inr (2, [v2_0, v2_1, v2_2, v2_3, v2_4, v2_5, .ref q_206, v2_7, v2_8, v2_9, v2_10, v2_11, v2_12])), (q_206, .inl (cA_206, 1500, .inr (.inl fa2_frontier)))]) [2, 3] (by decide) rfl
                have hKc := hK.sub (tys' := [(cA_206, .long)]) [0] rfl
                have hFc := va_free (wc := [(hf, .inr (2, [v2_0, v2_1, v2_2, v2_3, v2_4, v2_5, .ref q_206, v2_7, v2_8, v2_9, v2_10, v2_11, v2_12])), (q_206, .inl (cA_206, 1500, .inr (.inl fa2_frontier)))]) hD hS hA [2, 3] rfl
                refine va_calli (va_runV (As := [.int (zI (d40_6))]) (rest := []) ⟨hx, hb, hml, hown, hts⟩ (c_X2_frontierSize l dC dI hf v2_0 v2_1 v2_2 v2_3 v2_4 v2_5 q_206 cA_206 fa2_frontier v2_7 v2_8 v2_9 v2_10 v2_11 v2_12 d40_6 (by omega) H.size) (cwV 1 hts g_X8_placePhis_X2_frontierSize rfl rfl rfl (by decide +kernel) ⟨(Nat.le_of_ble_eq_true rfl), (Nat.le_of_ble_eq_true rfl)⟩) ⟨fun a U g mk q => by obtain ⟨q0, q1, qP, qK, qD, e0⟩ := q; exact ⟨q0, q1, qP, va_K.moved (u := U) (U := U.calling g mk a) (Vm.Alike.refl U.vm) qK, qD, va_Nw.same rfl (u := U) (U := U.calling g mk a) rfl e0⟩, va_recv hKc hPc (ci := 2) (q0 := 0) rfl rfl, fun U hU hW => ⟨rfl, by rw [hU], by rw [hU]; exact hPc, va_K.moved hW.alike hKc, hDc.weaken (fun _ _ _ _ => trivial), va_Nw.warmM hW hp1⟩⟩ rfl rfl hl.1 rfl (lv_room (Nat.le_of_ble_eq_true rfl)) dX8_placePhis_52 ⟨(Nat.le_of_ble_eq_true rfl), (Nat.le_of_ble_eq_true rfl)⟩) hS (fun q _ h => hFc q h) hFc (fun r_2002 u t H1 locs ht hvm hw hB hz1 hk1 hS => ?_)
                obtain ⟨hP1, hK1, hD1⟩ := hB
                rw [ht] at hP1
                have hK1 := va_K.moved hvm.symm hK1
                obtain ⟨hP, hD⟩ := va_join (wr := [(h0, .inr (8, [.ref q_800, v8_1, v8_2, v8_3, v8_4, v8_5, v8_6, v8_7])), (hc, .inr (0, [.int (zI (B1)), v_1, v_2, v_3, v_4, v_5, v_6, v_7, v_8, v_9, v_10, v_11, v_12, v_13, v_14, v_15, v_16, v_17, v_18])), (hv4, .inr (4, [.int (zI (z4_words)), .ref q_401, v4_2, .ref q_403, v4_4, v4_5, v4_6, v4_7])), (q_401, .inl (cA_401, 4800, .inr (.inl fa4_start))), (q_403, .inl (cA_403, 4800, .inr (.inl fa4_sets))), (q_800, .inl (cA_800, 4800, .inr (.inl w40_800)))]) (w1 := [(hf, .inr (2, [v2_0, v2_1, v2_2, v2_3, v2_4, v2_5, .ref q_206, v2_7, v2_8, v2_9, v2_10, v2_11, v2_12])), (q_206, .inl (cA_206, 1500, .inr (.inl fa2_frontier)))]) hP hD [2, 3] [0, 1, 4, 5, 6, 7] rfl rfl (by decide) (by decide) hk1 hFc hP1 hD1
                have hK := (hK.sub (tys' := [(cA_401, .long), (cA_403, .long), (cA_800, .long)]) [1, 2, 3] rfl).app hK1
                generalize H1 = H at hP hS ⊢
                have hP : va_P (dC, dI) vwP [(h0, .inr (8, [.ref q_800, v8_1, v8_2, v8_3, v8_4, v8_5, v8_6, v8_7])), (hc, .inr (0, [.int (zI (B1)), v_1, v_2, v_3, v_4, v_5, v_6, v_7, v_8, v_9, v_10, v_11, v_12, v_13, v_14, v_15, v_16, v_17, v_18])), (hv4, .inr (4, [.int (zI (z4_words)), .ref q_401, v4_2, .ref q_403, v4_4, v4_5, v4_6, v4_7])), (q_401, .inl (cA_401, 4800, .inr (.inl fa4_start))), (q_403, .inl (cA_403, 4800, .inr (.inl fa4_sets))), (q_800, .inl (cA_800, 4800, .inr (.inl w40_800))), (hf, .inr (2, [v2_0, v2_1, v2_2, v2_3, v2_4, v2_5, .ref q_206, v2_7, v2_8, v2_9, v2_10, v2_11, v2_12])), (q_206, .inl (cA_206, 1500, .inr (.inl fa2_frontier)))] H := hP
                have hD : va_D A [(h0, .inr (8, [.ref q_800, v8_1, v8_2, v8_3, v8_4, v8_5, v8_6, v8_7])), (hc, .inr (0, [.int (zI (B1)), v_1, v_2, v_3, v_4, v_5, v_6, v_7, v_8, v_9, v_10, v_11, v_12, v_13, v_14, v_15, v_16, v_17, v_18])), (hv4, .inr (4, [.int (zI (z4_words)), .ref q_401, v4_2, .ref q_403, v4_4, v4_5, v4_6, v4_7])), (q_401, .inl (cA_401, 4800, .inr (.inl fa4_start))), (q_403, .inl (cA_403, 4800, .inr (.inl fa4_sets))), (q_800, .inl (cA_800, 4800, .inr (.inl w40_800))), (hf, .inr (2, [v2_0, v2_1, v2_2, v2_3, v2_4, v2_5, .ref q_206, v2_7, v2_8, v2_9, v2_10, v2_11, v2_12])), (q_206, .inl (cA_206, 1500, .inr (.inl fa2_frontier)))] := hD
                have hK : va_K (dC, dI) vwP [(cA_401, .long), (cA_403, .long), (cA_800, .long), (cA_206, .long)] s := hK
                refine W.widen (k := 0) (n := 0) (Nat.le_of_ble_eq_true rfl) (Nat.le_of_ble_eq_true rfl) ?_
                have hw_2003 := hw
                obtain ⟨z_2004, rfl, hzz_2004⟩ := hw_2003
                refine lv_if_le (tgt := 73) hx hb dX8_placePhis_55 (by decide) (fun b55 => ?_) (fun b55 => ?_)
                · have yb55 : (z_2004 : Int) ≤ (0 : Int) := (zI_le (a := z_2004) (b := 0) (by omega) (by omega) (by omega) (by omega)).mp b55
                  refine lv_iinc (v := zI (d40_6 + 1)) (lv' := [(6, .int (zI (d40_6 + 1))), (0, .ref h0), (1, .ref hc), (2, .ref hf), (3, .ref hv4), (4, .int (zI (d40_4))), (5, .int (zI (d22_5)))]) hx hb dX8_placePhis_73 hl (k := 6) rfl (zI_add (d40_6) (1)) (by decide) rfl (fun ls hl => ?_)
                  refine lv_goto (tgt := 40) hx hb dX8_placePhis_76 (by decide) ?_
                  have hP := hP.sub (ws' := [(h0, .inr (8, [.ref q_800, v8_1, v8_2, v8_3, v8_4, v8_5, v8_6, v8_7])), (hc, .inr (0, [.int (zI (B1)), v_1, v_2, v_3, v_4, v_5, v_6, v_7, v_8, v_9, v_10, v_11, v_12, v_13, v_14, v_15, v_16, v_17, v_18])), (hf, .inr (2, [v2_0, v2_1, v2_2, v2_3, v2_4, v2_5, .ref q_206, v2_7, v2_8, v2_9, v2_10, v2_11, v2_12])), (q_206, .inl (cA_206, 1500, .inr (.inl fa2_frontier))), (hv4, .inr (4, [.int (zI (z4_words)), .ref q_401, v4_2, .ref q_403, v4_4, v4_5, v4_6, v4_7])), (q_401, .inl (cA_401, 4800, .inr (.inl fa4_start))), (q_403, .inl (cA_403, 4800, .inr (.inl fa4_sets))), (q_800, .inl (cA_800, 4800, .inr (.inl w40_800)))]) [0, 1, 6, 7, 2, 3, 4, 5] rfl
                  have hD := hD.sub (ws' := [(h0, .inr (8, [.ref q_800, v8_1, v8_2, v8_3, v8_4, v8_5, v8_6, v8_7])), (hc, .inr (0, [.int (zI (B1)), v_1, v_2, v_3, v_4, v_5, v_6, v_7, v_8, v_9, v_10, v_11, v_12, v_13, v_14, v_15, v_16, v_17, v_18])), (hf, .inr (2, [v2_0, v2_1, v2_2, v2_3, v2_4, v2_5, .ref q_206, v2_7, v2_8, v2_9, v2_10, v2_11, v2_12])), (q_206, .inl (cA_206, 1500, .inr (.inl fa2_frontier))), (hv4, .inr (4, [.int (zI (z4_words)), .ref q_401, v4_2, .ref q_403, v4_4, v4_5, v4_6, v4_7])), (q_401, .inl (cA_401, 4800, .inr (.inl fa4_start))), (q_403, .inl (cA_403, 4800, .inr (.inl fa4_sets))), (q_800, .inl (cA_800, 4800, .inr (.inl w40_800)))]) [0, 1, 6, 7, 2, 3, 4, 5] (by decide) rfl
                  exact ih40 (d40_6 + 1) d40_4 w40_800 ls H _ (by omega) (by omega) (by omega) (lv_sub hl [1, 2, 3, 4, 5, 6, 0] rfl) hP hD hS
                · have yb55 : ¬ (z_2004 : Int) ≤ (0 : Int) := fun q => b55 ((zI_le (a := z_2004) (b := 0) (by omega) (by omega) (by omega) (by omega)).mpr q)
                  refine lv_aload_n hx hb dX8_placePhis_58 rfl (lv_at hl 0 rfl) ?_
                  refine lv_aload_n hx hb dX8_placePhis_59 rfl (lv_at hl 1 rfl) ?_
                  refine lv_aload_n hx hb dX8_placePhis_60 rfl (lv_at hl 2 rfl) ?_
                  refine lv_aload_n hx hb dX8_placePhis_61 rfl (lv_at hl 3 rfl) ?_
                  refine lv_iload hx hb dX8_placePhis_62 (lv_at hl 6 rfl) ?_
                  have hPc := hP.sub (ws' := [(h0, .inr (8, [.ref q_800, v8_1, v8_2, v8_3, v8_4, v8_5, v8_6, v8_7])), (q_800, .inl (cA_800, 4800, .inr (.inl w40_800))), (hc, .inr (0, [.int (zI (B1)), v_1, v_2, v_3, v_4, v_5, v_6, v_7, v_8, v_9, v_10, v_11, v_12, v_13, v_14, v_15, v_16, v_17, v_18])), (hf, .inr (2, [v2_0, v2_1, v2_2, v2_3, v2_4, v2_5, .ref q_206, v2_7, v2_8, v2_9, v2_10, v2_11, v2_12])), (q_206, .inl (cA_206, 1500, .inr (.inl fa2_frontier))), (hv4, .inr (4, [.int (zI (z4_words)), .ref q_401, v4_2, .ref q_403, v4_4, v4_5, v4_6, v4_7])), (q_401, .inl (cA_401, 4800, .inr (.inl fa4_start))), (q_403, .inl (cA_403, 4800, .inr (.inl fa4_sets)))]) [0, 5, 1, 6, 7, 2, 3, 4] rfl
                  have hDc := hD.sub (ws' := [(h0, .inr (8, [.ref q_800, v8_1, v8_2, v8_3, v8_4, v8_5, v8_6, v8_7])), (q_800, .inl (cA_800, 4800, .inr (.inl w40_800))), (hc, .inr (0, [.int (zI (B1)), v_1, v_2, v_3, v_4, v_5, v_6, v_7, v_8, v_9, v_10, v_11, v_12, v_13, v_14, v_15, v_16, v_17, v_18])), (hf, .inr (2, [v2_0, v2_1, v2_2, v2_3, v2_4, v2_5, .ref q_206, v2_7, v2_8, v2_9, v2_10, v2_11, v2_12])), (q_206, .inl (cA_206, 1500, .inr (.inl fa2_frontier))), (hv4, .inr (4, [.int (zI (z4_words)), .ref q_401, v4_2, .ref q_403, v4_4, v4_5, v4_6, v4_7])), (q_401, .inl (cA_401, 4800, .inr (.inl fa4_start))), (q_403, .inl (cA_403, 4800, .inr (.inl fa4_sets)))]) [0, 5, 1, 6, 7, 2, 3, 4] (by decide) rfl
                  have hKc := hK.sub (tys' := [(cA_800, .long), (cA_206, .long), (cA_401, .long), (cA_403, .long)]) [2, 3, 0, 1] rfl
                  have hFc := va_free (wc := [(h0, .inr (8, [.ref q_800, v8_1, v8_2, v8_3, v8_4, v8_5, v8_6, v8_7])), (q_800, .inl (cA_800, 4800, .inr (.inl w40_800))), (hc, .inr (0, [.int (zI (B1)), v_1, v_2, v_3, v_4, v_5, v_6, v_7, v_8, v_9, v_10, v_11, v_12, v_13, v_14, v_15, v_16, v_17, v_18])), (hf, .inr (2, [v2_0, v2_1, v2_2, v2_3, v2_4, v2_5, .ref q_206, v2_7, v2_8, v2_9, v2_10, v2_11, v2_12])), (q_206, .inl (cA_206, 1500, .inr (.inl fa2_frontier))), (hv4, .inr (4, [.int (zI (z4_words)), .ref q_401, v4_2, .ref q_403, v4_4, v4_5, v4_6, v4_7])), (q_401, .inl (cA_401, 4800, .inr (.inl fa4_start))), (q_403, .inl (cA_403, 4800, .inr (.inl fa4_sets)))]) hD hS hA [0, 5, 1, 6, 7, 2, 3, 4] rfl
                  refine va_calli (va_runV (As := [.ref hc, .ref hf, .ref hv4, .int (zI (d40_6))]) (rest := []) ⟨hx, hb, hml, hown, hts⟩ (c_X8_spread l dC dI h0 q_800 cA_800 w40_800 v8_1 v8_2 v8_3 v8_4 v8_5 v8_6 v8_7 hc B1 v_1 v_2 v_3 v_4 v_5 v_6 v_7 v_8 v_9 v_10 v_11 v_12 v_13 v_14 v_15 v_16 v_17 v_18 hf v2_0 v2_1 v2_2 v2_3 v2_4 v2_5 q_206 cA_206 fa2_frontier v2_7 v2_8 v2_9 v2_10 v2_11 v2_12 hv4 z4_words q_401 cA_401 fa4_start v4_2 q_403 cA_403 fa4_sets v4_4 v4_5 v4_6 v4_7 d40_6 (by omega) (by omega) (by omega) H.size) (cwV 4 hts g_X8_placePhis_X8_spread rfl rfl rfl (by decide +kernel) ⟨(Nat.le_of_ble_eq_true rfl), (Nat.le_of_ble_eq_true rfl)⟩) ⟨fun a U g mk q => by obtain ⟨q0, q1, qP, qK, qD, e0⟩ := q; exact ⟨q0, q1, qP, va_K.moved (u := U) (U := U.calling g mk a) (Vm.Alike.refl U.vm) qK, qD, va_Nw.same rfl (u := U) (U := U.calling g mk a) rfl e0⟩, va_recv hKc hPc (ci := 8) (q0 := 0) rfl rfl, fun U hU hW => ⟨rfl, by rw [hU], by rw [hU]; exact hPc, va_K.moved hW.alike hKc, hDc.weaken (fun _ _ _ _ => trivial), va_Nw.warmM hW hp2⟩⟩ rfl rfl hl.1 rfl (lv_room (Nat.le_of_ble_eq_true rfl)) dX8_placePhis_64 ⟨(Nat.le_of_ble_eq_true rfl), (Nat.le_of_ble_eq_true rfl)⟩) hS (fun q _ h => hFc q h) hFc (fun r_2005 u t H1 locs ht hvm hw hB hz1 hk1 hS => ?_)
                  obtain ⟨g0_2006, hP1, hK1, hD1⟩ := hB
                  rw [ht] at hP1
                  have hK1 := va_K.moved hvm.symm hK1
                  obtain ⟨hP, hD⟩ := va_join (wr := []) (w1 := [(h0, .inr (8, [.ref q_800, v8_1, v8_2, v8_3, v8_4, v8_5, v8_6, v8_7])), (q_800, .inl (cA_800, 4800, .inr (.inl g0_2006))), (hc, .inr (0, [.int (zI (B1)), v_1, v_2, v_3, v_4, v_5, v_6, v_7, v_8, v_9, v_10, v_11, v_12, v_13, v_14, v_15, v_16, v_17, v_18])), (hf, .inr (2, [v2_0, v2_1, v2_2, v2_3, v2_4, v2_5, .ref q_206, v2_7, v2_8, v2_9, v2_10, v2_11, v2_12])), (q_206, .inl (cA_206, 1500, .inr (.inl fa2_frontier))), (hv4, .inr (4, [.int (zI (z4_words)), .ref q_401, v4_2, .ref q_403, v4_4, v4_5, v4_6, v4_7])), (q_401, .inl (cA_401, 4800, .inr (.inl fa4_start))), (q_403, .inl (cA_403, 4800, .inr (.inl fa4_sets)))]) hP hD [0, 5, 1, 6, 7, 2, 3, 4] [] rfl rfl (by decide) (by decide) hk1 hFc hP1 hD1
                  have hK := (hK.sub (tys' := []) [] rfl).app hK1
                  generalize H1 = H at hP hS ⊢
                  have hP : va_P (dC, dI) vwP [(h0, .inr (8, [.ref q_800, v8_1, v8_2, v8_3, v8_4, v8_5, v8_6, v8_7])), (q_800, .inl (cA_800, 4800, .inr (.inl g0_2006))), (hc, .inr (0, [.int (zI (B1)), v_1, v_2, v_3, v_4, v_5, v_6, v_7, v_8, v_9, v_10, v_11, v_12, v_13, v_14, v_15, v_16, v_17, v_18])), (hf, .inr (2, [v2_0, v2_1, v2_2, v2_3, v2_4, v2_5, .ref q_206, v2_7, v2_8, v2_9, v2_10, v2_11, v2_12])), (q_206, .inl (cA_206, 1500, .inr (.inl fa2_frontier))), (hv4, .inr (4, [.int (zI (z4_words)), .ref q_401, v4_2, .ref q_403, v4_4, v4_5, v4_6, v4_7])), (q_401, .inl (cA_401, 4800, .inr (.inl fa4_start))), (q_403, .inl (cA_403, 4800, .inr (.inl fa4_sets)))] H := hP
                  have hD : va_D A [(h0, .inr (8, [.ref q_800, v8_1, v8_2, v8_3, v8_4, v8_5, v8_6, v8_7])), (q_800, .inl (cA_800, 4800, .inr (.inl g0_2006))), (hc, .inr (0, [.int (zI (B1)), v_1, v_2, v_3, v_4, v_5, v_6, v_7, v_8, v_9, v_10, v_11, v_12, v_13, v_14, v_15, v_16, v_17, v_18])), (hf, .inr (2, [v2_0, v2_1, v2_2, v2_3, v2_4, v2_5, .ref q_206, v2_7, v2_8, v2_9, v2_10, v2_11, v2_12])), (q_206, .inl (cA_206, 1500, .inr (.inl fa2_frontier))), (hv4, .inr (4, [.int (zI (z4_words)), .ref q_401, v4_2, .ref q_403, v4_4, v4_5, v4_6, v4_7])), (q_401, .inl (cA_401, 4800, .inr (.inl fa4_start))), (q_403, .inl (cA_403, 4800, .inr (.inl fa4_sets)))] := hD
                  have hK : va_K (dC, dI) vwP [(cA_800, .long), (cA_206, .long), (cA_401, .long), (cA_403, .long)] s := hK
                  refine W.widen (k := 0) (n := 0) (Nat.le_of_ble_eq_true rfl) (Nat.le_of_ble_eq_true rfl) ?_
                  have hw_2007 := hw
                  obtain ⟨z_2008, rfl, hzz_2008⟩ := hw_2007
                  refine lv_if_eq (tgt := 73) hx hb dX8_placePhis_67 (by decide) (fun b67 => ?_) (fun b67 => ?_)
                  · have yb67 : (z_2008 : Int) = (0 : Int) := (zI_eq (a := z_2008) (b := 0) (by omega) (by omega) (by omega) (by omega)).mp b67
                    refine lv_iinc (v := zI (d40_6 + 1)) (lv' := [(6, .int (zI (d40_6 + 1))), (0, .ref h0), (1, .ref hc), (2, .ref hf), (3, .ref hv4), (4, .int (zI (d40_4))), (5, .int (zI (d22_5)))]) hx hb dX8_placePhis_73 hl (k := 6) rfl (zI_add (d40_6) (1)) (by decide) rfl (fun ls hl => ?_)
                    refine lv_goto (tgt := 40) hx hb dX8_placePhis_76 (by decide) ?_
                    have hP := hP.sub (ws' := [(h0, .inr (8, [.ref q_800, v8_1, v8_2, v8_3, v8_4, v8_5, v8_6, v8_7])), (hc, .inr (0, [.int (zI (B1)), v_1, v_2, v_3, v_4, v_5, v_6, v_7, v_8, v_9, v_10, v_11, v_12, v_13, v_14, v_15, v_16, v_17, v_18])), (hf, .inr (2, [v2_0, v2_1, v2_2, v2_3, v2_4, v2_5, .ref q_206, v2_7, v2_8, v2_9, v2_10, v2_11, v2_12])), (q_206, .inl (cA_206, 1500, .inr (.inl fa2_frontier))), (hv4, .inr (4, [.int (zI (z4_words)), .ref q_401, v4_2, .ref q_403, v4_4, v4_5, v4_6, v4_7])), (q_401, .inl (cA_401, 4800, .inr (.inl fa4_start))), (q_403, .inl (cA_403, 4800, .inr (.inl fa4_sets))), (q_800, .inl (cA_800, 4800, .inr (.inl g0_2006)))]) [0, 2, 3, 4, 5, 6, 7, 1] rfl
                    have hD := hD.sub (ws' := [(h0, .inr (8, [.ref q_800, v8_1, v8_2, v8_3, v8_4, v8_5, v8_6, v8_7])), (hc, .inr (0, [.int (zI (B1)), v_1, v_2, v_3, v_4, v_5, v_6, v_7, v_8, v_9, v_10, v_11, v_12, v_13, v_14, v_15, v_16, v_17, v_18])), (hf, .inr (2, [v2_0, v2_1, v2_2, v2_3, v2_4, v2_5, .ref q_206, v2_7, v2_8, v2_9, v2_10, v2_11, v2_12])), (q_206, .inl (cA_206, 1500, .inr (.inl fa2_frontier))), (hv4, .inr (4, [.int (zI (z4_words)), .ref q_401, v4_2, .ref q_403, v4_4, v4_5, v4_6, v4_7])), (q_401, .inl (cA_401, 4800, .inr (.inl fa4_start))), (q_403, .inl (cA_403, 4800, .inr (.inl fa4_sets))), (q_800, .inl (cA_800, 4800, .inr (.inl g0_2006)))]) [0, 2, 3, 4, 5, 6, 7, 1] (by decide) rfl
                    exact ih40 (d40_6 + 1) d40_4 g0_2006 ls H _ (by omega) (by omega) (by omega) (lv_sub hl [1, 2, 3, 4, 5, 6, 0] rfl) hP hD hS
                  · have yb67 : ¬ (z_2008 : Int) = (0 : Int) := fun q => b67 ((zI_eq (a := z_2008) (b := 0) (by omega) (by omega) (by omega) (by omega)).mpr q)
                    refine lv_iconst (v := 1) hx hb dX8_placePhis_70 (by decide) ?_
                    refine lv_istore (lv' := [(4, .int 1), (0, .ref h0), (1, .ref hc), (2, .ref hf), (3, .ref hv4), (5, .int (zI (d22_5))), (6, .int (zI (d40_6)))]) hx hb dX8_placePhis_71 hl (by decide) rfl (fun ls hl => ?_)
                    refine lv_iinc (v := zI (d40_6 + 1)) (lv' := [(6, .int (zI (d40_6 + 1))), (4, .int 1), (0, .ref h0), (1, .ref hc), (2, .ref hf), (3, .ref hv4), (5, .int (zI (d22_5)))]) hx hb dX8_placePhis_73 hl (k := 6) rfl (zI_add (d40_6) (1)) (by decide) rfl (fun ls hl => ?_)
                    refine lv_goto (tgt := 40) hx hb dX8_placePhis_76 (by decide) ?_
                    have hP := hP.sub (ws' := [(h0, .inr (8, [.ref q_800, v8_1, v8_2, v8_3, v8_4, v8_5, v8_6, v8_7])), (hc, .inr (0, [.int (zI (B1)), v_1, v_2, v_3, v_4, v_5, v_6, v_7, v_8, v_9, v_10, v_11, v_12, v_13, v_14, v_15, v_16, v_17, v_18])), (hf, .inr (2, [v2_0, v2_1, v2_2, v2_3, v2_4, v2_5, .ref q_206, v2_7, v2_8, v2_9, v2_10, v2_11, v2_12])), (q_206, .inl (cA_206, 1500, .inr (.inl fa2_frontier))), (hv4, .inr (4, [.int (zI (z4_words)), .ref q_401, v4_2, .ref q_403, v4_4, v4_5, v4_6, v4_7])), (q_401, .inl (cA_401, 4800, .inr (.inl fa4_start))), (q_403, .inl (cA_403, 4800, .inr (.inl fa4_sets))), (q_800, .inl (cA_800, 4800, .inr (.inl g0_2006)))]) [0, 2, 3, 4, 5, 6, 7, 1] rfl
                    have hD := hD.sub (ws' := [(h0, .inr (8, [.ref q_800, v8_1, v8_2, v8_3, v8_4, v8_5, v8_6, v8_7])), (hc, .inr (0, [.int (zI (B1)), v_1, v_2, v_3, v_4, v_5, v_6, v_7, v_8, v_9, v_10, v_11, v_12, v_13, v_14, v_15, v_16, v_17, v_18])), (hf, .inr (2, [v2_0, v2_1, v2_2, v2_3, v2_4, v2_5, .ref q_206, v2_7, v2_8, v2_9, v2_10, v2_11, v2_12])), (q_206, .inl (cA_206, 1500, .inr (.inl fa2_frontier))), (hv4, .inr (4, [.int (zI (z4_words)), .ref q_401, v4_2, .ref q_403, v4_4, v4_5, v4_6, v4_7])), (q_401, .inl (cA_401, 4800, .inr (.inl fa4_start))), (q_403, .inl (cA_403, 4800, .inr (.inl fa4_sets))), (q_800, .inl (cA_800, 4800, .inr (.inl g0_2006)))]) [0, 2, 3, 4, 5, 6, 7, 1] (by decide) rfl
                    exact ih40 (d40_6 + 1) 1 g0_2006 ls H _ (by omega) (by omega) (by omega) (lv_sub hl [2, 3, 4, 5, 1, 6, 0] rfl) hP hD hS
          exact key40 (((B1) - (0) : Int).toNat + 1) 0 0 w22_800 ls H _ (by omega) (by omega) (by omega) (lv_sub hl [2, 3, 4, 5, 1, 6, 0] rfl) hP hD hS
  exact key22 ((1000000 - 0 : Int).toNat + 1) 0 1 g0_2001 ls H _ (by omega) (by omega) (by omega) (lv_sub hl [2, 3, 4, 5, 1, 0] rfl) hP hD hS
