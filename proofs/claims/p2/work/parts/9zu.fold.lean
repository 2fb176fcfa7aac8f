theorem dX1_markNumbers_0 : decode cX1_markNumbers 0 = .ok (.iconst 0, 1) := by decide +kernel
theorem dX1_markNumbers_1 : decode cX1_markNumbers 1 = .ok (.istore_n 3, 1) := by decide +kernel
theorem dX1_markNumbers_2 : decode cX1_markNumbers 2 = .ok (.aload_n 1, 1) := by decide +kernel
theorem dX1_markNumbers_3 : decode cX1_markNumbers 3 = .ok (.getfield 74, 3) := by decide +kernel
theorem dX1_markNumbers_6 : decode cX1_markNumbers 6 = .ok (.iload_n 2, 1) := by decide +kernel
theorem dX1_markNumbers_7 : decode cX1_markNumbers 7 = .ok (.iaload, 1) := by decide +kernel
theorem dX1_markNumbers_8 : decode cX1_markNumbers 8 = .ok (.istore 4, 2) := by decide +kernel
theorem dX1_markNumbers_10 : decode cX1_markNumbers 10 = .ok (.iload 4, 2) := by decide +kernel
theorem dX1_markNumbers_12 : decode cX1_markNumbers 12 = .ok (.aload_n 1, 1) := by decide +kernel
theorem dX1_markNumbers_13 : decode cX1_markNumbers 13 = .ok (.getfield 74, 3) := by decide +kernel
theorem dX1_markNumbers_16 : decode cX1_markNumbers 16 = .ok (.iload_n 2, 1) := by decide +kernel
theorem dX1_markNumbers_17 : decode cX1_markNumbers 17 = .ok (.iconst 1, 1) := by decide +kernel
theorem dX1_markNumbers_18 : decode cX1_markNumbers 18 = .ok (.iadd, 1) := by decide +kernel
theorem dX1_markNumbers_19 : decode cX1_markNumbers 19 = .ok (.iaload, 1) := by decide +kernel
theorem dX1_markNumbers_20 : decode cX1_markNumbers 20 = .ok (.if_icmp .ge 36, 3) := by decide +kernel
theorem dX1_markNumbers_56 : decode cX1_markNumbers 56 = .ok (.aload_n 1, 1) := by decide +kernel
theorem dX1_markNumbers_57 : decode cX1_markNumbers 57 = .ok (.getfield 81, 3) := by decide +kernel
theorem dX1_markNumbers_60 : decode cX1_markNumbers 60 = .ok (.iload_n 2, 1) := by decide +kernel
theorem dX1_markNumbers_61 : decode cX1_markNumbers 61 = .ok (.iaload, 1) := by decide +kernel
theorem dX1_markNumbers_62 : decode cX1_markNumbers 62 = .ok (.istore 4, 2) := by decide +kernel
theorem dX1_markNumbers_64 : decode cX1_markNumbers 64 = .ok (.iload 4, 2) := by decide +kernel
theorem dX1_markNumbers_66 : decode cX1_markNumbers 66 = .ok (.aload_n 1, 1) := by decide +kernel
theorem dX1_markNumbers_67 : decode cX1_markNumbers 67 = .ok (.getfield 81, 3) := by decide +kernel
theorem dX1_markNumbers_70 : decode cX1_markNumbers 70 = .ok (.iload_n 2, 1) := by decide +kernel
theorem dX1_markNumbers_71 : decode cX1_markNumbers 71 = .ok (.iconst 1, 1) := by decide +kernel
theorem dX1_markNumbers_72 : decode cX1_markNumbers 72 = .ok (.iadd, 1) := by decide +kernel
theorem dX1_markNumbers_73 : decode cX1_markNumbers 73 = .ok (.iaload, 1) := by decide +kernel
theorem dX1_markNumbers_74 : decode cX1_markNumbers 74 = .ok (.if_icmp .ge 46, 3) := by decide +kernel
theorem dX1_markNumbers_120 : decode cX1_markNumbers 120 = .ok (.iload_n 3, 1) := by decide +kernel
theorem dX1_markNumbers_121 : decode cX1_markNumbers 121 = .ok (.ireturn, 1) := by decide +kernel
theorem dX1_markNumbers_77 : decode cX1_markNumbers 77 = .ok (.aload_n 1, 1) := by decide +kernel
theorem dX1_markNumbers_78 : decode cX1_markNumbers 78 = .ok (.getfield 84, 3) := by decide +kernel
theorem dX1_markNumbers_81 : decode cX1_markNumbers 81 = .ok (.iload 4, 2) := by decide +kernel
theorem dX1_markNumbers_83 : decode cX1_markNumbers 83 = .ok (.iaload, 1) := by decide +kernel
theorem dX1_markNumbers_84 : decode cX1_markNumbers 84 = .ok (.ifCond .lt 30, 3) := by decide +kernel
theorem dX1_markNumbers_114 : decode cX1_markNumbers 114 = .ok (.iinc 4 1, 3) := by decide +kernel
theorem dX1_markNumbers_117 : decode cX1_markNumbers 117 = .ok (.goto (-53), 3) := by decide +kernel
theorem dX1_markNumbers_87 : decode cX1_markNumbers 87 = .ok (.aload_n 0, 1) := by decide +kernel
theorem dX1_markNumbers_88 : decode cX1_markNumbers 88 = .ok (.getfield 21, 3) := by decide +kernel
theorem dX1_markNumbers_91 : decode cX1_markNumbers 91 = .ok (.aload_n 1, 1) := by decide +kernel
theorem dX1_markNumbers_92 : decode cX1_markNumbers 92 = .ok (.getfield 84, 3) := by decide +kernel
theorem dX1_markNumbers_95 : decode cX1_markNumbers 95 = .ok (.iload 4, 2) := by decide +kernel
theorem dX1_markNumbers_97 : decode cX1_markNumbers 97 = .ok (.iaload, 1) := by decide +kernel
theorem dX1_markNumbers_98 : decode cX1_markNumbers 98 = .ok (.iaload, 1) := by decide +kernel
theorem dX1_markNumbers_99 : decode cX1_markNumbers 99 = .ok (.iconst 1, 1) := by decide +kernel
theorem dX1_markNumbers_100 : decode cX1_markNumbers 100 = .ok (.if_icmp .ne 14, 3) := by decide +kernel
theorem dX1_markNumbers_103 : decode cX1_markNumbers 103 = .ok (.aload_n 1, 1) := by decide +kernel
theorem dX1_markNumbers_104 : decode cX1_markNumbers 104 = .ok (.getfield 134, 3) := by decide +kernel
theorem dX1_markNumbers_107 : decode cX1_markNumbers 107 = .ok (.iload 4, 2) := by decide +kernel
theorem dX1_markNumbers_109 : decode cX1_markNumbers 109 = .ok (.iconst (-1), 1) := by decide +kernel
theorem dX1_markNumbers_110 : decode cX1_markNumbers 110 = .ok (.iastore, 1) := by decide +kernel
theorem dX1_markNumbers_111 : decode cX1_markNumbers 111 = .ok (.iinc 3 1, 3) := by decide +kernel
theorem dX1_markNumbers_23 : decode cX1_markNumbers 23 = .ok (.aload_n 0, 1) := by decide +kernel
theorem dX1_markNumbers_24 : decode cX1_markNumbers 24 = .ok (.getfield 21, 3) := by decide +kernel
theorem dX1_markNumbers_27 : decode cX1_markNumbers 27 = .ok (.aload_n 1, 1) := by decide +kernel
theorem dX1_markNumbers_28 : decode cX1_markNumbers 28 = .ok (.getfield 127, 3) := by decide +kernel
theorem dX1_markNumbers_31 : decode cX1_markNumbers 31 = .ok (.iload 4, 2) := by decide +kernel
theorem dX1_markNumbers_33 : decode cX1_markNumbers 33 = .ok (.iaload, 1) := by decide +kernel
theorem dX1_markNumbers_34 : decode cX1_markNumbers 34 = .ok (.iaload, 1) := by decide +kernel
theorem dX1_markNumbers_35 : decode cX1_markNumbers 35 = .ok (.iconst 1, 1) := by decide +kernel
theorem dX1_markNumbers_36 : decode cX1_markNumbers 36 = .ok (.if_icmp .ne 14, 3) := by decide +kernel
theorem dX1_markNumbers_50 : decode cX1_markNumbers 50 = .ok (.iinc 4 1, 3) := by decide +kernel
theorem dX1_markNumbers_53 : decode cX1_markNumbers 53 = .ok (.goto (-43), 3) := by decide +kernel
theorem dX1_markNumbers_39 : decode cX1_markNumbers 39 = .ok (.aload_n 1, 1) := by decide +kernel
theorem dX1_markNumbers_40 : decode cX1_markNumbers 40 = .ok (.getfield 127, 3) := by decide +kernel
theorem dX1_markNumbers_43 : decode cX1_markNumbers 43 = .ok (.iload 4, 2) := by decide +kernel
theorem dX1_markNumbers_45 : decode cX1_markNumbers 45 = .ok (.iconst (-1), 1) := by decide +kernel
theorem dX1_markNumbers_46 : decode cX1_markNumbers 46 = .ok (.iastore, 1) := by decide +kernel
theorem dX1_markNumbers_47 : decode cX1_markNumbers 47 = .ok (.iinc 3 1, 3) := by decide +kernel
def o_X1_markNumbersL : List Cond := [.fieldLink RX1 74 "SsaForge$Code" "phiStart" "[I", .fieldLink RX1 81 "SsaForge$Code" "rowStart" "[I", .fieldLink RX1 84 "SsaForge$Code" "target" "[I", .fieldLink RX1 21 "SsaForge$Constants" "kinds" "[I", .fieldLink RX1 134 "SsaForge$Code" "op" "[I", .fieldLink RX1 127 "SsaForge$Code" "phiTarget" "[I"]
def v_X1_markNumbersL : List Cond := .code yX1_markNumbers cX1_markNumbers 5 (some .int) :: (o_X1_markNumbersL ++ (wsX00 ++ (wsX10 ++ [])))
theorem mow_X1_markNumbersL : ∀ w ∈ o_X1_markNumbersL, w ∈ v_X1_markNumbersL := fun _ h => List.mem_cons_of_mem _ (List.mem_append_left _ h)
theorem mem_X1_markNumbersL_0 : ∀ w ∈ wsX00, w ∈ v_X1_markNumbersL := fun _ h => List.mem_cons_of_mem _ (List.mem_append_right _ (List.mem_append_left _ h))
theorem mem_X1_markNumbersL_1 : ∀ w ∈ wsX10, w ∈ v_X1_markNumbersL := fun _ h => List.mem_cons_of_mem _ (List.mem_append_right _ (List.mem_append_right _ (List.mem_append_left _ h)))
set_option maxRecDepth 20000 in
theorem gw_X1_markNumbersL : v_X1_markNumbersL.all goodWord = true := by decide +kernel
set_option maxHeartbeats 4000000 in
set_option maxRecDepth 100000 in
theorem c_X1_markNumbersL (l : Launch) (dC : Nat → ClassId) (dI : Nat → Nat → Nat) (h0 : Nat) (v1_0 : Value) (v1_1 : Value) (v1_2 : Value) (q_103 : Nat) (cA_103 : ClassId) (a1_kinds : Int → Int) (v1_4 : Value) (v1_5 : Value) (hc : Nat) (v_0 : Value) (v_1 : Value) (v_2 : Value) (v_3 : Value) (q_704 : Nat) (cA_704 : ClassId) (a_4 : Int → Int) (q_705 : Nat) (cA_705 : ClassId) (a_5 : Int → Int) (q_706 : Nat) (cA_706 : ClassId) (a_6 : Int → Int) (v_7 : Value) (v_8 : Value) (v_9 : Value) (v_10 : Value) (v_11 : Value) (v_12 : Value) (v_13 : Value) (v_14 : Value) (q_715 : Nat) (cA_715 : ClassId) (a_15 : Int → Int) (q_716 : Nat) (cA_716 : ClassId) (a_16 : Int → Int) (v_17 : Value) (v_18 : Value) (b : Int) (hR_a1_kinds : ∀ j : Int, 0 ≤ a1_kinds j ∧ a1_kinds j ≤ 2) (hR_a_4 : ∀ j : Int, 0 ≤ a_4 j ∧ a_4 j ≤ 2000) (hR_a_5 : ∀ j : Int, -1 ≤ a_5 j ∧ a_5 j ≤ 100) (hR_a_6 : ∀ j : Int, -1 ≤ a_6 j ∧ a_6 j ≤ 1023) (hR_a_15 : ∀ j : Int, 0 ≤ a_15 j ∧ a_15 j ≤ 1000) (hR_a_16 : ∀ j : Int, -1 ≤ a_16 j ∧ a_16 j ≤ 1023) (hNb : 0 ≤ b ∧ b < 300) (hNm : a_15 b ≤ a_15 (b + 1)) (hX_T2 : ∀ i : Int, a_15 b ≤ i → i < a_15 (b + 1) → 0 ≤ a_16 i) (sz : Nat) : Met l yX1_markNumbers v_X1_markNumbersL ({ frames := 0, cells := 0, slots := 0, locals := 0 }) (va_Pc [.ref h0, .ref hc, .int (zI (b))] (fun U => U.heap.size = sz ∧ va_P (dC, dI) vwP [(h0, .inr (1, [v1_0, v1_1, v1_2, .ref q_103, v1_4, v1_5])), (q_103, .inl (cA_103, 1024, .inl (fun j : Nat => zI (a1_kinds (j : Int))))), (hc, .inr (0, [v_0, v_1, v_2, v_3, .ref q_704, .ref q_705, .ref q_706, v_7, v_8, v_9, v_10, v_11, v_12, v_13, v_14, .ref q_715, .ref q_716, v_17, v_18])), (q_704, .inl (cA_704, 301, .inl (fun j : Nat => zI (a_4 (j : Int))))), (q_705, .inl (cA_705, 2000, .inl (fun j : Nat => zI (a_5 (j : Int))))), (q_706, .inl (cA_706, 2000, .inl (fun j : Nat => zI (a_6 (j : Int))))), (q_715, .inl (cA_715, 301, .inl (fun j : Nat => zI (a_15 (j : Int))))), (q_716, .inl (cA_716, 1000, .inl (fun j : Nat => zI (a_16 (j : Int)))))] U.heap ∧ va_K (dC, dI) vwP [(cA_103, .int), (cA_704, .int), (cA_705, .int), (cA_706, .int), (cA_715, .int), (cA_716, .int)] U ∧ va_D (fun _ => True) [(h0, .inr (1, [v1_0, v1_1, v1_2, .ref q_103, v1_4, v1_5])), (q_103, .inl (cA_103, 1024, .inl (fun j : Nat => zI (a1_kinds (j : Int))))), (hc, .inr (0, [v_0, v_1, v_2, v_3, .ref q_704, .ref q_705, .ref q_706, v_7, v_8, v_9, v_10, v_11, v_12, v_13, v_14, .ref q_715, .ref q_716, v_17, v_18])), (q_704, .inl (cA_704, 301, .inl (fun j : Nat => zI (a_4 (j : Int))))), (q_705, .inl (cA_705, 2000, .inl (fun j : Nat => zI (a_5 (j : Int))))), (q_706, .inl (cA_706, 2000, .inl (fun j : Nat => zI (a_6 (j : Int))))), (q_715, .inl (cA_715, 301, .inl (fun j : Nat => zI (a_15 (j : Int))))), (q_716, .inl (cA_716, 1000, .inl (fun j : Nat => zI (a_16 (j : Int)))))])) (va_Qi (fun (r : Int32) (_ : Unit) => ∃ z : Int, r = zI z ∧ (0 ≤ z ∧ z ≤ 3000)) (fun (_ : Unit) (t : State) => ∃ (a0_9 : Int → Int) (a1_9 : Int → Int), ((∀ j : Int, -1 ≤ a0_9 j ∧ a0_9 j ≤ 100) ∧ (∀ j : Int, -1 ≤ a1_9 j ∧ a1_9 j ≤ 1023) ∧ (PGB a1_9 a_16 (a_15 b) (a_15 (b + 1)) ∧ OGN a0_9 a_5 a_6)) ∧ va_P (dC, dI) vwP [(h0, .inr (1, [v1_0, v1_1, v1_2, .ref q_103, v1_4, v1_5])), (q_103, .inl (cA_103, 1024, .inl (fun j : Nat => zI (a1_kinds (j : Int))))), (hc, .inr (0, [v_0, v_1, v_2, v_3, .ref q_704, .ref q_705, .ref q_706, v_7, v_8, v_9, v_10, v_11, v_12, v_13, v_14, .ref q_715, .ref q_716, v_17, v_18])), (q_704, .inl (cA_704, 301, .inl (fun j : Nat => zI (a_4 (j : Int))))), (q_705, .inl (cA_705, 2000, .inl (fun j : Nat => zI (a0_9 (j : Int))))), (q_706, .inl (cA_706, 2000, .inl (fun j : Nat => zI (a_6 (j : Int))))), (q_715, .inl (cA_715, 301, .inl (fun j : Nat => zI (a_15 (j : Int))))), (q_716, .inl (cA_716, 1000, .inl (fun j : Nat => zI (a1_9 (j : Int)))))] t.heap ∧ va_K (dC, dI) vwP [(cA_103, .int), (cA_704, .int), (cA_705, .int), (cA_706, .int), (cA_715, .int), (cA_716, .int)] t ∧ va_D (va_A [(h0, .inr (1, [v1_0, v1_1, v1_2, .ref q_103, v1_4, v1_5])), (q_103, .inl (cA_103, 1024, .inl (fun j : Nat => zI (a1_kinds (j : Int))))), (hc, .inr (0, [v_0, v_1, v_2, v_3, .ref q_704, .ref q_705, .ref q_706, v_7, v_8, v_9, v_10, v_11, v_12, v_13, v_14, .ref q_715, .ref q_716, v_17, v_18])), (q_704, .inl (cA_704, 301, .inl (fun j : Nat => zI (a_4 (j : Int))))), (q_705, .inl (cA_705, 2000, .inl (fun j : Nat => zI (a_5 (j : Int))))), (q_706, .inl (cA_706, 2000, .inl (fun j : Nat => zI (a_6 (j : Int))))), (q_715, .inl (cA_715, 301, .inl (fun j : Nat => zI (a_15 (j : Int))))), (q_716, .inl (cA_716, 1000, .inl (fun j : Nat => zI (a_16 (j : Int)))))] sz) [(h0, .inr (1, [v1_0, v1_1, v1_2, .ref q_103, v1_4, v1_5])), (q_103, .inl (cA_103, 1024, .inl (fun j : Nat => zI (a1_kinds (j : Int))))), (hc, .inr (0, [v_0, v_1, v_2, v_3, .ref q_704, .ref q_705, .ref q_706, v_7, v_8, v_9, v_10, v_11, v_12, v_13, v_14, .ref q_715, .ref q_716, v_17, v_18])), (q_704, .inl (cA_704, 301, .inl (fun j : Nat => zI (a_4 (j : Int))))), (q_705, .inl (cA_705, 2000, .inl (fun j : Nat => zI (a0_9 (j : Int))))), (q_706, .inl (cA_706, 2000, .inl (fun j : Nat => zI (a_6 (j : Int))))), (q_715, .inl (cA_715, 301, .inl (fun j : Nat => zI (a_15 (j : Int))))), (q_716, .inl (cA_716, 1000, .inl (fun j : Nat => zI (a1_9 (j : Int)))))]) (va_A [(h0, .inr (1, [v1_0, v1_1, v1_2, .ref q_103, v1_4, v1_5])), (q_103, .inl (cA_103, 1024, .inl (fun j : Nat => zI (a1_kinds (j : Int))))), (hc, .inr (0, [v_0, v_1, v_2, v_3, .ref q_704, .ref q_705, .ref q_706, v_7, v_8, v_9, v_10, v_11, v_12, v_13, v_14, .ref q_715, .ref q_716, v_17, v_18])), (q_704, .inl (cA_704, 301, .inl (fun j : Nat => zI (a_4 (j : Int))))), (q_705, .inl (cA_705, 2000, .inl (fun j : Nat => zI (a_5 (j : Int))))), (q_706, .inl (cA_706, 2000, .inl (fun j : Nat => zI (a_6 (j : Int))))), (q_715, .inl (cA_715, 301, .inl (fun j : Nat => zI (a_15 (j : Int))))), (q_716, .inl (cA_716, 1000, .inl (fun j : Nat => zI (a_16 (j : Int)))))] sz)) 0 0 (va_A [(h0, .inr (1, [v1_0, v1_1, v1_2, .ref q_103, v1_4, v1_5])), (q_103, .inl (cA_103, 1024, .inl (fun j : Nat => zI (a1_kinds (j : Int))))), (hc, .inr (0, [v_0, v_1, v_2, v_3, .ref q_704, .ref q_705, .ref q_706, v_7, v_8, v_9, v_10, v_11, v_12, v_13, v_14, .ref q_715, .ref q_716, v_17, v_18])), (q_704, .inl (cA_704, 301, .inl (fun j : Nat => zI (a_4 (j : Int))))), (q_705, .inl (cA_705, 2000, .inl (fun j : Nat => zI (a_5 (j : Int))))), (q_706, .inl (cA_706, 2000, .inl (fun j : Nat => zI (a_6 (j : Int))))), (q_715, .inl (cA_715, 301, .inl (fun j : Nat => zI (a_15 (j : Int))))), (q_716, .inl (cA_716, 1000, .inl (fun j : Nat => zI (a_16 (j : Int)))))] sz) := by
  refine Met.ofW (cc := cX1_markNumbers) (maxL := 5) (ret := (some .int)) (by decide) rfl ?_
  intro p e s m args below meth c s₁ B hml hv
  obtain ⟨rfl, hsz, hP, hK, hD0⟩ := hv
  have hx := B.exec
  have hb := B.bytes
  have hr := B.returns
  have hts := atoms_spec (ws := v_X1_markNumbersL) B.pre
  have hown : s.vm.findClass RX1 = some m.cls := findClass_of_methodNamed B.named
  have hlocks := B.notSynchronized
  have ow : ∀ {k : Nat} {w : Cond}, o_X1_markNumbersL[k]? = some w → w.before ([.ref h0, .ref hc, .int (zI (b))] : List Value).toArray s = true := fun h => hts _ (mow_X1_markNumbersL _ (List.mem_of_getElem? h))
  subst hsz
  have hD := hD0.self (sz := s.heap.size)
  generalize hAe : va_A [(h0, .inr (1, [v1_0, v1_1, v1_2, .ref q_103, v1_4, v1_5])), (q_103, .inl (cA_103, 1024, .inl (fun j : Nat => zI (a1_kinds (j : Int))))), (hc, .inr (0, [v_0, v_1, v_2, v_3, .ref q_704, .ref q_705, .ref q_706, v_7, v_8, v_9, v_10, v_11, v_12, v_13, v_14, .ref q_715, .ref q_716, v_17, v_18])), (q_704, .inl (cA_704, 301, .inl (fun j : Nat => zI (a_4 (j : Int))))), (q_705, .inl (cA_705, 2000, .inl (fun j : Nat => zI (a_5 (j : Int))))), (q_706, .inl (cA_706, 2000, .inl (fun j : Nat => zI (a_6 (j : Int))))), (q_715, .inl (cA_715, 301, .inl (fun j : Nat => zI (a_15 (j : Int))))), (q_716, .inl (cA_716, 1000, .inl (fun j : Nat => zI (a_16 (j : Int)))))] s.heap.size = A at hD ⊢
  have hA : ∀ q : Nat, s.heap.size ≤ q → A q := fun q h => by rw [← hAe]; exact Or.inr h
  have hS : va_S A s.heap s.heap [] := va_S.rf
  have hP : va_P (dC, dI) vwP [(h0, .inr (1, [v1_0, v1_1, v1_2, .ref q_103, v1_4, v1_5])), (q_103, .inl (cA_103, 1024, .inl (fun j : Nat => zI (a1_kinds (j : Int))))), (hc, .inr (0, [v_0, v_1, v_2, v_3, .ref q_704, .ref q_705, .ref q_706, v_7, v_8, v_9, v_10, v_11, v_12, v_13, v_14, .ref q_715, .ref q_716, v_17, v_18])), (q_704, .inl (cA_704, 301, .inl (fun j : Nat => zI (a_4 (j : Int))))), (q_705, .inl (cA_705, 2000, .inl (fun j : Nat => zI (a_5 (j : Int))))), (q_706, .inl (cA_706, 2000, .inl (fun j : Nat => zI (a_6 (j : Int))))), (q_715, .inl (cA_715, 301, .inl (fun j : Nat => zI (a_15 (j : Int))))), (q_716, .inl (cA_716, 1000, .inl (fun j : Nat => zI (a_16 (j : Int)))))] s.heap := hP
  have hl := lv_entry ([.ref h0, .ref hc, .int (zI (b))]) (n := 5) (Nat.le_of_ble_eq_true rfl)
  rw [lg_entry_eq]
  generalize (lg_sl ([.ref h0, .ref hc, .int (zI (b))]) ++ List.replicate (5 - (lg_sl ([.ref h0, .ref hc, .int (zI (b))])).length) Slot.unset).toArray = ls at hl ⊢
  have hl : lv_has ls 5 [(0, .ref h0), (1, .ref hc), (2, .int (zI (b)))] := hl
  obtain ⟨H, hH⟩ : ∃ H, H = s.heap := ⟨_, rfl⟩
  rw [← hH] at hP
  have hS : va_S A s.heap H [] := by rw [hH]; exact hS
  rw [← hH]
  refine zW_cap (fun Q hQ => ?_)
  have hr9 := hR_a_15 b
  have hr8 := hR_a_15 (b + 1)
  refine lv_iconst (v := 0) hx hb dX1_markNumbers_0 (by decide) ?_
  refine lv_istore_n (lv' := [(3, .int 0), (0, .ref h0), (1, .ref hc), (2, .int (zI (b)))]) hx hb dX1_markNumbers_1 rfl hl (by decide) rfl (fun ls hl => ?_)
  refine lv_aload_n hx hb dX1_markNumbers_2 rfl (lv_at hl 2 rfl) ?_
  refine va_get (D := (dC, dI)) (ci := 0) (v := .ref q_715) (C := RX0) (T := TX0) (N := 19) hx hb hts mem_X1_markNumbersL_0 hown hK hP 2 rfl rfl 15 (by decide) (ow (k := 0) rfl) (fun _ h9 => h9) rfl dX1_markNumbers_3 ?_
  refine lv_iload_n hx hb dX1_markNumbers_6 rfl (lv_at hl 3 rfl) ?_
  refine va_iald hx hb hK hP 6 4 rfl rfl (zI_in (a := b) (n := 301) (by omega) (by omega) (by decide)) dX1_markNumbers_7 ?_
  refine lv_topi (fun z ez => ?_)
  obtain rfl : z = zI (a_15 (b)) := ez.trans (zI_ld (a_15) (by omega) (by omega))
  have k1 := hR_a_15 (b)
  refine lv_istore (lv' := [(4, .int (zI (a_15 (b)))), (3, .int 0), (0, .ref h0), (1, .ref hc), (2, .int (zI (b)))]) hx hb dX1_markNumbers_8 hl (by decide) rfl (fun ls hl => ?_)
  have key10 : ∀ n10 : Nat, ∀ (d10_4 : Int) (d10_3 : Int) (w10_716 : Int → Int) (ls : Array Slot) (H : Heap) (locs : List Loc), (a_15 b ≤ d10_4 ∧ d10_4 ≤ a_15 (b + 1)) → (0 ≤ d10_3 ∧ d10_3 ≤ d10_4) → (∀ j : Int, -1 ≤ w10_716 j ∧ w10_716 j ≤ 1023) → (PGB w10_716 a_16 (a_15 b) d10_4) → (((a_15 (b + 1)) - (d10_4) : Int).toNat) < n10 → lv_has ls 5 [(0, .ref h0), (1, .ref hc), (2, .int (zI (b))), (3, .int (zI (d10_3))), (4, .int (zI (d10_4)))] → va_P (dC, dI) vwP [(h0, .inr (1, [v1_0, v1_1, v1_2, .ref q_103, v1_4, v1_5])), (q_103, .inl (cA_103, 1024, .inl (fun j : Nat => zI (a1_kinds (j : Int))))), (hc, .inr (0, [v_0, v_1, v_2, v_3, .ref q_704, .ref q_705, .ref q_706, v_7, v_8, v_9, v_10, v_11, v_12, v_13, v_14, .ref q_715, .ref q_716, v_17, v_18])), (q_704, .inl (cA_704, 301, .inl (fun j : Nat => zI (a_4 (j : Int))))), (q_705, .inl (cA_705, 2000, .inl (fun j : Nat => zI (a_5 (j : Int))))), (q_706, .inl (cA_706, 2000, .inl (fun j : Nat => zI (a_6 (j : Int))))), (q_715, .inl (cA_715, 301, .inl (fun j : Nat => zI (a_15 (j : Int))))), (q_716, .inl (cA_716, 1000, .inl (fun j : Nat => zI (w10_716 (j : Int)))))] H → va_D A [(h0, .inr (1, [v1_0, v1_1, v1_2, .ref q_103, v1_4, v1_5])), (q_103, .inl (cA_103, 1024, .inl (fun j : Nat => zI (a1_kinds (j : Int))))), (hc, .inr (0, [v_0, v_1, v_2, v_3, .ref q_704, .ref q_705, .ref q_706, v_7, v_8, v_9, v_10, v_11, v_12, v_13, v_14, .ref q_715, .ref q_716, v_17, v_18])), (q_704, .inl (cA_704, 301, .inl (fun j : Nat => zI (a_4 (j : Int))))), (q_705, .inl (cA_705, 2000, .inl (fun j : Nat => zI (a_5 (j : Int))))), (q_706, .inl (cA_706, 2000, .inl (fun j : Nat => zI (a_6 (j : Int))))), (q_715, .inl (cA_715, 301, .inl (fun j : Nat => zI (a_15 (j : Int))))), (q_716, .inl (cA_716, 1000, .inl (fun j : Nat => zI (w10_716 (j : Int)))))] → va_S A s.heap H locs → W p l e (headSpec v_X1_markNumbersL ({ frames := 0, cells := 0, slots := 0, locals := 0 })).room s m ([.ref h0, .ref hc, .int (zI (b))] : List Value).toArray below meth c H locs 0 0 Q (F0 m 10 ls []) := by
    intro n10
    induction n10 with
    | zero => intro d10_4 d10_3 w10_716 ls H locs jd10_4 jd10_3 jw10_716 jp hm10; exact absurd hm10 (by omega)
    | succ n10 ih10 =>
      intro d10_4 d10_3 w10_716 ls H locs jd10_4 jd10_3 jw10_716 jp hm10 hl hP hD hS
      refine lv_iload hx hb dX1_markNumbers_10 (lv_at hl 4 rfl) ?_
      refine lv_aload_n hx hb dX1_markNumbers_12 rfl (lv_at hl 1 rfl) ?_
      refine va_get (D := (dC, dI)) (ci := 0) (v := .ref q_715) (C := RX0) (T := TX0) (N := 19) hx hb hts mem_X1_markNumbersL_0 hown hK hP 2 rfl rfl 15 (by decide) (ow (k := 0) rfl) (fun _ h9 => h9) rfl dX1_markNumbers_13 ?_
      refine lv_iload_n hx hb dX1_markNumbers_16 rfl (lv_at hl 2 rfl) ?_
      refine lv_iconst (v := 1) hx hb dX1_markNumbers_17 (by decide) ?_
      refine lv_iadd hx hb dX1_markNumbers_18 ?_
      refine lv_topi (fun z ez => ?_)
      obtain rfl : z = zI (b + 1) := ez.trans (zI_add (b) (1))
      refine va_iald hx hb hK hP 6 4 rfl rfl (zI_in (a := b + 1) (n := 301) (by omega) (by omega) (by decide)) dX1_markNumbers_19 ?_
      refine lv_topi (fun z ez => ?_)
      obtain rfl : z = zI (a_15 (b + 1)) := ez.trans (zI_ld (a_15) (by omega) (by omega))
      have k2 := hR_a_15 (b + 1)
      refine lv_icmp_ge (tgt := 56) hx hb dX1_markNumbers_20 (by decide) (fun b20 => ?_) (fun b20 => ?_)
      · have yb20 : (a_15 (b + 1) : Int) ≤ (d10_4 : Int) := (zI_le (a := a_15 (b + 1)) (b := d10_4) (by omega) (by omega) (by omega) (by omega)).mp b20
        refine lv_aload_n hx hb dX1_markNumbers_56 rfl (lv_at hl 1 rfl) ?_
        refine va_get (D := (dC, dI)) (ci := 0) (v := .ref q_704) (C := RX0) (T := TX0) (N := 19) hx hb hts mem_X1_markNumbersL_0 hown hK hP 2 rfl rfl 4 (by decide) (ow (k := 1) rfl) (fun _ h9 => h9) rfl dX1_markNumbers_57 ?_
        refine lv_iload_n hx hb dX1_markNumbers_60 rfl (lv_at hl 2 rfl) ?_
        refine va_iald hx hb hK hP 3 1 rfl rfl (zI_in (a := b) (n := 301) (by omega) (by omega) (by decide)) dX1_markNumbers_61 ?_
        refine lv_topi (fun z ez => ?_)
        obtain rfl : z = zI (a_4 (b)) := ez.trans (zI_ld (a_4) (by omega) (by omega))
        have k3 := hR_a_4 (b)
        refine lv_istore (lv' := [(4, .int (zI (a_4 (b)))), (0, .ref h0), (1, .ref hc), (2, .int (zI (b))), (3, .int (zI (d10_3)))]) hx hb dX1_markNumbers_62 hl (by decide) rfl (fun ls hl => ?_)
        have key64 : ∀ n64 : Nat, ∀ (d64_4 : Int) (d64_3 : Int) (w64_705 : Int → Int) (ls : Array Slot) (H : Heap) (locs : List Loc), (0 ≤ d64_4 ∧ d64_4 ≤ 2000) → (0 ≤ d64_3 ∧ d64_3 ≤ 1000 + d64_4) → (∀ j : Int, -1 ≤ w64_705 j ∧ w64_705 j ≤ 100) → (OGN w64_705 a_5 a_6) → (((a_4 (b + 1)) - (d64_4) : Int).toNat) < n64 → lv_has ls 5 [(0, .ref h0), (1, .ref hc), (2, .int (zI (b))), (3, .int (zI (d64_3))), (4, .int (zI (d64_4)))] → va_P (dC, dI) vwP [(h0, .inr (1, [v1_0, v1_1, v1_2, .ref q_103, v1_4, v1_5])), (q_103, .inl (cA_103, 1024, .inl (fun j : Nat => zI (a1_kinds (j : Int))))), (hc, .inr (0, [v_0, v_1, v_2, v_3, .ref q_704, .ref q_705, .ref q_706, v_7, v_8, v_9, v_10, v_11, v_12, v_13, v_14, .ref q_715, .ref q_716, v_17, v_18])), (q_704, .inl (cA_704, 301, .inl (fun j : Nat => zI (a_4 (j : Int))))), (q_705, .inl (cA_705, 2000, .inl (fun j : Nat => zI (w64_705 (j : Int))))), (q_706, .inl (cA_706, 2000, .inl (fun j : Nat => zI (a_6 (j : Int))))), (q_715, .inl (cA_715, 301, .inl (fun j : Nat => zI (a_15 (j : Int))))), (q_716, .inl (cA_716, 1000, .inl (fun j : Nat => zI (w10_716 (j : Int)))))] H → va_D A [(h0, .inr (1, [v1_0, v1_1, v1_2, .ref q_103, v1_4, v1_5])), (q_103, .inl (cA_103, 1024, .inl (fun j : Nat => zI (a1_kinds (j : Int))))), (hc, .inr (0, [v_0, v_1, v_2, v_3, .ref q_704, .ref q_705, .ref q_706, v_7, v_8, v_9, v_10, v_11, v_12, v_13, v_14, .ref q_715, .ref q_716, v_17, v_18])), (q_704, .inl (cA_704, 301, .inl (fun j : Nat => zI (a_4 (j : Int))))), (q_705, .inl (cA_705, 2000, .inl (fun j : Nat => zI (w64_705 (j : Int))))), (q_706, .inl (cA_706, 2000, .inl (fun j : Nat => zI (a_6 (j : Int))))), (q_715, .inl (cA_715, 301, .inl (fun j : Nat => zI (a_15 (j : Int))))), (q_716, .inl (cA_716, 1000, .inl (fun j : Nat => zI (w10_716 (j : Int)))))] → va_S A s.heap H locs → W p l e (headSpec v_X1_markNumbersL ({ frames := 0, cells := 0, slots := 0, locals := 0 })).room s m ([.ref h0, .ref hc, .int (zI (b))] : List Value).toArray below meth c H locs 0 0 Q (F0 m 64 ls []) := by
          intro n64
          induction n64 with
          | zero => intro d64_4 d64_3 w64_705 ls H locs jd64_4 jd64_3 jw64_705 jo hm64; exact absurd hm64 (by omega)
          | succ n64 ih64 =>
            intro d64_4 d64_3 w64_705 ls H locs jd64_4 jd64_3 jw64_705 jo hm64 hl hP hD hS
            refine lv_iload hx hb dX1_markNumbers_64 (lv_at hl 4 rfl) ?_
            refine lv_aload_n hx hb dX1_markNumbers_66 rfl (lv_at hl 1 rfl) ?_
            refine va_get (D := (dC, dI)) (ci := 0) (v := .ref q_704) (C := RX0) (T := TX0) (N := 19) hx hb hts mem_X1_markNumbersL_0 hown hK hP 2 rfl rfl 4 (by decide) (ow (k := 1) rfl) (fun _ h9 => h9) rfl dX1_markNumbers_67 ?_
            refine lv_iload_n hx hb dX1_markNumbers_70 rfl (lv_at hl 2 rfl) ?_
            refine lv_iconst (v := 1) hx hb dX1_markNumbers_71 (by decide) ?_
            refine lv_iadd hx hb dX1_markNumbers_72 ?_
            refine lv_topi (fun z ez => ?_)
            obtain rfl : z = zI (b + 1) := ez.trans (zI_add (b) (1))
            refine va_iald hx hb hK hP 3 1 rfl rfl (zI_in (a := b + 1) (n := 301) (by omega) (by omega) (by decide)) dX1_markNumbers_73 ?_
            refine lv_topi (fun z ez => ?_)
            obtain rfl : z = zI (a_4 (b + 1)) := ez.trans (zI_ld (a_4) (by omega) (by omega))
            have k4 := hR_a_4 (b + 1)
            refine lv_icmp_ge (tgt := 120) hx hb dX1_markNumbers_74 (by decide) (fun b74 => ?_) (fun b74 => ?_)
            · have yb74 : (a_4 (b + 1) : Int) ≤ (d64_4 : Int) := (zI_le (a := a_4 (b + 1)) (b := d64_4) (by omega) (by omega) (by omega) (by omega)).mp b74
              refine lv_iload_n hx hb dX1_markNumbers_120 rfl (lv_at hl 3 rfl) ?_
              subst hQ
              refine W.widen (k := 0) (n := 0) (Nat.le_of_ble_eq_true rfl) (Nat.le_of_ble_eq_true rfl) ?_
              exact W.iret (v := (zI (d64_3))) hx hb hr (fun t ht hW => ⟨⟨(zI (d64_3)), (), rfl, ⟨d64_3, rfl, by omega⟩, w64_705, w10_716, ⟨jw64_705, jw10_716, ⟨(by have q9 : d10_4 = a_15 (b + 1) := (by omega); rw [← q9]; exact jp), jo⟩⟩, by rw [ht]; exact hP, va_K.moved hW.alike hK, hD⟩, hS.F ht⟩) hS.2.2 dX1_markNumbers_121
            · have yb74 : ¬ (a_4 (b + 1) : Int) ≤ (d64_4 : Int) := fun q => b74 ((zI_le (a := a_4 (b + 1)) (b := d64_4) (by omega) (by omega) (by omega) (by omega)).mpr q)
              refine lv_aload_n hx hb dX1_markNumbers_77 rfl (lv_at hl 1 rfl) ?_
              refine va_get (D := (dC, dI)) (ci := 0) (v := .ref q_706) (C := RX0) (T := TX0) (N := 19) hx hb hts mem_X1_markNumbersL_0 hown hK hP 2 rfl rfl 6 (by decide) (ow (k := 2) rfl) (fun _ h9 => h9) rfl dX1_markNumbers_78 ?_
              refine lv_iload hx hb dX1_markNumbers_81 (lv_at hl 4 rfl) ?_
              refine va_iald hx hb hK hP 5 3 rfl rfl (zI_in (a := d64_4) (n := 2000) (by omega) (by omega) (by decide)) dX1_markNumbers_83 ?_
              refine lv_topi (fun z ez => ?_)
              obtain rfl : z = zI (a_6 (d64_4)) := ez.trans (zI_ld (a_6) (by omega) (by omega))
              have k5 := hR_a_6 (d64_4)
              refine lv_if_lt (tgt := 114) hx hb dX1_markNumbers_84 (by decide) (fun b84 => ?_) (fun b84 => ?_)
              · have yb84 : (a_6 (d64_4) : Int) < (0 : Int) := (zI_lt (a := a_6 (d64_4)) (b := 0) (by omega) (by omega) (by omega) (by omega)).mp b84
                refine lv_iinc (v := zI (d64_4 + 1)) (lv' := [(4, .int (zI (d64_4 + 1))), (0, .ref h0), (1, .ref hc), (2, .int (zI (b))), (3, .int (zI (d64_3)))]) hx hb dX1_markNumbers_114 hl (k := 4) rfl (zI_add (d64_4) (1)) (by decide) rfl (fun ls hl => ?_)
                refine lv_goto (tgt := 64) hx hb dX1_markNumbers_117 (by decide) ?_
                exact ih64 (d64_4 + 1) d64_3 w64_705 ls H _ (by omega) (by omega) jw64_705 jo (by omega) (lv_sub hl [1, 2, 3, 4, 0] rfl) hP hD hS
              · have yb84 : ¬ (a_6 (d64_4) : Int) < (0 : Int) := fun q => b84 ((zI_lt (a := a_6 (d64_4)) (b := 0) (by omega) (by omega) (by omega) (by omega)).mpr q)
                refine lv_aload_n hx hb dX1_markNumbers_87 rfl (lv_at hl 0 rfl) ?_
                refine va_get (D := (dC, dI)) (ci := 1) (v := .ref q_103) (C := RX1) (T := TX1) (N := 6) hx hb hts mem_X1_markNumbersL_1 hown hK hP 0 rfl rfl 3 (by decide) (ow (k := 3) rfl) (fun _ h9 => h9) rfl dX1_markNumbers_88 ?_
                refine lv_aload_n hx hb dX1_markNumbers_91 rfl (lv_at hl 1 rfl) ?_
                refine va_get (D := (dC, dI)) (ci := 0) (v := .ref q_706) (C := RX0) (T := TX0) (N := 19) hx hb hts mem_X1_markNumbersL_0 hown hK hP 2 rfl rfl 6 (by decide) (ow (k := 2) rfl) (fun _ h9 => h9) rfl dX1_markNumbers_92 ?_
                refine lv_iload hx hb dX1_markNumbers_95 (lv_at hl 4 rfl) ?_
                refine va_iald hx hb hK hP 5 3 rfl rfl (zI_in (a := d64_4) (n := 2000) (by omega) (by omega) (by decide)) dX1_markNumbers_97 ?_
                refine lv_topi (fun z ez => ?_)
                obtain rfl : z = zI (a_6 (d64_4)) := ez.trans (zI_ld (a_6) (by omega) (by omega))
                have k6 := hR_a_6 (d64_4)
                refine va_iald hx hb hK hP 1 0 rfl rfl (zI_in (a := a_6 (d64_4)) (n := 1024) (by omega) (by omega) (by decide)) dX1_markNumbers_98 ?_
                refine lv_topi (fun z ez => ?_)
                obtain rfl : z = zI (a1_kinds (a_6 (d64_4))) := ez.trans (zI_ld (a1_kinds) (by omega) (by omega))
                have k7 := hR_a1_kinds (a_6 (d64_4))
                refine lv_iconst (v := 1) hx hb dX1_markNumbers_99 (by decide) ?_
                refine lv_icmp_ne (tgt := 114) hx hb dX1_markNumbers_100 (by decide) (fun b100 => ?_) (fun b100 => ?_)
                · have yb100 : ¬ (a1_kinds (a_6 (d64_4)) : Int) = (1 : Int) := fun q => b100 ((zI_eq (a := a1_kinds (a_6 (d64_4))) (b := 1) (by omega) (by omega) (by omega) (by omega)).mpr q)
                  refine lv_iinc (v := zI (d64_4 + 1)) (lv' := [(4, .int (zI (d64_4 + 1))), (0, .ref h0), (1, .ref hc), (2, .int (zI (b))), (3, .int (zI (d64_3)))]) hx hb dX1_markNumbers_114 hl (k := 4) rfl (zI_add (d64_4) (1)) (by decide) rfl (fun ls hl => ?_)
                  refine lv_goto (tgt := 64) hx hb dX1_markNumbers_117 (by decide) ?_
                  exact ih64 (d64_4 + 1) d64_3 w64_705 ls H _ (by omega) (by omega) jw64_705 jo (by omega) (lv_sub hl [1, 2, 3, 4, 0] rfl) hP hD hS
                · have yb100 : (a1_kinds (a_6 (d64_4)) : Int) = (1 : Int) := (zI_eq (a := a1_kinds (a_6 (d64_4))) (b := 1) (by omega) (by omega) (by omega) (by omega)).mp b100
                  refine lv_aload_n hx hb dX1_markNumbers_103 rfl (lv_at hl 1 rfl) ?_
                  refine va_get (D := (dC, dI)) (ci := 0) (v := .ref q_705) (C := RX0) (T := TX0) (N := 19) hx hb hts mem_X1_markNumbersL_0 hown hK hP 2 rfl rfl 5 (by decide) (ow (k := 4) rfl) (fun _ h9 => h9) rfl dX1_markNumbers_104 ?_
                  refine lv_iload hx hb dX1_markNumbers_107 (lv_at hl 4 rfl) ?_
                  refine lv_iconst (v := (-1)) hx hb dX1_markNumbers_109 (by decide) ?_
                  refine va_iast (i := zI (d64_4)) hx hb hK hP hD hS 4 2 rfl rfl (zI_in (a := d64_4) (n := 2000) (by omega) (by omega) (by decide)) dX1_markNumbers_110 (fun H locs hP hD hS => ?_)
                  have eQ : upd (fun j : Nat => zI (w64_705 (j : Int))) (zI (d64_4)).toNatClampNeg (-1) = (fun j : Nat => zI (zup w64_705 (d64_4) (-1) (j : Int))) := (congrArg (upd (fun j : Nat => zI (w64_705 (j : Int))) (zI (d64_4)).toNatClampNeg) (show ((-1) : Int32) = zI (-1) by decide)).trans (zI_st w64_705 (e := d64_4) (v := -1) (by omega) (by omega))
                  rw [eQ] at hP hD
                  clear eQ
                  have ra_2001 : ∀ j : Int, -1 ≤ zup w64_705 (d64_4) (-1) j ∧ zup w64_705 (d64_4) (-1) j ≤ 100 := zup_P (P := fun x9 => -1 ≤ x9 ∧ x9 ≤ 100) jw64_705 (show -1 ≤ (-1) ∧ (-1) ≤ 100 by omega)
                  obtain ⟨a_2001, ea_2001⟩ : ∃ a9 : Int → Int, a9 = zup w64_705 (d64_4) (-1) := ⟨_, rfl⟩
                  rw [← ea_2001] at hP hD ra_2001
                  have hP : va_P (dC, dI) vwP [(h0, .inr (1, [v1_0, v1_1, v1_2, .ref q_103, v1_4, v1_5])), (q_103, .inl (cA_103, 1024, .inl (fun j : Nat => zI (a1_kinds (j : Int))))), (hc, .inr (0, [v_0, v_1, v_2, v_3, .ref q_704, .ref q_705, .ref q_706, v_7, v_8, v_9, v_10, v_11, v_12, v_13, v_14, .ref q_715, .ref q_716, v_17, v_18])), (q_704, .inl (cA_704, 301, .inl (fun j : Nat => zI (a_4 (j : Int))))), (q_705, .inl (cA_705, 2000, .inl (fun j : Nat => zI (a_2001 (j : Int))))), (q_706, .inl (cA_706, 2000, .inl (fun j : Nat => zI (a_6 (j : Int))))), (q_715, .inl (cA_715, 301, .inl (fun j : Nat => zI (a_15 (j : Int))))), (q_716, .inl (cA_716, 1000, .inl (fun j : Nat => zI (w10_716 (j : Int)))))] H := hP
                  have hD : va_D A [(h0, .inr (1, [v1_0, v1_1, v1_2, .ref q_103, v1_4, v1_5])), (q_103, .inl (cA_103, 1024, .inl (fun j : Nat => zI (a1_kinds (j : Int))))), (hc, .inr (0, [v_0, v_1, v_2, v_3, .ref q_704, .ref q_705, .ref q_706, v_7, v_8, v_9, v_10, v_11, v_12, v_13, v_14, .ref q_715, .ref q_716, v_17, v_18])), (q_704, .inl (cA_704, 301, .inl (fun j : Nat => zI (a_4 (j : Int))))), (q_705, .inl (cA_705, 2000, .inl (fun j : Nat => zI (a_2001 (j : Int))))), (q_706, .inl (cA_706, 2000, .inl (fun j : Nat => zI (a_6 (j : Int))))), (q_715, .inl (cA_715, 301, .inl (fun j : Nat => zI (a_15 (j : Int))))), (q_716, .inl (cA_716, 1000, .inl (fun j : Nat => zI (w10_716 (j : Int)))))] := hD
                  refine lv_iinc (v := zI (d64_3 + 1)) (lv' := [(3, .int (zI (d64_3 + 1))), (0, .ref h0), (1, .ref hc), (2, .int (zI (b))), (4, .int (zI (d64_4)))]) hx hb dX1_markNumbers_111 hl (k := 3) rfl (zI_add (d64_3) (1)) (by decide) rfl (fun ls hl => ?_)
                  refine lv_iinc (v := zI (d64_4 + 1)) (lv' := [(4, .int (zI (d64_4 + 1))), (3, .int (zI (d64_3 + 1))), (0, .ref h0), (1, .ref hc), (2, .int (zI (b)))]) hx hb dX1_markNumbers_114 hl (k := 4) rfl (zI_add (d64_4) (1)) (by decide) rfl (fun ls hl => ?_)
                  refine lv_goto (tgt := 64) hx hb dX1_markNumbers_117 (by decide) ?_
                  exact ih64 (d64_4 + 1) (d64_3 + 1) a_2001 ls H _ (by omega) (by omega) ra_2001 (by rw [ea_2001]; exact OGN.set jo (by omega)) (by omega) (lv_sub hl [2, 3, 4, 1, 0] rfl) hP hD hS
        exact key64 (((a_4 (b + 1)) - (a_4 (b)) : Int).toNat + 1) (a_4 (b)) d10_3 a_5 ls H _ (by omega) (by omega) hR_a_5 (OGN.refl _ _) (by omega) (lv_sub hl [1, 2, 3, 4, 0] rfl) hP hD hS
      · have yb20 : ¬ (a_15 (b + 1) : Int) ≤ (d10_4 : Int) := fun q => b20 ((zI_le (a := a_15 (b + 1)) (b := d10_4) (by omega) (by omega) (by omega) (by omega)).mpr q)
        have ht9 := hX_T2 d10_4 (by omega) (by omega)
        have hj9 := jp d10_4
        refine lv_aload_n hx hb dX1_markNumbers_23 rfl (lv_at hl 0 rfl) ?_
        refine va_get (D := (dC, dI)) (ci := 1) (v := .ref q_103) (C := RX1) (T := TX1) (N := 6) hx hb hts mem_X1_markNumbersL_1 hown hK hP 0 rfl rfl 3 (by decide) (ow (k := 3) rfl) (fun _ h9 => h9) rfl dX1_markNumbers_24 ?_
        refine lv_aload_n hx hb dX1_markNumbers_27 rfl (lv_at hl 1 rfl) ?_
        refine va_get (D := (dC, dI)) (ci := 0) (v := .ref q_716) (C := RX0) (T := TX0) (N := 19) hx hb hts mem_X1_markNumbersL_0 hown hK hP 2 rfl rfl 16 (by decide) (ow (k := 5) rfl) (fun _ h9 => h9) rfl dX1_markNumbers_28 ?_
        refine lv_iload hx hb dX1_markNumbers_31 (lv_at hl 4 rfl) ?_
        refine va_iald hx hb hK hP 7 5 rfl rfl (zI_in (a := d10_4) (n := 1000) (by omega) (by omega) (by decide)) dX1_markNumbers_33 ?_
        refine lv_topi (fun z ez => ?_)
        obtain rfl : z = zI (w10_716 (d10_4)) := ez.trans (zI_ld (w10_716) (by omega) (by omega))
        have k8 := jw10_716 (d10_4)
        refine va_iald hx hb hK hP 1 0 rfl rfl (zI_in (a := w10_716 (d10_4)) (n := 1024) (by omega) (by omega) (by decide)) dX1_markNumbers_34 ?_
        refine lv_topi (fun z ez => ?_)
        obtain rfl : z = zI (a1_kinds (w10_716 (d10_4))) := ez.trans (zI_ld (a1_kinds) (by omega) (by omega))
        have k9 := hR_a1_kinds (w10_716 (d10_4))
        refine lv_iconst (v := 1) hx hb dX1_markNumbers_35 (by decide) ?_
        refine lv_icmp_ne (tgt := 50) hx hb dX1_markNumbers_36 (by decide) (fun b36 => ?_) (fun b36 => ?_)
        · have yb36 : ¬ (a1_kinds (w10_716 (d10_4)) : Int) = (1 : Int) := fun q => b36 ((zI_eq (a := a1_kinds (w10_716 (d10_4))) (b := 1) (by omega) (by omega) (by omega) (by omega)).mpr q)
          refine lv_iinc (v := zI (d10_4 + 1)) (lv' := [(4, .int (zI (d10_4 + 1))), (0, .ref h0), (1, .ref hc), (2, .int (zI (b))), (3, .int (zI (d10_3)))]) hx hb dX1_markNumbers_50 hl (k := 4) rfl (zI_add (d10_4) (1)) (by decide) rfl (fun ls hl => ?_)
          refine lv_goto (tgt := 10) hx hb dX1_markNumbers_53 (by decide) ?_
          exact ih10 (d10_4 + 1) d10_3 w10_716 ls H _ (by omega) (by omega) jw10_716 (PGB.skip jp) (by omega) (lv_sub hl [1, 2, 3, 4, 0] rfl) hP hD hS
        · have yb36 : (a1_kinds (w10_716 (d10_4)) : Int) = (1 : Int) := (zI_eq (a := a1_kinds (w10_716 (d10_4))) (b := 1) (by omega) (by omega) (by omega) (by omega)).mp b36
          refine lv_aload_n hx hb dX1_markNumbers_39 rfl (lv_at hl 1 rfl) ?_
          refine va_get (D := (dC, dI)) (ci := 0) (v := .ref q_716) (C := RX0) (T := TX0) (N := 19) hx hb hts mem_X1_markNumbersL_0 hown hK hP 2 rfl rfl 16 (by decide) (ow (k := 5) rfl) (fun _ h9 => h9) rfl dX1_markNumbers_40 ?_
          refine lv_iload hx hb dX1_markNumbers_43 (lv_at hl 4 rfl) ?_
          refine lv_iconst (v := (-1)) hx hb dX1_markNumbers_45 (by decide) ?_
          refine va_iast (i := zI (d10_4)) hx hb hK hP hD hS 7 5 rfl rfl (zI_in (a := d10_4) (n := 1000) (by omega) (by omega) (by decide)) dX1_markNumbers_46 (fun H locs hP hD hS => ?_)
          have eQ : upd (fun j : Nat => zI (w10_716 (j : Int))) (zI (d10_4)).toNatClampNeg (-1) = (fun j : Nat => zI (zup w10_716 (d10_4) (-1) (j : Int))) := (congrArg (upd (fun j : Nat => zI (w10_716 (j : Int))) (zI (d10_4)).toNatClampNeg) (show ((-1) : Int32) = zI (-1) by decide)).trans (zI_st w10_716 (e := d10_4) (v := -1) (by omega) (by omega))
          rw [eQ] at hP hD
          clear eQ
          have ra_2002 : ∀ j : Int, -1 ≤ zup w10_716 (d10_4) (-1) j ∧ zup w10_716 (d10_4) (-1) j ≤ 1023 := zup_P (P := fun x9 => -1 ≤ x9 ∧ x9 ≤ 1023) jw10_716 (show -1 ≤ (-1) ∧ (-1) ≤ 1023 by omega)
          obtain ⟨a_2002, ea_2002⟩ : ∃ a9 : Int → Int, a9 = zup w10_716 (d10_4) (-1) := ⟨_, rfl⟩
          rw [← ea_2002] at hP hD ra_2002
          have hP : va_P (dC, dI) vwP [(h0, .inr (1, [v1_0, v1_1, v1_2, .ref q_103, v1_4, v1_5])), (q_103, .inl (cA_103, 1024, .inl (fun j : Nat => zI (a1_kinds (j : Int))))), (hc, .inr (0, [v_0, v_1, v_2, v_3, .ref q_704, .ref q_705, .ref q_706, v_7, v_8, v_9, v_10, v_11, v_12, v_13, v_14, .ref q_715, .ref q_716, v_17, v_18])), (q_704, .inl (cA_704, 301, .inl (fun j : Nat => zI (a_4 (j : Int))))), (q_705, .inl (cA_705, 2000, .inl (fun j : Nat => zI (a_5 (j : Int))))), (q_706, .inl (cA_706, 2000, .inl (fun j : Nat => zI (a_6 (j : Int))))), (q_715, .inl (cA_715, 301, .inl (fun j : Nat => zI (a_15 (j : Int))))), (q_716, .inl (cA_716, 1000, .inl (fun j : Nat => zI (a_2002 (j : Int)))))] H := hP
          have hD : va_D A [(h0, .inr (1, [v1_0, v1_1, v1_2, .ref q_103, v1_4, v1_5])), (q_103, .inl (cA_103, 1024, .inl (fun j : Nat => zI (a1_kinds (j : Int))))), (hc, .inr (0, [v_0, v_1, v_2, v_3, .ref q_704, .ref q_705, .ref q_706, v_7, v_8, v_9, v_10, v_11, v_12, v_13, v_14, .ref q_715, .ref q_716, v_17, v_18])), (q_704, .inl (cA_704, 301, .inl (fun j : Nat => zI (a_4 (j : Int))))), (q_705, .inl (cA_705, 2000, .inl (fun j : Nat => zI (a_5 (j : Int))))), (q_706, .inl (cA_706, 2000, .inl (fun j : Nat => zI (a_6 (j : Int))))), (q_715, .inl (cA_715, 301, .inl (fun j : Nat => zI (a_15 (j : Int))))), (q_716, .inl (cA_716, 1000, .inl (fun j : Nat => zI (a_2002 (j : Int)))))] := hD
          refine lv_iinc (v := zI (d10_3 + 1)) (lv' := [(3, .int (zI (d10_3 + 1))), (0, .ref h0), (1, .ref hc), (2, .int (zI (b))), (4, .int (zI (d10_4)))]) hx hb dX1_markNumbers_47 hl (k := 3) rfl (zI_add (d10_3) (1)) (by decide) rfl (fun ls hl => ?_)
          refine lv_iinc (v := zI (d10_4 + 1)) (lv' := [(4, .int (zI (d10_4 + 1))), (3, .int (zI (d10_3 + 1))), (0, .ref h0), (1, .ref hc), (2, .int (zI (b)))]) hx hb dX1_markNumbers_50 hl (k := 4) rfl (zI_add (d10_4) (1)) (by decide) rfl (fun ls hl => ?_)
          refine lv_goto (tgt := 10) hx hb dX1_markNumbers_53 (by decide) ?_
          exact ih10 (d10_4 + 1) (d10_3 + 1) a_2002 ls H _ (by omega) (by omega) ra_2002 (by rw [ea_2002]; exact PGB.set jp (by omega)) (by omega) (lv_sub hl [2, 3, 4, 1, 0] rfl) hP hD hS
  exact key10 (((a_15 (b + 1)) - (a_15 (b)) : Int).toNat + 1) (a_15 (b)) 0 a_16 ls H _ (by omega) (by omega) hR_a_16 (PGB.refl _ _ _) (by omega) (lv_sub hl [2, 3, 4, 1, 0] rfl) hP hD hS
