theorem dX19_equal_0 : decode cX19_equal 0 = .ok (.aload_n 1, 1) := by decide +kernel
theorem dX19_equal_1 : decode cX19_equal 1 = .ok (.getfield 76, 3) := by decide +kernel
theorem dX19_equal_4 : decode cX19_equal 4 = .ok (.iload_n 2, 1) := by decide +kernel
theorem dX19_equal_5 : decode cX19_equal 5 = .ok (.invokevirtual 41, 3) := by decide +kernel
theorem dX19_equal_8 : decode cX19_equal 8 = .ok (.checkcast 79, 3) := by decide +kernel
theorem dX19_equal_11 : decode cX19_equal 11 = .ok (.astore_n 3, 1) := by decide +kernel
theorem dX19_equal_12 : decode cX19_equal 12 = .ok (.iconst 0, 1) := by decide +kernel
theorem dX19_equal_13 : decode cX19_equal 13 = .ok (.istore 4, 2) := by decide +kernel
theorem dX19_equal_15 : decode cX19_equal 15 = .ok (.iload 4, 2) := by decide +kernel
theorem dX19_equal_17 : decode cX19_equal 17 = .ok (.iload_n 2, 1) := by decide +kernel
theorem dX19_equal_18 : decode cX19_equal 18 = .ok (.if_icmp .ge 62, 3) := by decide +kernel
theorem dX19_equal_80 : decode cX19_equal 80 = .ok (.iconst (-1), 1) := by decide +kernel
theorem dX19_equal_81 : decode cX19_equal 81 = .ok (.istore 4, 2) := by decide +kernel
theorem dX19_equal_83 : decode cX19_equal 83 = .ok (.iconst 0, 1) := by decide +kernel
theorem dX19_equal_84 : decode cX19_equal 84 = .ok (.istore 5, 2) := by decide +kernel
theorem dX19_equal_86 : decode cX19_equal 86 = .ok (.iload 5, 2) := by decide +kernel
theorem dX19_equal_88 : decode cX19_equal 88 = .ok (.aload_n 3, 1) := by decide +kernel
theorem dX19_equal_89 : decode cX19_equal 89 = .ok (.getfield 81, 3) := by decide +kernel
theorem dX19_equal_92 : decode cX19_equal 92 = .ok (.if_icmp .ge 84, 3) := by decide +kernel
theorem dX19_equal_176 : decode cX19_equal 176 = .ok (.iload 4, 2) := by decide +kernel
theorem dX19_equal_178 : decode cX19_equal 178 = .ok (.ifCond .ge 5, 3) := by decide +kernel
theorem dX19_equal_183 : decode cX19_equal 183 = .ok (.aload_n 0, 1) := by decide +kernel
theorem dX19_equal_184 : decode cX19_equal 184 = .ok (.aload_n 3, 1) := by decide +kernel
theorem dX19_equal_185 : decode cX19_equal 185 = .ok (.getfield 200, 3) := by decide +kernel
theorem dX19_equal_188 : decode cX19_equal 188 = .ok (.aload_n 3, 1) := by decide +kernel
theorem dX19_equal_189 : decode cX19_equal 189 = .ok (.getfield 213, 3) := by decide +kernel
theorem dX19_equal_192 : decode cX19_equal 192 = .ok (.iload 4, 2) := by decide +kernel
theorem dX19_equal_194 : decode cX19_equal 194 = .ok (.iaload, 1) := by decide +kernel
theorem dX19_equal_195 : decode cX19_equal 195 = .ok (.aload_n 3, 1) := by decide +kernel
theorem dX19_equal_196 : decode cX19_equal 196 = .ok (.getfield 253, 3) := by decide +kernel
theorem dX19_equal_199 : decode cX19_equal 199 = .ok (.iload 4, 2) := by decide +kernel
theorem dX19_equal_201 : decode cX19_equal 201 = .ok (.baload, 1) := by decide +kernel
theorem dX19_equal_202 : decode cX19_equal 202 = .ok (.invokevirtual 316, 3) := by decide +kernel
theorem dX19_equal_205 : decode cX19_equal 205 = .ok (.aload_n 3, 1) := by decide +kernel
theorem dX19_equal_206 : decode cX19_equal 206 = .ok (.iconst 1, 1) := by decide +kernel
theorem dX19_equal_207 : decode cX19_equal 207 = .ok (.putfield 335, 3) := by decide +kernel
theorem dX19_equal_210 : decode cX19_equal 210 = .ok (.iconst 1, 1) := by decide +kernel
theorem dX19_equal_211 : decode cX19_equal 211 = .ok (.ireturn, 1) := by decide +kernel
theorem dX19_equal_181 : decode cX19_equal 181 = .ok (.iconst 0, 1) := by decide +kernel
theorem dX19_equal_182 : decode cX19_equal 182 = .ok (.ireturn, 1) := by decide +kernel
theorem dX19_equal_95 : decode cX19_equal 95 = .ok (.aload_n 3, 1) := by decide +kernel
theorem dX19_equal_96 : decode cX19_equal 96 = .ok (.getfield 253, 3) := by decide +kernel
theorem dX19_equal_99 : decode cX19_equal 99 = .ok (.iload 5, 2) := by decide +kernel
theorem dX19_equal_101 : decode cX19_equal 101 = .ok (.baload, 1) := by decide +kernel
theorem dX19_equal_102 : decode cX19_equal 102 = .ok (.ifCond .eq 20, 3) := by decide +kernel
theorem dX19_equal_122 : decode cX19_equal 122 = .ok (.iload 4, 2) := by decide +kernel
theorem dX19_equal_124 : decode cX19_equal 124 = .ok (.ifCond .ge 10, 3) := by decide +kernel
theorem dX19_equal_134 : decode cX19_equal 134 = .ok (.aload_n 3, 1) := by decide +kernel
theorem dX19_equal_135 : decode cX19_equal 135 = .ok (.getfield 253, 3) := by decide +kernel
theorem dX19_equal_138 : decode cX19_equal 138 = .ok (.iload 5, 2) := by decide +kernel
theorem dX19_equal_140 : decode cX19_equal 140 = .ok (.baload, 1) := by decide +kernel
theorem dX19_equal_141 : decode cX19_equal 141 = .ok (.aload_n 3, 1) := by decide +kernel
theorem dX19_equal_142 : decode cX19_equal 142 = .ok (.getfield 253, 3) := by decide +kernel
theorem dX19_equal_145 : decode cX19_equal 145 = .ok (.iload 4, 2) := by decide +kernel
theorem dX19_equal_147 : decode cX19_equal 147 = .ok (.baload, 1) := by decide +kernel
theorem dX19_equal_148 : decode cX19_equal 148 = .ok (.if_icmp .ne 20, 3) := by decide +kernel
theorem dX19_equal_168 : decode cX19_equal 168 = .ok (.iconst 0, 1) := by decide +kernel
theorem dX19_equal_169 : decode cX19_equal 169 = .ok (.ireturn, 1) := by decide +kernel
theorem dX19_equal_151 : decode cX19_equal 151 = .ok (.aload_n 3, 1) := by decide +kernel
theorem dX19_equal_152 : decode cX19_equal 152 = .ok (.getfield 213, 3) := by decide +kernel
theorem dX19_equal_155 : decode cX19_equal 155 = .ok (.iload 5, 2) := by decide +kernel
theorem dX19_equal_157 : decode cX19_equal 157 = .ok (.iaload, 1) := by decide +kernel
theorem dX19_equal_158 : decode cX19_equal 158 = .ok (.aload_n 3, 1) := by decide +kernel
theorem dX19_equal_159 : decode cX19_equal 159 = .ok (.getfield 213, 3) := by decide +kernel
theorem dX19_equal_162 : decode cX19_equal 162 = .ok (.iload 4, 2) := by decide +kernel
theorem dX19_equal_164 : decode cX19_equal 164 = .ok (.iaload, 1) := by decide +kernel
theorem dX19_equal_165 : decode cX19_equal 165 = .ok (.if_icmp .eq 5, 3) := by decide +kernel
theorem dX19_equal_170 : decode cX19_equal 170 = .ok (.iinc 5 1, 3) := by decide +kernel
theorem dX19_equal_173 : decode cX19_equal 173 = .ok (.goto (-87), 3) := by decide +kernel
theorem dX19_equal_127 : decode cX19_equal 127 = .ok (.iload 5, 2) := by decide +kernel
theorem dX19_equal_129 : decode cX19_equal 129 = .ok (.istore 4, 2) := by decide +kernel
theorem dX19_equal_131 : decode cX19_equal 131 = .ok (.goto 39, 3) := by decide +kernel
theorem dX19_equal_105 : decode cX19_equal 105 = .ok (.aload_n 3, 1) := by decide +kernel
theorem dX19_equal_106 : decode cX19_equal 106 = .ok (.getfield 213, 3) := by decide +kernel
theorem dX19_equal_109 : decode cX19_equal 109 = .ok (.iload 5, 2) := by decide +kernel
theorem dX19_equal_111 : decode cX19_equal 111 = .ok (.iaload, 1) := by decide +kernel
theorem dX19_equal_112 : decode cX19_equal 112 = .ok (.aload_n 3, 1) := by decide +kernel
theorem dX19_equal_113 : decode cX19_equal 113 = .ok (.getfield 200, 3) := by decide +kernel
theorem dX19_equal_116 : decode cX19_equal 116 = .ok (.if_icmp .ne 6, 3) := by decide +kernel
theorem dX19_equal_119 : decode cX19_equal 119 = .ok (.goto 51, 3) := by decide +kernel
theorem dX19_equal_21 : decode cX19_equal 21 = .ok (.aload_n 3, 1) := by decide +kernel
theorem dX19_equal_22 : decode cX19_equal 22 = .ok (.aload_n 1, 1) := by decide +kernel
theorem dX19_equal_23 : decode cX19_equal 23 = .ok (.getfield 76, 3) := by decide +kernel
theorem dX19_equal_26 : decode cX19_equal 26 = .ok (.iload 4, 2) := by decide +kernel
theorem dX19_equal_28 : decode cX19_equal 28 = .ok (.invokevirtual 41, 3) := by decide +kernel
theorem dX19_equal_31 : decode cX19_equal 31 = .ok (.checkcast 79, 3) := by decide +kernel
theorem dX19_equal_34 : decode cX19_equal 34 = .ok (.invokestatic 331, 3) := by decide +kernel
theorem dX19_equal_37 : decode cX19_equal 37 = .ok (.ifCond .ne 6, 3) := by decide +kernel
theorem dX19_equal_43 : decode cX19_equal 43 = .ok (.aload_n 0, 1) := by decide +kernel
theorem dX19_equal_44 : decode cX19_equal 44 = .ok (.aload_n 3, 1) := by decide +kernel
theorem dX19_equal_45 : decode cX19_equal 45 = .ok (.getfield 200, 3) := by decide +kernel
theorem dX19_equal_48 : decode cX19_equal 48 = .ok (.aload_n 1, 1) := by decide +kernel
theorem dX19_equal_49 : decode cX19_equal 49 = .ok (.getfield 76, 3) := by decide +kernel
theorem dX19_equal_52 : decode cX19_equal 52 = .ok (.iload 4, 2) := by decide +kernel
theorem dX19_equal_54 : decode cX19_equal 54 = .ok (.invokevirtual 41, 3) := by decide +kernel
theorem dX19_equal_57 : decode cX19_equal 57 = .ok (.checkcast 79, 3) := by decide +kernel
theorem dX19_equal_60 : decode cX19_equal 60 = .ok (.getfield 200, 3) := by decide +kernel
theorem dX19_equal_63 : decode cX19_equal 63 = .ok (.iconst 1, 1) := by decide +kernel
theorem dX19_equal_64 : decode cX19_equal 64 = .ok (.invokevirtual 316, 3) := by decide +kernel
theorem dX19_equal_67 : decode cX19_equal 67 = .ok (.aload_n 3, 1) := by decide +kernel
theorem dX19_equal_68 : decode cX19_equal 68 = .ok (.iconst 1, 1) := by decide +kernel
theorem dX19_equal_69 : decode cX19_equal 69 = .ok (.putfield 335, 3) := by decide +kernel
theorem dX19_equal_72 : decode cX19_equal 72 = .ok (.iconst 1, 1) := by decide +kernel
theorem dX19_equal_73 : decode cX19_equal 73 = .ok (.ireturn, 1) := by decide +kernel
theorem dX19_equal_40 : decode cX19_equal 40 = .ok (.goto 34, 3) := by decide +kernel
theorem dX19_equal_74 : decode cX19_equal 74 = .ok (.iinc 4 1, 3) := by decide +kernel
theorem dX19_equal_77 : decode cX19_equal 77 = .ok (.goto (-62), 3) := by decide +kernel
def o_P19_equal : List Cond := [.fieldLink RX19 76 "SsaForgeModel$Block" "phis" "Ljava/util/ArrayList;", .methodLink RX19 41 yJx4a65c_get_915e3, .instanceMethod yJx4a65c_get_915e3, .selects RJx4a65c yJx4a65c_get_915e3 yJx4a65c_get_915e3, .initialized RJx4a65c, .classLink RX19 79 "SsaForgeModel$Phi", .fieldLink RX19 81 "SsaForgeModel$Phi" "n" "I", .fieldLink RX19 200 "SsaForgeModel$Phi" "t" "I", .fieldLink RX19 213 "SsaForgeModel$Phi" "operands" "[I", .fieldLink RX19 253 "SsaForgeModel$Phi" "regs" "[Z", .methodLink RX19 316 yX19_replace, .instanceMethod yX19_replace, .selects RX19 yX19_replace yX19_replace, .initialized RX19, .fieldLink RX19 335 "SsaForgeModel$Phi" "gone" "Z", .methodLink RX19 331 yX19_same, .static yX19_same]
def v_P19_equal : List Cond := .code yX19_equal cX19_equal 6 (some .boolean) :: (o_P19_equal ++ (wsX120 ++ (v_PL_get ++ (wsX150 ++ (v_X19_replaceL ++ (v_P19_same ++ []))))))
theorem mow_P19_equal : ∀ w ∈ o_P19_equal, w ∈ v_P19_equal := fun _ h => List.mem_cons_of_mem _ (List.mem_append_left _ h)
theorem mem_P19_equal_0 : ∀ w ∈ wsX120, w ∈ v_P19_equal := fun _ h => List.mem_cons_of_mem _ (List.mem_append_right _ (List.mem_append_left _ h))
theorem mem_P19_equal_1 : ∀ w ∈ v_PL_get, w ∈ v_P19_equal := fun _ h => List.mem_cons_of_mem _ (List.mem_append_right _ (List.mem_append_right _ (List.mem_append_left _ h)))
theorem mem_P19_equal_2 : ∀ w ∈ wsX150, w ∈ v_P19_equal := fun _ h => List.mem_cons_of_mem _ (List.mem_append_right _ (List.mem_append_right _ (List.mem_append_right _ (List.mem_append_left _ h))))
theorem mem_P19_equal_3 : ∀ w ∈ v_X19_replaceL, w ∈ v_P19_equal := fun _ h => List.mem_cons_of_mem _ (List.mem_append_right _ (List.mem_append_right _ (List.mem_append_right _ (List.mem_append_right _ (List.mem_append_left _ h)))))
theorem mem_P19_equal_4 : ∀ w ∈ v_P19_same, w ∈ v_P19_equal := fun _ h => List.mem_cons_of_mem _ (List.mem_append_right _ (List.mem_append_right _ (List.mem_append_right _ (List.mem_append_right _ (List.mem_append_right _ (List.mem_append_left _ h))))))
set_option maxRecDepth 20000 in
theorem gw_P19_equal : v_P19_equal.all goodWord = true := by decide +kernel
set_option maxRecDepth 20000 in
theorem g_P19_equal_PL_get : GoodIn v_P19_equal (wsV RX19 41 RJx4a65c yJx4a65c_get_915e3 v_PL_get) := goodIn_app (goodIn_sub (fun w h => mow_P19_equal w (by revert w h; decide +kernel)) (by decide +kernel)) (goodIn_sub mem_P19_equal_1 gw_PL_get)
set_option maxRecDepth 20000 in
theorem g_P19_equal_X19_replaceL : GoodIn v_P19_equal (wsV RX19 316 RX19 yX19_replace v_X19_replaceL) := goodIn_app (goodIn_sub (fun w h => mow_P19_equal w (by revert w h; decide +kernel)) (by decide +kernel)) (goodIn_sub mem_P19_equal_3 gw_X19_replaceL)
set_option maxRecDepth 20000 in
theorem g_P19_equal_P19_same : GoodIn v_P19_equal (wsS RX19 331 yX19_same v_P19_same) := goodIn_app (goodIn_sub (fun w h => mow_P19_equal w (by revert w h; decide +kernel)) (by decide +kernel)) (goodIn_sub mem_P19_equal_4 gw_P19_same)
set_option maxHeartbeats 4000000 in
set_option maxRecDepth 100000 in
theorem c_P19_equal (l : Launch) (dC : Nat → ClassId) (dI : Nat → Nat → Nat) (cI : ClassId) (cZ : ClassId) (h0 : Nat) (v19_0 : Value) (v19_1 : Value) (v19_2 : Value) (v19_3 : Value) (v19_4 : Value) (v19_5 : Value) (v19_6 : Value) (v19_7 : Value) (v19_8 : Value) (v19_9 : Value) (v19_10 : Value) (v19_11 : Value) (q_1912 : Nat) (cA_1912 : ClassId) (a19_replaced : Int → Int) (q_1913 : Nat) (cA_1913 : ClassId) (a19_byReg : Int → Int) (q_1914 : Nat) (cA_1914 : ClassId) (a19_by : Int → Int) (v19_15 : Value) (v19_16 : Value) (v19_17 : Value) (v19_18 : Value) (v19_19 : Value) (v19_20 : Value) (v19_21 : Value) (v19_22 : Value) (v19_23 : Value) (v19_24 : Value) (v19_25 : Value) (v19_26 : Value) (v19_27 : Value) (v19_28 : Value) (v19_29 : Value) (v19_30 : Value) (v19_31 : Value) (v19_32 : Value) (v19_33 : Value) (v19_34 : Value) (v19_35 : Value) (v19_36 : Value) (v19_37 : Value) (v19_38 : Value) (v19_39 : Value) (v19_40 : Value) (hc : Nat) (v13_0 : Value) (v13_1 : Value) (v13_2 : Value) (v13_3 : Value) (v13_4 : Value) (v13_6 : Value) (la : Nat) (cO : ClassId) (L : List Nat) (P : PO) (sx_ed : Nat) (xb : Nat) (j0 : Int) (hR_a19_replaced : ∀ j : Int, 0 ≤ a19_replaced j ∧ a19_replaced j ≤ 1) (hR_a19_byReg : ∀ j : Int, 0 ≤ a19_byReg j ∧ a19_byReg j ≤ 1) (hR_a19_by : ∀ j : Int, -2147483648 ≤ a19_by j ∧ a19_by j ≤ 2147483647) (hX_a : ALP L P cO cI cZ sx_ed la) (hX_R : RPL a19_replaced a19_byReg a19_by) (hX_ib : INB P la xb) (hNj : 0 ≤ j0 ∧ j0 < P.lz (P.bp xb)) (sz : Nat) : Met l yX19_equal v_P19_equal ({ frames := 3, cells := 0, slots := 0, locals := 64 }) (va_Pc [.ref h0, .ref xb, .int (zI (j0))] (fun U => U.heap.size = sz ∧ va_P (dC, dI) vwQ ([(h0, .inr (16, [v19_0, v19_1, v19_2, v19_3, v19_4, v19_5, v19_6, v19_7, v19_8, v19_9, v19_10, v19_11, .ref q_1912, .ref q_1913, .ref q_1914, v19_15, v19_16, v19_17, v19_18, v19_19, v19_20, v19_21, v19_22, v19_23, v19_24, v19_25, v19_26, v19_27, v19_28, v19_29, v19_30, v19_31, v19_32, v19_33, v19_34, v19_35, v19_36, v19_37, v19_38, v19_39, v19_40])), (q_1912, .inl (cA_1912, 1002, .inl (fun j : Nat => zI (a19_replaced (j : Int))))), (q_1913, .inl (cA_1913, 1002, .inl (fun j : Nat => zI (a19_byReg (j : Int))))), (q_1914, .inl (cA_1914, 1002, .inl (fun j : Nat => zI (a19_by (j : Int))))), (hc, .inr (12, [v13_0, v13_1, v13_2, v13_3, v13_4, .ref la, v13_6]))] ++ va_pl L (pE P)) U.heap ∧ va_K (dC, dI) vwQ [(cA_1912, .boolean), (cA_1913, .boolean), (cA_1914, .int), (cO, .object "java/lang/Object"), (cI, .int), (cZ, .boolean)] U ∧ va_D (fun _ => True) ([(h0, .inr (16, [v19_0, v19_1, v19_2, v19_3, v19_4, v19_5, v19_6, v19_7, v19_8, v19_9, v19_10, v19_11, .ref q_1912, .ref q_1913, .ref q_1914, v19_15, v19_16, v19_17, v19_18, v19_19, v19_20, v19_21, v19_22, v19_23, v19_24, v19_25, v19_26, v19_27, v19_28, v19_29, v19_30, v19_31, v19_32, v19_33, v19_34, v19_35, v19_36, v19_37, v19_38, v19_39, v19_40])), (q_1912, .inl (cA_1912, 1002, .inl (fun j : Nat => zI (a19_replaced (j : Int))))), (q_1913, .inl (cA_1913, 1002, .inl (fun j : Nat => zI (a19_byReg (j : Int))))), (q_1914, .inl (cA_1914, 1002, .inl (fun j : Nat => zI (a19_by (j : Int))))), (hc, .inr (12, [v13_0, v13_1, v13_2, v13_3, v13_4, .ref la, v13_6]))] ++ va_pl L (pE P)) ∧ va_Nw (.castable "SsaForgeModel$Phi" "SsaForgeModel$Phi") U)) (va_Qi (fun (r : Int32) (zr : Int) => r = zI zr ∧ (0 ≤ zr ∧ zr ≤ 1)) (fun (zr : Int) (t : State) => ∃ (a0_9 : Int → Int) (a1_9 : Int → Int) (a2_9 : Int → Int) (Pn_9 : PO), ((∀ j : Int, 0 ≤ a0_9 j ∧ a0_9 j ≤ 1) ∧ (∀ j : Int, 0 ≤ a1_9 j ∧ a1_9 j ≤ 1) ∧ (∀ j : Int, -2147483648 ≤ a2_9 j ∧ a2_9 j ≤ 2147483647) ∧ ((KEP [] L P L Pn_9 la ∧ ALP L Pn_9 cO cI cZ sx_ed la ∧ Pn_9.tot 2 la ≤ P.tot 2 la ∧ Pn_9.tot 1 la ≤ P.tot 1 la) ∧ RPL a0_9 a1_9 a2_9)) ∧ va_P (dC, dI) vwQ ([(h0, .inr (16, [v19_0, v19_1, v19_2, v19_3, v19_4, v19_5, v19_6, v19_7, v19_8, v19_9, v19_10, v19_11, .ref q_1912, .ref q_1913, .ref q_1914, v19_15, v19_16, v19_17, v19_18, v19_19, v19_20, v19_21, v19_22, v19_23, v19_24, v19_25, v19_26, v19_27, v19_28, v19_29, v19_30, v19_31, v19_32, v19_33, v19_34, v19_35, v19_36, v19_37, v19_38, v19_39, v19_40])), (q_1912, .inl (cA_1912, 1002, .inl (fun j : Nat => zI (a0_9 (j : Int))))), (q_1913, .inl (cA_1913, 1002, .inl (fun j : Nat => zI (a1_9 (j : Int))))), (q_1914, .inl (cA_1914, 1002, .inl (fun j : Nat => zI (a2_9 (j : Int))))), (hc, .inr (12, [v13_0, v13_1, v13_2, v13_3, v13_4, .ref la, v13_6]))] ++ va_pl L (pE Pn_9)) t.heap ∧ va_K (dC, dI) vwQ [(cA_1912, .boolean), (cA_1913, .boolean), (cA_1914, .int), (cO, .object "java/lang/Object"), (cI, .int), (cZ, .boolean)] t ∧ va_D (va_A ([(h0, .inr (16, [v19_0, v19_1, v19_2, v19_3, v19_4, v19_5, v19_6, v19_7, v19_8, v19_9, v19_10, v19_11, .ref q_1912, .ref q_1913, .ref q_1914, v19_15, v19_16, v19_17, v19_18, v19_19, v19_20, v19_21, v19_22, v19_23, v19_24, v19_25, v19_26, v19_27, v19_28, v19_29, v19_30, v19_31, v19_32, v19_33, v19_34, v19_35, v19_36, v19_37, v19_38, v19_39, v19_40])), (q_1912, .inl (cA_1912, 1002, .inl (fun j : Nat => zI (a19_replaced (j : Int))))), (q_1913, .inl (cA_1913, 1002, .inl (fun j : Nat => zI (a19_byReg (j : Int))))), (q_1914, .inl (cA_1914, 1002, .inl (fun j : Nat => zI (a19_by (j : Int))))), (hc, .inr (12, [v13_0, v13_1, v13_2, v13_3, v13_4, .ref la, v13_6]))] ++ va_pl L (pE P)) sz) ([(h0, .inr (16, [v19_0, v19_1, v19_2, v19_3, v19_4, v19_5, v19_6, v19_7, v19_8, v19_9, v19_10, v19_11, .ref q_1912, .ref q_1913, .ref q_1914, v19_15, v19_16, v19_17, v19_18, v19_19, v19_20, v19_21, v19_22, v19_23, v19_24, v19_25, v19_26, v19_27, v19_28, v19_29, v19_30, v19_31, v19_32, v19_33, v19_34, v19_35, v19_36, v19_37, v19_38, v19_39, v19_40])), (q_1912, .inl (cA_1912, 1002, .inl (fun j : Nat => zI (a0_9 (j : Int))))), (q_1913, .inl (cA_1913, 1002, .inl (fun j : Nat => zI (a1_9 (j : Int))))), (q_1914, .inl (cA_1914, 1002, .inl (fun j : Nat => zI (a2_9 (j : Int))))), (hc, .inr (12, [v13_0, v13_1, v13_2, v13_3, v13_4, .ref la, v13_6]))] ++ va_pl L (pE Pn_9))) (va_A ([(h0, .inr (16, [v19_0, v19_1, v19_2, v19_3, v19_4, v19_5, v19_6, v19_7, v19_8, v19_9, v19_10, v19_11, .ref q_1912, .ref q_1913, .ref q_1914, v19_15, v19_16, v19_17, v19_18, v19_19, v19_20, v19_21, v19_22, v19_23, v19_24, v19_25, v19_26, v19_27, v19_28, v19_29, v19_30, v19_31, v19_32, v19_33, v19_34, v19_35, v19_36, v19_37, v19_38, v19_39, v19_40])), (q_1912, .inl (cA_1912, 1002, .inl (fun j : Nat => zI (a19_replaced (j : Int))))), (q_1913, .inl (cA_1913, 1002, .inl (fun j : Nat => zI (a19_byReg (j : Int))))), (q_1914, .inl (cA_1914, 1002, .inl (fun j : Nat => zI (a19_by (j : Int))))), (hc, .inr (12, [v13_0, v13_1, v13_2, v13_3, v13_4, .ref la, v13_6]))] ++ va_pl L (pE P)) sz)) 0 0 (va_A ([(h0, .inr (16, [v19_0, v19_1, v19_2, v19_3, v19_4, v19_5, v19_6, v19_7, v19_8, v19_9, v19_10, v19_11, .ref q_1912, .ref q_1913, .ref q_1914, v19_15, v19_16, v19_17, v19_18, v19_19, v19_20, v19_21, v19_22, v19_23, v19_24, v19_25, v19_26, v19_27, v19_28, v19_29, v19_30, v19_31, v19_32, v19_33, v19_34, v19_35, v19_36, v19_37, v19_38, v19_39, v19_40])), (q_1912, .inl (cA_1912, 1002, .inl (fun j : Nat => zI (a19_replaced (j : Int))))), (q_1913, .inl (cA_1913, 1002, .inl (fun j : Nat => zI (a19_byReg (j : Int))))), (q_1914, .inl (cA_1914, 1002, .inl (fun j : Nat => zI (a19_by (j : Int))))), (hc, .inr (12, [v13_0, v13_1, v13_2, v13_3, v13_4, .ref la, v13_6]))] ++ va_pl L (pE P)) sz) := by
  refine Met.ofW (cc := cX19_equal) (maxL := 6) (ret := (some .boolean)) (by decide) rfl ?_
  intro p e s m args below meth c s₁ B hml hv
  obtain ⟨rfl, hsz, hP, hK, hD0, hp0⟩ := hv
  have hx := B.exec
  have hb := B.bytes
  have hr := B.returns
  have hts := atoms_spec (ws := v_P19_equal) B.pre
  have hown : s.vm.findClass RX19 = some m.cls := findClass_of_methodNamed B.named
  have hlocks := B.notSynchronized
  have ow : ∀ {k : Nat} {w : Cond}, o_P19_equal[k]? = some w → w.before ([.ref h0, .ref xb, .int (zI (j0))] : List Value).toArray s = true := fun h => hts _ (mow_P19_equal _ (List.mem_of_getElem? h))
  subst hsz
  have hD := hD0.self (sz := s.heap.size)
  generalize hAe : va_A ([(h0, .inr (16, [v19_0, v19_1, v19_2, v19_3, v19_4, v19_5, v19_6, v19_7, v19_8, v19_9, v19_10, v19_11, .ref q_1912, .ref q_1913, .ref q_1914, v19_15, v19_16, v19_17, v19_18, v19_19, v19_20, v19_21, v19_22, v19_23, v19_24, v19_25, v19_26, v19_27, v19_28, v19_29, v19_30, v19_31, v19_32, v19_33, v19_34, v19_35, v19_36, v19_37, v19_38, v19_39, v19_40])), (q_1912, .inl (cA_1912, 1002, .inl (fun j : Nat => zI (a19_replaced (j : Int))))), (q_1913, .inl (cA_1913, 1002, .inl (fun j : Nat => zI (a19_byReg (j : Int))))), (q_1914, .inl (cA_1914, 1002, .inl (fun j : Nat => zI (a19_by (j : Int))))), (hc, .inr (12, [v13_0, v13_1, v13_2, v13_3, v13_4, .ref la, v13_6]))] ++ va_pl L (pE P)) s.heap.size = A at hD ⊢
  have hA : ∀ q : Nat, s.heap.size ≤ q → A q := fun q h => by rw [← hAe]; exact Or.inr h
  have hS : va_S A s.heap s.heap [] := va_S.rf
  have hP : va_P (dC, dI) vwQ ([(h0, .inr (16, [v19_0, v19_1, v19_2, v19_3, v19_4, v19_5, v19_6, v19_7, v19_8, v19_9, v19_10, v19_11, .ref q_1912, .ref q_1913, .ref q_1914, v19_15, v19_16, v19_17, v19_18, v19_19, v19_20, v19_21, v19_22, v19_23, v19_24, v19_25, v19_26, v19_27, v19_28, v19_29, v19_30, v19_31, v19_32, v19_33, v19_34, v19_35, v19_36, v19_37, v19_38, v19_39, v19_40])), (q_1912, .inl (cA_1912, 1002, .inl (fun j : Nat => zI (a19_replaced (j : Int))))), (q_1913, .inl (cA_1913, 1002, .inl (fun j : Nat => zI (a19_byReg (j : Int))))), (q_1914, .inl (cA_1914, 1002, .inl (fun j : Nat => zI (a19_by (j : Int))))), (hc, .inr (12, [v13_0, v13_1, v13_2, v13_3, v13_4, .ref la, v13_6]))] ++ va_pl L (pE P)) s.heap := hP
  have hl := lv_entry ([.ref h0, .ref xb, .int (zI (j0))]) (n := 6) (Nat.le_of_ble_eq_true rfl)
  rw [lg_entry_eq]
  generalize (lg_sl ([.ref h0, .ref xb, .int (zI (j0))]) ++ List.replicate (6 - (lg_sl ([.ref h0, .ref xb, .int (zI (j0))])).length) Slot.unset).toArray = ls at hl ⊢
  have hl : lv_has ls 6 [(0, .ref h0), (1, .ref xb), (2, .int (zI (j0)))] := hl
  obtain ⟨H, hH⟩ : ∃ H, H = s.heap := ⟨_, rfl⟩
  rw [← hH] at hP
  have hS : va_S A s.heap H [] := by rw [hH]; exact hS
  rw [← hH]
  refine zW_cap (fun Q hQ => ?_)
  have hX_a9 := hX_a
  have hla := hX_a.lok.2.2.1
  have hla2 := hX_a.1.1.2.1
  refine lv_aload_n hx hb dX19_equal_0 rfl (lv_at hl 1 rfl) ?_
  have hfb := (hX_a9.inb hX_ib).2.2.2.2
  obtain ⟨kp_2001, hkp_2001⟩ := va_pl_get (X := [(h0, .inr (16, [v19_0, v19_1, v19_2, v19_3, v19_4, v19_5, v19_6, v19_7, v19_8, v19_9, v19_10, v19_11, .ref q_1912, .ref q_1913, .ref q_1914, v19_15, v19_16, v19_17, v19_18, v19_19, v19_20, v19_21, v19_22, v19_23, v19_24, v19_25, v19_26, v19_27, v19_28, v19_29, v19_30, v19_31, v19_32, v19_33, v19_34, v19_35, v19_36, v19_37, v19_38, v19_39, v19_40])), (q_1912, .inl (cA_1912, 1002, .inl (fun j : Nat => zI (a19_replaced (j : Int))))), (q_1913, .inl (cA_1913, 1002, .inl (fun j : Nat => zI (a19_byReg (j : Int))))), (q_1914, .inl (cA_1914, 1002, .inl (fun j : Nat => zI (a19_by (j : Int))))), (hc, .inr (12, [v13_0, v13_1, v13_2, v13_3, v13_4, .ref la, v13_6]))]) (f := pE P) (hX_a9.inb hX_ib).1.1
  rw [pE_block (hX_a9.inb hX_ib).1.2] at hkp_2001
  refine va_get (D := (dC, dI)) (ci := 19) (v := .ref (P.bp xb)) (C := RX12) (T := TX12) (N := 5) hx hb hts mem_P19_equal_0 hown hK hP kp_2001 hkp_2001 rfl 0 (by decide) (ow (k := 0) rfl) (fun _ h9 => h9) rfl dX19_equal_1 ?_
  obtain ⟨pr_2002, epr_2002⟩ : ∃ q9 : Nat, q9 = P.bp xb := ⟨_, rfl⟩
  rw [← epr_2002]
  have hlk_2003 : LOK L P cO 15 pr_2002 := (by rw [epr_2002]; exact (hX_a9.inb hX_ib).2.2.1)
  have hlz9 := hlk_2003.2.2.1
  have : P.lz pr_2002 = P.lz (P.bp xb) := (by rw [epr_2002])
  refine lv_iload_n hx hb dX19_equal_4 rfl (lv_at hl 2 rfl) ?_
  have hlk_2004 := (show LOK L P cO 15 pr_2002 from (by rw [← epr_2002.symm]; exact (hX_a9.inb hX_ib).2.2.1))
  obtain ⟨x, ex⟩ : ∃ q9 : Nat, q9 = P.el pr_2002 (j0) := ⟨_, rfl⟩
  have hX_x := hlk_2004.1
  have hX_k := hlk_2004.2.1
  have hq9 := hlk_2004.row (i := j0) (by omega) (by omega)
  have hX_q : P.le pr_2002 ∈ L ∧ P.kd (P.le pr_2002) = 31 ∧ P.ac (P.le pr_2002) = cO := ⟨hq9.1, hq9.2.1, hq9.2.2.1⟩
  have hq8 := hq9.2.2.2
  have hX_e0 : P.oa (P.le pr_2002) (j0).toNat = some x := (by rw [ex]; exact (hlk_2004.2.2.2.2 (j0) (by omega) (by omega)).1)
  have hxm : x ∈ L := (by rw [ex]; exact (hlk_2004.2.2.2.2 (j0) (by omega) (by omega)).2.1)
  have hxk := (hlk_2004.2.2.2.2 (j0) (by omega) (by omega)).2.2
  rw [← ex] at hxk
  have hPc := hP.part (X := [(h0, .inr (16, [v19_0, v19_1, v19_2, v19_3, v19_4, v19_5, v19_6, v19_7, v19_8, v19_9, v19_10, v19_11, .ref q_1912, .ref q_1913, .ref q_1914, v19_15, v19_16, v19_17, v19_18, v19_19, v19_20, v19_21, v19_22, v19_23, v19_24, v19_25, v19_26, v19_27, v19_28, v19_29, v19_30, v19_31, v19_32, v19_33, v19_34, v19_35, v19_36, v19_37, v19_38, v19_39, v19_40])), (q_1912, .inl (cA_1912, 1002, .inl (fun j : Nat => zI (a19_replaced (j : Int))))), (q_1913, .inl (cA_1913, 1002, .inl (fun j : Nat => zI (a19_byReg (j : Int))))), (q_1914, .inl (cA_1914, 1002, .inl (fun j : Nat => zI (a19_by (j : Int))))), (hc, .inr (12, [v13_0, v13_1, v13_2, v13_3, v13_4, .ref la, v13_6]))]) (cx := []) (pl := va_pl L (pE P)) [] rfl
  have hDc := hD.part (X := [(h0, .inr (16, [v19_0, v19_1, v19_2, v19_3, v19_4, v19_5, v19_6, v19_7, v19_8, v19_9, v19_10, v19_11, .ref q_1912, .ref q_1913, .ref q_1914, v19_15, v19_16, v19_17, v19_18, v19_19, v19_20, v19_21, v19_22, v19_23, v19_24, v19_25, v19_26, v19_27, v19_28, v19_29, v19_30, v19_31, v19_32, v19_33, v19_34, v19_35, v19_36, v19_37, v19_38, v19_39, v19_40])), (q_1912, .inl (cA_1912, 1002, .inl (fun j : Nat => zI (a19_replaced (j : Int))))), (q_1913, .inl (cA_1913, 1002, .inl (fun j : Nat => zI (a19_byReg (j : Int))))), (q_1914, .inl (cA_1914, 1002, .inl (fun j : Nat => zI (a19_by (j : Int))))), (hc, .inr (12, [v13_0, v13_1, v13_2, v13_3, v13_4, .ref la, v13_6]))]) (cx := []) (pl := va_pl L (pE P)) [] (by decide) rfl
  have hKc := hK.sub (tys' := [(cO, .object "java/lang/Object")]) [3] rfl
  have hFc := va_freeP (X := [(h0, .inr (16, [v19_0, v19_1, v19_2, v19_3, v19_4, v19_5, v19_6, v19_7, v19_8, v19_9, v19_10, v19_11, .ref q_1912, .ref q_1913, .ref q_1914, v19_15, v19_16, v19_17, v19_18, v19_19, v19_20, v19_21, v19_22, v19_23, v19_24, v19_25, v19_26, v19_27, v19_28, v19_29, v19_30, v19_31, v19_32, v19_33, v19_34, v19_35, v19_36, v19_37, v19_38, v19_39, v19_40])), (q_1912, .inl (cA_1912, 1002, .inl (fun j : Nat => zI (a19_replaced (j : Int))))), (q_1913, .inl (cA_1913, 1002, .inl (fun j : Nat => zI (a19_byReg (j : Int))))), (q_1914, .inl (cA_1914, 1002, .inl (fun j : Nat => zI (a19_by (j : Int))))), (hc, .inr (12, [v13_0, v13_1, v13_2, v13_3, v13_4, .ref la, v13_6]))]) (cx := []) (pl := va_pl L (pE P)) hD hS hA [] rfl
  refine va_callr (va_runV (As := [.int (zI (j0))]) (rest := []) ⟨hx, hb, hml, hown, hts⟩ (c_PL_get l dC dI cO L P pr_2002 j0 x hX_x hX_k hX_q (by omega) hX_e0 H.size) (cwV 1 hts g_P19_equal_PL_get rfl rfl rfl (by decide +kernel) ⟨(Nat.le_of_ble_eq_true rfl), (Nat.le_of_ble_eq_true rfl)⟩) ⟨fun a U g mk q => by obtain ⟨q0, q1, qP, qK, qD⟩ := q; exact ⟨q0, q1, qP, va_K.moved (u := U) (U := U.calling g mk a) (Vm.Alike.refl U.vm) qK, qD⟩, recv_30 hKc hPc hlk_2003.1 hlk_2003.2.1, fun U hU hW => ⟨rfl, by rw [hU], by rw [hU]; exact hPc, va_K.moved hW.alike hKc, hDc.weaken (fun _ _ _ _ => trivial)⟩⟩ rfl rfl hl.1 rfl (lv_room (Nat.le_of_ble_eq_true rfl)) dX19_equal_5 ⟨(Nat.le_of_ble_eq_true rfl), (Nat.le_of_ble_eq_true rfl)⟩) hS (fun q _ h => hFc q h) hFc (fun u q_2005 t H1 locs ht hvm hw hB hz1 hk1 hS => ?_)
  obtain ⟨hxt_2005, hP1, hK1, hD1⟩ := hB
  rw [ht] at hP1
  have hK1 := va_K.moved hvm.symm hK1
  obtain ⟨hP, hD⟩ := va_joinP (X := [(h0, .inr (16, [v19_0, v19_1, v19_2, v19_3, v19_4, v19_5, v19_6, v19_7, v19_8, v19_9, v19_10, v19_11, .ref q_1912, .ref q_1913, .ref q_1914, v19_15, v19_16, v19_17, v19_18, v19_19, v19_20, v19_21, v19_22, v19_23, v19_24, v19_25, v19_26, v19_27, v19_28, v19_29, v19_30, v19_31, v19_32, v19_33, v19_34, v19_35, v19_36, v19_37, v19_38, v19_39, v19_40])), (q_1912, .inl (cA_1912, 1002, .inl (fun j : Nat => zI (a19_replaced (j : Int))))), (q_1913, .inl (cA_1913, 1002, .inl (fun j : Nat => zI (a19_byReg (j : Int))))), (q_1914, .inl (cA_1914, 1002, .inl (fun j : Nat => zI (a19_by (j : Int))))), (hc, .inr (12, [v13_0, v13_1, v13_2, v13_3, v13_4, .ref la, v13_6]))]) (cx := []) (wr := [(h0, .inr (16, [v19_0, v19_1, v19_2, v19_3, v19_4, v19_5, v19_6, v19_7, v19_8, v19_9, v19_10, v19_11, .ref q_1912, .ref q_1913, .ref q_1914, v19_15, v19_16, v19_17, v19_18, v19_19, v19_20, v19_21, v19_22, v19_23, v19_24, v19_25, v19_26, v19_27, v19_28, v19_29, v19_30, v19_31, v19_32, v19_33, v19_34, v19_35, v19_36, v19_37, v19_38, v19_39, v19_40])), (q_1912, .inl (cA_1912, 1002, .inl (fun j : Nat => zI (a19_replaced (j : Int))))), (q_1913, .inl (cA_1913, 1002, .inl (fun j : Nat => zI (a19_byReg (j : Int))))), (q_1914, .inl (cA_1914, 1002, .inl (fun j : Nat => zI (a19_by (j : Int))))), (hc, .inr (12, [v13_0, v13_1, v13_2, v13_3, v13_4, .ref la, v13_6]))]) (rx := []) (pl := va_pl L (pE P)) (pl1 := va_pl L (pE P)) hP hD [] [0, 1, 2, 3, 4] rfl rfl (by decide) (by decide) hk1 hFc hP1 hD1
  have hK := (hK.sub (tys' := [(cA_1912, .boolean), (cA_1913, .boolean), (cA_1914, .int), (cI, .int), (cZ, .boolean)]) [0, 1, 2, 4, 5] rfl).app hK1
  generalize H1 = H at hP hS ⊢
  have hP : va_P (dC, dI) vwQ ([(h0, .inr (16, [v19_0, v19_1, v19_2, v19_3, v19_4, v19_5, v19_6, v19_7, v19_8, v19_9, v19_10, v19_11, .ref q_1912, .ref q_1913, .ref q_1914, v19_15, v19_16, v19_17, v19_18, v19_19, v19_20, v19_21, v19_22, v19_23, v19_24, v19_25, v19_26, v19_27, v19_28, v19_29, v19_30, v19_31, v19_32, v19_33, v19_34, v19_35, v19_36, v19_37, v19_38, v19_39, v19_40])), (q_1912, .inl (cA_1912, 1002, .inl (fun j : Nat => zI (a19_replaced (j : Int))))), (q_1913, .inl (cA_1913, 1002, .inl (fun j : Nat => zI (a19_byReg (j : Int))))), (q_1914, .inl (cA_1914, 1002, .inl (fun j : Nat => zI (a19_by (j : Int))))), (hc, .inr (12, [v13_0, v13_1, v13_2, v13_3, v13_4, .ref la, v13_6]))] ++ va_pl L (pE P)) H := hP
  have hD : va_D A ([(h0, .inr (16, [v19_0, v19_1, v19_2, v19_3, v19_4, v19_5, v19_6, v19_7, v19_8, v19_9, v19_10, v19_11, .ref q_1912, .ref q_1913, .ref q_1914, v19_15, v19_16, v19_17, v19_18, v19_19, v19_20, v19_21, v19_22, v19_23, v19_24, v19_25, v19_26, v19_27, v19_28, v19_29, v19_30, v19_31, v19_32, v19_33, v19_34, v19_35, v19_36, v19_37, v19_38, v19_39, v19_40])), (q_1912, .inl (cA_1912, 1002, .inl (fun j : Nat => zI (a19_replaced (j : Int))))), (q_1913, .inl (cA_1913, 1002, .inl (fun j : Nat => zI (a19_byReg (j : Int))))), (q_1914, .inl (cA_1914, 1002, .inl (fun j : Nat => zI (a19_by (j : Int))))), (hc, .inr (12, [v13_0, v13_1, v13_2, v13_3, v13_4, .ref la, v13_6]))] ++ va_pl L (pE P)) := hD
  have hK : va_K (dC, dI) vwQ [(cA_1912, .boolean), (cA_1913, .boolean), (cA_1914, .int), (cI, .int), (cZ, .boolean), (cO, .object "java/lang/Object")] s := hK
  refine W.widen (k := 0) (n := 0) (Nat.le_of_ble_eq_true rfl) (Nat.le_of_ble_eq_true rfl) ?_
  rw [hxt_2005]
  clear hX_e0
  obtain ⟨xp_2006, h9⟩ : ∃ q9 : Nat, q9 = x := ⟨_, rfl⟩
  subst h9
  have hm_2007 := hxm
  have hk_2008 := hxk
  have hpb_2009 : PRB P xp_2006 (P.lz la) := (by have q9 := hX_a9.2.2.1 xb hX_ib (j0) (by omega) (by rw [epr_2002.symm]; omega); rw [epr_2002.symm, ← ex] at q9; exact q9)
  refine va_castY (C := "SsaForgeModel$Phi") (nm := "SsaForgeModel$Phi") hx hb hown (ow (k := 5) rfl) hp0 (recv_15 hK hP hm_2007 hk_2008) dX19_equal_8 ?_
  refine lv_astore_n (lv' := [(3, .ref xp_2006), (0, .ref h0), (1, .ref xb), (2, .int (zI (j0)))]) hx hb dX19_equal_11 rfl hl (by decide) rfl (fun ls hl => ?_)
  refine lv_iconst (v := 0) hx hb dX19_equal_12 (by decide) ?_
  refine lv_istore (lv' := [(4, .int 0), (3, .ref xp_2006), (0, .ref h0), (1, .ref xb), (2, .int (zI (j0)))]) hx hb dX19_equal_13 hl (by decide) rfl (fun ls hl => ?_)
  have key15 : ∀ n15 : Nat, ∀ (d15_4 : Int) (ls : Array Slot) (H : Heap) (locs : List Loc), (0 ≤ d15_4 ∧ d15_4 ≤ j0) → ((j0 - d15_4 : Int).toNat) < n15 → lv_has ls 6 [(0, .ref h0), (1, .ref xb), (2, .int (zI (j0))), (3, .ref xp_2006), (4, .int (zI (d15_4)))] → va_P (dC, dI) vwQ ([(h0, .inr (16, [v19_0, v19_1, v19_2, v19_3, v19_4, v19_5, v19_6, v19_7, v19_8, v19_9, v19_10, v19_11, .ref q_1912, .ref q_1913, .ref q_1914, v19_15, v19_16, v19_17, v19_18, v19_19, v19_20, v19_21, v19_22, v19_23, v19_24, v19_25, v19_26, v19_27, v19_28, v19_29, v19_30, v19_31, v19_32, v19_33, v19_34, v19_35, v19_36, v19_37, v19_38, v19_39, v19_40])), (q_1912, .inl (cA_1912, 1002, .inl (fun j : Nat => zI (a19_replaced (j : Int))))), (q_1913, .inl (cA_1913, 1002, .inl (fun j : Nat => zI (a19_byReg (j : Int))))), (q_1914, .inl (cA_1914, 1002, .inl (fun j : Nat => zI (a19_by (j : Int))))), (hc, .inr (12, [v13_0, v13_1, v13_2, v13_3, v13_4, .ref la, v13_6]))] ++ va_pl L (pE P)) H → va_D A ([(h0, .inr (16, [v19_0, v19_1, v19_2, v19_3, v19_4, v19_5, v19_6, v19_7, v19_8, v19_9, v19_10, v19_11, .ref q_1912, .ref q_1913, .ref q_1914, v19_15, v19_16, v19_17, v19_18, v19_19, v19_20, v19_21, v19_22, v19_23, v19_24, v19_25, v19_26, v19_27, v19_28, v19_29, v19_30, v19_31, v19_32, v19_33, v19_34, v19_35, v19_36, v19_37, v19_38, v19_39, v19_40])), (q_1912, .inl (cA_1912, 1002, .inl (fun j : Nat => zI (a19_replaced (j : Int))))), (q_1913, .inl (cA_1913, 1002, .inl (fun j : Nat => zI (a19_byReg (j : Int))))), (q_1914, .inl (cA_1914, 1002, .inl (fun j : Nat => zI (a19_by (j : Int))))), (hc, .inr (12, [v13_0, v13_1, v13_2, v13_3, v13_4, .ref la, v13_6]))] ++ va_pl L (pE P)) → va_S A s.heap H locs → W p l e (headSpec v_P19_equal ({ frames := 3, cells := 0, slots := 0, locals := 64 })).room s m ([.ref h0, .ref xb, .int (zI (j0))] : List Value).toArray below meth c H locs 0 0 Q (F0 m 15 ls []) := by
    intro n15
    induction n15 with
    | zero => intro d15_4 ls H locs jd15_4 hm15; exact absurd hm15 (by omega)
    | succ n15 ih15 =>
      intro d15_4 ls H locs jd15_4 hm15 hl hP hD hS
      skip
      refine lv_iload hx hb dX19_equal_15 (lv_at hl 4 rfl) ?_
      refine lv_iload_n hx hb dX19_equal_17 rfl (lv_at hl 2 rfl) ?_
      refine lv_icmp_ge (tgt := 80) hx hb dX19_equal_18 (by decide) (fun b18 => ?_) (fun b18 => ?_)
      · have yb18 : (j0 : Int) ≤ (d15_4 : Int) := (zI_le (a := j0) (b := d15_4) (by omega) (by omega) (by omega) (by omega)).mp b18
        have hp9 := hX_a9.pik hm_2007 hk_2008
        have hpn := hp9.2.2.2.2.1
        have hpt := hp9.2.2.2.2.2.1
        clear hp9
        skip
        refine lv_iconst (v := (-1)) hx hb dX19_equal_80 (by decide) ?_
        refine lv_istore (lv' := [(4, .int (-1)), (0, .ref h0), (1, .ref xb), (2, .int (zI (j0))), (3, .ref xp_2006)]) hx hb dX19_equal_81 hl (by decide) rfl (fun ls hl => ?_)
        refine lv_iconst (v := 0) hx hb dX19_equal_83 (by decide) ?_
        refine lv_istore (lv' := [(5, .int 0), (4, .int (-1)), (0, .ref h0), (1, .ref xb), (2, .int (zI (j0))), (3, .ref xp_2006)]) hx hb dX19_equal_84 hl (by decide) rfl (fun ls hl => ?_)
        have key86 : ∀ n86 : Nat, ∀ (d86_5 : Int) (d86_4 : Int) (ls : Array Slot) (H : Heap) (locs : List Loc), (0 ≤ d86_5 ∧ d86_5 ≤ P.pn xp_2006) → (-1 ≤ d86_4 ∧ d86_4 ≤ d86_5 - 1) → ((400 - d86_5 : Int).toNat) < n86 → lv_has ls 6 [(0, .ref h0), (1, .ref xb), (2, .int (zI (j0))), (3, .ref xp_2006), (4, .int (zI (d86_4))), (5, .int (zI (d86_5)))] → va_P (dC, dI) vwQ ([(h0, .inr (16, [v19_0, v19_1, v19_2, v19_3, v19_4, v19_5, v19_6, v19_7, v19_8, v19_9, v19_10, v19_11, .ref q_1912, .ref q_1913, .ref q_1914, v19_15, v19_16, v19_17, v19_18, v19_19, v19_20, v19_21, v19_22, v19_23, v19_24, v19_25, v19_26, v19_27, v19_28, v19_29, v19_30, v19_31, v19_32, v19_33, v19_34, v19_35, v19_36, v19_37, v19_38, v19_39, v19_40])), (q_1912, .inl (cA_1912, 1002, .inl (fun j : Nat => zI (a19_replaced (j : Int))))), (q_1913, .inl (cA_1913, 1002, .inl (fun j : Nat => zI (a19_byReg (j : Int))))), (q_1914, .inl (cA_1914, 1002, .inl (fun j : Nat => zI (a19_by (j : Int))))), (hc, .inr (12, [v13_0, v13_1, v13_2, v13_3, v13_4, .ref la, v13_6]))] ++ va_pl L (pE P)) H → va_D A ([(h0, .inr (16, [v19_0, v19_1, v19_2, v19_3, v19_4, v19_5, v19_6, v19_7, v19_8, v19_9, v19_10, v19_11, .ref q_1912, .ref q_1913, .ref q_1914, v19_15, v19_16, v19_17, v19_18, v19_19, v19_20, v19_21, v19_22, v19_23, v19_24, v19_25, v19_26, v19_27, v19_28, v19_29, v19_30, v19_31, v19_32, v19_33, v19_34, v19_35, v19_36, v19_37, v19_38, v19_39, v19_40])), (q_1912, .inl (cA_1912, 1002, .inl (fun j : Nat => zI (a19_replaced (j : Int))))), (q_1913, .inl (cA_1913, 1002, .inl (fun j : Nat => zI (a19_byReg (j : Int))))), (q_1914, .inl (cA_1914, 1002, .inl (fun j : Nat => zI (a19_by (j : Int))))), (hc, .inr (12, [v13_0, v13_1, v13_2, v13_3, v13_4, .ref la, v13_6]))] ++ va_pl L (pE P)) → va_S A s.heap H locs → W p l e (headSpec v_P19_equal ({ frames := 3, cells := 0, slots := 0, locals := 64 })).room s m ([.ref h0, .ref xb, .int (zI (j0))] : List Value).toArray below meth c H locs 0 0 Q (F0 m 86 ls []) := by
          intro n86
          induction n86 with
          | zero => intro d86_5 d86_4 ls H locs jd86_5 jd86_4 hm86; exact absurd hm86 (by omega)
          | succ n86 ih86 =>
            intro d86_5 d86_4 ls H locs jd86_5 jd86_4 hm86 hl hP hD hS
            skip
            refine lv_iload hx hb dX19_equal_86 (lv_at hl 5 rfl) ?_
            refine lv_aload_n hx hb dX19_equal_88 rfl (lv_at hl 3 rfl) ?_
            obtain ⟨kp_2010, hkp_2010⟩ := va_pl_get (X := [(h0, .inr (16, [v19_0, v19_1, v19_2, v19_3, v19_4, v19_5, v19_6, v19_7, v19_8, v19_9, v19_10, v19_11, .ref q_1912, .ref q_1913, .ref q_1914, v19_15, v19_16, v19_17, v19_18, v19_19, v19_20, v19_21, v19_22, v19_23, v19_24, v19_25, v19_26, v19_27, v19_28, v19_29, v19_30, v19_31, v19_32, v19_33, v19_34, v19_35, v19_36, v19_37, v19_38, v19_39, v19_40])), (q_1912, .inl (cA_1912, 1002, .inl (fun j : Nat => zI (a19_replaced (j : Int))))), (q_1913, .inl (cA_1913, 1002, .inl (fun j : Nat => zI (a19_byReg (j : Int))))), (q_1914, .inl (cA_1914, 1002, .inl (fun j : Nat => zI (a19_by (j : Int))))), (hc, .inr (12, [v13_0, v13_1, v13_2, v13_3, v13_4, .ref la, v13_6]))]) (f := pE P) hm_2007
            rw [pE_phi hk_2008] at hkp_2010
            refine va_get (D := (dC, dI)) (ci := 20) (v := .int (zI (P.pn xp_2006))) (C := RX15) (T := TX15) (N := 6) hx hb hts mem_P19_equal_2 hown hK hP kp_2010 hkp_2010 rfl 1 (by decide) (ow (k := 6) rfl) (fun _ h9 => h9) rfl dX19_equal_89 ?_
            refine lv_icmp_ge (tgt := 176) hx hb dX19_equal_92 (by decide) (fun b92 => ?_) (fun b92 => ?_)
            · have yb92 : (P.pn xp_2006 : Int) ≤ (d86_5 : Int) := (zI_le (a := P.pn xp_2006) (b := d86_5) (by omega) (by omega) (by omega) (by omega)).mp b92
              refine lv_iload hx hb dX19_equal_176 (lv_at hl 4 rfl) ?_
              refine lv_if_ge (tgt := 183) hx hb dX19_equal_178 (by decide) (fun b178 => ?_) (fun b178 => ?_)
              · have yb178 : (0 : Int) ≤ (d86_4 : Int) := (zI_le (a := 0) (b := d86_4) (by omega) (by omega) (by omega) (by omega)).mp b178
                refine lv_aload_n hx hb dX19_equal_183 rfl (lv_at hl 0 rfl) ?_
                refine lv_aload_n hx hb dX19_equal_184 rfl (lv_at hl 3 rfl) ?_
                obtain ⟨kp_2011, hkp_2011⟩ := va_pl_get (X := [(h0, .inr (16, [v19_0, v19_1, v19_2, v19_3, v19_4, v19_5, v19_6, v19_7, v19_8, v19_9, v19_10, v19_11, .ref q_1912, .ref q_1913, .ref q_1914, v19_15, v19_16, v19_17, v19_18, v19_19, v19_20, v19_21, v19_22, v19_23, v19_24, v19_25, v19_26, v19_27, v19_28, v19_29, v19_30, v19_31, v19_32, v19_33, v19_34, v19_35, v19_36, v19_37, v19_38, v19_39, v19_40])), (q_1912, .inl (cA_1912, 1002, .inl (fun j : Nat => zI (a19_replaced (j : Int))))), (q_1913, .inl (cA_1913, 1002, .inl (fun j : Nat => zI (a19_byReg (j : Int))))), (q_1914, .inl (cA_1914, 1002, .inl (fun j : Nat => zI (a19_by (j : Int))))), (hc, .inr (12, [v13_0, v13_1, v13_2, v13_3, v13_4, .ref la, v13_6]))]) (f := pE P) hm_2007
                rw [pE_phi hk_2008] at hkp_2011
                refine va_get (D := (dC, dI)) (ci := 20) (v := .int (zI (P.pt xp_2006))) (C := RX15) (T := TX15) (N := 6) hx hb hts mem_P19_equal_2 hown hK hP kp_2011 hkp_2011 rfl 0 (by decide) (ow (k := 7) rfl) (fun _ h9 => h9) rfl dX19_equal_185 ?_
                refine lv_aload_n hx hb dX19_equal_188 rfl (lv_at hl 3 rfl) ?_
                obtain ⟨kp_2012, hkp_2012⟩ := va_pl_get (X := [(h0, .inr (16, [v19_0, v19_1, v19_2, v19_3, v19_4, v19_5, v19_6, v19_7, v19_8, v19_9, v19_10, v19_11, .ref q_1912, .ref q_1913, .ref q_1914, v19_15, v19_16, v19_17, v19_18, v19_19, v19_20, v19_21, v19_22, v19_23, v19_24, v19_25, v19_26, v19_27, v19_28, v19_29, v19_30, v19_31, v19_32, v19_33, v19_34, v19_35, v19_36, v19_37, v19_38, v19_39, v19_40])), (q_1912, .inl (cA_1912, 1002, .inl (fun j : Nat => zI (a19_replaced (j : Int))))), (q_1913, .inl (cA_1913, 1002, .inl (fun j : Nat => zI (a19_byReg (j : Int))))), (q_1914, .inl (cA_1914, 1002, .inl (fun j : Nat => zI (a19_by (j : Int))))), (hc, .inr (12, [v13_0, v13_1, v13_2, v13_3, v13_4, .ref la, v13_6]))]) (f := pE P) hm_2007
                rw [pE_phi hk_2008] at hkp_2012
                refine va_get (D := (dC, dI)) (ci := 20) (v := .ref (P.pu xp_2006)) (C := RX15) (T := TX15) (N := 6) hx hb hts mem_P19_equal_2 hown hK hP kp_2012 hkp_2012 rfl 3 (by decide) (ow (k := 8) rfl) (fun _ h9 => h9) rfl dX19_equal_189 ?_
                obtain ⟨pr_2013, epr_2013⟩ : ∃ q9 : Nat, q9 = P.pu xp_2006 := ⟨_, rfl⟩
                rw [← epr_2013]
                have hpk_2014 := hX_a9.pik hm_2007 hk_2008
                have hopr_2013 : pr_2013 ∈ L ∧ P.kd pr_2013 = 41 ∧ P.ac pr_2013 = cI ∧ P.ow pr_2013 = xp_2006 := (by rw [epr_2013]; exact hpk_2014.2.2.1)
                have hnpr_2013 : P.an pr_2013 = P.an (P.pu xp_2006) := (by rw [epr_2013])
                have hipr_2013 : P.ia pr_2013 = P.ia (P.pu xp_2006) := (by rw [epr_2013])
                refine lv_iload hx hb dX19_equal_192 (lv_at hl 4 rfl) ?_
                obtain ⟨kp_2015, hkp_2015⟩ := va_pl_get (X := [(h0, .inr (16, [v19_0, v19_1, v19_2, v19_3, v19_4, v19_5, v19_6, v19_7, v19_8, v19_9, v19_10, v19_11, .ref q_1912, .ref q_1913, .ref q_1914, v19_15, v19_16, v19_17, v19_18, v19_19, v19_20, v19_21, v19_22, v19_23, v19_24, v19_25, v19_26, v19_27, v19_28, v19_29, v19_30, v19_31, v19_32, v19_33, v19_34, v19_35, v19_36, v19_37, v19_38, v19_39, v19_40])), (q_1912, .inl (cA_1912, 1002, .inl (fun j : Nat => zI (a19_replaced (j : Int))))), (q_1913, .inl (cA_1913, 1002, .inl (fun j : Nat => zI (a19_byReg (j : Int))))), (q_1914, .inl (cA_1914, 1002, .inl (fun j : Nat => zI (a19_by (j : Int))))), (hc, .inr (12, [v13_0, v13_1, v13_2, v13_3, v13_4, .ref la, v13_6]))]) (f := pE P) hopr_2013.1
                rw [pE_n41 hopr_2013.2.1, hopr_2013.2.2.1] at hkp_2015
                refine va_iald hx hb hK hP kp_2015 3 hkp_2015 rfl (zI_in (a := d86_4) (n := P.an pr_2013) (by omega) (by omega) (by omega)) dX19_equal_194 ?_
                refine lv_topi (fun z ez => ?_)
                obtain rfl : z = zI (P.ia pr_2013 (d86_4)) := ez.trans (zI_ld (P.ia pr_2013) (by omega) (by omega))
                have hef9 := hpk_2014.ef (i := d86_4) (by omega) (by omega)
                unfold PEF EF at hef9
                have : P.ia pr_2013 (d86_4) = P.ia (P.pu xp_2006) (d86_4) := (by rw [hipr_2013])
                refine lv_aload_n hx hb dX19_equal_195 rfl (lv_at hl 3 rfl) ?_
                obtain ⟨kp_2016, hkp_2016⟩ := va_pl_get (X := [(h0, .inr (16, [v19_0, v19_1, v19_2, v19_3, v19_4, v19_5, v19_6, v19_7, v19_8, v19_9, v19_10, v19_11, .ref q_1912, .ref q_1913, .ref q_1914, v19_15, v19_16, v19_17, v19_18, v19_19, v19_20, v19_21, v19_22, v19_23, v19_24, v19_25, v19_26, v19_27, v19_28, v19_29, v19_30, v19_31, v19_32, v19_33, v19_34, v19_35, v19_36, v19_37, v19_38, v19_39, v19_40])), (q_1912, .inl (cA_1912, 1002, .inl (fun j : Nat => zI (a19_replaced (j : Int))))), (q_1913, .inl (cA_1913, 1002, .inl (fun j : Nat => zI (a19_byReg (j : Int))))), (q_1914, .inl (cA_1914, 1002, .inl (fun j : Nat => zI (a19_by (j : Int))))), (hc, .inr (12, [v13_0, v13_1, v13_2, v13_3, v13_4, .ref la, v13_6]))]) (f := pE P) hm_2007
                rw [pE_phi hk_2008] at hkp_2016
                refine va_get (D := (dC, dI)) (ci := 20) (v := .ref (P.pr xp_2006)) (C := RX15) (T := TX15) (N := 6) hx hb hts mem_P19_equal_2 hown hK hP kp_2016 hkp_2016 rfl 4 (by decide) (ow (k := 9) rfl) (fun _ h9 => h9) rfl dX19_equal_196 ?_
                obtain ⟨pr_2017, epr_2017⟩ : ∃ q9 : Nat, q9 = P.pr xp_2006 := ⟨_, rfl⟩
                rw [← epr_2017]
                have hpk_2018 := hX_a9.pik hm_2007 hk_2008
                have hopr_2017 : pr_2017 ∈ L ∧ P.kd pr_2017 = 42 ∧ P.ac pr_2017 = cZ ∧ P.ow pr_2017 = xp_2006 := (by rw [epr_2017]; exact hpk_2018.2.2.2.1)
                have hnpr_2017 : P.an pr_2017 = P.an (P.pr xp_2006) := (by rw [epr_2017])
                have hipr_2017 : P.ia pr_2017 = P.ia (P.pr xp_2006) := (by rw [epr_2017])
                refine lv_iload hx hb dX19_equal_199 (lv_at hl 4 rfl) ?_
                obtain ⟨kp_2019, hkp_2019⟩ := va_pl_get (X := [(h0, .inr (16, [v19_0, v19_1, v19_2, v19_3, v19_4, v19_5, v19_6, v19_7, v19_8, v19_9, v19_10, v19_11, .ref q_1912, .ref q_1913, .ref q_1914, v19_15, v19_16, v19_17, v19_18, v19_19, v19_20, v19_21, v19_22, v19_23, v19_24, v19_25, v19_26, v19_27, v19_28, v19_29, v19_30, v19_31, v19_32, v19_33, v19_34, v19_35, v19_36, v19_37, v19_38, v19_39, v19_40])), (q_1912, .inl (cA_1912, 1002, .inl (fun j : Nat => zI (a19_replaced (j : Int))))), (q_1913, .inl (cA_1913, 1002, .inl (fun j : Nat => zI (a19_byReg (j : Int))))), (q_1914, .inl (cA_1914, 1002, .inl (fun j : Nat => zI (a19_by (j : Int))))), (hc, .inr (12, [v13_0, v13_1, v13_2, v13_3, v13_4, .ref la, v13_6]))]) (f := pE P) hopr_2017.1
                rw [pE_n42 hopr_2017.2.1, hopr_2017.2.2.1] at hkp_2019
                refine va_zald hx hb hK hP kp_2019 4 hkp_2019 rfl (zI_in (a := d86_4) (n := P.an pr_2017) (by omega) (by omega) (by omega)) dX19_equal_201 ?_
                refine lv_topi (fun z ez => ?_)
                obtain rfl : z = zI (P.ia pr_2017 (d86_4)) := ez.trans (zI_ld (P.ia pr_2017) (by omega) (by omega))
                have hef9 := hpk_2018.ef (i := d86_4) (by omega) (by omega)
                unfold PEF EF at hef9
                have : P.ia pr_2017 (d86_4) = P.ia (P.pr xp_2006) (d86_4) := (by rw [hipr_2017])
                have hPc := hP.sub (ws' := [(h0, .inr (16, [v19_0, v19_1, v19_2, v19_3, v19_4, v19_5, v19_6, v19_7, v19_8, v19_9, v19_10, v19_11, .ref q_1912, .ref q_1913, .ref q_1914, v19_15, v19_16, v19_17, v19_18, v19_19, v19_20, v19_21, v19_22, v19_23, v19_24, v19_25, v19_26, v19_27, v19_28, v19_29, v19_30, v19_31, v19_32, v19_33, v19_34, v19_35, v19_36, v19_37, v19_38, v19_39, v19_40])), (q_1912, .inl (cA_1912, 1002, .inl (fun j : Nat => zI (a19_replaced (j : Int))))), (q_1913, .inl (cA_1913, 1002, .inl (fun j : Nat => zI (a19_byReg (j : Int))))), (q_1914, .inl (cA_1914, 1002, .inl (fun j : Nat => zI (a19_by (j : Int)))))]) [0, 1, 2, 3] rfl
                have hDc := hD.sub (ws' := [(h0, .inr (16, [v19_0, v19_1, v19_2, v19_3, v19_4, v19_5, v19_6, v19_7, v19_8, v19_9, v19_10, v19_11, .ref q_1912, .ref q_1913, .ref q_1914, v19_15, v19_16, v19_17, v19_18, v19_19, v19_20, v19_21, v19_22, v19_23, v19_24, v19_25, v19_26, v19_27, v19_28, v19_29, v19_30, v19_31, v19_32, v19_33, v19_34, v19_35, v19_36, v19_37, v19_38, v19_39, v19_40])), (q_1912, .inl (cA_1912, 1002, .inl (fun j : Nat => zI (a19_replaced (j : Int))))), (q_1913, .inl (cA_1913, 1002, .inl (fun j : Nat => zI (a19_byReg (j : Int))))), (q_1914, .inl (cA_1914, 1002, .inl (fun j : Nat => zI (a19_by (j : Int)))))]) [0, 1, 2, 3] (by decide) rfl
                have hKc := hK.sub (tys' := [(cA_1912, .boolean), (cA_1913, .boolean), (cA_1914, .int)]) [0, 1, 2] rfl
                have hFc := va_free (wc := [(h0, .inr (16, [v19_0, v19_1, v19_2, v19_3, v19_4, v19_5, v19_6, v19_7, v19_8, v19_9, v19_10, v19_11, .ref q_1912, .ref q_1913, .ref q_1914, v19_15, v19_16, v19_17, v19_18, v19_19, v19_20, v19_21, v19_22, v19_23, v19_24, v19_25, v19_26, v19_27, v19_28, v19_29, v19_30, v19_31, v19_32, v19_33, v19_34, v19_35, v19_36, v19_37, v19_38, v19_39, v19_40])), (q_1912, .inl (cA_1912, 1002, .inl (fun j : Nat => zI (a19_replaced (j : Int))))), (q_1913, .inl (cA_1913, 1002, .inl (fun j : Nat => zI (a19_byReg (j : Int))))), (q_1914, .inl (cA_1914, 1002, .inl (fun j : Nat => zI (a19_by (j : Int)))))]) hD hS hA [0, 1, 2, 3] rfl
                refine va_callv (va_runV (As := [.int (zI (P.pt xp_2006)), .int (zI (P.ia pr_2013 (d86_4))), .int (zI (P.ia pr_2017 (d86_4)))]) (rest := []) ⟨hx, hb, hml, hown, hts⟩ (c_X19_replaceL l dC dI h0 v19_0 v19_1 v19_2 v19_3 v19_4 v19_5 v19_6 v19_7 v19_8 v19_9 v19_10 v19_11 q_1912 cA_1912 a19_replaced q_1913 cA_1913 a19_byReg q_1914 cA_1914 a19_by v19_15 v19_16 v19_17 v19_18 v19_19 v19_20 v19_21 v19_22 v19_23 v19_24 v19_25 v19_26 v19_27 v19_28 v19_29 v19_30 v19_31 v19_32 v19_33 v19_34 v19_35 v19_36 v19_37 v19_38 v19_39 v19_40 (P.pt xp_2006) (P.ia pr_2013 (d86_4)) (P.ia pr_2017 (d86_4)) hR_a19_replaced hR_a19_byReg hR_a19_by (by omega) (by omega) (by omega) hX_R H.size) (cwV 3 hts g_P19_equal_X19_replaceL rfl rfl rfl (by decide +kernel) ⟨(Nat.le_of_ble_eq_true rfl), (Nat.le_of_ble_eq_true rfl)⟩) ⟨fun a U g mk q => by obtain ⟨q0, q1, qP, qK, qD⟩ := q; exact ⟨q0, q1, qP, va_K.moved (u := U) (U := U.calling g mk a) (Vm.Alike.refl U.vm) qK, qD⟩, va_recv hKc hPc (ci := 16) (q0 := 0) rfl rfl, fun U hU hW => ⟨rfl, by rw [hU], by rw [hU]; exact hPc, va_K.moved hW.alike hKc, hDc.weaken (fun _ _ _ _ => trivial)⟩⟩ rfl rfl hl.1 rfl (lv_room (Nat.le_of_ble_eq_true rfl)) dX19_equal_202 ⟨(Nat.le_of_ble_eq_true rfl), (Nat.le_of_ble_eq_true rfl)⟩) hS (fun q _ h => hFc q h) hFc (fun  u t H1 locs ht hvm hw hB hz1 hk1 hS => ?_)
                obtain ⟨a0_2020, a1_2021, a2_2022, hxt_2022, hP1, hK1, hD1⟩ := hB
                rw [ht] at hP1
                have hK1 := va_K.moved hvm.symm hK1
                obtain ⟨hP, hD⟩ := va_joinQ (X := [(h0, .inr (16, [v19_0, v19_1, v19_2, v19_3, v19_4, v19_5, v19_6, v19_7, v19_8, v19_9, v19_10, v19_11, .ref q_1912, .ref q_1913, .ref q_1914, v19_15, v19_16, v19_17, v19_18, v19_19, v19_20, v19_21, v19_22, v19_23, v19_24, v19_25, v19_26, v19_27, v19_28, v19_29, v19_30, v19_31, v19_32, v19_33, v19_34, v19_35, v19_36, v19_37, v19_38, v19_39, v19_40])), (q_1912, .inl (cA_1912, 1002, .inl (fun j : Nat => zI (a19_replaced (j : Int))))), (q_1913, .inl (cA_1913, 1002, .inl (fun j : Nat => zI (a19_byReg (j : Int))))), (q_1914, .inl (cA_1914, 1002, .inl (fun j : Nat => zI (a19_by (j : Int))))), (hc, .inr (12, [v13_0, v13_1, v13_2, v13_3, v13_4, .ref la, v13_6]))]) (cx := [(h0, .inr (16, [v19_0, v19_1, v19_2, v19_3, v19_4, v19_5, v19_6, v19_7, v19_8, v19_9, v19_10, v19_11, .ref q_1912, .ref q_1913, .ref q_1914, v19_15, v19_16, v19_17, v19_18, v19_19, v19_20, v19_21, v19_22, v19_23, v19_24, v19_25, v19_26, v19_27, v19_28, v19_29, v19_30, v19_31, v19_32, v19_33, v19_34, v19_35, v19_36, v19_37, v19_38, v19_39, v19_40])), (q_1912, .inl (cA_1912, 1002, .inl (fun j : Nat => zI (a19_replaced (j : Int))))), (q_1913, .inl (cA_1913, 1002, .inl (fun j : Nat => zI (a19_byReg (j : Int))))), (q_1914, .inl (cA_1914, 1002, .inl (fun j : Nat => zI (a19_by (j : Int)))))]) (wr := [(hc, .inr (12, [v13_0, v13_1, v13_2, v13_3, v13_4, .ref la, v13_6]))]) (w1 := [(h0, .inr (16, [v19_0, v19_1, v19_2, v19_3, v19_4, v19_5, v19_6, v19_7, v19_8, v19_9, v19_10, v19_11, .ref q_1912, .ref q_1913, .ref q_1914, v19_15, v19_16, v19_17, v19_18, v19_19, v19_20, v19_21, v19_22, v19_23, v19_24, v19_25, v19_26, v19_27, v19_28, v19_29, v19_30, v19_31, v19_32, v19_33, v19_34, v19_35, v19_36, v19_37, v19_38, v19_39, v19_40])), (q_1912, .inl (cA_1912, 1002, .inl (fun j : Nat => zI (a0_2020 (j : Int))))), (q_1913, .inl (cA_1913, 1002, .inl (fun j : Nat => zI (a1_2021 (j : Int))))), (q_1914, .inl (cA_1914, 1002, .inl (fun j : Nat => zI (a2_2022 (j : Int)))))]) (pl := va_pl L (pE P)) hP hD [0, 1, 2, 3] [4] rfl rfl (by decide) (by decide) hk1 hFc hP1 hD1
                have hK := (hK.sub (tys' := [(cI, .int), (cZ, .boolean), (cO, .object "java/lang/Object")]) [3, 4, 5] rfl).app hK1
                generalize H1 = H at hP hS ⊢
                have hP : va_P (dC, dI) vwQ ([(hc, .inr (12, [v13_0, v13_1, v13_2, v13_3, v13_4, .ref la, v13_6])), (h0, .inr (16, [v19_0, v19_1, v19_2, v19_3, v19_4, v19_5, v19_6, v19_7, v19_8, v19_9, v19_10, v19_11, .ref q_1912, .ref q_1913, .ref q_1914, v19_15, v19_16, v19_17, v19_18, v19_19, v19_20, v19_21, v19_22, v19_23, v19_24, v19_25, v19_26, v19_27, v19_28, v19_29, v19_30, v19_31, v19_32, v19_33, v19_34, v19_35, v19_36, v19_37, v19_38, v19_39, v19_40])), (q_1912, .inl (cA_1912, 1002, .inl (fun j : Nat => zI (a0_2020 (j : Int))))), (q_1913, .inl (cA_1913, 1002, .inl (fun j : Nat => zI (a1_2021 (j : Int))))), (q_1914, .inl (cA_1914, 1002, .inl (fun j : Nat => zI (a2_2022 (j : Int)))))] ++ va_pl L (pE P)) H := hP
                have hD : va_D A ([(hc, .inr (12, [v13_0, v13_1, v13_2, v13_3, v13_4, .ref la, v13_6])), (h0, .inr (16, [v19_0, v19_1, v19_2, v19_3, v19_4, v19_5, v19_6, v19_7, v19_8, v19_9, v19_10, v19_11, .ref q_1912, .ref q_1913, .ref q_1914, v19_15, v19_16, v19_17, v19_18, v19_19, v19_20, v19_21, v19_22, v19_23, v19_24, v19_25, v19_26, v19_27, v19_28, v19_29, v19_30, v19_31, v19_32, v19_33, v19_34, v19_35, v19_36, v19_37, v19_38, v19_39, v19_40])), (q_1912, .inl (cA_1912, 1002, .inl (fun j : Nat => zI (a0_2020 (j : Int))))), (q_1913, .inl (cA_1913, 1002, .inl (fun j : Nat => zI (a1_2021 (j : Int))))), (q_1914, .inl (cA_1914, 1002, .inl (fun j : Nat => zI (a2_2022 (j : Int)))))] ++ va_pl L (pE P)) := hD
                have hK : va_K (dC, dI) vwQ [(cI, .int), (cZ, .boolean), (cO, .object "java/lang/Object"), (cA_1912, .boolean), (cA_1913, .boolean), (cA_1914, .int)] s := hK
                refine W.widen (k := 0) (n := 0) (Nat.le_of_ble_eq_true rfl) (Nat.le_of_ble_eq_true rfl) ?_
                obtain ⟨rk_2023, rk_2024, rk_2025, hu_2025⟩ := hxt_2022
                have hR9 := hu_2025
                refine lv_aload_n hx hb dX19_equal_205 rfl (lv_at hl 3 rfl) ?_
                refine lv_iconst (v := 1) hx hb dX19_equal_206 (by decide) ?_
                refine lv_topi (fun z ez => ?_)
                obtain rfl : z = zI (1) := ez
                obtain ⟨kp_2026, gkp_2026⟩ := va_pl_get (X := [(hc, .inr (12, [v13_0, v13_1, v13_2, v13_3, v13_4, .ref la, v13_6])), (h0, .inr (16, [v19_0, v19_1, v19_2, v19_3, v19_4, v19_5, v19_6, v19_7, v19_8, v19_9, v19_10, v19_11, .ref q_1912, .ref q_1913, .ref q_1914, v19_15, v19_16, v19_17, v19_18, v19_19, v19_20, v19_21, v19_22, v19_23, v19_24, v19_25, v19_26, v19_27, v19_28, v19_29, v19_30, v19_31, v19_32, v19_33, v19_34, v19_35, v19_36, v19_37, v19_38, v19_39, v19_40])), (q_1912, .inl (cA_1912, 1002, .inl (fun j : Nat => zI (a0_2020 (j : Int))))), (q_1913, .inl (cA_1913, 1002, .inl (fun j : Nat => zI (a1_2021 (j : Int))))), (q_1914, .inl (cA_1914, 1002, .inl (fun j : Nat => zI (a2_2022 (j : Int)))))]) (f := pE P) hm_2007
                have hkp_2026 := gkp_2026
                rw [pE_phi hk_2008] at hkp_2026
                have hD0 := hD
                refine va_put (D := (dC, dI)) (ci := 20) (v := .int (zI (1))) (ty := .boolean) (C := RX15) (T := TX15) (N := 6) hx hb hts mem_P19_equal_2 tyX15 tyX15_ok nmX15 hown hK hP hD hS kp_2026 hkp_2026 rfl 5 (by decide) (ow (k := 14) rfl) (fun _ h9 => h9) rfl (by decide +kernel) (zI_bool (by omega) (by omega)) (zI_fitb (by omega) (by omega)) (Nat.le_of_ble_eq_true rfl) dX19_equal_207 (fun H locs hP hD hS => ?_)
                obtain ⟨Pw_2027, ePw_2027⟩ : ∃ q9 : PO, q9 = P.rw9 2 xp_2006 (1) := ⟨_, rfl⟩
                have eU : (([(hc, .inr (12, [v13_0, v13_1, v13_2, v13_3, v13_4, .ref la, v13_6])), (h0, .inr (16, [v19_0, v19_1, v19_2, v19_3, v19_4, v19_5, v19_6, v19_7, v19_8, v19_9, v19_10, v19_11, .ref q_1912, .ref q_1913, .ref q_1914, v19_15, v19_16, v19_17, v19_18, v19_19, v19_20, v19_21, v19_22, v19_23, v19_24, v19_25, v19_26, v19_27, v19_28, v19_29, v19_30, v19_31, v19_32, v19_33, v19_34, v19_35, v19_36, v19_37, v19_38, v19_39, v19_40])), (q_1912, .inl (cA_1912, 1002, .inl (fun j : Nat => zI (a0_2020 (j : Int))))), (q_1913, .inl (cA_1913, 1002, .inl (fun j : Nat => zI (a1_2021 (j : Int))))), (q_1914, .inl (cA_1914, 1002, .inl (fun j : Nat => zI (a2_2022 (j : Int)))))] : va_W) ++ va_pl L (pE P)).set kp_2026 (xp_2006, phiE (P.pt xp_2006) (P.pn xp_2006) (P.pp xp_2006) (P.pu xp_2006) (P.pr xp_2006) (1)) = ([(hc, .inr (12, [v13_0, v13_1, v13_2, v13_3, v13_4, .ref la, v13_6])), (h0, .inr (16, [v19_0, v19_1, v19_2, v19_3, v19_4, v19_5, v19_6, v19_7, v19_8, v19_9, v19_10, v19_11, .ref q_1912, .ref q_1913, .ref q_1914, v19_15, v19_16, v19_17, v19_18, v19_19, v19_20, v19_21, v19_22, v19_23, v19_24, v19_25, v19_26, v19_27, v19_28, v19_29, v19_30, v19_31, v19_32, v19_33, v19_34, v19_35, v19_36, v19_37, v19_38, v19_39, v19_40])), (q_1912, .inl (cA_1912, 1002, .inl (fun j : Nat => zI (a0_2020 (j : Int))))), (q_1913, .inl (cA_1913, 1002, .inl (fun j : Nat => zI (a1_2021 (j : Int))))), (q_1914, .inl (cA_1914, 1002, .inl (fun j : Nat => zI (a2_2022 (j : Int)))))] : va_W) ++ va_pl L (pE Pw_2027) := (by rw [va_pl_set hD0 hm_2007 gkp_2026, ePw_2027]; exact congrArg (fun f9 => ([(hc, .inr (12, [v13_0, v13_1, v13_2, v13_3, v13_4, .ref la, v13_6])), (h0, .inr (16, [v19_0, v19_1, v19_2, v19_3, v19_4, v19_5, v19_6, v19_7, v19_8, v19_9, v19_10, v19_11, .ref q_1912, .ref q_1913, .ref q_1914, v19_15, v19_16, v19_17, v19_18, v19_19, v19_20, v19_21, v19_22, v19_23, v19_24, v19_25, v19_26, v19_27, v19_28, v19_29, v19_30, v19_31, v19_32, v19_33, v19_34, v19_35, v19_36, v19_37, v19_38, v19_39, v19_40])), (q_1912, .inl (cA_1912, 1002, .inl (fun j : Nat => zI (a0_2020 (j : Int))))), (q_1913, .inl (cA_1913, 1002, .inl (fun j : Nat => zI (a1_2021 (j : Int))))), (q_1914, .inl (cA_1914, 1002, .inl (fun j : Nat => zI (a2_2022 (j : Int)))))] : va_W) ++ va_pl L f9) (put15_2 hk_2008))
                have hP : va_P (dC, dI) vwQ ([(hc, .inr (12, [v13_0, v13_1, v13_2, v13_3, v13_4, .ref la, v13_6])), (h0, .inr (16, [v19_0, v19_1, v19_2, v19_3, v19_4, v19_5, v19_6, v19_7, v19_8, v19_9, v19_10, v19_11, .ref q_1912, .ref q_1913, .ref q_1914, v19_15, v19_16, v19_17, v19_18, v19_19, v19_20, v19_21, v19_22, v19_23, v19_24, v19_25, v19_26, v19_27, v19_28, v19_29, v19_30, v19_31, v19_32, v19_33, v19_34, v19_35, v19_36, v19_37, v19_38, v19_39, v19_40])), (q_1912, .inl (cA_1912, 1002, .inl (fun j : Nat => zI (a0_2020 (j : Int))))), (q_1913, .inl (cA_1913, 1002, .inl (fun j : Nat => zI (a1_2021 (j : Int))))), (q_1914, .inl (cA_1914, 1002, .inl (fun j : Nat => zI (a2_2022 (j : Int)))))] ++ va_pl L (pE Pw_2027)) H := (by rw [← eU]; exact hP)
                have hD : va_D A ([(hc, .inr (12, [v13_0, v13_1, v13_2, v13_3, v13_4, .ref la, v13_6])), (h0, .inr (16, [v19_0, v19_1, v19_2, v19_3, v19_4, v19_5, v19_6, v19_7, v19_8, v19_9, v19_10, v19_11, .ref q_1912, .ref q_1913, .ref q_1914, v19_15, v19_16, v19_17, v19_18, v19_19, v19_20, v19_21, v19_22, v19_23, v19_24, v19_25, v19_26, v19_27, v19_28, v19_29, v19_30, v19_31, v19_32, v19_33, v19_34, v19_35, v19_36, v19_37, v19_38, v19_39, v19_40])), (q_1912, .inl (cA_1912, 1002, .inl (fun j : Nat => zI (a0_2020 (j : Int))))), (q_1913, .inl (cA_1913, 1002, .inl (fun j : Nat => zI (a1_2021 (j : Int))))), (q_1914, .inl (cA_1914, 1002, .inl (fun j : Nat => zI (a2_2022 (j : Int)))))] ++ va_pl L (pE Pw_2027)) := (by rw [← eU]; exact hD)
                clear eU hD0 gkp_2026 hkp_2026
                have wPw_2027 : PH1 xp_2006 P Pw_2027 := (by rw [ePw_2027]; exact PH1.put _ _ _ _)
                have hy_2028 : Pw_2027.kd la = 30 := (by rw [ePw_2027]; exact hX_a.lok.2.1)
                have hy_2029 : Pw_2027.kd xb = 12 := (by rw [ePw_2027]; exact (hX_a9.inb hX_ib).1.2)
                have : Pw_2027.bf xb = P.bf xb := wPw_2027.2.1 _ (kd_ne (hX_a9.inb hX_ib).1.2 hk_2008 (by decide)) _
                have : Pw_2027.bs xb = P.bs xb := wPw_2027.2.1 _ (kd_ne (hX_a9.inb hX_ib).1.2 hk_2008 (by decide)) _
                have hy_2030 : Pw_2027.kd pr_2002 = 30 := (by rw [ePw_2027]; exact hlk_2003.2.1)
                have hy_2031 : Pw_2027.kd xp_2006 = 15 := (by rw [ePw_2027]; exact hk_2008)
                have : Pw_2027.pt xp_2006 = P.pt xp_2006 := (by rw [ePw_2027]; exact rw9_of _ (by decide))
                have : Pw_2027.pn xp_2006 = P.pn xp_2006 := (by rw [ePw_2027]; exact rw9_of _ (by decide))
                have : Pw_2027.pg xp_2006 = 1 := (by rw [ePw_2027]; exact rw9_at _ _ _ _)
                have hy_2032 : Pw_2027.kd pr_2013 = 41 := (by rw [ePw_2027]; exact hopr_2013.2.1)
                have hy_2033 : Pw_2027.kd pr_2017 = 42 := (by rw [ePw_2027]; exact hopr_2017.2.1)
                have hc_2034 : Pw_2027.ac pr_2013 = cI := (by rw [ePw_2027]; exact hopr_2013.2.2.1)
                have : Pw_2027.an pr_2013 = P.an pr_2013 := (by rw [ePw_2027]; rfl)
                have hc_2035 : Pw_2027.ac pr_2017 = cZ := (by rw [ePw_2027]; exact hopr_2017.2.2.1)
                have : Pw_2027.an pr_2017 = P.an pr_2017 := (by rw [ePw_2027]; rfl)
                have ha_2036 : Pw_2027.bp xb = pr_2002 := (by rw [ePw_2027]; exact epr_2002.symm)
                have ha_2037 : Pw_2027.pu xp_2006 = pr_2013 := (by rw [ePw_2027]; exact epr_2013.symm)
                have ha_2038 : Pw_2027.pr xp_2006 = pr_2017 := (by rw [ePw_2027]; exact epr_2017.symm)
                have ho_2039 : Pw_2027.ow pr_2013 = xp_2006 := (by rw [ePw_2027]; exact hopr_2013.2.2.2)
                have ho_2040 : Pw_2027.ow pr_2017 = xp_2006 := (by rw [ePw_2027]; exact hopr_2017.2.2.2)
                have hW_2041 : PH1 xp_2006 P Pw_2027 := wPw_2027
                have hrw_2044 : RWD P Pw_2027 := hW_2041.rwd hk_2008
                have hak_2043 : ALP L Pw_2027 cO cI cZ sx_ed la := hX_a9.phi hW_2041 hk_2008 ((hX_a9.pik hm_2007 hk_2008).of hW_2041 (by omega) (by omega) (by omega) (fun i i0 i1 => (by have q9 := (hX_a9.pik hm_2007 hk_2008).ef (i := i) i0 (by omega); rw [ePw_2027]; exact q9))) (fun n q8 i i0 i1 => by have q9 := q8 i i0 (by omega); rw [ePw_2027]; exact q9)
                have hke_2042 : KEP [] L P L Pw_2027 la := hrw_2044.kep _ hX_a.lok.2.1
                have hq_2045 : la ∈ L ∧ Pw_2027.kd la = 30 := hke_2042.mem hX_a.lok.1 hX_a.lok.2.1 (by decide)
                have hq_2046 : xb ∈ L ∧ Pw_2027.kd xb = 12 := hke_2042.mem (hX_a9.inb hX_ib).1.1 (hX_a9.inb hX_ib).1.2 (by decide)
                have hq_2047 : pr_2002 ∈ L ∧ Pw_2027.kd pr_2002 = 30 := hke_2042.mem hlk_2003.1 hlk_2003.2.1 (by decide)
                have hq_2048 : xp_2006 ∈ L ∧ Pw_2027.kd xp_2006 = 15 := hke_2042.mem hm_2007 hk_2008 (by decide)
                have hi_2049 : INB Pw_2027 la xb := hke_2042.inb hX_ib
                have ha_2050 : Pw_2027.bp xb = pr_2002 := hke_2042.bp (hX_a9.inb hX_ib).1.1 (hX_a9.inb hX_ib).1.2 epr_2002.symm
                have hz9 := hke_2042.2.2.1
                have hA_2051 : KEP [] L P L Pw_2027 la := (KEP.refl [] L P la).trans hke_2042
                have : Pw_2027.lz la = P.lz la := hrw_2044.lz hX_a.lok.2.1
                have : Pw_2027.lz pr_2002 = P.lz pr_2002 := hrw_2044.lz hlk_2003.2.1
                have ht9 := hrw_2044.tot hX_a9 2 (Or.inr rfl)
                have ht8 := hrw_2044.tot hX_a9 1 (Or.inl rfl)
                refine lv_iconst (v := 1) hx hb dX19_equal_210 (by decide) ?_
                subst hQ
                have hP := hP.part (X := [(hc, .inr (12, [v13_0, v13_1, v13_2, v13_3, v13_4, .ref la, v13_6])), (h0, .inr (16, [v19_0, v19_1, v19_2, v19_3, v19_4, v19_5, v19_6, v19_7, v19_8, v19_9, v19_10, v19_11, .ref q_1912, .ref q_1913, .ref q_1914, v19_15, v19_16, v19_17, v19_18, v19_19, v19_20, v19_21, v19_22, v19_23, v19_24, v19_25, v19_26, v19_27, v19_28, v19_29, v19_30, v19_31, v19_32, v19_33, v19_34, v19_35, v19_36, v19_37, v19_38, v19_39, v19_40])), (q_1912, .inl (cA_1912, 1002, .inl (fun j : Nat => zI (a0_2020 (j : Int))))), (q_1913, .inl (cA_1913, 1002, .inl (fun j : Nat => zI (a1_2021 (j : Int))))), (q_1914, .inl (cA_1914, 1002, .inl (fun j : Nat => zI (a2_2022 (j : Int)))))]) (cx := [(h0, .inr (16, [v19_0, v19_1, v19_2, v19_3, v19_4, v19_5, v19_6, v19_7, v19_8, v19_9, v19_10, v19_11, .ref q_1912, .ref q_1913, .ref q_1914, v19_15, v19_16, v19_17, v19_18, v19_19, v19_20, v19_21, v19_22, v19_23, v19_24, v19_25, v19_26, v19_27, v19_28, v19_29, v19_30, v19_31, v19_32, v19_33, v19_34, v19_35, v19_36, v19_37, v19_38, v19_39, v19_40])), (q_1912, .inl (cA_1912, 1002, .inl (fun j : Nat => zI (a0_2020 (j : Int))))), (q_1913, .inl (cA_1913, 1002, .inl (fun j : Nat => zI (a1_2021 (j : Int))))), (q_1914, .inl (cA_1914, 1002, .inl (fun j : Nat => zI (a2_2022 (j : Int))))), (hc, .inr (12, [v13_0, v13_1, v13_2, v13_3, v13_4, .ref la, v13_6]))]) (pl := va_pl L (pE Pw_2027)) [1, 2, 3, 4, 0] rfl
                have hD := hD.part (X := [(hc, .inr (12, [v13_0, v13_1, v13_2, v13_3, v13_4, .ref la, v13_6])), (h0, .inr (16, [v19_0, v19_1, v19_2, v19_3, v19_4, v19_5, v19_6, v19_7, v19_8, v19_9, v19_10, v19_11, .ref q_1912, .ref q_1913, .ref q_1914, v19_15, v19_16, v19_17, v19_18, v19_19, v19_20, v19_21, v19_22, v19_23, v19_24, v19_25, v19_26, v19_27, v19_28, v19_29, v19_30, v19_31, v19_32, v19_33, v19_34, v19_35, v19_36, v19_37, v19_38, v19_39, v19_40])), (q_1912, .inl (cA_1912, 1002, .inl (fun j : Nat => zI (a0_2020 (j : Int))))), (q_1913, .inl (cA_1913, 1002, .inl (fun j : Nat => zI (a1_2021 (j : Int))))), (q_1914, .inl (cA_1914, 1002, .inl (fun j : Nat => zI (a2_2022 (j : Int)))))]) (cx := [(h0, .inr (16, [v19_0, v19_1, v19_2, v19_3, v19_4, v19_5, v19_6, v19_7, v19_8, v19_9, v19_10, v19_11, .ref q_1912, .ref q_1913, .ref q_1914, v19_15, v19_16, v19_17, v19_18, v19_19, v19_20, v19_21, v19_22, v19_23, v19_24, v19_25, v19_26, v19_27, v19_28, v19_29, v19_30, v19_31, v19_32, v19_33, v19_34, v19_35, v19_36, v19_37, v19_38, v19_39, v19_40])), (q_1912, .inl (cA_1912, 1002, .inl (fun j : Nat => zI (a0_2020 (j : Int))))), (q_1913, .inl (cA_1913, 1002, .inl (fun j : Nat => zI (a1_2021 (j : Int))))), (q_1914, .inl (cA_1914, 1002, .inl (fun j : Nat => zI (a2_2022 (j : Int))))), (hc, .inr (12, [v13_0, v13_1, v13_2, v13_3, v13_4, .ref la, v13_6]))]) (pl := va_pl L (pE Pw_2027)) [1, 2, 3, 4, 0] (by decide) rfl
                have hK := hK.sub (tys' := [(cA_1912, .boolean), (cA_1913, .boolean), (cA_1914, .int), (cO, .object "java/lang/Object"), (cI, .int), (cZ, .boolean)]) [3, 4, 5, 2, 0, 1] rfl
                refine W.widen (k := 0) (n := 0) (Nat.le_of_ble_eq_true rfl) (Nat.le_of_ble_eq_true rfl) ?_
                exact W.zret (v := 1) hx hb hr (by decide) (fun t ht hW => ⟨⟨1, (1), rfl, ⟨rfl, (by omega)⟩, a0_2020, a1_2021, a2_2022, Pw_2027, ⟨rk_2023, rk_2024, rk_2025, ⟨⟨hA_2051, hak_2043, by omega, by omega⟩, hR9⟩⟩, by rw [ht]; exact hP, va_K.moved hW.alike hK, hD⟩, hS.F ht⟩) hS.2.2 dX19_equal_211
              · have yb178 : ¬ (0 : Int) ≤ (d86_4 : Int) := fun q => b178 ((zI_le (a := 0) (b := d86_4) (by omega) (by omega) (by omega) (by omega)).mpr q)
                refine lv_iconst (v := 0) hx hb dX19_equal_181 (by decide) ?_
                subst hQ
                have hK := hK.sub (tys' := [(cA_1912, .boolean), (cA_1913, .boolean), (cA_1914, .int), (cO, .object "java/lang/Object"), (cI, .int), (cZ, .boolean)]) [0, 1, 2, 5, 3, 4] rfl
                refine W.widen (k := 0) (n := 0) (Nat.le_of_ble_eq_true rfl) (Nat.le_of_ble_eq_true rfl) ?_
                exact W.zret (v := 0) hx hb hr (by decide) (fun t ht hW => ⟨⟨0, (0), rfl, ⟨rfl, (by omega)⟩, a19_replaced, a19_byReg, a19_by, P, ⟨hR_a19_replaced, hR_a19_byReg, hR_a19_by, ⟨⟨(KEP.refl [] L P la), hX_a9, by omega, by omega⟩, hX_R⟩⟩, by rw [ht]; exact hP, va_K.moved hW.alike hK, hD⟩, hS.F ht⟩) hS.2.2 dX19_equal_182
            · have yb92 : ¬ (P.pn xp_2006 : Int) ≤ (d86_5 : Int) := fun q => b92 ((zI_le (a := P.pn xp_2006) (b := d86_5) (by omega) (by omega) (by omega) (by omega)).mpr q)
              refine lv_aload_n hx hb dX19_equal_95 rfl (lv_at hl 3 rfl) ?_
              obtain ⟨kp_2052, hkp_2052⟩ := va_pl_get (X := [(h0, .inr (16, [v19_0, v19_1, v19_2, v19_3, v19_4, v19_5, v19_6, v19_7, v19_8, v19_9, v19_10, v19_11, .ref q_1912, .ref q_1913, .ref q_1914, v19_15, v19_16, v19_17, v19_18, v19_19, v19_20, v19_21, v19_22, v19_23, v19_24, v19_25, v19_26, v19_27, v19_28, v19_29, v19_30, v19_31, v19_32, v19_33, v19_34, v19_35, v19_36, v19_37, v19_38, v19_39, v19_40])), (q_1912, .inl (cA_1912, 1002, .inl (fun j : Nat => zI (a19_replaced (j : Int))))), (q_1913, .inl (cA_1913, 1002, .inl (fun j : Nat => zI (a19_byReg (j : Int))))), (q_1914, .inl (cA_1914, 1002, .inl (fun j : Nat => zI (a19_by (j : Int))))), (hc, .inr (12, [v13_0, v13_1, v13_2, v13_3, v13_4, .ref la, v13_6]))]) (f := pE P) hm_2007
              rw [pE_phi hk_2008] at hkp_2052
              refine va_get (D := (dC, dI)) (ci := 20) (v := .ref (P.pr xp_2006)) (C := RX15) (T := TX15) (N := 6) hx hb hts mem_P19_equal_2 hown hK hP kp_2052 hkp_2052 rfl 4 (by decide) (ow (k := 9) rfl) (fun _ h9 => h9) rfl dX19_equal_96 ?_
              obtain ⟨pr_2053, epr_2053⟩ : ∃ q9 : Nat, q9 = P.pr xp_2006 := ⟨_, rfl⟩
              rw [← epr_2053]
              have hpk_2054 := hX_a9.pik hm_2007 hk_2008
              have hopr_2053 : pr_2053 ∈ L ∧ P.kd pr_2053 = 42 ∧ P.ac pr_2053 = cZ ∧ P.ow pr_2053 = xp_2006 := (by rw [epr_2053]; exact hpk_2054.2.2.2.1)
              have hnpr_2053 : P.an pr_2053 = P.an (P.pr xp_2006) := (by rw [epr_2053])
              have hipr_2053 : P.ia pr_2053 = P.ia (P.pr xp_2006) := (by rw [epr_2053])
              refine lv_iload hx hb dX19_equal_99 (lv_at hl 5 rfl) ?_
              obtain ⟨kp_2055, hkp_2055⟩ := va_pl_get (X := [(h0, .inr (16, [v19_0, v19_1, v19_2, v19_3, v19_4, v19_5, v19_6, v19_7, v19_8, v19_9, v19_10, v19_11, .ref q_1912, .ref q_1913, .ref q_1914, v19_15, v19_16, v19_17, v19_18, v19_19, v19_20, v19_21, v19_22, v19_23, v19_24, v19_25, v19_26, v19_27, v19_28, v19_29, v19_30, v19_31, v19_32, v19_33, v19_34, v19_35, v19_36, v19_37, v19_38, v19_39, v19_40])), (q_1912, .inl (cA_1912, 1002, .inl (fun j : Nat => zI (a19_replaced (j : Int))))), (q_1913, .inl (cA_1913, 1002, .inl (fun j : Nat => zI (a19_byReg (j : Int))))), (q_1914, .inl (cA_1914, 1002, .inl (fun j : Nat => zI (a19_by (j : Int))))), (hc, .inr (12, [v13_0, v13_1, v13_2, v13_3, v13_4, .ref la, v13_6]))]) (f := pE P) hopr_2053.1
              rw [pE_n42 hopr_2053.2.1, hopr_2053.2.2.1] at hkp_2055
              refine va_zald hx hb hK hP kp_2055 4 hkp_2055 rfl (zI_in (a := d86_5) (n := P.an pr_2053) (by omega) (by omega) (by omega)) dX19_equal_101 ?_
              refine lv_topi (fun z ez => ?_)
              obtain rfl : z = zI (P.ia pr_2053 (d86_5)) := ez.trans (zI_ld (P.ia pr_2053) (by omega) (by omega))
              have hef9 := hpk_2054.ef (i := d86_5) (by omega) (by omega)
              unfold PEF EF at hef9
              have : P.ia pr_2053 (d86_5) = P.ia (P.pr xp_2006) (d86_5) := (by rw [hipr_2053])
              refine lv_if_eq (tgt := 122) hx hb dX19_equal_102 (by decide) (fun b102 => ?_) (fun b102 => ?_)
              · have yb102 : (P.ia pr_2053 (d86_5) : Int) = (0 : Int) := (zI_eq (a := P.ia pr_2053 (d86_5)) (b := 0) (by omega) (by omega) (by omega) (by omega)).mp b102
                refine lv_iload hx hb dX19_equal_122 (lv_at hl 4 rfl) ?_
                refine lv_if_ge (tgt := 134) hx hb dX19_equal_124 (by decide) (fun b124 => ?_) (fun b124 => ?_)
                · have yb124 : (0 : Int) ≤ (d86_4 : Int) := (zI_le (a := 0) (b := d86_4) (by omega) (by omega) (by omega) (by omega)).mp b124
                  refine lv_aload_n hx hb dX19_equal_134 rfl (lv_at hl 3 rfl) ?_
                  obtain ⟨kp_2056, hkp_2056⟩ := va_pl_get (X := [(h0, .inr (16, [v19_0, v19_1, v19_2, v19_3, v19_4, v19_5, v19_6, v19_7, v19_8, v19_9, v19_10, v19_11, .ref q_1912, .ref q_1913, .ref q_1914, v19_15, v19_16, v19_17, v19_18, v19_19, v19_20, v19_21, v19_22, v19_23, v19_24, v19_25, v19_26, v19_27, v19_28, v19_29, v19_30, v19_31, v19_32, v19_33, v19_34, v19_35, v19_36, v19_37, v19_38, v19_39, v19_40])), (q_1912, .inl (cA_1912, 1002, .inl (fun j : Nat => zI (a19_replaced (j : Int))))), (q_1913, .inl (cA_1913, 1002, .inl (fun j : Nat => zI (a19_byReg (j : Int))))), (q_1914, .inl (cA_1914, 1002, .inl (fun j : Nat => zI (a19_by (j : Int))))), (hc, .inr (12, [v13_0, v13_1, v13_2, v13_3, v13_4, .ref la, v13_6]))]) (f := pE P) hm_2007
                  rw [pE_phi hk_2008] at hkp_2056
                  refine va_get (D := (dC, dI)) (ci := 20) (v := .ref (P.pr xp_2006)) (C := RX15) (T := TX15) (N := 6) hx hb hts mem_P19_equal_2 hown hK hP kp_2056 hkp_2056 rfl 4 (by decide) (ow (k := 9) rfl) (fun _ h9 => h9) rfl dX19_equal_135 ?_
                  obtain ⟨pr_2057, epr_2057⟩ : ∃ q9 : Nat, q9 = P.pr xp_2006 := ⟨_, rfl⟩
                  rw [← epr_2057]
                  obtain rfl : pr_2053 = pr_2057 := (by rw [epr_2057]; exact epr_2053.symm.symm)
                  refine lv_iload hx hb dX19_equal_138 (lv_at hl 5 rfl) ?_
                  obtain ⟨kp_2058, hkp_2058⟩ := va_pl_get (X := [(h0, .inr (16, [v19_0, v19_1, v19_2, v19_3, v19_4, v19_5, v19_6, v19_7, v19_8, v19_9, v19_10, v19_11, .ref q_1912, .ref q_1913, .ref q_1914, v19_15, v19_16, v19_17, v19_18, v19_19, v19_20, v19_21, v19_22, v19_23, v19_24, v19_25, v19_26, v19_27, v19_28, v19_29, v19_30, v19_31, v19_32, v19_33, v19_34, v19_35, v19_36, v19_37, v19_38, v19_39, v19_40])), (q_1912, .inl (cA_1912, 1002, .inl (fun j : Nat => zI (a19_replaced (j : Int))))), (q_1913, .inl (cA_1913, 1002, .inl (fun j : Nat => zI (a19_byReg (j : Int))))), (q_1914, .inl (cA_1914, 1002, .inl (fun j : Nat => zI (a19_by (j : Int))))), (hc, .inr (12, [v13_0, v13_1, v13_2, v13_3, v13_4, .ref la, v13_6]))]) (f := pE P) hopr_2053.1
                  rw [pE_n42 hopr_2053.2.1, hopr_2053.2.2.1] at hkp_2058
                  refine va_zald hx hb hK hP kp_2058 4 hkp_2058 rfl (zI_in (a := d86_5) (n := P.an pr_2053) (by omega) (by omega) (by omega)) dX19_equal_140 ?_
                  refine lv_topi (fun z ez => ?_)
                  obtain rfl : z = zI (P.ia pr_2053 (d86_5)) := ez.trans (zI_ld (P.ia pr_2053) (by omega) (by omega))
                  have hef9 := hpk_2054.ef (i := d86_5) (by omega) (by omega)
                  unfold PEF EF at hef9
                  have : P.ia pr_2053 (d86_5) = P.ia (P.pr xp_2006) (d86_5) := (by rw [hipr_2053])
                  refine lv_aload_n hx hb dX19_equal_141 rfl (lv_at hl 3 rfl) ?_
                  obtain ⟨kp_2059, hkp_2059⟩ := va_pl_get (X := [(h0, .inr (16, [v19_0, v19_1, v19_2, v19_3, v19_4, v19_5, v19_6, v19_7, v19_8, v19_9, v19_10, v19_11, .ref q_1912, .ref q_1913, .ref q_1914, v19_15, v19_16, v19_17, v19_18, v19_19, v19_20, v19_21, v19_22, v19_23, v19_24, v19_25, v19_26, v19_27, v19_28, v19_29, v19_30, v19_31, v19_32, v19_33, v19_34, v19_35, v19_36, v19_37, v19_38, v19_39, v19_40])), (q_1912, .inl (cA_1912, 1002, .inl (fun j : Nat => zI (a19_replaced (j : Int))))), (q_1913, .inl (cA_1913, 1002, .inl (fun j : Nat => zI (a19_byReg (j : Int))))), (q_1914, .inl (cA_1914, 1002, .inl (fun j : Nat => zI (a19_by (j : Int))))), (hc, .inr (12, [v13_0, v13_1, v13_2, v13_3, v13_4, .ref la, v13_6]))]) (f := pE P) hm_2007
                  rw [pE_phi hk_2008] at hkp_2059
                  refine va_get (D := (dC, dI)) (ci := 20) (v := .ref (P.pr xp_2006)) (C := RX15) (T := TX15) (N := 6) hx hb hts mem_P19_equal_2 hown hK hP kp_2059 hkp_2059 rfl 4 (by decide) (ow (k := 9) rfl) (fun _ h9 => h9) rfl dX19_equal_142 ?_
                  obtain ⟨pr_2060, epr_2060⟩ : ∃ q9 : Nat, q9 = P.pr xp_2006 := ⟨_, rfl⟩
                  rw [← epr_2060]
                  obtain rfl : pr_2053 = pr_2060 := (by rw [epr_2060]; exact epr_2053.symm.symm)
                  refine lv_iload hx hb dX19_equal_145 (lv_at hl 4 rfl) ?_
                  obtain ⟨kp_2061, hkp_2061⟩ := va_pl_get (X := [(h0, .inr (16, [v19_0, v19_1, v19_2, v19_3, v19_4, v19_5, v19_6, v19_7, v19_8, v19_9, v19_10, v19_11, .ref q_1912, .ref q_1913, .ref q_1914, v19_15, v19_16, v19_17, v19_18, v19_19, v19_20, v19_21, v19_22, v19_23, v19_24, v19_25, v19_26, v19_27, v19_28, v19_29, v19_30, v19_31, v19_32, v19_33, v19_34, v19_35, v19_36, v19_37, v19_38, v19_39, v19_40])), (q_1912, .inl (cA_1912, 1002, .inl (fun j : Nat => zI (a19_replaced (j : Int))))), (q_1913, .inl (cA_1913, 1002, .inl (fun j : Nat => zI (a19_byReg (j : Int))))), (q_1914, .inl (cA_1914, 1002, .inl (fun j : Nat => zI (a19_by (j : Int))))), (hc, .inr (12, [v13_0, v13_1, v13_2, v13_3, v13_4, .ref la, v13_6]))]) (f := pE P) hopr_2053.1
                  rw [pE_n42 hopr_2053.2.1, hopr_2053.2.2.1] at hkp_2061
                  refine va_zald hx hb hK hP kp_2061 4 hkp_2061 rfl (zI_in (a := d86_4) (n := P.an pr_2053) (by omega) (by omega) (by omega)) dX19_equal_147 ?_
                  refine lv_topi (fun z ez => ?_)
                  obtain rfl : z = zI (P.ia pr_2053 (d86_4)) := ez.trans (zI_ld (P.ia pr_2053) (by omega) (by omega))
                  have hef9 := hpk_2054.ef (i := d86_4) (by omega) (by omega)
                  unfold PEF EF at hef9
                  have : P.ia pr_2053 (d86_4) = P.ia (P.pr xp_2006) (d86_4) := (by rw [hipr_2053])
                  refine lv_icmp_ne (tgt := 168) hx hb dX19_equal_148 (by decide) (fun b148 => ?_) (fun b148 => ?_)
                  · have yb148 : ¬ (P.ia pr_2053 (d86_5) : Int) = (P.ia pr_2053 (d86_4) : Int) := fun q => b148 ((zI_eq (a := P.ia pr_2053 (d86_5)) (b := P.ia pr_2053 (d86_4)) (by omega) (by omega) (by omega) (by omega)).mpr q)
                    refine lv_iconst (v := 0) hx hb dX19_equal_168 (by decide) ?_
                    subst hQ
                    have hK := hK.sub (tys' := [(cA_1912, .boolean), (cA_1913, .boolean), (cA_1914, .int), (cO, .object "java/lang/Object"), (cI, .int), (cZ, .boolean)]) [0, 1, 2, 5, 3, 4] rfl
                    refine W.widen (k := 0) (n := 0) (Nat.le_of_ble_eq_true rfl) (Nat.le_of_ble_eq_true rfl) ?_
                    exact W.zret (v := 0) hx hb hr (by decide) (fun t ht hW => ⟨⟨0, (0), rfl, ⟨rfl, (by omega)⟩, a19_replaced, a19_byReg, a19_by, P, ⟨hR_a19_replaced, hR_a19_byReg, hR_a19_by, ⟨⟨(KEP.refl [] L P la), hX_a9, by omega, by omega⟩, hX_R⟩⟩, by rw [ht]; exact hP, va_K.moved hW.alike hK, hD⟩, hS.F ht⟩) hS.2.2 dX19_equal_169
                  · have yb148 : (P.ia pr_2053 (d86_5) : Int) = (P.ia pr_2053 (d86_4) : Int) := (zI_eq (a := P.ia pr_2053 (d86_5)) (b := P.ia pr_2053 (d86_4)) (by omega) (by omega) (by omega) (by omega)).mp b148
                    refine lv_aload_n hx hb dX19_equal_151 rfl (lv_at hl 3 rfl) ?_
                    obtain ⟨kp_2062, hkp_2062⟩ := va_pl_get (X := [(h0, .inr (16, [v19_0, v19_1, v19_2, v19_3, v19_4, v19_5, v19_6, v19_7, v19_8, v19_9, v19_10, v19_11, .ref q_1912, .ref q_1913, .ref q_1914, v19_15, v19_16, v19_17, v19_18, v19_19, v19_20, v19_21, v19_22, v19_23, v19_24, v19_25, v19_26, v19_27, v19_28, v19_29, v19_30, v19_31, v19_32, v19_33, v19_34, v19_35, v19_36, v19_37, v19_38, v19_39, v19_40])), (q_1912, .inl (cA_1912, 1002, .inl (fun j : Nat => zI (a19_replaced (j : Int))))), (q_1913, .inl (cA_1913, 1002, .inl (fun j : Nat => zI (a19_byReg (j : Int))))), (q_1914, .inl (cA_1914, 1002, .inl (fun j : Nat => zI (a19_by (j : Int))))), (hc, .inr (12, [v13_0, v13_1, v13_2, v13_3, v13_4, .ref la, v13_6]))]) (f := pE P) hm_2007
                    rw [pE_phi hk_2008] at hkp_2062
                    refine va_get (D := (dC, dI)) (ci := 20) (v := .ref (P.pu xp_2006)) (C := RX15) (T := TX15) (N := 6) hx hb hts mem_P19_equal_2 hown hK hP kp_2062 hkp_2062 rfl 3 (by decide) (ow (k := 8) rfl) (fun _ h9 => h9) rfl dX19_equal_152 ?_
                    obtain ⟨pr_2063, epr_2063⟩ : ∃ q9 : Nat, q9 = P.pu xp_2006 := ⟨_, rfl⟩
                    rw [← epr_2063]
                    have hpk_2064 := hX_a9.pik hm_2007 hk_2008
                    have hopr_2063 : pr_2063 ∈ L ∧ P.kd pr_2063 = 41 ∧ P.ac pr_2063 = cI ∧ P.ow pr_2063 = xp_2006 := (by rw [epr_2063]; exact hpk_2064.2.2.1)
                    have hnpr_2063 : P.an pr_2063 = P.an (P.pu xp_2006) := (by rw [epr_2063])
                    have hipr_2063 : P.ia pr_2063 = P.ia (P.pu xp_2006) := (by rw [epr_2063])
                    refine lv_iload hx hb dX19_equal_155 (lv_at hl 5 rfl) ?_
                    obtain ⟨kp_2065, hkp_2065⟩ := va_pl_get (X := [(h0, .inr (16, [v19_0, v19_1, v19_2, v19_3, v19_4, v19_5, v19_6, v19_7, v19_8, v19_9, v19_10, v19_11, .ref q_1912, .ref q_1913, .ref q_1914, v19_15, v19_16, v19_17, v19_18, v19_19, v19_20, v19_21, v19_22, v19_23, v19_24, v19_25, v19_26, v19_27, v19_28, v19_29, v19_30, v19_31, v19_32, v19_33, v19_34, v19_35, v19_36, v19_37, v19_38, v19_39, v19_40])), (q_1912, .inl (cA_1912, 1002, .inl (fun j : Nat => zI (a19_replaced (j : Int))))), (q_1913, .inl (cA_1913, 1002, .inl (fun j : Nat => zI (a19_byReg (j : Int))))), (q_1914, .inl (cA_1914, 1002, .inl (fun j : Nat => zI (a19_by (j : Int))))), (hc, .inr (12, [v13_0, v13_1, v13_2, v13_3, v13_4, .ref la, v13_6]))]) (f := pE P) hopr_2063.1
                    rw [pE_n41 hopr_2063.2.1, hopr_2063.2.2.1] at hkp_2065
                    refine va_iald hx hb hK hP kp_2065 3 hkp_2065 rfl (zI_in (a := d86_5) (n := P.an pr_2063) (by omega) (by omega) (by omega)) dX19_equal_157 ?_
                    refine lv_topi (fun z ez => ?_)
                    obtain rfl : z = zI (P.ia pr_2063 (d86_5)) := ez.trans (zI_ld (P.ia pr_2063) (by omega) (by omega))
                    have hef9 := hpk_2064.ef (i := d86_5) (by omega) (by omega)
                    unfold PEF EF at hef9
                    have : P.ia pr_2063 (d86_5) = P.ia (P.pu xp_2006) (d86_5) := (by rw [hipr_2063])
                    refine lv_aload_n hx hb dX19_equal_158 rfl (lv_at hl 3 rfl) ?_
                    obtain ⟨kp_2066, hkp_2066⟩ := va_pl_get (X := [(h0, .inr (16, [v19_0, v19_1, v19_2, v19_3, v19_4, v19_5, v19_6, v19_7, v19_8, v19_9, v19_10, v19_11, .ref q_1912, .ref q_1913, .ref q_1914, v19_15, v19_16, v19_17, v19_18, v19_19, v19_20, v19_21, v19_22, v19_23, v19_24, v19_25, v19_26, v19_27, v19_28, v19_29, v19_30, v19_31, v19_32, v19_33, v19_34, v19_35, v19_36, v19_37, v19_38, v19_39, v19_40])), (q_1912, .inl (cA_1912, 1002, .inl (fun j : Nat => zI (a19_replaced (j : Int))))), (q_1913, .inl (cA_1913, 1002, .inl (fun j : Nat => zI (a19_byReg (j : Int))))), (q_1914, .inl (cA_1914, 1002, .inl (fun j : Nat => zI (a19_by (j : Int))))), (hc, .inr (12, [v13_0, v13_1, v13_2, v13_3, v13_4, .ref la, v13_6]))]) (f := pE P) hm_2007
                    rw [pE_phi hk_2008] at hkp_2066
                    refine va_get (D := (dC, dI)) (ci := 20) (v := .ref (P.pu xp_2006)) (C := RX15) (T := TX15) (N := 6) hx hb hts mem_P19_equal_2 hown hK hP kp_2066 hkp_2066 rfl 3 (by decide) (ow (k := 8) rfl) (fun _ h9 => h9) rfl dX19_equal_159 ?_
                    obtain ⟨pr_2067, epr_2067⟩ : ∃ q9 : Nat, q9 = P.pu xp_2006 := ⟨_, rfl⟩
                    rw [← epr_2067]
                    obtain rfl : pr_2063 = pr_2067 := (by rw [epr_2067]; exact epr_2063.symm.symm)
                    refine lv_iload hx hb dX19_equal_162 (lv_at hl 4 rfl) ?_
                    obtain ⟨kp_2068, hkp_2068⟩ := va_pl_get (X := [(h0, .inr (16, [v19_0, v19_1, v19_2, v19_3, v19_4, v19_5, v19_6, v19_7, v19_8, v19_9, v19_10, v19_11, .ref q_1912, .ref q_1913, .ref q_1914, v19_15, v19_16, v19_17, v19_18, v19_19, v19_20, v19_21, v19_22, v19_23, v19_24, v19_25, v19_26, v19_27, v19_28, v19_29, v19_30, v19_31, v19_32, v19_33, v19_34, v19_35, v19_36, v19_37, v19_38, v19_39, v19_40])), (q_1912, .inl (cA_1912, 1002, .inl (fun j : Nat => zI (a19_replaced (j : Int))))), (q_1913, .inl (cA_1913, 1002, .inl (fun j : Nat => zI (a19_byReg (j : Int))))), (q_1914, .inl (cA_1914, 1002, .inl (fun j : Nat => zI (a19_by (j : Int))))), (hc, .inr (12, [v13_0, v13_1, v13_2, v13_3, v13_4, .ref la, v13_6]))]) (f := pE P) hopr_2063.1
                    rw [pE_n41 hopr_2063.2.1, hopr_2063.2.2.1] at hkp_2068
                    refine va_iald hx hb hK hP kp_2068 3 hkp_2068 rfl (zI_in (a := d86_4) (n := P.an pr_2063) (by omega) (by omega) (by omega)) dX19_equal_164 ?_
                    refine lv_topi (fun z ez => ?_)
                    obtain rfl : z = zI (P.ia pr_2063 (d86_4)) := ez.trans (zI_ld (P.ia pr_2063) (by omega) (by omega))
                    have hef9 := hpk_2064.ef (i := d86_4) (by omega) (by omega)
                    unfold PEF EF at hef9
                    have : P.ia pr_2063 (d86_4) = P.ia (P.pu xp_2006) (d86_4) := (by rw [hipr_2063])
                    refine lv_icmp_eq (tgt := 170) hx hb dX19_equal_165 (by decide) (fun b165 => ?_) (fun b165 => ?_)
                    · have yb165 : (P.ia pr_2063 (d86_5) : Int) = (P.ia pr_2063 (d86_4) : Int) := (zI_eq (a := P.ia pr_2063 (d86_5)) (b := P.ia pr_2063 (d86_4)) (by omega) (by omega) (by omega) (by omega)).mp b165
                      refine lv_iinc (v := zI (d86_5 + 1)) (lv' := [(5, .int (zI (d86_5 + 1))), (0, .ref h0), (1, .ref xb), (2, .int (zI (j0))), (3, .ref xp_2006), (4, .int (zI (d86_4)))]) hx hb dX19_equal_170 hl (k := 5) rfl (zI_add (d86_5) (1)) (by decide) rfl (fun ls hl => ?_)
                      refine lv_goto (tgt := 86) hx hb dX19_equal_173 (by decide) ?_
                      exact ih86 (d86_5 + 1) d86_4 ls H _ (by omega) (by omega) (by omega) (lv_sub hl [1, 2, 3, 4, 5, 0] rfl) hP hD hS
                    · have yb165 : ¬ (P.ia pr_2063 (d86_5) : Int) = (P.ia pr_2063 (d86_4) : Int) := fun q => b165 ((zI_eq (a := P.ia pr_2063 (d86_5)) (b := P.ia pr_2063 (d86_4)) (by omega) (by omega) (by omega) (by omega)).mpr q)
                      refine lv_iconst (v := 0) hx hb dX19_equal_168 (by decide) ?_
                      subst hQ
                      have hK := hK.sub (tys' := [(cA_1912, .boolean), (cA_1913, .boolean), (cA_1914, .int), (cO, .object "java/lang/Object"), (cI, .int), (cZ, .boolean)]) [0, 1, 2, 5, 3, 4] rfl
                      refine W.widen (k := 0) (n := 0) (Nat.le_of_ble_eq_true rfl) (Nat.le_of_ble_eq_true rfl) ?_
                      exact W.zret (v := 0) hx hb hr (by decide) (fun t ht hW => ⟨⟨0, (0), rfl, ⟨rfl, (by omega)⟩, a19_replaced, a19_byReg, a19_by, P, ⟨hR_a19_replaced, hR_a19_byReg, hR_a19_by, ⟨⟨(KEP.refl [] L P la), hX_a9, by omega, by omega⟩, hX_R⟩⟩, by rw [ht]; exact hP, va_K.moved hW.alike hK, hD⟩, hS.F ht⟩) hS.2.2 dX19_equal_169
                · have yb124 : ¬ (0 : Int) ≤ (d86_4 : Int) := fun q => b124 ((zI_le (a := 0) (b := d86_4) (by omega) (by omega) (by omega) (by omega)).mpr q)
                  refine lv_iload hx hb dX19_equal_127 (lv_at hl 5 rfl) ?_
                  refine lv_istore (lv' := [(4, .int (zI (d86_5))), (0, .ref h0), (1, .ref xb), (2, .int (zI (j0))), (3, .ref xp_2006), (5, .int (zI (d86_5)))]) hx hb dX19_equal_129 hl (by decide) rfl (fun ls hl => ?_)
                  refine lv_goto (tgt := 170) hx hb dX19_equal_131 (by decide) ?_
                  refine lv_iinc (v := zI (d86_5 + 1)) (lv' := [(5, .int (zI (d86_5 + 1))), (4, .int (zI (d86_5))), (0, .ref h0), (1, .ref xb), (2, .int (zI (j0))), (3, .ref xp_2006)]) hx hb dX19_equal_170 hl (k := 5) rfl (zI_add (d86_5) (1)) (by decide) rfl (fun ls hl => ?_)
                  refine lv_goto (tgt := 86) hx hb dX19_equal_173 (by decide) ?_
                  exact ih86 (d86_5 + 1) d86_5 ls H _ (by omega) (by omega) (by omega) (lv_sub hl [2, 3, 4, 5, 1, 0] rfl) hP hD hS
              · have yb102 : ¬ (P.ia pr_2053 (d86_5) : Int) = (0 : Int) := fun q => b102 ((zI_eq (a := P.ia pr_2053 (d86_5)) (b := 0) (by omega) (by omega) (by omega) (by omega)).mpr q)
                refine lv_aload_n hx hb dX19_equal_105 rfl (lv_at hl 3 rfl) ?_
                obtain ⟨kp_2069, hkp_2069⟩ := va_pl_get (X := [(h0, .inr (16, [v19_0, v19_1, v19_2, v19_3, v19_4, v19_5, v19_6, v19_7, v19_8, v19_9, v19_10, v19_11, .ref q_1912, .ref q_1913, .ref q_1914, v19_15, v19_16, v19_17, v19_18, v19_19, v19_20, v19_21, v19_22, v19_23, v19_24, v19_25, v19_26, v19_27, v19_28, v19_29, v19_30, v19_31, v19_32, v19_33, v19_34, v19_35, v19_36, v19_37, v19_38, v19_39, v19_40])), (q_1912, .inl (cA_1912, 1002, .inl (fun j : Nat => zI (a19_replaced (j : Int))))), (q_1913, .inl (cA_1913, 1002, .inl (fun j : Nat => zI (a19_byReg (j : Int))))), (q_1914, .inl (cA_1914, 1002, .inl (fun j : Nat => zI (a19_by (j : Int))))), (hc, .inr (12, [v13_0, v13_1, v13_2, v13_3, v13_4, .ref la, v13_6]))]) (f := pE P) hm_2007
                rw [pE_phi hk_2008] at hkp_2069
                refine va_get (D := (dC, dI)) (ci := 20) (v := .ref (P.pu xp_2006)) (C := RX15) (T := TX15) (N := 6) hx hb hts mem_P19_equal_2 hown hK hP kp_2069 hkp_2069 rfl 3 (by decide) (ow (k := 8) rfl) (fun _ h9 => h9) rfl dX19_equal_106 ?_
                obtain ⟨pr_2070, epr_2070⟩ : ∃ q9 : Nat, q9 = P.pu xp_2006 := ⟨_, rfl⟩
                rw [← epr_2070]
                have hpk_2071 := hX_a9.pik hm_2007 hk_2008
                have hopr_2070 : pr_2070 ∈ L ∧ P.kd pr_2070 = 41 ∧ P.ac pr_2070 = cI ∧ P.ow pr_2070 = xp_2006 := (by rw [epr_2070]; exact hpk_2071.2.2.1)
                have hnpr_2070 : P.an pr_2070 = P.an (P.pu xp_2006) := (by rw [epr_2070])
                have hipr_2070 : P.ia pr_2070 = P.ia (P.pu xp_2006) := (by rw [epr_2070])
                refine lv_iload hx hb dX19_equal_109 (lv_at hl 5 rfl) ?_
                obtain ⟨kp_2072, hkp_2072⟩ := va_pl_get (X := [(h0, .inr (16, [v19_0, v19_1, v19_2, v19_3, v19_4, v19_5, v19_6, v19_7, v19_8, v19_9, v19_10, v19_11, .ref q_1912, .ref q_1913, .ref q_1914, v19_15, v19_16, v19_17, v19_18, v19_19, v19_20, v19_21, v19_22, v19_23, v19_24, v19_25, v19_26, v19_27, v19_28, v19_29, v19_30, v19_31, v19_32, v19_33, v19_34, v19_35, v19_36, v19_37, v19_38, v19_39, v19_40])), (q_1912, .inl (cA_1912, 1002, .inl (fun j : Nat => zI (a19_replaced (j : Int))))), (q_1913, .inl (cA_1913, 1002, .inl (fun j : Nat => zI (a19_byReg (j : Int))))), (q_1914, .inl (cA_1914, 1002, .inl (fun j : Nat => zI (a19_by (j : Int))))), (hc, .inr (12, [v13_0, v13_1, v13_2, v13_3, v13_4, .ref la, v13_6]))]) (f := pE P) hopr_2070.1
                rw [pE_n41 hopr_2070.2.1, hopr_2070.2.2.1] at hkp_2072
                refine va_iald hx hb hK hP kp_2072 3 hkp_2072 rfl (zI_in (a := d86_5) (n := P.an pr_2070) (by omega) (by omega) (by omega)) dX19_equal_111 ?_
                refine lv_topi (fun z ez => ?_)
                obtain rfl : z = zI (P.ia pr_2070 (d86_5)) := ez.trans (zI_ld (P.ia pr_2070) (by omega) (by omega))
                have hef9 := hpk_2071.ef (i := d86_5) (by omega) (by omega)
                unfold PEF EF at hef9
                have : P.ia pr_2070 (d86_5) = P.ia (P.pu xp_2006) (d86_5) := (by rw [hipr_2070])
                refine lv_aload_n hx hb dX19_equal_112 rfl (lv_at hl 3 rfl) ?_
                obtain ⟨kp_2073, hkp_2073⟩ := va_pl_get (X := [(h0, .inr (16, [v19_0, v19_1, v19_2, v19_3, v19_4, v19_5, v19_6, v19_7, v19_8, v19_9, v19_10, v19_11, .ref q_1912, .ref q_1913, .ref q_1914, v19_15, v19_16, v19_17, v19_18, v19_19, v19_20, v19_21, v19_22, v19_23, v19_24, v19_25, v19_26, v19_27, v19_28, v19_29, v19_30, v19_31, v19_32, v19_33, v19_34, v19_35, v19_36, v19_37, v19_38, v19_39, v19_40])), (q_1912, .inl (cA_1912, 1002, .inl (fun j : Nat => zI (a19_replaced (j : Int))))), (q_1913, .inl (cA_1913, 1002, .inl (fun j : Nat => zI (a19_byReg (j : Int))))), (q_1914, .inl (cA_1914, 1002, .inl (fun j : Nat => zI (a19_by (j : Int))))), (hc, .inr (12, [v13_0, v13_1, v13_2, v13_3, v13_4, .ref la, v13_6]))]) (f := pE P) hm_2007
                rw [pE_phi hk_2008] at hkp_2073
                refine va_get (D := (dC, dI)) (ci := 20) (v := .int (zI (P.pt xp_2006))) (C := RX15) (T := TX15) (N := 6) hx hb hts mem_P19_equal_2 hown hK hP kp_2073 hkp_2073 rfl 0 (by decide) (ow (k := 7) rfl) (fun _ h9 => h9) rfl dX19_equal_113 ?_
                refine lv_icmp_ne (tgt := 122) hx hb dX19_equal_116 (by decide) (fun b116 => ?_) (fun b116 => ?_)
                · have yb116 : ¬ (P.ia pr_2070 (d86_5) : Int) = (P.pt xp_2006 : Int) := fun q => b116 ((zI_eq (a := P.ia pr_2070 (d86_5)) (b := P.pt xp_2006) (by omega) (by omega) (by omega) (by omega)).mpr q)
                  refine lv_iload hx hb dX19_equal_122 (lv_at hl 4 rfl) ?_
                  refine lv_if_ge (tgt := 134) hx hb dX19_equal_124 (by decide) (fun b124 => ?_) (fun b124 => ?_)
                  · have yb124 : (0 : Int) ≤ (d86_4 : Int) := (zI_le (a := 0) (b := d86_4) (by omega) (by omega) (by omega) (by omega)).mp b124
                    refine lv_aload_n hx hb dX19_equal_134 rfl (lv_at hl 3 rfl) ?_
                    obtain ⟨kp_2074, hkp_2074⟩ := va_pl_get (X := [(h0, .inr (16, [v19_0, v19_1, v19_2, v19_3, v19_4, v19_5, v19_6, v19_7, v19_8, v19_9, v19_10, v19_11, .ref q_1912, .ref q_1913, .ref q_1914, v19_15, v19_16, v19_17, v19_18, v19_19, v19_20, v19_21, v19_22, v19_23, v19_24, v19_25, v19_26, v19_27, v19_28, v19_29, v19_30, v19_31, v19_32, v19_33, v19_34, v19_35, v19_36, v19_37, v19_38, v19_39, v19_40])), (q_1912, .inl (cA_1912, 1002, .inl (fun j : Nat => zI (a19_replaced (j : Int))))), (q_1913, .inl (cA_1913, 1002, .inl (fun j : Nat => zI (a19_byReg (j : Int))))), (q_1914, .inl (cA_1914, 1002, .inl (fun j : Nat => zI (a19_by (j : Int))))), (hc, .inr (12, [v13_0, v13_1, v13_2, v13_3, v13_4, .ref la, v13_6]))]) (f := pE P) hm_2007
                    rw [pE_phi hk_2008] at hkp_2074
                    refine va_get (D := (dC, dI)) (ci := 20) (v := .ref (P.pr xp_2006)) (C := RX15) (T := TX15) (N := 6) hx hb hts mem_P19_equal_2 hown hK hP kp_2074 hkp_2074 rfl 4 (by decide) (ow (k := 9) rfl) (fun _ h9 => h9) rfl dX19_equal_135 ?_
                    obtain ⟨pr_2075, epr_2075⟩ : ∃ q9 : Nat, q9 = P.pr xp_2006 := ⟨_, rfl⟩
                    rw [← epr_2075]
                    obtain rfl : pr_2053 = pr_2075 := (by rw [epr_2075]; exact epr_2053.symm.symm)
                    refine lv_iload hx hb dX19_equal_138 (lv_at hl 5 rfl) ?_
                    obtain ⟨kp_2076, hkp_2076⟩ := va_pl_get (X := [(h0, .inr (16, [v19_0, v19_1, v19_2, v19_3, v19_4, v19_5, v19_6, v19_7, v19_8, v19_9, v19_10, v19_11, .ref q_1912, .ref q_1913, .ref q_1914, v19_15, v19_16, v19_17, v19_18, v19_19, v19_20, v19_21, v19_22, v19_23, v19_24, v19_25, v19_26, v19_27, v19_28, v19_29, v19_30, v19_31, v19_32, v19_33, v19_34, v19_35, v19_36, v19_37, v19_38, v19_39, v19_40])), (q_1912, .inl (cA_1912, 1002, .inl (fun j : Nat => zI (a19_replaced (j : Int))))), (q_1913, .inl (cA_1913, 1002, .inl (fun j : Nat => zI (a19_byReg (j : Int))))), (q_1914, .inl (cA_1914, 1002, .inl (fun j : Nat => zI (a19_by (j : Int))))), (hc, .inr (12, [v13_0, v13_1, v13_2, v13_3, v13_4, .ref la, v13_6]))]) (f := pE P) hopr_2053.1
                    rw [pE_n42 hopr_2053.2.1, hopr_2053.2.2.1] at hkp_2076
                    refine va_zald hx hb hK hP kp_2076 4 hkp_2076 rfl (zI_in (a := d86_5) (n := P.an pr_2053) (by omega) (by omega) (by omega)) dX19_equal_140 ?_
                    refine lv_topi (fun z ez => ?_)
                    obtain rfl : z = zI (P.ia pr_2053 (d86_5)) := ez.trans (zI_ld (P.ia pr_2053) (by omega) (by omega))
                    have hef9 := hpk_2054.ef (i := d86_5) (by omega) (by omega)
                    unfold PEF EF at hef9
                    have : P.ia pr_2053 (d86_5) = P.ia (P.pr xp_2006) (d86_5) := (by rw [hipr_2053])
                    refine lv_aload_n hx hb dX19_equal_141 rfl (lv_at hl 3 rfl) ?_
                    obtain ⟨kp_2077, hkp_2077⟩ := va_pl_get (X := [(h0, .inr (16, [v19_0, v19_1, v19_2, v19_3, v19_4, v19_5, v19_6, v19_7, v19_8, v19_9, v19_10, v19_11, .ref q_1912, .ref q_1913, .ref q_1914, v19_15, v19_16, v19_17, v19_18, v19_19, v19_20, v19_21, v19_22, v19_23, v19_24, v19_25, v19_26, v19_27, v19_28, v19_29, v19_30, v19_31, v19_32, v19_33, v19_34, v19_35, v19_36, v19_37, v19_38, v19_39, v19_40])), (q_1912, .inl (cA_1912, 1002, .inl (fun j : Nat => zI (a19_replaced (j : Int))))), (q_1913, .inl (cA_1913, 1002, .inl (fun j : Nat => zI (a19_byReg (j : Int))))), (q_1914, .inl (cA_1914, 1002, .inl (fun j : Nat => zI (a19_by (j : Int))))), (hc, .inr (12, [v13_0, v13_1, v13_2, v13_3, v13_4, .ref la, v13_6]))]) (f := pE P) hm_2007
                    rw [pE_phi hk_2008] at hkp_2077
                    refine va_get (D := (dC, dI)) (ci := 20) (v := .ref (P.pr xp_2006)) (C := RX15) (T := TX15) (N := 6) hx hb hts mem_P19_equal_2 hown hK hP kp_2077 hkp_2077 rfl 4 (by decide) (ow (k := 9) rfl) (fun _ h9 => h9) rfl dX19_equal_142 ?_
                    obtain ⟨pr_2078, epr_2078⟩ : ∃ q9 : Nat, q9 = P.pr xp_2006 := ⟨_, rfl⟩
                    rw [← epr_2078]
                    obtain rfl : pr_2053 = pr_2078 := (by rw [epr_2078]; exact epr_2053.symm.symm)
                    refine lv_iload hx hb dX19_equal_145 (lv_at hl 4 rfl) ?_
                    obtain ⟨kp_2079, hkp_2079⟩ := va_pl_get (X := [(h0, .inr (16, [v19_0, v19_1, v19_2, v19_3, v19_4, v19_5, v19_6, v19_7, v19_8, v19_9, v19_10, v19_11, .ref q_1912, .ref q_1913, .ref q_1914, v19_15, v19_16, v19_17, v19_18, v19_19, v19_20, v19_21, v19_22, v19_23, v19_24, v19_25, v19_26, v19_27, v19_28, v19_29, v19_30, v19_31, v19_32, v19_33, v19_34, v19_35, v19_36, v19_37, v19_38, v19_39, v19_40])), (q_1912, .inl (cA_1912, 1002, .inl (fun j : Nat => zI (a19_replaced (j : Int))))), (q_1913, .inl (cA_1913, 1002, .inl (fun j : Nat => zI (a19_byReg (j : Int))))), (q_1914, .inl (cA_1914, 1002, .inl (fun j : Nat => zI (a19_by (j : Int))))), (hc, .inr (12, [v13_0, v13_1, v13_2, v13_3, v13_4, .ref la, v13_6]))]) (f := pE P) hopr_2053.1
                    rw [pE_n42 hopr_2053.2.1, hopr_2053.2.2.1] at hkp_2079
                    refine va_zald hx hb hK hP kp_2079 4 hkp_2079 rfl (zI_in (a := d86_4) (n := P.an pr_2053) (by omega) (by omega) (by omega)) dX19_equal_147 ?_
                    refine lv_topi (fun z ez => ?_)
                    obtain rfl : z = zI (P.ia pr_2053 (d86_4)) := ez.trans (zI_ld (P.ia pr_2053) (by omega) (by omega))
                    have hef9 := hpk_2054.ef (i := d86_4) (by omega) (by omega)
                    unfold PEF EF at hef9
                    have : P.ia pr_2053 (d86_4) = P.ia (P.pr xp_2006) (d86_4) := (by rw [hipr_2053])
                    refine lv_icmp_ne (tgt := 168) hx hb dX19_equal_148 (by decide) (fun b148 => ?_) (fun b148 => ?_)
                    · have yb148 : ¬ (P.ia pr_2053 (d86_5) : Int) = (P.ia pr_2053 (d86_4) : Int) := fun q => b148 ((zI_eq (a := P.ia pr_2053 (d86_5)) (b := P.ia pr_2053 (d86_4)) (by omega) (by omega) (by omega) (by omega)).mpr q)
                      refine lv_iconst (v := 0) hx hb dX19_equal_168 (by decide) ?_
                      subst hQ
                      have hK := hK.sub (tys' := [(cA_1912, .boolean), (cA_1913, .boolean), (cA_1914, .int), (cO, .object "java/lang/Object"), (cI, .int), (cZ, .boolean)]) [0, 1, 2, 5, 3, 4] rfl
                      refine W.widen (k := 0) (n := 0) (Nat.le_of_ble_eq_true rfl) (Nat.le_of_ble_eq_true rfl) ?_
                      exact W.zret (v := 0) hx hb hr (by decide) (fun t ht hW => ⟨⟨0, (0), rfl, ⟨rfl, (by omega)⟩, a19_replaced, a19_byReg, a19_by, P, ⟨hR_a19_replaced, hR_a19_byReg, hR_a19_by, ⟨⟨(KEP.refl [] L P la), hX_a9, by omega, by omega⟩, hX_R⟩⟩, by rw [ht]; exact hP, va_K.moved hW.alike hK, hD⟩, hS.F ht⟩) hS.2.2 dX19_equal_169
                    · have yb148 : (P.ia pr_2053 (d86_5) : Int) = (P.ia pr_2053 (d86_4) : Int) := (zI_eq (a := P.ia pr_2053 (d86_5)) (b := P.ia pr_2053 (d86_4)) (by omega) (by omega) (by omega) (by omega)).mp b148
                      refine lv_aload_n hx hb dX19_equal_151 rfl (lv_at hl 3 rfl) ?_
                      obtain ⟨kp_2080, hkp_2080⟩ := va_pl_get (X := [(h0, .inr (16, [v19_0, v19_1, v19_2, v19_3, v19_4, v19_5, v19_6, v19_7, v19_8, v19_9, v19_10, v19_11, .ref q_1912, .ref q_1913, .ref q_1914, v19_15, v19_16, v19_17, v19_18, v19_19, v19_20, v19_21, v19_22, v19_23, v19_24, v19_25, v19_26, v19_27, v19_28, v19_29, v19_30, v19_31, v19_32, v19_33, v19_34, v19_35, v19_36, v19_37, v19_38, v19_39, v19_40])), (q_1912, .inl (cA_1912, 1002, .inl (fun j : Nat => zI (a19_replaced (j : Int))))), (q_1913, .inl (cA_1913, 1002, .inl (fun j : Nat => zI (a19_byReg (j : Int))))), (q_1914, .inl (cA_1914, 1002, .inl (fun j : Nat => zI (a19_by (j : Int))))), (hc, .inr (12, [v13_0, v13_1, v13_2, v13_3, v13_4, .ref la, v13_6]))]) (f := pE P) hm_2007
                      rw [pE_phi hk_2008] at hkp_2080
                      refine va_get (D := (dC, dI)) (ci := 20) (v := .ref (P.pu xp_2006)) (C := RX15) (T := TX15) (N := 6) hx hb hts mem_P19_equal_2 hown hK hP kp_2080 hkp_2080 rfl 3 (by decide) (ow (k := 8) rfl) (fun _ h9 => h9) rfl dX19_equal_152 ?_
                      obtain ⟨pr_2081, epr_2081⟩ : ∃ q9 : Nat, q9 = P.pu xp_2006 := ⟨_, rfl⟩
                      rw [← epr_2081]
                      obtain rfl : pr_2070 = pr_2081 := (by rw [epr_2081]; exact epr_2070.symm.symm)
                      refine lv_iload hx hb dX19_equal_155 (lv_at hl 5 rfl) ?_
                      obtain ⟨kp_2082, hkp_2082⟩ := va_pl_get (X := [(h0, .inr (16, [v19_0, v19_1, v19_2, v19_3, v19_4, v19_5, v19_6, v19_7, v19_8, v19_9, v19_10, v19_11, .ref q_1912, .ref q_1913, .ref q_1914, v19_15, v19_16, v19_17, v19_18, v19_19, v19_20, v19_21, v19_22, v19_23, v19_24, v19_25, v19_26, v19_27, v19_28, v19_29, v19_30, v19_31, v19_32, v19_33, v19_34, v19_35, v19_36, v19_37, v19_38, v19_39, v19_40])), (q_1912, .inl (cA_1912, 1002, .inl (fun j : Nat => zI (a19_replaced (j : Int))))), (q_1913, .inl (cA_1913, 1002, .inl (fun j : Nat => zI (a19_byReg (j : Int))))), (q_1914, .inl (cA_1914, 1002, .inl (fun j : Nat => zI (a19_by (j : Int))))), (hc, .inr (12, [v13_0, v13_1, v13_2, v13_3, v13_4, .ref la, v13_6]))]) (f := pE P) hopr_2070.1
                      rw [pE_n41 hopr_2070.2.1, hopr_2070.2.2.1] at hkp_2082
                      refine va_iald hx hb hK hP kp_2082 3 hkp_2082 rfl (zI_in (a := d86_5) (n := P.an pr_2070) (by omega) (by omega) (by omega)) dX19_equal_157 ?_
                      refine lv_topi (fun z ez => ?_)
                      obtain rfl : z = zI (P.ia pr_2070 (d86_5)) := ez.trans (zI_ld (P.ia pr_2070) (by omega) (by omega))
                      have hef9 := hpk_2071.ef (i := d86_5) (by omega) (by omega)
                      unfold PEF EF at hef9
                      have : P.ia pr_2070 (d86_5) = P.ia (P.pu xp_2006) (d86_5) := (by rw [hipr_2070])
                      refine lv_aload_n hx hb dX19_equal_158 rfl (lv_at hl 3 rfl) ?_
                      obtain ⟨kp_2083, hkp_2083⟩ := va_pl_get (X := [(h0, .inr (16, [v19_0, v19_1, v19_2, v19_3, v19_4, v19_5, v19_6, v19_7, v19_8, v19_9, v19_10, v19_11, .ref q_1912, .ref q_1913, .ref q_1914, v19_15, v19_16, v19_17, v19_18, v19_19, v19_20, v19_21, v19_22, v19_23, v19_24, v19_25, v19_26, v19_27, v19_28, v19_29, v19_30, v19_31, v19_32, v19_33, v19_34, v19_35, v19_36, v19_37, v19_38, v19_39, v19_40])), (q_1912, .inl (cA_1912, 1002, .inl (fun j : Nat => zI (a19_replaced (j : Int))))), (q_1913, .inl (cA_1913, 1002, .inl (fun j : Nat => zI (a19_byReg (j : Int))))), (q_1914, .inl (cA_1914, 1002, .inl (fun j : Nat => zI (a19_by (j : Int))))), (hc, .inr (12, [v13_0, v13_1, v13_2, v13_3, v13_4, .ref la, v13_6]))]) (f := pE P) hm_2007
                      rw [pE_phi hk_2008] at hkp_2083
                      refine va_get (D := (dC, dI)) (ci := 20) (v := .ref (P.pu xp_2006)) (C := RX15) (T := TX15) (N := 6) hx hb hts mem_P19_equal_2 hown hK hP kp_2083 hkp_2083 rfl 3 (by decide) (ow (k := 8) rfl) (fun _ h9 => h9) rfl dX19_equal_159 ?_
                      obtain ⟨pr_2084, epr_2084⟩ : ∃ q9 : Nat, q9 = P.pu xp_2006 := ⟨_, rfl⟩
                      rw [← epr_2084]
                      obtain rfl : pr_2070 = pr_2084 := (by rw [epr_2084]; exact epr_2070.symm.symm)
                      refine lv_iload hx hb dX19_equal_162 (lv_at hl 4 rfl) ?_
                      obtain ⟨kp_2085, hkp_2085⟩ := va_pl_get (X := [(h0, .inr (16, [v19_0, v19_1, v19_2, v19_3, v19_4, v19_5, v19_6, v19_7, v19_8, v19_9, v19_10, v19_11, .ref q_1912, .ref q_1913, .ref q_1914, v19_15, v19_16, v19_17, v19_18, v19_19, v19_20, v19_21, v19_22, v19_23, v19_24, v19_25, v19_26, v19_27, v19_28, v19_29, v19_30, v19_31, v19_32, v19_33, v19_34, v19_35, v19_36, v19_37, v19_38, v19_39, v19_40])), (q_1912, .inl (cA_1912, 1002, .inl (fun j : Nat => zI (a19_replaced (j : Int))))), (q_1913, .inl (cA_1913, 1002, .inl (fun j : Nat => zI (a19_byReg (j : Int))))), (q_1914, .inl (cA_1914, 1002, .inl (fun j : Nat => zI (a19_by (j : Int))))), (hc, .inr (12, [v13_0, v13_1, v13_2, v13_3, v13_4, .ref la, v13_6]))]) (f := pE P) hopr_2070.1
                      rw [pE_n41 hopr_2070.2.1, hopr_2070.2.2.1] at hkp_2085
                      refine va_iald hx hb hK hP kp_2085 3 hkp_2085 rfl (zI_in (a := d86_4) (n := P.an pr_2070) (by omega) (by omega) (by omega)) dX19_equal_164 ?_
                      refine lv_topi (fun z ez => ?_)
                      obtain rfl : z = zI (P.ia pr_2070 (d86_4)) := ez.trans (zI_ld (P.ia pr_2070) (by omega) (by omega))
                      have hef9 := hpk_2071.ef (i := d86_4) (by omega) (by omega)
                      unfold PEF EF at hef9
                      have : P.ia pr_2070 (d86_4) = P.ia (P.pu xp_2006) (d86_4) := (by rw [hipr_2070])
                      refine lv_icmp_eq (tgt := 170) hx hb dX19_equal_165 (by decide) (fun b165 => ?_) (fun b165 => ?_)
                      · have yb165 : (P.ia pr_2070 (d86_5) : Int) = (P.ia pr_2070 (d86_4) : Int) := (zI_eq (a := P.ia pr_2070 (d86_5)) (b := P.ia pr_2070 (d86_4)) (by omega) (by omega) (by omega) (by omega)).mp b165
                        refine lv_iinc (v := zI (d86_5 + 1)) (lv' := [(5, .int (zI (d86_5 + 1))), (0, .ref h0), (1, .ref xb), (2, .int (zI (j0))), (3, .ref xp_2006), (4, .int (zI (d86_4)))]) hx hb dX19_equal_170 hl (k := 5) rfl (zI_add (d86_5) (1)) (by decide) rfl (fun ls hl => ?_)
                        refine lv_goto (tgt := 86) hx hb dX19_equal_173 (by decide) ?_
                        exact ih86 (d86_5 + 1) d86_4 ls H _ (by omega) (by omega) (by omega) (lv_sub hl [1, 2, 3, 4, 5, 0] rfl) hP hD hS
                      · have yb165 : ¬ (P.ia pr_2070 (d86_5) : Int) = (P.ia pr_2070 (d86_4) : Int) := fun q => b165 ((zI_eq (a := P.ia pr_2070 (d86_5)) (b := P.ia pr_2070 (d86_4)) (by omega) (by omega) (by omega) (by omega)).mpr q)
                        refine lv_iconst (v := 0) hx hb dX19_equal_168 (by decide) ?_
                        subst hQ
                        have hK := hK.sub (tys' := [(cA_1912, .boolean), (cA_1913, .boolean), (cA_1914, .int), (cO, .object "java/lang/Object"), (cI, .int), (cZ, .boolean)]) [0, 1, 2, 5, 3, 4] rfl
                        refine W.widen (k := 0) (n := 0) (Nat.le_of_ble_eq_true rfl) (Nat.le_of_ble_eq_true rfl) ?_
                        exact W.zret (v := 0) hx hb hr (by decide) (fun t ht hW => ⟨⟨0, (0), rfl, ⟨rfl, (by omega)⟩, a19_replaced, a19_byReg, a19_by, P, ⟨hR_a19_replaced, hR_a19_byReg, hR_a19_by, ⟨⟨(KEP.refl [] L P la), hX_a9, by omega, by omega⟩, hX_R⟩⟩, by rw [ht]; exact hP, va_K.moved hW.alike hK, hD⟩, hS.F ht⟩) hS.2.2 dX19_equal_169
                  · have yb124 : ¬ (0 : Int) ≤ (d86_4 : Int) := fun q => b124 ((zI_le (a := 0) (b := d86_4) (by omega) (by omega) (by omega) (by omega)).mpr q)
                    refine lv_iload hx hb dX19_equal_127 (lv_at hl 5 rfl) ?_
                    refine lv_istore (lv' := [(4, .int (zI (d86_5))), (0, .ref h0), (1, .ref xb), (2, .int (zI (j0))), (3, .ref xp_2006), (5, .int (zI (d86_5)))]) hx hb dX19_equal_129 hl (by decide) rfl (fun ls hl => ?_)
                    refine lv_goto (tgt := 170) hx hb dX19_equal_131 (by decide) ?_
                    refine lv_iinc (v := zI (d86_5 + 1)) (lv' := [(5, .int (zI (d86_5 + 1))), (4, .int (zI (d86_5))), (0, .ref h0), (1, .ref xb), (2, .int (zI (j0))), (3, .ref xp_2006)]) hx hb dX19_equal_170 hl (k := 5) rfl (zI_add (d86_5) (1)) (by decide) rfl (fun ls hl => ?_)
                    refine lv_goto (tgt := 86) hx hb dX19_equal_173 (by decide) ?_
                    exact ih86 (d86_5 + 1) d86_5 ls H _ (by omega) (by omega) (by omega) (lv_sub hl [2, 3, 4, 5, 1, 0] rfl) hP hD hS
                · have yb116 : (P.ia pr_2070 (d86_5) : Int) = (P.pt xp_2006 : Int) := (zI_eq (a := P.ia pr_2070 (d86_5)) (b := P.pt xp_2006) (by omega) (by omega) (by omega) (by omega)).mp b116
                  refine lv_goto (tgt := 170) hx hb dX19_equal_119 (by decide) ?_
                  refine lv_iinc (v := zI (d86_5 + 1)) (lv' := [(5, .int (zI (d86_5 + 1))), (0, .ref h0), (1, .ref xb), (2, .int (zI (j0))), (3, .ref xp_2006), (4, .int (zI (d86_4)))]) hx hb dX19_equal_170 hl (k := 5) rfl (zI_add (d86_5) (1)) (by decide) rfl (fun ls hl => ?_)
                  refine lv_goto (tgt := 86) hx hb dX19_equal_173 (by decide) ?_
                  exact ih86 (d86_5 + 1) d86_4 ls H _ (by omega) (by omega) (by omega) (lv_sub hl [1, 2, 3, 4, 5, 0] rfl) hP hD hS
        exact key86 ((400 - 0 : Int).toNat + 1) 0 (-1) ls H _ (by omega) (by omega) (by omega) (lv_sub hl [2, 3, 4, 5, 1, 0] rfl) hP hD hS
      · have yb18 : ¬ (j0 : Int) ≤ (d15_4 : Int) := fun q => b18 ((zI_le (a := j0) (b := d15_4) (by omega) (by omega) (by omega) (by omega)).mpr q)
        refine lv_aload_n hx hb dX19_equal_21 rfl (lv_at hl 3 rfl) ?_
        refine lv_aload_n hx hb dX19_equal_22 rfl (lv_at hl 1 rfl) ?_
        obtain ⟨kp_2086, hkp_2086⟩ := va_pl_get (X := [(h0, .inr (16, [v19_0, v19_1, v19_2, v19_3, v19_4, v19_5, v19_6, v19_7, v19_8, v19_9, v19_10, v19_11, .ref q_1912, .ref q_1913, .ref q_1914, v19_15, v19_16, v19_17, v19_18, v19_19, v19_20, v19_21, v19_22, v19_23, v19_24, v19_25, v19_26, v19_27, v19_28, v19_29, v19_30, v19_31, v19_32, v19_33, v19_34, v19_35, v19_36, v19_37, v19_38, v19_39, v19_40])), (q_1912, .inl (cA_1912, 1002, .inl (fun j : Nat => zI (a19_replaced (j : Int))))), (q_1913, .inl (cA_1913, 1002, .inl (fun j : Nat => zI (a19_byReg (j : Int))))), (q_1914, .inl (cA_1914, 1002, .inl (fun j : Nat => zI (a19_by (j : Int))))), (hc, .inr (12, [v13_0, v13_1, v13_2, v13_3, v13_4, .ref la, v13_6]))]) (f := pE P) (hX_a9.inb hX_ib).1.1
        rw [pE_block (hX_a9.inb hX_ib).1.2] at hkp_2086
        refine va_get (D := (dC, dI)) (ci := 19) (v := .ref (P.bp xb)) (C := RX12) (T := TX12) (N := 5) hx hb hts mem_P19_equal_0 hown hK hP kp_2086 hkp_2086 rfl 0 (by decide) (ow (k := 0) rfl) (fun _ h9 => h9) rfl dX19_equal_23 ?_
        obtain ⟨pr_2087, epr_2087⟩ : ∃ q9 : Nat, q9 = P.bp xb := ⟨_, rfl⟩
        rw [← epr_2087]
        obtain rfl : pr_2002 = pr_2087 := (by rw [epr_2087]; exact epr_2002.symm.symm)
        refine lv_iload hx hb dX19_equal_26 (lv_at hl 4 rfl) ?_
        have hlk_2088 := (show LOK L P cO 15 pr_2002 from (by rw [← epr_2002.symm]; exact (hX_a9.inb hX_ib).2.2.1))
        obtain ⟨x, ex⟩ : ∃ q9 : Nat, q9 = P.el pr_2002 (d15_4) := ⟨_, rfl⟩
        have hX_x := hlk_2088.1
        have hX_k := hlk_2088.2.1
        have hq9 := hlk_2088.row (i := d15_4) (by omega) (by omega)
        have hX_q : P.le pr_2002 ∈ L ∧ P.kd (P.le pr_2002) = 31 ∧ P.ac (P.le pr_2002) = cO := ⟨hq9.1, hq9.2.1, hq9.2.2.1⟩
        have hq8 := hq9.2.2.2
        have hX_e0 : P.oa (P.le pr_2002) (d15_4).toNat = some x := (by rw [ex]; exact (hlk_2088.2.2.2.2 (d15_4) (by omega) (by omega)).1)
        have hxm : x ∈ L := (by rw [ex]; exact (hlk_2088.2.2.2.2 (d15_4) (by omega) (by omega)).2.1)
        have hxk := (hlk_2088.2.2.2.2 (d15_4) (by omega) (by omega)).2.2
        rw [← ex] at hxk
        have hPc := hP.part (X := [(h0, .inr (16, [v19_0, v19_1, v19_2, v19_3, v19_4, v19_5, v19_6, v19_7, v19_8, v19_9, v19_10, v19_11, .ref q_1912, .ref q_1913, .ref q_1914, v19_15, v19_16, v19_17, v19_18, v19_19, v19_20, v19_21, v19_22, v19_23, v19_24, v19_25, v19_26, v19_27, v19_28, v19_29, v19_30, v19_31, v19_32, v19_33, v19_34, v19_35, v19_36, v19_37, v19_38, v19_39, v19_40])), (q_1912, .inl (cA_1912, 1002, .inl (fun j : Nat => zI (a19_replaced (j : Int))))), (q_1913, .inl (cA_1913, 1002, .inl (fun j : Nat => zI (a19_byReg (j : Int))))), (q_1914, .inl (cA_1914, 1002, .inl (fun j : Nat => zI (a19_by (j : Int))))), (hc, .inr (12, [v13_0, v13_1, v13_2, v13_3, v13_4, .ref la, v13_6]))]) (cx := []) (pl := va_pl L (pE P)) [] rfl
        have hDc := hD.part (X := [(h0, .inr (16, [v19_0, v19_1, v19_2, v19_3, v19_4, v19_5, v19_6, v19_7, v19_8, v19_9, v19_10, v19_11, .ref q_1912, .ref q_1913, .ref q_1914, v19_15, v19_16, v19_17, v19_18, v19_19, v19_20, v19_21, v19_22, v19_23, v19_24, v19_25, v19_26, v19_27, v19_28, v19_29, v19_30, v19_31, v19_32, v19_33, v19_34, v19_35, v19_36, v19_37, v19_38, v19_39, v19_40])), (q_1912, .inl (cA_1912, 1002, .inl (fun j : Nat => zI (a19_replaced (j : Int))))), (q_1913, .inl (cA_1913, 1002, .inl (fun j : Nat => zI (a19_byReg (j : Int))))), (q_1914, .inl (cA_1914, 1002, .inl (fun j : Nat => zI (a19_by (j : Int))))), (hc, .inr (12, [v13_0, v13_1, v13_2, v13_3, v13_4, .ref la, v13_6]))]) (cx := []) (pl := va_pl L (pE P)) [] (by decide) rfl
        have hKc := hK.sub (tys' := [(cO, .object "java/lang/Object")]) [5] rfl
        have hFc := va_freeP (X := [(h0, .inr (16, [v19_0, v19_1, v19_2, v19_3, v19_4, v19_5, v19_6, v19_7, v19_8, v19_9, v19_10, v19_11, .ref q_1912, .ref q_1913, .ref q_1914, v19_15, v19_16, v19_17, v19_18, v19_19, v19_20, v19_21, v19_22, v19_23, v19_24, v19_25, v19_26, v19_27, v19_28, v19_29, v19_30, v19_31, v19_32, v19_33, v19_34, v19_35, v19_36, v19_37, v19_38, v19_39, v19_40])), (q_1912, .inl (cA_1912, 1002, .inl (fun j : Nat => zI (a19_replaced (j : Int))))), (q_1913, .inl (cA_1913, 1002, .inl (fun j : Nat => zI (a19_byReg (j : Int))))), (q_1914, .inl (cA_1914, 1002, .inl (fun j : Nat => zI (a19_by (j : Int))))), (hc, .inr (12, [v13_0, v13_1, v13_2, v13_3, v13_4, .ref la, v13_6]))]) (cx := []) (pl := va_pl L (pE P)) hD hS hA [] rfl
        refine va_callr (va_runV (As := [.int (zI (d15_4))]) (rest := [.ref xp_2006]) ⟨hx, hb, hml, hown, hts⟩ (c_PL_get l dC dI cO L P pr_2002 d15_4 x hX_x hX_k hX_q (by omega) hX_e0 H.size) (cwV 1 hts g_P19_equal_PL_get rfl rfl rfl (by decide +kernel) ⟨(Nat.le_of_ble_eq_true rfl), (Nat.le_of_ble_eq_true rfl)⟩) ⟨fun a U g mk q => by obtain ⟨q0, q1, qP, qK, qD⟩ := q; exact ⟨q0, q1, qP, va_K.moved (u := U) (U := U.calling g mk a) (Vm.Alike.refl U.vm) qK, qD⟩, recv_30 hKc hPc hlk_2003.1 hlk_2003.2.1, fun U hU hW => ⟨rfl, by rw [hU], by rw [hU]; exact hPc, va_K.moved hW.alike hKc, hDc.weaken (fun _ _ _ _ => trivial)⟩⟩ rfl rfl hl.1 rfl (lv_room (Nat.le_of_ble_eq_true rfl)) dX19_equal_28 ⟨(Nat.le_of_ble_eq_true rfl), (Nat.le_of_ble_eq_true rfl)⟩) hS (fun q _ h => hFc q h) hFc (fun u q_2089 t H1 locs ht hvm hw hB hz1 hk1 hS => ?_)
        obtain ⟨hxt_2089, hP1, hK1, hD1⟩ := hB
        rw [ht] at hP1
        have hK1 := va_K.moved hvm.symm hK1
        obtain ⟨hP, hD⟩ := va_joinP (X := [(h0, .inr (16, [v19_0, v19_1, v19_2, v19_3, v19_4, v19_5, v19_6, v19_7, v19_8, v19_9, v19_10, v19_11, .ref q_1912, .ref q_1913, .ref q_1914, v19_15, v19_16, v19_17, v19_18, v19_19, v19_20, v19_21, v19_22, v19_23, v19_24, v19_25, v19_26, v19_27, v19_28, v19_29, v19_30, v19_31, v19_32, v19_33, v19_34, v19_35, v19_36, v19_37, v19_38, v19_39, v19_40])), (q_1912, .inl (cA_1912, 1002, .inl (fun j : Nat => zI (a19_replaced (j : Int))))), (q_1913, .inl (cA_1913, 1002, .inl (fun j : Nat => zI (a19_byReg (j : Int))))), (q_1914, .inl (cA_1914, 1002, .inl (fun j : Nat => zI (a19_by (j : Int))))), (hc, .inr (12, [v13_0, v13_1, v13_2, v13_3, v13_4, .ref la, v13_6]))]) (cx := []) (wr := [(h0, .inr (16, [v19_0, v19_1, v19_2, v19_3, v19_4, v19_5, v19_6, v19_7, v19_8, v19_9, v19_10, v19_11, .ref q_1912, .ref q_1913, .ref q_1914, v19_15, v19_16, v19_17, v19_18, v19_19, v19_20, v19_21, v19_22, v19_23, v19_24, v19_25, v19_26, v19_27, v19_28, v19_29, v19_30, v19_31, v19_32, v19_33, v19_34, v19_35, v19_36, v19_37, v19_38, v19_39, v19_40])), (q_1912, .inl (cA_1912, 1002, .inl (fun j : Nat => zI (a19_replaced (j : Int))))), (q_1913, .inl (cA_1913, 1002, .inl (fun j : Nat => zI (a19_byReg (j : Int))))), (q_1914, .inl (cA_1914, 1002, .inl (fun j : Nat => zI (a19_by (j : Int))))), (hc, .inr (12, [v13_0, v13_1, v13_2, v13_3, v13_4, .ref la, v13_6]))]) (rx := []) (pl := va_pl L (pE P)) (pl1 := va_pl L (pE P)) hP hD [] [0, 1, 2, 3, 4] rfl rfl (by decide) (by decide) hk1 hFc hP1 hD1
        have hK := (hK.sub (tys' := [(cA_1912, .boolean), (cA_1913, .boolean), (cA_1914, .int), (cI, .int), (cZ, .boolean)]) [0, 1, 2, 3, 4] rfl).app hK1
        generalize H1 = H at hP hS ⊢
        have hP : va_P (dC, dI) vwQ ([(h0, .inr (16, [v19_0, v19_1, v19_2, v19_3, v19_4, v19_5, v19_6, v19_7, v19_8, v19_9, v19_10, v19_11, .ref q_1912, .ref q_1913, .ref q_1914, v19_15, v19_16, v19_17, v19_18, v19_19, v19_20, v19_21, v19_22, v19_23, v19_24, v19_25, v19_26, v19_27, v19_28, v19_29, v19_30, v19_31, v19_32, v19_33, v19_34, v19_35, v19_36, v19_37, v19_38, v19_39, v19_40])), (q_1912, .inl (cA_1912, 1002, .inl (fun j : Nat => zI (a19_replaced (j : Int))))), (q_1913, .inl (cA_1913, 1002, .inl (fun j : Nat => zI (a19_byReg (j : Int))))), (q_1914, .inl (cA_1914, 1002, .inl (fun j : Nat => zI (a19_by (j : Int))))), (hc, .inr (12, [v13_0, v13_1, v13_2, v13_3, v13_4, .ref la, v13_6]))] ++ va_pl L (pE P)) H := hP
        have hD : va_D A ([(h0, .inr (16, [v19_0, v19_1, v19_2, v19_3, v19_4, v19_5, v19_6, v19_7, v19_8, v19_9, v19_10, v19_11, .ref q_1912, .ref q_1913, .ref q_1914, v19_15, v19_16, v19_17, v19_18, v19_19, v19_20, v19_21, v19_22, v19_23, v19_24, v19_25, v19_26, v19_27, v19_28, v19_29, v19_30, v19_31, v19_32, v19_33, v19_34, v19_35, v19_36, v19_37, v19_38, v19_39, v19_40])), (q_1912, .inl (cA_1912, 1002, .inl (fun j : Nat => zI (a19_replaced (j : Int))))), (q_1913, .inl (cA_1913, 1002, .inl (fun j : Nat => zI (a19_byReg (j : Int))))), (q_1914, .inl (cA_1914, 1002, .inl (fun j : Nat => zI (a19_by (j : Int))))), (hc, .inr (12, [v13_0, v13_1, v13_2, v13_3, v13_4, .ref la, v13_6]))] ++ va_pl L (pE P)) := hD
        have hK : va_K (dC, dI) vwQ [(cA_1912, .boolean), (cA_1913, .boolean), (cA_1914, .int), (cI, .int), (cZ, .boolean), (cO, .object "java/lang/Object")] s := hK
        refine W.widen (k := 0) (n := 0) (Nat.le_of_ble_eq_true rfl) (Nat.le_of_ble_eq_true rfl) ?_
        rw [hxt_2089]
        clear hX_e0
        obtain ⟨xp_2090, h9⟩ : ∃ q9 : Nat, q9 = x := ⟨_, rfl⟩
        subst h9
        have hm_2091 := hxm
        have hk_2092 := hxk
        have hpb_2093 : PRB P xp_2090 (P.lz la) := (by have q9 := hX_a9.2.2.1 xb hX_ib (d15_4) (by omega) (by rw [epr_2002.symm]; omega); rw [epr_2002.symm, ← ex] at q9; exact q9)
        refine va_castY (C := "SsaForgeModel$Phi") (nm := "SsaForgeModel$Phi") hx hb hown (ow (k := 5) rfl) hp0 (recv_15 hK hP hm_2091 hk_2092) dX19_equal_31 ?_
        have hX_p := hX_a9.pik hm_2007 hk_2008
        have hp9 := hX_a9.pik hm_2007 hk_2008
        have hpn := hp9.2.2.2.2.1
        have hpt := hp9.2.2.2.2.2.1
        clear hp9
        have hX_o := hX_a9.pik hm_2091 hk_2092
        have hp9 := hX_a9.pik hm_2091 hk_2092
        have hpn := hp9.2.2.2.2.1
        have hpt := hp9.2.2.2.2.2.1
        clear hp9
        have hPc := hP.part (X := [(h0, .inr (16, [v19_0, v19_1, v19_2, v19_3, v19_4, v19_5, v19_6, v19_7, v19_8, v19_9, v19_10, v19_11, .ref q_1912, .ref q_1913, .ref q_1914, v19_15, v19_16, v19_17, v19_18, v19_19, v19_20, v19_21, v19_22, v19_23, v19_24, v19_25, v19_26, v19_27, v19_28, v19_29, v19_30, v19_31, v19_32, v19_33, v19_34, v19_35, v19_36, v19_37, v19_38, v19_39, v19_40])), (q_1912, .inl (cA_1912, 1002, .inl (fun j : Nat => zI (a19_replaced (j : Int))))), (q_1913, .inl (cA_1913, 1002, .inl (fun j : Nat => zI (a19_byReg (j : Int))))), (q_1914, .inl (cA_1914, 1002, .inl (fun j : Nat => zI (a19_by (j : Int))))), (hc, .inr (12, [v13_0, v13_1, v13_2, v13_3, v13_4, .ref la, v13_6]))]) (cx := []) (pl := va_pl L (pE P)) [] rfl
        have hDc := hD.part (X := [(h0, .inr (16, [v19_0, v19_1, v19_2, v19_3, v19_4, v19_5, v19_6, v19_7, v19_8, v19_9, v19_10, v19_11, .ref q_1912, .ref q_1913, .ref q_1914, v19_15, v19_16, v19_17, v19_18, v19_19, v19_20, v19_21, v19_22, v19_23, v19_24, v19_25, v19_26, v19_27, v19_28, v19_29, v19_30, v19_31, v19_32, v19_33, v19_34, v19_35, v19_36, v19_37, v19_38, v19_39, v19_40])), (q_1912, .inl (cA_1912, 1002, .inl (fun j : Nat => zI (a19_replaced (j : Int))))), (q_1913, .inl (cA_1913, 1002, .inl (fun j : Nat => zI (a19_byReg (j : Int))))), (q_1914, .inl (cA_1914, 1002, .inl (fun j : Nat => zI (a19_by (j : Int))))), (hc, .inr (12, [v13_0, v13_1, v13_2, v13_3, v13_4, .ref la, v13_6]))]) (cx := []) (pl := va_pl L (pE P)) [] (by decide) rfl
        have hKc := hK.sub (tys' := [(cO, .object "java/lang/Object"), (cI, .int), (cZ, .boolean)]) [5, 3, 4] rfl
        have hFc := va_freeP (X := [(h0, .inr (16, [v19_0, v19_1, v19_2, v19_3, v19_4, v19_5, v19_6, v19_7, v19_8, v19_9, v19_10, v19_11, .ref q_1912, .ref q_1913, .ref q_1914, v19_15, v19_16, v19_17, v19_18, v19_19, v19_20, v19_21, v19_22, v19_23, v19_24, v19_25, v19_26, v19_27, v19_28, v19_29, v19_30, v19_31, v19_32, v19_33, v19_34, v19_35, v19_36, v19_37, v19_38, v19_39, v19_40])), (q_1912, .inl (cA_1912, 1002, .inl (fun j : Nat => zI (a19_replaced (j : Int))))), (q_1913, .inl (cA_1913, 1002, .inl (fun j : Nat => zI (a19_byReg (j : Int))))), (q_1914, .inl (cA_1914, 1002, .inl (fun j : Nat => zI (a19_by (j : Int))))), (hc, .inr (12, [v13_0, v13_1, v13_2, v13_3, v13_4, .ref la, v13_6]))]) (cx := []) (pl := va_pl L (pE P)) hD hS hA [] rfl
        refine va_calli (va_runS (As := [.ref xp_2006, .ref xp_2090]) (rest := []) ⟨hx, hb, hml, hown, hts⟩ (c_P19_same l dC dI cO cI cZ L P xp_2006 xp_2090 hX_p hX_o H.size) (cwS 2 hts g_P19_equal_P19_same rfl rfl rfl (by decide +kernel) ⟨(Nat.le_of_ble_eq_true rfl), (Nat.le_of_ble_eq_true rfl)⟩) ⟨fun a U g mk q => by obtain ⟨q0, q1, qP, qK, qD⟩ := q; exact ⟨q0, q1, qP, va_K.moved (u := U) (U := U.calling g mk a) (Vm.Alike.refl U.vm) qK, qD⟩, fun U hU hW => ⟨rfl, by rw [hU], by rw [hU]; exact hPc, va_K.moved hW.alike hKc, hDc.weaken (fun _ _ _ _ => trivial)⟩⟩ rfl rfl hl.1 rfl (lv_room (Nat.le_of_ble_eq_true rfl)) dX19_equal_34 ⟨(Nat.le_of_ble_eq_true rfl), (Nat.le_of_ble_eq_true rfl)⟩) hS (fun q _ h => hFc q h) hFc (fun r_2094 u t H1 locs ht hvm hw hB hz1 hk1 hS => ?_)
        obtain ⟨hP1, hK1, hD1⟩ := hB
        rw [ht] at hP1
        have hK1 := va_K.moved hvm.symm hK1
        obtain ⟨hP, hD⟩ := va_joinP (X := [(h0, .inr (16, [v19_0, v19_1, v19_2, v19_3, v19_4, v19_5, v19_6, v19_7, v19_8, v19_9, v19_10, v19_11, .ref q_1912, .ref q_1913, .ref q_1914, v19_15, v19_16, v19_17, v19_18, v19_19, v19_20, v19_21, v19_22, v19_23, v19_24, v19_25, v19_26, v19_27, v19_28, v19_29, v19_30, v19_31, v19_32, v19_33, v19_34, v19_35, v19_36, v19_37, v19_38, v19_39, v19_40])), (q_1912, .inl (cA_1912, 1002, .inl (fun j : Nat => zI (a19_replaced (j : Int))))), (q_1913, .inl (cA_1913, 1002, .inl (fun j : Nat => zI (a19_byReg (j : Int))))), (q_1914, .inl (cA_1914, 1002, .inl (fun j : Nat => zI (a19_by (j : Int))))), (hc, .inr (12, [v13_0, v13_1, v13_2, v13_3, v13_4, .ref la, v13_6]))]) (cx := []) (wr := [(h0, .inr (16, [v19_0, v19_1, v19_2, v19_3, v19_4, v19_5, v19_6, v19_7, v19_8, v19_9, v19_10, v19_11, .ref q_1912, .ref q_1913, .ref q_1914, v19_15, v19_16, v19_17, v19_18, v19_19, v19_20, v19_21, v19_22, v19_23, v19_24, v19_25, v19_26, v19_27, v19_28, v19_29, v19_30, v19_31, v19_32, v19_33, v19_34, v19_35, v19_36, v19_37, v19_38, v19_39, v19_40])), (q_1912, .inl (cA_1912, 1002, .inl (fun j : Nat => zI (a19_replaced (j : Int))))), (q_1913, .inl (cA_1913, 1002, .inl (fun j : Nat => zI (a19_byReg (j : Int))))), (q_1914, .inl (cA_1914, 1002, .inl (fun j : Nat => zI (a19_by (j : Int))))), (hc, .inr (12, [v13_0, v13_1, v13_2, v13_3, v13_4, .ref la, v13_6]))]) (rx := []) (pl := va_pl L (pE P)) (pl1 := va_pl L (pE P)) hP hD [] [0, 1, 2, 3, 4] rfl rfl (by decide) (by decide) hk1 hFc hP1 hD1
        have hK := (hK.sub (tys' := [(cA_1912, .boolean), (cA_1913, .boolean), (cA_1914, .int)]) [0, 1, 2] rfl).app hK1
        generalize H1 = H at hP hS ⊢
        have hP : va_P (dC, dI) vwQ ([(h0, .inr (16, [v19_0, v19_1, v19_2, v19_3, v19_4, v19_5, v19_6, v19_7, v19_8, v19_9, v19_10, v19_11, .ref q_1912, .ref q_1913, .ref q_1914, v19_15, v19_16, v19_17, v19_18, v19_19, v19_20, v19_21, v19_22, v19_23, v19_24, v19_25, v19_26, v19_27, v19_28, v19_29, v19_30, v19_31, v19_32, v19_33, v19_34, v19_35, v19_36, v19_37, v19_38, v19_39, v19_40])), (q_1912, .inl (cA_1912, 1002, .inl (fun j : Nat => zI (a19_replaced (j : Int))))), (q_1913, .inl (cA_1913, 1002, .inl (fun j : Nat => zI (a19_byReg (j : Int))))), (q_1914, .inl (cA_1914, 1002, .inl (fun j : Nat => zI (a19_by (j : Int))))), (hc, .inr (12, [v13_0, v13_1, v13_2, v13_3, v13_4, .ref la, v13_6]))] ++ va_pl L (pE P)) H := hP
        have hD : va_D A ([(h0, .inr (16, [v19_0, v19_1, v19_2, v19_3, v19_4, v19_5, v19_6, v19_7, v19_8, v19_9, v19_10, v19_11, .ref q_1912, .ref q_1913, .ref q_1914, v19_15, v19_16, v19_17, v19_18, v19_19, v19_20, v19_21, v19_22, v19_23, v19_24, v19_25, v19_26, v19_27, v19_28, v19_29, v19_30, v19_31, v19_32, v19_33, v19_34, v19_35, v19_36, v19_37, v19_38, v19_39, v19_40])), (q_1912, .inl (cA_1912, 1002, .inl (fun j : Nat => zI (a19_replaced (j : Int))))), (q_1913, .inl (cA_1913, 1002, .inl (fun j : Nat => zI (a19_byReg (j : Int))))), (q_1914, .inl (cA_1914, 1002, .inl (fun j : Nat => zI (a19_by (j : Int))))), (hc, .inr (12, [v13_0, v13_1, v13_2, v13_3, v13_4, .ref la, v13_6]))] ++ va_pl L (pE P)) := hD
        have hK : va_K (dC, dI) vwQ [(cA_1912, .boolean), (cA_1913, .boolean), (cA_1914, .int), (cO, .object "java/lang/Object"), (cI, .int), (cZ, .boolean)] s := hK
        refine W.widen (k := 0) (n := 0) (Nat.le_of_ble_eq_true rfl) (Nat.le_of_ble_eq_true rfl) ?_
        have hw_2095 := hw
        obtain ⟨z_2096, rfl, hzz_2096⟩ := hw_2095
        refine lv_if_ne (tgt := 43) hx hb dX19_equal_37 (by decide) (fun b37 => ?_) (fun b37 => ?_)
        · have yb37 : ¬ (z_2096 : Int) = (0 : Int) := fun q => b37 ((zI_eq (a := z_2096) (b := 0) (by omega) (by omega) (by omega) (by omega)).mpr q)
          refine lv_aload_n hx hb dX19_equal_43 rfl (lv_at hl 0 rfl) ?_
          refine lv_aload_n hx hb dX19_equal_44 rfl (lv_at hl 3 rfl) ?_
          obtain ⟨kp_2097, hkp_2097⟩ := va_pl_get (X := [(h0, .inr (16, [v19_0, v19_1, v19_2, v19_3, v19_4, v19_5, v19_6, v19_7, v19_8, v19_9, v19_10, v19_11, .ref q_1912, .ref q_1913, .ref q_1914, v19_15, v19_16, v19_17, v19_18, v19_19, v19_20, v19_21, v19_22, v19_23, v19_24, v19_25, v19_26, v19_27, v19_28, v19_29, v19_30, v19_31, v19_32, v19_33, v19_34, v19_35, v19_36, v19_37, v19_38, v19_39, v19_40])), (q_1912, .inl (cA_1912, 1002, .inl (fun j : Nat => zI (a19_replaced (j : Int))))), (q_1913, .inl (cA_1913, 1002, .inl (fun j : Nat => zI (a19_byReg (j : Int))))), (q_1914, .inl (cA_1914, 1002, .inl (fun j : Nat => zI (a19_by (j : Int))))), (hc, .inr (12, [v13_0, v13_1, v13_2, v13_3, v13_4, .ref la, v13_6]))]) (f := pE P) hm_2007
          rw [pE_phi hk_2008] at hkp_2097
          refine va_get (D := (dC, dI)) (ci := 20) (v := .int (zI (P.pt xp_2006))) (C := RX15) (T := TX15) (N := 6) hx hb hts mem_P19_equal_2 hown hK hP kp_2097 hkp_2097 rfl 0 (by decide) (ow (k := 7) rfl) (fun _ h9 => h9) rfl dX19_equal_45 ?_
          refine lv_aload_n hx hb dX19_equal_48 rfl (lv_at hl 1 rfl) ?_
          obtain ⟨kp_2098, hkp_2098⟩ := va_pl_get (X := [(h0, .inr (16, [v19_0, v19_1, v19_2, v19_3, v19_4, v19_5, v19_6, v19_7, v19_8, v19_9, v19_10, v19_11, .ref q_1912, .ref q_1913, .ref q_1914, v19_15, v19_16, v19_17, v19_18, v19_19, v19_20, v19_21, v19_22, v19_23, v19_24, v19_25, v19_26, v19_27, v19_28, v19_29, v19_30, v19_31, v19_32, v19_33, v19_34, v19_35, v19_36, v19_37, v19_38, v19_39, v19_40])), (q_1912, .inl (cA_1912, 1002, .inl (fun j : Nat => zI (a19_replaced (j : Int))))), (q_1913, .inl (cA_1913, 1002, .inl (fun j : Nat => zI (a19_byReg (j : Int))))), (q_1914, .inl (cA_1914, 1002, .inl (fun j : Nat => zI (a19_by (j : Int))))), (hc, .inr (12, [v13_0, v13_1, v13_2, v13_3, v13_4, .ref la, v13_6]))]) (f := pE P) (hX_a9.inb hX_ib).1.1
          rw [pE_block (hX_a9.inb hX_ib).1.2] at hkp_2098
          refine va_get (D := (dC, dI)) (ci := 19) (v := .ref (P.bp xb)) (C := RX12) (T := TX12) (N := 5) hx hb hts mem_P19_equal_0 hown hK hP kp_2098 hkp_2098 rfl 0 (by decide) (ow (k := 0) rfl) (fun _ h9 => h9) rfl dX19_equal_49 ?_
          obtain ⟨pr_2099, epr_2099⟩ : ∃ q9 : Nat, q9 = P.bp xb := ⟨_, rfl⟩
          rw [← epr_2099]
          obtain rfl : pr_2002 = pr_2099 := (by rw [epr_2099]; exact epr_2002.symm.symm)
          refine lv_iload hx hb dX19_equal_52 (lv_at hl 4 rfl) ?_
          have hlk_2100 := (show LOK L P cO 15 pr_2002 from (by rw [← epr_2002.symm]; exact (hX_a9.inb hX_ib).2.2.1))
          obtain ⟨x, ex⟩ : ∃ q9 : Nat, q9 = P.el pr_2002 (d15_4) := ⟨_, rfl⟩
          have hX_x := hlk_2100.1
          have hX_k := hlk_2100.2.1
          have hq9 := hlk_2100.row (i := d15_4) (by omega) (by omega)
          have hX_q : P.le pr_2002 ∈ L ∧ P.kd (P.le pr_2002) = 31 ∧ P.ac (P.le pr_2002) = cO := ⟨hq9.1, hq9.2.1, hq9.2.2.1⟩
          have hq8 := hq9.2.2.2
          have hX_e0 : P.oa (P.le pr_2002) (d15_4).toNat = some x := (by rw [ex]; exact (hlk_2100.2.2.2.2 (d15_4) (by omega) (by omega)).1)
          have hxm : x ∈ L := (by rw [ex]; exact (hlk_2100.2.2.2.2 (d15_4) (by omega) (by omega)).2.1)
          have hxk := (hlk_2100.2.2.2.2 (d15_4) (by omega) (by omega)).2.2
          rw [← ex] at hxk
          have hPc := hP.part (X := [(h0, .inr (16, [v19_0, v19_1, v19_2, v19_3, v19_4, v19_5, v19_6, v19_7, v19_8, v19_9, v19_10, v19_11, .ref q_1912, .ref q_1913, .ref q_1914, v19_15, v19_16, v19_17, v19_18, v19_19, v19_20, v19_21, v19_22, v19_23, v19_24, v19_25, v19_26, v19_27, v19_28, v19_29, v19_30, v19_31, v19_32, v19_33, v19_34, v19_35, v19_36, v19_37, v19_38, v19_39, v19_40])), (q_1912, .inl (cA_1912, 1002, .inl (fun j : Nat => zI (a19_replaced (j : Int))))), (q_1913, .inl (cA_1913, 1002, .inl (fun j : Nat => zI (a19_byReg (j : Int))))), (q_1914, .inl (cA_1914, 1002, .inl (fun j : Nat => zI (a19_by (j : Int))))), (hc, .inr (12, [v13_0, v13_1, v13_2, v13_3, v13_4, .ref la, v13_6]))]) (cx := []) (pl := va_pl L (pE P)) [] rfl
          have hDc := hD.part (X := [(h0, .inr (16, [v19_0, v19_1, v19_2, v19_3, v19_4, v19_5, v19_6, v19_7, v19_8, v19_9, v19_10, v19_11, .ref q_1912, .ref q_1913, .ref q_1914, v19_15, v19_16, v19_17, v19_18, v19_19, v19_20, v19_21, v19_22, v19_23, v19_24, v19_25, v19_26, v19_27, v19_28, v19_29, v19_30, v19_31, v19_32, v19_33, v19_34, v19_35, v19_36, v19_37, v19_38, v19_39, v19_40])), (q_1912, .inl (cA_1912, 1002, .inl (fun j : Nat => zI (a19_replaced (j : Int))))), (q_1913, .inl (cA_1913, 1002, .inl (fun j : Nat => zI (a19_byReg (j : Int))))), (q_1914, .inl (cA_1914, 1002, .inl (fun j : Nat => zI (a19_by (j : Int))))), (hc, .inr (12, [v13_0, v13_1, v13_2, v13_3, v13_4, .ref la, v13_6]))]) (cx := []) (pl := va_pl L (pE P)) [] (by decide) rfl
          have hKc := hK.sub (tys' := [(cO, .object "java/lang/Object")]) [3] rfl
          have hFc := va_freeP (X := [(h0, .inr (16, [v19_0, v19_1, v19_2, v19_3, v19_4, v19_5, v19_6, v19_7, v19_8, v19_9, v19_10, v19_11, .ref q_1912, .ref q_1913, .ref q_1914, v19_15, v19_16, v19_17, v19_18, v19_19, v19_20, v19_21, v19_22, v19_23, v19_24, v19_25, v19_26, v19_27, v19_28, v19_29, v19_30, v19_31, v19_32, v19_33, v19_34, v19_35, v19_36, v19_37, v19_38, v19_39, v19_40])), (q_1912, .inl (cA_1912, 1002, .inl (fun j : Nat => zI (a19_replaced (j : Int))))), (q_1913, .inl (cA_1913, 1002, .inl (fun j : Nat => zI (a19_byReg (j : Int))))), (q_1914, .inl (cA_1914, 1002, .inl (fun j : Nat => zI (a19_by (j : Int))))), (hc, .inr (12, [v13_0, v13_1, v13_2, v13_3, v13_4, .ref la, v13_6]))]) (cx := []) (pl := va_pl L (pE P)) hD hS hA [] rfl
          refine va_callr (va_runV (As := [.int (zI (d15_4))]) (rest := [.int (zI (P.pt xp_2006)), .ref h0]) ⟨hx, hb, hml, hown, hts⟩ (c_PL_get l dC dI cO L P pr_2002 d15_4 x hX_x hX_k hX_q (by omega) hX_e0 H.size) (cwV 1 hts g_P19_equal_PL_get rfl rfl rfl (by decide +kernel) ⟨(Nat.le_of_ble_eq_true rfl), (Nat.le_of_ble_eq_true rfl)⟩) ⟨fun a U g mk q => by obtain ⟨q0, q1, qP, qK, qD⟩ := q; exact ⟨q0, q1, qP, va_K.moved (u := U) (U := U.calling g mk a) (Vm.Alike.refl U.vm) qK, qD⟩, recv_30 hKc hPc hlk_2003.1 hlk_2003.2.1, fun U hU hW => ⟨rfl, by rw [hU], by rw [hU]; exact hPc, va_K.moved hW.alike hKc, hDc.weaken (fun _ _ _ _ => trivial)⟩⟩ rfl rfl hl.1 rfl (lv_room (Nat.le_of_ble_eq_true rfl)) dX19_equal_54 ⟨(Nat.le_of_ble_eq_true rfl), (Nat.le_of_ble_eq_true rfl)⟩) hS (fun q _ h => hFc q h) hFc (fun u q_2101 t H1 locs ht hvm hw hB hz1 hk1 hS => ?_)
          obtain ⟨hxt_2101, hP1, hK1, hD1⟩ := hB
          rw [ht] at hP1
          have hK1 := va_K.moved hvm.symm hK1
          obtain ⟨hP, hD⟩ := va_joinP (X := [(h0, .inr (16, [v19_0, v19_1, v19_2, v19_3, v19_4, v19_5, v19_6, v19_7, v19_8, v19_9, v19_10, v19_11, .ref q_1912, .ref q_1913, .ref q_1914, v19_15, v19_16, v19_17, v19_18, v19_19, v19_20, v19_21, v19_22, v19_23, v19_24, v19_25, v19_26, v19_27, v19_28, v19_29, v19_30, v19_31, v19_32, v19_33, v19_34, v19_35, v19_36, v19_37, v19_38, v19_39, v19_40])), (q_1912, .inl (cA_1912, 1002, .inl (fun j : Nat => zI (a19_replaced (j : Int))))), (q_1913, .inl (cA_1913, 1002, .inl (fun j : Nat => zI (a19_byReg (j : Int))))), (q_1914, .inl (cA_1914, 1002, .inl (fun j : Nat => zI (a19_by (j : Int))))), (hc, .inr (12, [v13_0, v13_1, v13_2, v13_3, v13_4, .ref la, v13_6]))]) (cx := []) (wr := [(h0, .inr (16, [v19_0, v19_1, v19_2, v19_3, v19_4, v19_5, v19_6, v19_7, v19_8, v19_9, v19_10, v19_11, .ref q_1912, .ref q_1913, .ref q_1914, v19_15, v19_16, v19_17, v19_18, v19_19, v19_20, v19_21, v19_22, v19_23, v19_24, v19_25, v19_26, v19_27, v19_28, v19_29, v19_30, v19_31, v19_32, v19_33, v19_34, v19_35, v19_36, v19_37, v19_38, v19_39, v19_40])), (q_1912, .inl (cA_1912, 1002, .inl (fun j : Nat => zI (a19_replaced (j : Int))))), (q_1913, .inl (cA_1913, 1002, .inl (fun j : Nat => zI (a19_byReg (j : Int))))), (q_1914, .inl (cA_1914, 1002, .inl (fun j : Nat => zI (a19_by (j : Int))))), (hc, .inr (12, [v13_0, v13_1, v13_2, v13_3, v13_4, .ref la, v13_6]))]) (rx := []) (pl := va_pl L (pE P)) (pl1 := va_pl L (pE P)) hP hD [] [0, 1, 2, 3, 4] rfl rfl (by decide) (by decide) hk1 hFc hP1 hD1
          have hK := (hK.sub (tys' := [(cA_1912, .boolean), (cA_1913, .boolean), (cA_1914, .int), (cI, .int), (cZ, .boolean)]) [0, 1, 2, 4, 5] rfl).app hK1
          generalize H1 = H at hP hS ⊢
          have hP : va_P (dC, dI) vwQ ([(h0, .inr (16, [v19_0, v19_1, v19_2, v19_3, v19_4, v19_5, v19_6, v19_7, v19_8, v19_9, v19_10, v19_11, .ref q_1912, .ref q_1913, .ref q_1914, v19_15, v19_16, v19_17, v19_18, v19_19, v19_20, v19_21, v19_22, v19_23, v19_24, v19_25, v19_26, v19_27, v19_28, v19_29, v19_30, v19_31, v19_32, v19_33, v19_34, v19_35, v19_36, v19_37, v19_38, v19_39, v19_40])), (q_1912, .inl (cA_1912, 1002, .inl (fun j : Nat => zI (a19_replaced (j : Int))))), (q_1913, .inl (cA_1913, 1002, .inl (fun j : Nat => zI (a19_byReg (j : Int))))), (q_1914, .inl (cA_1914, 1002, .inl (fun j : Nat => zI (a19_by (j : Int))))), (hc, .inr (12, [v13_0, v13_1, v13_2, v13_3, v13_4, .ref la, v13_6]))] ++ va_pl L (pE P)) H := hP
          have hD : va_D A ([(h0, .inr (16, [v19_0, v19_1, v19_2, v19_3, v19_4, v19_5, v19_6, v19_7, v19_8, v19_9, v19_10, v19_11, .ref q_1912, .ref q_1913, .ref q_1914, v19_15, v19_16, v19_17, v19_18, v19_19, v19_20, v19_21, v19_22, v19_23, v19_24, v19_25, v19_26, v19_27, v19_28, v19_29, v19_30, v19_31, v19_32, v19_33, v19_34, v19_35, v19_36, v19_37, v19_38, v19_39, v19_40])), (q_1912, .inl (cA_1912, 1002, .inl (fun j : Nat => zI (a19_replaced (j : Int))))), (q_1913, .inl (cA_1913, 1002, .inl (fun j : Nat => zI (a19_byReg (j : Int))))), (q_1914, .inl (cA_1914, 1002, .inl (fun j : Nat => zI (a19_by (j : Int))))), (hc, .inr (12, [v13_0, v13_1, v13_2, v13_3, v13_4, .ref la, v13_6]))] ++ va_pl L (pE P)) := hD
          have hK : va_K (dC, dI) vwQ [(cA_1912, .boolean), (cA_1913, .boolean), (cA_1914, .int), (cI, .int), (cZ, .boolean), (cO, .object "java/lang/Object")] s := hK
          refine W.widen (k := 0) (n := 0) (Nat.le_of_ble_eq_true rfl) (Nat.le_of_ble_eq_true rfl) ?_
          rw [hxt_2101]
          clear hX_e0
          obtain ⟨xp_2102, h9⟩ : ∃ q9 : Nat, q9 = x := ⟨_, rfl⟩
          subst h9
          have hm_2103 := hxm
          have hk_2104 := hxk
          have hpb_2105 : PRB P xp_2102 (P.lz la) := (by have q9 := hX_a9.2.2.1 xb hX_ib (d15_4) (by omega) (by rw [epr_2002.symm]; omega); rw [epr_2002.symm, ← ex] at q9; exact q9)
          refine va_castY (C := "SsaForgeModel$Phi") (nm := "SsaForgeModel$Phi") hx hb hown (ow (k := 5) rfl) hp0 (recv_15 hK hP hm_2103 hk_2104) dX19_equal_57 ?_
          have hp9 := hX_a9.pik hm_2103 hk_2104
          have hpn := hp9.2.2.2.2.1
          have hpt := hp9.2.2.2.2.2.1
          clear hp9
          obtain ⟨kp_2106, hkp_2106⟩ := va_pl_get (X := [(h0, .inr (16, [v19_0, v19_1, v19_2, v19_3, v19_4, v19_5, v19_6, v19_7, v19_8, v19_9, v19_10, v19_11, .ref q_1912, .ref q_1913, .ref q_1914, v19_15, v19_16, v19_17, v19_18, v19_19, v19_20, v19_21, v19_22, v19_23, v19_24, v19_25, v19_26, v19_27, v19_28, v19_29, v19_30, v19_31, v19_32, v19_33, v19_34, v19_35, v19_36, v19_37, v19_38, v19_39, v19_40])), (q_1912, .inl (cA_1912, 1002, .inl (fun j : Nat => zI (a19_replaced (j : Int))))), (q_1913, .inl (cA_1913, 1002, .inl (fun j : Nat => zI (a19_byReg (j : Int))))), (q_1914, .inl (cA_1914, 1002, .inl (fun j : Nat => zI (a19_by (j : Int))))), (hc, .inr (12, [v13_0, v13_1, v13_2, v13_3, v13_4, .ref la, v13_6]))]) (f := pE P) hm_2103
          rw [pE_phi hk_2104] at hkp_2106
          refine va_get (D := (dC, dI)) (ci := 20) (v := .int (zI (P.pt xp_2102))) (C := RX15) (T := TX15) (N := 6) hx hb hts mem_P19_equal_2 hown hK hP kp_2106 hkp_2106 rfl 0 (by decide) (ow (k := 7) rfl) (fun _ h9 => h9) rfl dX19_equal_60 ?_
          refine lv_iconst (v := 1) hx hb dX19_equal_63 (by decide) ?_
          have hPc := hP.sub (ws' := [(h0, .inr (16, [v19_0, v19_1, v19_2, v19_3, v19_4, v19_5, v19_6, v19_7, v19_8, v19_9, v19_10, v19_11, .ref q_1912, .ref q_1913, .ref q_1914, v19_15, v19_16, v19_17, v19_18, v19_19, v19_20, v19_21, v19_22, v19_23, v19_24, v19_25, v19_26, v19_27, v19_28, v19_29, v19_30, v19_31, v19_32, v19_33, v19_34, v19_35, v19_36, v19_37, v19_38, v19_39, v19_40])), (q_1912, .inl (cA_1912, 1002, .inl (fun j : Nat => zI (a19_replaced (j : Int))))), (q_1913, .inl (cA_1913, 1002, .inl (fun j : Nat => zI (a19_byReg (j : Int))))), (q_1914, .inl (cA_1914, 1002, .inl (fun j : Nat => zI (a19_by (j : Int)))))]) [0, 1, 2, 3] rfl
          have hDc := hD.sub (ws' := [(h0, .inr (16, [v19_0, v19_1, v19_2, v19_3, v19_4, v19_5, v19_6, v19_7, v19_8, v19_9, v19_10, v19_11, .ref q_1912, .ref q_1913, .ref q_1914, v19_15, v19_16, v19_17, v19_18, v19_19, v19_20, v19_21, v19_22, v19_23, v19_24, v19_25, v19_26, v19_27, v19_28, v19_29, v19_30, v19_31, v19_32, v19_33, v19_34, v19_35, v19_36, v19_37, v19_38, v19_39, v19_40])), (q_1912, .inl (cA_1912, 1002, .inl (fun j : Nat => zI (a19_replaced (j : Int))))), (q_1913, .inl (cA_1913, 1002, .inl (fun j : Nat => zI (a19_byReg (j : Int))))), (q_1914, .inl (cA_1914, 1002, .inl (fun j : Nat => zI (a19_by (j : Int)))))]) [0, 1, 2, 3] (by decide) rfl
          have hKc := hK.sub (tys' := [(cA_1912, .boolean), (cA_1913, .boolean), (cA_1914, .int)]) [0, 1, 2] rfl
          have hFc := va_free (wc := [(h0, .inr (16, [v19_0, v19_1, v19_2, v19_3, v19_4, v19_5, v19_6, v19_7, v19_8, v19_9, v19_10, v19_11, .ref q_1912, .ref q_1913, .ref q_1914, v19_15, v19_16, v19_17, v19_18, v19_19, v19_20, v19_21, v19_22, v19_23, v19_24, v19_25, v19_26, v19_27, v19_28, v19_29, v19_30, v19_31, v19_32, v19_33, v19_34, v19_35, v19_36, v19_37, v19_38, v19_39, v19_40])), (q_1912, .inl (cA_1912, 1002, .inl (fun j : Nat => zI (a19_replaced (j : Int))))), (q_1913, .inl (cA_1913, 1002, .inl (fun j : Nat => zI (a19_byReg (j : Int))))), (q_1914, .inl (cA_1914, 1002, .inl (fun j : Nat => zI (a19_by (j : Int)))))]) hD hS hA [0, 1, 2, 3] rfl
          refine va_callv (va_runV (As := [.int (zI (P.pt xp_2006)), .int (zI (P.pt xp_2102)), .int 1]) (rest := []) ⟨hx, hb, hml, hown, hts⟩ (c_X19_replaceL l dC dI h0 v19_0 v19_1 v19_2 v19_3 v19_4 v19_5 v19_6 v19_7 v19_8 v19_9 v19_10 v19_11 q_1912 cA_1912 a19_replaced q_1913 cA_1913 a19_byReg q_1914 cA_1914 a19_by v19_15 v19_16 v19_17 v19_18 v19_19 v19_20 v19_21 v19_22 v19_23 v19_24 v19_25 v19_26 v19_27 v19_28 v19_29 v19_30 v19_31 v19_32 v19_33 v19_34 v19_35 v19_36 v19_37 v19_38 v19_39 v19_40 (P.pt xp_2006) (P.pt xp_2102) 1 hR_a19_replaced hR_a19_byReg hR_a19_by (by omega) (by omega) (by omega) hX_R H.size) (cwV 3 hts g_P19_equal_X19_replaceL rfl rfl rfl (by decide +kernel) ⟨(Nat.le_of_ble_eq_true rfl), (Nat.le_of_ble_eq_true rfl)⟩) ⟨fun a U g mk q => by obtain ⟨q0, q1, qP, qK, qD⟩ := q; exact ⟨q0, q1, qP, va_K.moved (u := U) (U := U.calling g mk a) (Vm.Alike.refl U.vm) qK, qD⟩, va_recv hKc hPc (ci := 16) (q0 := 0) rfl rfl, fun U hU hW => ⟨rfl, by rw [hU], by rw [hU]; exact hPc, va_K.moved hW.alike hKc, hDc.weaken (fun _ _ _ _ => trivial)⟩⟩ rfl rfl hl.1 rfl (lv_room (Nat.le_of_ble_eq_true rfl)) dX19_equal_64 ⟨(Nat.le_of_ble_eq_true rfl), (Nat.le_of_ble_eq_true rfl)⟩) hS (fun q _ h => hFc q h) hFc (fun  u t H1 locs ht hvm hw hB hz1 hk1 hS => ?_)
          obtain ⟨a0_2107, a1_2108, a2_2109, hxt_2109, hP1, hK1, hD1⟩ := hB
          rw [ht] at hP1
          have hK1 := va_K.moved hvm.symm hK1
          obtain ⟨hP, hD⟩ := va_joinQ (X := [(h0, .inr (16, [v19_0, v19_1, v19_2, v19_3, v19_4, v19_5, v19_6, v19_7, v19_8, v19_9, v19_10, v19_11, .ref q_1912, .ref q_1913, .ref q_1914, v19_15, v19_16, v19_17, v19_18, v19_19, v19_20, v19_21, v19_22, v19_23, v19_24, v19_25, v19_26, v19_27, v19_28, v19_29, v19_30, v19_31, v19_32, v19_33, v19_34, v19_35, v19_36, v19_37, v19_38, v19_39, v19_40])), (q_1912, .inl (cA_1912, 1002, .inl (fun j : Nat => zI (a19_replaced (j : Int))))), (q_1913, .inl (cA_1913, 1002, .inl (fun j : Nat => zI (a19_byReg (j : Int))))), (q_1914, .inl (cA_1914, 1002, .inl (fun j : Nat => zI (a19_by (j : Int))))), (hc, .inr (12, [v13_0, v13_1, v13_2, v13_3, v13_4, .ref la, v13_6]))]) (cx := [(h0, .inr (16, [v19_0, v19_1, v19_2, v19_3, v19_4, v19_5, v19_6, v19_7, v19_8, v19_9, v19_10, v19_11, .ref q_1912, .ref q_1913, .ref q_1914, v19_15, v19_16, v19_17, v19_18, v19_19, v19_20, v19_21, v19_22, v19_23, v19_24, v19_25, v19_26, v19_27, v19_28, v19_29, v19_30, v19_31, v19_32, v19_33, v19_34, v19_35, v19_36, v19_37, v19_38, v19_39, v19_40])), (q_1912, .inl (cA_1912, 1002, .inl (fun j : Nat => zI (a19_replaced (j : Int))))), (q_1913, .inl (cA_1913, 1002, .inl (fun j : Nat => zI (a19_byReg (j : Int))))), (q_1914, .inl (cA_1914, 1002, .inl (fun j : Nat => zI (a19_by (j : Int)))))]) (wr := [(hc, .inr (12, [v13_0, v13_1, v13_2, v13_3, v13_4, .ref la, v13_6]))]) (w1 := [(h0, .inr (16, [v19_0, v19_1, v19_2, v19_3, v19_4, v19_5, v19_6, v19_7, v19_8, v19_9, v19_10, v19_11, .ref q_1912, .ref q_1913, .ref q_1914, v19_15, v19_16, v19_17, v19_18, v19_19, v19_20, v19_21, v19_22, v19_23, v19_24, v19_25, v19_26, v19_27, v19_28, v19_29, v19_30, v19_31, v19_32, v19_33, v19_34, v19_35, v19_36, v19_37, v19_38, v19_39, v19_40])), (q_1912, .inl (cA_1912, 1002, .inl (fun j : Nat => zI (a0_2107 (j : Int))))), (q_1913, .inl (cA_1913, 1002, .inl (fun j : Nat => zI (a1_2108 (j : Int))))), (q_1914, .inl (cA_1914, 1002, .inl (fun j : Nat => zI (a2_2109 (j : Int)))))]) (pl := va_pl L (pE P)) hP hD [0, 1, 2, 3] [4] rfl rfl (by decide) (by decide) hk1 hFc hP1 hD1
          have hK := (hK.sub (tys' := [(cI, .int), (cZ, .boolean), (cO, .object "java/lang/Object")]) [3, 4, 5] rfl).app hK1
          generalize H1 = H at hP hS ⊢
          have hP : va_P (dC, dI) vwQ ([(hc, .inr (12, [v13_0, v13_1, v13_2, v13_3, v13_4, .ref la, v13_6])), (h0, .inr (16, [v19_0, v19_1, v19_2, v19_3, v19_4, v19_5, v19_6, v19_7, v19_8, v19_9, v19_10, v19_11, .ref q_1912, .ref q_1913, .ref q_1914, v19_15, v19_16, v19_17, v19_18, v19_19, v19_20, v19_21, v19_22, v19_23, v19_24, v19_25, v19_26, v19_27, v19_28, v19_29, v19_30, v19_31, v19_32, v19_33, v19_34, v19_35, v19_36, v19_37, v19_38, v19_39, v19_40])), (q_1912, .inl (cA_1912, 1002, .inl (fun j : Nat => zI (a0_2107 (j : Int))))), (q_1913, .inl (cA_1913, 1002, .inl (fun j : Nat => zI (a1_2108 (j : Int))))), (q_1914, .inl (cA_1914, 1002, .inl (fun j : Nat => zI (a2_2109 (j : Int)))))] ++ va_pl L (pE P)) H := hP
          have hD : va_D A ([(hc, .inr (12, [v13_0, v13_1, v13_2, v13_3, v13_4, .ref la, v13_6])), (h0, .inr (16, [v19_0, v19_1, v19_2, v19_3, v19_4, v19_5, v19_6, v19_7, v19_8, v19_9, v19_10, v19_11, .ref q_1912, .ref q_1913, .ref q_1914, v19_15, v19_16, v19_17, v19_18, v19_19, v19_20, v19_21, v19_22, v19_23, v19_24, v19_25, v19_26, v19_27, v19_28, v19_29, v19_30, v19_31, v19_32, v19_33, v19_34, v19_35, v19_36, v19_37, v19_38, v19_39, v19_40])), (q_1912, .inl (cA_1912, 1002, .inl (fun j : Nat => zI (a0_2107 (j : Int))))), (q_1913, .inl (cA_1913, 1002, .inl (fun j : Nat => zI (a1_2108 (j : Int))))), (q_1914, .inl (cA_1914, 1002, .inl (fun j : Nat => zI (a2_2109 (j : Int)))))] ++ va_pl L (pE P)) := hD
          have hK : va_K (dC, dI) vwQ [(cI, .int), (cZ, .boolean), (cO, .object "java/lang/Object"), (cA_1912, .boolean), (cA_1913, .boolean), (cA_1914, .int)] s := hK
          refine W.widen (k := 0) (n := 0) (Nat.le_of_ble_eq_true rfl) (Nat.le_of_ble_eq_true rfl) ?_
          obtain ⟨rk_2110, rk_2111, rk_2112, hu_2112⟩ := hxt_2109
          have hR9 := hu_2112
          refine lv_aload_n hx hb dX19_equal_67 rfl (lv_at hl 3 rfl) ?_
          refine lv_iconst (v := 1) hx hb dX19_equal_68 (by decide) ?_
          refine lv_topi (fun z ez => ?_)
          obtain rfl : z = zI (1) := ez
          obtain ⟨kp_2113, gkp_2113⟩ := va_pl_get (X := [(hc, .inr (12, [v13_0, v13_1, v13_2, v13_3, v13_4, .ref la, v13_6])), (h0, .inr (16, [v19_0, v19_1, v19_2, v19_3, v19_4, v19_5, v19_6, v19_7, v19_8, v19_9, v19_10, v19_11, .ref q_1912, .ref q_1913, .ref q_1914, v19_15, v19_16, v19_17, v19_18, v19_19, v19_20, v19_21, v19_22, v19_23, v19_24, v19_25, v19_26, v19_27, v19_28, v19_29, v19_30, v19_31, v19_32, v19_33, v19_34, v19_35, v19_36, v19_37, v19_38, v19_39, v19_40])), (q_1912, .inl (cA_1912, 1002, .inl (fun j : Nat => zI (a0_2107 (j : Int))))), (q_1913, .inl (cA_1913, 1002, .inl (fun j : Nat => zI (a1_2108 (j : Int))))), (q_1914, .inl (cA_1914, 1002, .inl (fun j : Nat => zI (a2_2109 (j : Int)))))]) (f := pE P) hm_2007
          have hkp_2113 := gkp_2113
          rw [pE_phi hk_2008] at hkp_2113
          have hD0 := hD
          refine va_put (D := (dC, dI)) (ci := 20) (v := .int (zI (1))) (ty := .boolean) (C := RX15) (T := TX15) (N := 6) hx hb hts mem_P19_equal_2 tyX15 tyX15_ok nmX15 hown hK hP hD hS kp_2113 hkp_2113 rfl 5 (by decide) (ow (k := 14) rfl) (fun _ h9 => h9) rfl (by decide +kernel) (zI_bool (by omega) (by omega)) (zI_fitb (by omega) (by omega)) (Nat.le_of_ble_eq_true rfl) dX19_equal_69 (fun H locs hP hD hS => ?_)
          obtain ⟨Pw_2114, ePw_2114⟩ : ∃ q9 : PO, q9 = P.rw9 2 xp_2006 (1) := ⟨_, rfl⟩
          have eU : (([(hc, .inr (12, [v13_0, v13_1, v13_2, v13_3, v13_4, .ref la, v13_6])), (h0, .inr (16, [v19_0, v19_1, v19_2, v19_3, v19_4, v19_5, v19_6, v19_7, v19_8, v19_9, v19_10, v19_11, .ref q_1912, .ref q_1913, .ref q_1914, v19_15, v19_16, v19_17, v19_18, v19_19, v19_20, v19_21, v19_22, v19_23, v19_24, v19_25, v19_26, v19_27, v19_28, v19_29, v19_30, v19_31, v19_32, v19_33, v19_34, v19_35, v19_36, v19_37, v19_38, v19_39, v19_40])), (q_1912, .inl (cA_1912, 1002, .inl (fun j : Nat => zI (a0_2107 (j : Int))))), (q_1913, .inl (cA_1913, 1002, .inl (fun j : Nat => zI (a1_2108 (j : Int))))), (q_1914, .inl (cA_1914, 1002, .inl (fun j : Nat => zI (a2_2109 (j : Int)))))] : va_W) ++ va_pl L (pE P)).set kp_2113 (xp_2006, phiE (P.pt xp_2006) (P.pn xp_2006) (P.pp xp_2006) (P.pu xp_2006) (P.pr xp_2006) (1)) = ([(hc, .inr (12, [v13_0, v13_1, v13_2, v13_3, v13_4, .ref la, v13_6])), (h0, .inr (16, [v19_0, v19_1, v19_2, v19_3, v19_4, v19_5, v19_6, v19_7, v19_8, v19_9, v19_10, v19_11, .ref q_1912, .ref q_1913, .ref q_1914, v19_15, v19_16, v19_17, v19_18, v19_19, v19_20, v19_21, v19_22, v19_23, v19_24, v19_25, v19_26, v19_27, v19_28, v19_29, v19_30, v19_31, v19_32, v19_33, v19_34, v19_35, v19_36, v19_37, v19_38, v19_39, v19_40])), (q_1912, .inl (cA_1912, 1002, .inl (fun j : Nat => zI (a0_2107 (j : Int))))), (q_1913, .inl (cA_1913, 1002, .inl (fun j : Nat => zI (a1_2108 (j : Int))))), (q_1914, .inl (cA_1914, 1002, .inl (fun j : Nat => zI (a2_2109 (j : Int)))))] : va_W) ++ va_pl L (pE Pw_2114) := (by rw [va_pl_set hD0 hm_2007 gkp_2113, ePw_2114]; exact congrArg (fun f9 => ([(hc, .inr (12, [v13_0, v13_1, v13_2, v13_3, v13_4, .ref la, v13_6])), (h0, .inr (16, [v19_0, v19_1, v19_2, v19_3, v19_4, v19_5, v19_6, v19_7, v19_8, v19_9, v19_10, v19_11, .ref q_1912, .ref q_1913, .ref q_1914, v19_15, v19_16, v19_17, v19_18, v19_19, v19_20, v19_21, v19_22, v19_23, v19_24, v19_25, v19_26, v19_27, v19_28, v19_29, v19_30, v19_31, v19_32, v19_33, v19_34, v19_35, v19_36, v19_37, v19_38, v19_39, v19_40])), (q_1912, .inl (cA_1912, 1002, .inl (fun j : Nat => zI (a0_2107 (j : Int))))), (q_1913, .inl (cA_1913, 1002, .inl (fun j : Nat => zI (a1_2108 (j : Int))))), (q_1914, .inl (cA_1914, 1002, .inl (fun j : Nat => zI (a2_2109 (j : Int)))))] : va_W) ++ va_pl L f9) (put15_2 hk_2008))
          have hP : va_P (dC, dI) vwQ ([(hc, .inr (12, [v13_0, v13_1, v13_2, v13_3, v13_4, .ref la, v13_6])), (h0, .inr (16, [v19_0, v19_1, v19_2, v19_3, v19_4, v19_5, v19_6, v19_7, v19_8, v19_9, v19_10, v19_11, .ref q_1912, .ref q_1913, .ref q_1914, v19_15, v19_16, v19_17, v19_18, v19_19, v19_20, v19_21, v19_22, v19_23, v19_24, v19_25, v19_26, v19_27, v19_28, v19_29, v19_30, v19_31, v19_32, v19_33, v19_34, v19_35, v19_36, v19_37, v19_38, v19_39, v19_40])), (q_1912, .inl (cA_1912, 1002, .inl (fun j : Nat => zI (a0_2107 (j : Int))))), (q_1913, .inl (cA_1913, 1002, .inl (fun j : Nat => zI (a1_2108 (j : Int))))), (q_1914, .inl (cA_1914, 1002, .inl (fun j : Nat => zI (a2_2109 (j : Int)))))] ++ va_pl L (pE Pw_2114)) H := (by rw [← eU]; exact hP)
          have hD : va_D A ([(hc, .inr (12, [v13_0, v13_1, v13_2, v13_3, v13_4, .ref la, v13_6])), (h0, .inr (16, [v19_0, v19_1, v19_2, v19_3, v19_4, v19_5, v19_6, v19_7, v19_8, v19_9, v19_10, v19_11, .ref q_1912, .ref q_1913, .ref q_1914, v19_15, v19_16, v19_17, v19_18, v19_19, v19_20, v19_21, v19_22, v19_23, v19_24, v19_25, v19_26, v19_27, v19_28, v19_29, v19_30, v19_31, v19_32, v19_33, v19_34, v19_35, v19_36, v19_37, v19_38, v19_39, v19_40])), (q_1912, .inl (cA_1912, 1002, .inl (fun j : Nat => zI (a0_2107 (j : Int))))), (q_1913, .inl (cA_1913, 1002, .inl (fun j : Nat => zI (a1_2108 (j : Int))))), (q_1914, .inl (cA_1914, 1002, .inl (fun j : Nat => zI (a2_2109 (j : Int)))))] ++ va_pl L (pE Pw_2114)) := (by rw [← eU]; exact hD)
          clear eU hD0 gkp_2113 hkp_2113
          have wPw_2114 : PH1 xp_2006 P Pw_2114 := (by rw [ePw_2114]; exact PH1.put _ _ _ _)
          have hy_2115 : Pw_2114.kd la = 30 := (by rw [ePw_2114]; exact hX_a.lok.2.1)
          have hy_2116 : Pw_2114.kd xb = 12 := (by rw [ePw_2114]; exact (hX_a9.inb hX_ib).1.2)
          have : Pw_2114.bf xb = P.bf xb := wPw_2114.2.1 _ (kd_ne (hX_a9.inb hX_ib).1.2 hk_2008 (by decide)) _
          have : Pw_2114.bs xb = P.bs xb := wPw_2114.2.1 _ (kd_ne (hX_a9.inb hX_ib).1.2 hk_2008 (by decide)) _
          have hy_2117 : Pw_2114.kd pr_2002 = 30 := (by rw [ePw_2114]; exact hlk_2003.2.1)
          have hy_2118 : Pw_2114.kd xp_2006 = 15 := (by rw [ePw_2114]; exact hk_2008)
          have : Pw_2114.pt xp_2006 = P.pt xp_2006 := (by rw [ePw_2114]; exact rw9_of _ (by decide))
          have : Pw_2114.pn xp_2006 = P.pn xp_2006 := (by rw [ePw_2114]; exact rw9_of _ (by decide))
          have : Pw_2114.pg xp_2006 = 1 := (by rw [ePw_2114]; exact rw9_at _ _ _ _)
          have hy_2119 : Pw_2114.kd xp_2090 = 15 := (by rw [ePw_2114]; exact hk_2092)
          have hy_2120 : Pw_2114.kd xp_2102 = 15 := (by rw [ePw_2114]; exact hk_2104)
          have ha_2121 : Pw_2114.bp xb = pr_2002 := (by rw [ePw_2114]; exact epr_2002.symm)
          have hW_2122 : PH1 xp_2006 P Pw_2114 := wPw_2114
          have hrw_2125 : RWD P Pw_2114 := hW_2122.rwd hk_2008
          have hak_2124 : ALP L Pw_2114 cO cI cZ sx_ed la := hX_a9.phi hW_2122 hk_2008 ((hX_a9.pik hm_2007 hk_2008).of hW_2122 (by omega) (by omega) (by omega) (fun i i0 i1 => (by have q9 := (hX_a9.pik hm_2007 hk_2008).ef (i := i) i0 (by omega); rw [ePw_2114]; exact q9))) (fun n q8 i i0 i1 => by have q9 := q8 i i0 (by omega); rw [ePw_2114]; exact q9)
          have hke_2123 : KEP [] L P L Pw_2114 la := hrw_2125.kep _ hX_a.lok.2.1
          have hq_2126 : la ∈ L ∧ Pw_2114.kd la = 30 := hke_2123.mem hX_a.lok.1 hX_a.lok.2.1 (by decide)
          have hq_2127 : xb ∈ L ∧ Pw_2114.kd xb = 12 := hke_2123.mem (hX_a9.inb hX_ib).1.1 (hX_a9.inb hX_ib).1.2 (by decide)
          have hq_2128 : pr_2002 ∈ L ∧ Pw_2114.kd pr_2002 = 30 := hke_2123.mem hlk_2003.1 hlk_2003.2.1 (by decide)
          have hq_2129 : xp_2006 ∈ L ∧ Pw_2114.kd xp_2006 = 15 := hke_2123.mem hm_2007 hk_2008 (by decide)
          have hq_2130 : xp_2090 ∈ L ∧ Pw_2114.kd xp_2090 = 15 := hke_2123.mem hm_2091 hk_2092 (by decide)
          have hq_2131 : xp_2102 ∈ L ∧ Pw_2114.kd xp_2102 = 15 := hke_2123.mem hm_2103 hk_2104 (by decide)
          have hi_2132 : INB Pw_2114 la xb := hke_2123.inb hX_ib
          have ha_2133 : Pw_2114.bp xb = pr_2002 := hke_2123.bp (hX_a9.inb hX_ib).1.1 (hX_a9.inb hX_ib).1.2 epr_2002.symm
          have hz9 := hke_2123.2.2.1
          have hA_2134 : KEP [] L P L Pw_2114 la := (KEP.refl [] L P la).trans hke_2123
          have : Pw_2114.lz la = P.lz la := hrw_2125.lz hX_a.lok.2.1
          have : Pw_2114.lz pr_2002 = P.lz pr_2002 := hrw_2125.lz hlk_2003.2.1
          have ht9 := hrw_2125.tot hX_a9 2 (Or.inr rfl)
          have ht8 := hrw_2125.tot hX_a9 1 (Or.inl rfl)
          refine lv_iconst (v := 1) hx hb dX19_equal_72 (by decide) ?_
          subst hQ
          have hP := hP.part (X := [(hc, .inr (12, [v13_0, v13_1, v13_2, v13_3, v13_4, .ref la, v13_6])), (h0, .inr (16, [v19_0, v19_1, v19_2, v19_3, v19_4, v19_5, v19_6, v19_7, v19_8, v19_9, v19_10, v19_11, .ref q_1912, .ref q_1913, .ref q_1914, v19_15, v19_16, v19_17, v19_18, v19_19, v19_20, v19_21, v19_22, v19_23, v19_24, v19_25, v19_26, v19_27, v19_28, v19_29, v19_30, v19_31, v19_32, v19_33, v19_34, v19_35, v19_36, v19_37, v19_38, v19_39, v19_40])), (q_1912, .inl (cA_1912, 1002, .inl (fun j : Nat => zI (a0_2107 (j : Int))))), (q_1913, .inl (cA_1913, 1002, .inl (fun j : Nat => zI (a1_2108 (j : Int))))), (q_1914, .inl (cA_1914, 1002, .inl (fun j : Nat => zI (a2_2109 (j : Int)))))]) (cx := [(h0, .inr (16, [v19_0, v19_1, v19_2, v19_3, v19_4, v19_5, v19_6, v19_7, v19_8, v19_9, v19_10, v19_11, .ref q_1912, .ref q_1913, .ref q_1914, v19_15, v19_16, v19_17, v19_18, v19_19, v19_20, v19_21, v19_22, v19_23, v19_24, v19_25, v19_26, v19_27, v19_28, v19_29, v19_30, v19_31, v19_32, v19_33, v19_34, v19_35, v19_36, v19_37, v19_38, v19_39, v19_40])), (q_1912, .inl (cA_1912, 1002, .inl (fun j : Nat => zI (a0_2107 (j : Int))))), (q_1913, .inl (cA_1913, 1002, .inl (fun j : Nat => zI (a1_2108 (j : Int))))), (q_1914, .inl (cA_1914, 1002, .inl (fun j : Nat => zI (a2_2109 (j : Int))))), (hc, .inr (12, [v13_0, v13_1, v13_2, v13_3, v13_4, .ref la, v13_6]))]) (pl := va_pl L (pE Pw_2114)) [1, 2, 3, 4, 0] rfl
          have hD := hD.part (X := [(hc, .inr (12, [v13_0, v13_1, v13_2, v13_3, v13_4, .ref la, v13_6])), (h0, .inr (16, [v19_0, v19_1, v19_2, v19_3, v19_4, v19_5, v19_6, v19_7, v19_8, v19_9, v19_10, v19_11, .ref q_1912, .ref q_1913, .ref q_1914, v19_15, v19_16, v19_17, v19_18, v19_19, v19_20, v19_21, v19_22, v19_23, v19_24, v19_25, v19_26, v19_27, v19_28, v19_29, v19_30, v19_31, v19_32, v19_33, v19_34, v19_35, v19_36, v19_37, v19_38, v19_39, v19_40])), (q_1912, .inl (cA_1912, 1002, .inl (fun j : Nat => zI (a0_2107 (j : Int))))), (q_1913, .inl (cA_1913, 1002, .inl (fun j : Nat => zI (a1_2108 (j : Int))))), (q_1914, .inl (cA_1914, 1002, .inl (fun j : Nat => zI (a2_2109 (j : Int)))))]) (cx := [(h0, .inr (16, [v19_0, v19_1, v19_2, v19_3, v19_4, v19_5, v19_6, v19_7, v19_8, v19_9, v19_10, v19_11, .ref q_1912, .ref q_1913, .ref q_1914, v19_15, v19_16, v19_17, v19_18, v19_19, v19_20, v19_21, v19_22, v19_23, v19_24, v19_25, v19_26, v19_27, v19_28, v19_29, v19_30, v19_31, v19_32, v19_33, v19_34, v19_35, v19_36, v19_37, v19_38, v19_39, v19_40])), (q_1912, .inl (cA_1912, 1002, .inl (fun j : Nat => zI (a0_2107 (j : Int))))), (q_1913, .inl (cA_1913, 1002, .inl (fun j : Nat => zI (a1_2108 (j : Int))))), (q_1914, .inl (cA_1914, 1002, .inl (fun j : Nat => zI (a2_2109 (j : Int))))), (hc, .inr (12, [v13_0, v13_1, v13_2, v13_3, v13_4, .ref la, v13_6]))]) (pl := va_pl L (pE Pw_2114)) [1, 2, 3, 4, 0] (by decide) rfl
          have hK := hK.sub (tys' := [(cA_1912, .boolean), (cA_1913, .boolean), (cA_1914, .int), (cO, .object "java/lang/Object"), (cI, .int), (cZ, .boolean)]) [3, 4, 5, 2, 0, 1] rfl
          refine W.widen (k := 0) (n := 0) (Nat.le_of_ble_eq_true rfl) (Nat.le_of_ble_eq_true rfl) ?_
          exact W.zret (v := 1) hx hb hr (by decide) (fun t ht hW => ⟨⟨1, (1), rfl, ⟨rfl, (by omega)⟩, a0_2107, a1_2108, a2_2109, Pw_2114, ⟨rk_2110, rk_2111, rk_2112, ⟨⟨hA_2134, hak_2124, by omega, by omega⟩, hR9⟩⟩, by rw [ht]; exact hP, va_K.moved hW.alike hK, hD⟩, hS.F ht⟩) hS.2.2 dX19_equal_73
        · have yb37 : (z_2096 : Int) = (0 : Int) := (zI_eq (a := z_2096) (b := 0) (by omega) (by omega) (by omega) (by omega)).mp b37
          refine lv_goto (tgt := 74) hx hb dX19_equal_40 (by decide) ?_
          refine lv_iinc (v := zI (d15_4 + 1)) (lv' := [(4, .int (zI (d15_4 + 1))), (0, .ref h0), (1, .ref xb), (2, .int (zI (j0))), (3, .ref xp_2006)]) hx hb dX19_equal_74 hl (k := 4) rfl (zI_add (d15_4) (1)) (by decide) rfl (fun ls hl => ?_)
          refine lv_goto (tgt := 15) hx hb dX19_equal_77 (by decide) ?_
          exact ih15 (d15_4 + 1) ls H _ (by omega) (by omega) (lv_sub hl [1, 2, 3, 4, 0] rfl) hP hD hS
  exact key15 ((j0 - 0 : Int).toNat + 1) 0 ls H _ (by omega) (by omega) (lv_sub hl [2, 3, 4, 1, 0] rfl) hP hD hS
