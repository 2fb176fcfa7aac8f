theorem dX19_become_0 : decode cX19_become 0 = .ok (.iconst 0, 1) := by decide +kernel
theorem dX19_become_1 : decode cX19_become 1 = .ok (.istore_n 2, 1) := by decide +kernel
theorem dX19_become_2 : decode cX19_become 2 = .ok (.iload_n 2, 1) := by decide +kernel
theorem dX19_become_3 : decode cX19_become 3 = .ok (.aload_n 1, 1) := by decide +kernel
theorem dX19_become_4 : decode cX19_become 4 = .ok (.invokevirtual 31, 3) := by decide +kernel
theorem dX19_become_7 : decode cX19_become 7 = .ok (.if_icmp .ge 161, 3) := by decide +kernel
theorem dX19_become_168 : decode cX19_become 168 = .ok (.return_, 1) := by decide +kernel
theorem dX19_become_10 : decode cX19_become 10 = .ok (.aload_n 1, 1) := by decide +kernel
theorem dX19_become_11 : decode cX19_become 11 = .ok (.iload_n 2, 1) := by decide +kernel
theorem dX19_become_12 : decode cX19_become 12 = .ok (.invokevirtual 57, 3) := by decide +kernel
theorem dX19_become_15 : decode cX19_become 15 = .ok (.astore_n 3, 1) := by decide +kernel
theorem dX19_become_16 : decode cX19_become 16 = .ok (.iconst 0, 1) := by decide +kernel
theorem dX19_become_17 : decode cX19_become 17 = .ok (.istore 4, 2) := by decide +kernel
theorem dX19_become_19 : decode cX19_become 19 = .ok (.iload 4, 2) := by decide +kernel
theorem dX19_become_21 : decode cX19_become 21 = .ok (.aload_n 3, 1) := by decide +kernel
theorem dX19_become_22 : decode cX19_become 22 = .ok (.getfield 76, 3) := by decide +kernel
theorem dX19_become_25 : decode cX19_become 25 = .ok (.invokevirtual 53, 3) := by decide +kernel
theorem dX19_become_28 : decode cX19_become 28 = .ok (.if_icmp .ge 89, 3) := by decide +kernel
theorem dX19_become_117 : decode cX19_become 117 = .ok (.iconst 0, 1) := by decide +kernel
theorem dX19_become_118 : decode cX19_become 118 = .ok (.istore 4, 2) := by decide +kernel
theorem dX19_become_120 : decode cX19_become 120 = .ok (.iload 4, 2) := by decide +kernel
theorem dX19_become_122 : decode cX19_become 122 = .ok (.aload_n 3, 1) := by decide +kernel
theorem dX19_become_123 : decode cX19_become 123 = .ok (.getfield 116, 3) := by decide +kernel
theorem dX19_become_126 : decode cX19_become 126 = .ok (.invokevirtual 53, 3) := by decide +kernel
theorem dX19_become_129 : decode cX19_become 129 = .ok (.if_icmp .ge 25, 3) := by decide +kernel
theorem dX19_become_154 : decode cX19_become 154 = .ok (.aload_n 0, 1) := by decide +kernel
theorem dX19_become_155 : decode cX19_become 155 = .ok (.aload_n 3, 1) := by decide +kernel
theorem dX19_become_156 : decode cX19_become 156 = .ok (.getfield 60, 3) := by decide +kernel
theorem dX19_become_159 : decode cX19_become 159 = .ok (.invokevirtual 380, 3) := by decide +kernel
theorem dX19_become_162 : decode cX19_become 162 = .ok (.iinc 2 1, 3) := by decide +kernel
theorem dX19_become_165 : decode cX19_become 165 = .ok (.goto (-163), 3) := by decide +kernel
theorem dX19_become_132 : decode cX19_become 132 = .ok (.aload_n 0, 1) := by decide +kernel
theorem dX19_become_133 : decode cX19_become 133 = .ok (.aload_n 3, 1) := by decide +kernel
theorem dX19_become_134 : decode cX19_become 134 = .ok (.getfield 116, 3) := by decide +kernel
theorem dX19_become_137 : decode cX19_become 137 = .ok (.iload 4, 2) := by decide +kernel
theorem dX19_become_139 : decode cX19_become 139 = .ok (.invokevirtual 41, 3) := by decide +kernel
theorem dX19_become_142 : decode cX19_become 142 = .ok (.checkcast 65, 3) := by decide +kernel
theorem dX19_become_145 : decode cX19_become 145 = .ok (.invokevirtual 380, 3) := by decide +kernel
theorem dX19_become_148 : decode cX19_become 148 = .ok (.iinc 4 1, 3) := by decide +kernel
theorem dX19_become_151 : decode cX19_become 151 = .ok (.goto (-31), 3) := by decide +kernel
theorem dX19_become_31 : decode cX19_become 31 = .ok (.aload_n 3, 1) := by decide +kernel
theorem dX19_become_32 : decode cX19_become 32 = .ok (.getfield 76, 3) := by decide +kernel
theorem dX19_become_35 : decode cX19_become 35 = .ok (.iload 4, 2) := by decide +kernel
theorem dX19_become_37 : decode cX19_become 37 = .ok (.invokevirtual 41, 3) := by decide +kernel
theorem dX19_become_40 : decode cX19_become 40 = .ok (.checkcast 79, 3) := by decide +kernel
theorem dX19_become_43 : decode cX19_become 43 = .ok (.astore 5, 2) := by decide +kernel
theorem dX19_become_45 : decode cX19_become 45 = .ok (.aload 5, 2) := by decide +kernel
theorem dX19_become_47 : decode cX19_become 47 = .ok (.aload_n 0, 1) := by decide +kernel
theorem dX19_become_48 : decode cX19_become 48 = .ok (.getfield 377, 3) := by decide +kernel
theorem dX19_become_51 : decode cX19_become 51 = .ok (.aload 5, 2) := by decide +kernel
theorem dX19_become_53 : decode cX19_become 53 = .ok (.getfield 200, 3) := by decide +kernel
theorem dX19_become_56 : decode cX19_become 56 = .ok (.iaload, 1) := by decide +kernel
theorem dX19_become_57 : decode cX19_become 57 = .ok (.putfield 200, 3) := by decide +kernel
theorem dX19_become_60 : decode cX19_become 60 = .ok (.iconst 0, 1) := by decide +kernel
theorem dX19_become_61 : decode cX19_become 61 = .ok (.istore 6, 2) := by decide +kernel
theorem dX19_become_63 : decode cX19_become 63 = .ok (.iload 6, 2) := by decide +kernel
theorem dX19_become_65 : decode cX19_become 65 = .ok (.aload 5, 2) := by decide +kernel
theorem dX19_become_67 : decode cX19_become 67 = .ok (.getfield 81, 3) := by decide +kernel
theorem dX19_become_70 : decode cX19_become 70 = .ok (.if_icmp .ge 41, 3) := by decide +kernel
theorem dX19_become_111 : decode cX19_become 111 = .ok (.iinc 4 1, 3) := by decide +kernel
theorem dX19_become_114 : decode cX19_become 114 = .ok (.goto (-95), 3) := by decide +kernel
theorem dX19_become_73 : decode cX19_become 73 = .ok (.aload 5, 2) := by decide +kernel
theorem dX19_become_75 : decode cX19_become 75 = .ok (.getfield 253, 3) := by decide +kernel
theorem dX19_become_78 : decode cX19_become 78 = .ok (.iload 6, 2) := by decide +kernel
theorem dX19_become_80 : decode cX19_become 80 = .ok (.baload, 1) := by decide +kernel
theorem dX19_become_81 : decode cX19_become 81 = .ok (.ifCond .eq 24, 3) := by decide +kernel
theorem dX19_become_105 : decode cX19_become 105 = .ok (.iinc 6 1, 3) := by decide +kernel
theorem dX19_become_108 : decode cX19_become 108 = .ok (.goto (-45), 3) := by decide +kernel
theorem dX19_become_84 : decode cX19_become 84 = .ok (.aload 5, 2) := by decide +kernel
theorem dX19_become_86 : decode cX19_become 86 = .ok (.getfield 213, 3) := by decide +kernel
theorem dX19_become_89 : decode cX19_become 89 = .ok (.iload 6, 2) := by decide +kernel
theorem dX19_become_91 : decode cX19_become 91 = .ok (.aload_n 0, 1) := by decide +kernel
theorem dX19_become_92 : decode cX19_become 92 = .ok (.getfield 377, 3) := by decide +kernel
theorem dX19_become_95 : decode cX19_become 95 = .ok (.aload 5, 2) := by decide +kernel
theorem dX19_become_97 : decode cX19_become 97 = .ok (.getfield 213, 3) := by decide +kernel
theorem dX19_become_100 : decode cX19_become 100 = .ok (.iload 6, 2) := by decide +kernel
theorem dX19_become_102 : decode cX19_become 102 = .ok (.iaload, 1) := by decide +kernel
theorem dX19_become_103 : decode cX19_become 103 = .ok (.iaload, 1) := by decide +kernel
theorem dX19_become_104 : decode cX19_become 104 = .ok (.iastore, 1) := by decide +kernel
def o_P19_becomeAll : List Cond := [.methodLink RX19 31 yX13_size, .instanceMethod yX13_size, .selects RX13 yX13_size yX13_size, .initialized RX13, .methodLink RX19 57 yX13_get, .instanceMethod yX13_get, .selects RX13 yX13_get yX13_get, .fieldLink RX19 76 "SsaForgeModel$Block" "phis" "Ljava/util/ArrayList;", .methodLink RX19 53 yJx4a65c_size_8abf5, .instanceMethod yJx4a65c_size_8abf5, .selects RJx4a65c yJx4a65c_size_8abf5 yJx4a65c_size_8abf5, .initialized RJx4a65c, .fieldLink RX19 116 "SsaForgeModel$Block" "rows" "Ljava/util/ArrayList;", .fieldLink RX19 60 "SsaForgeModel$Block" "end" "LSsaForgeModel$Row;", .methodLink RX19 380 yX19_become_, .instanceMethod yX19_become_, .selects RX19 yX19_become_ yX19_become_, .initialized RX19, .methodLink RX19 41 yJx4a65c_get_915e3, .instanceMethod yJx4a65c_get_915e3, .selects RJx4a65c yJx4a65c_get_915e3 yJx4a65c_get_915e3, .classLink RX19 65 "SsaForgeModel$Row", .classLink RX19 79 "SsaForgeModel$Phi", .fieldLink RX19 377 "SsaForgeModel" "becomes" "[I", .fieldLink RX19 200 "SsaForgeModel$Phi" "t" "I", .fieldLink RX19 81 "SsaForgeModel$Phi" "n" "I", .fieldLink RX19 253 "SsaForgeModel$Phi" "regs" "[Z", .fieldLink RX19 213 "SsaForgeModel$Phi" "operands" "[I"]
def v_P19_becomeAll : List Cond := .code yX19_become cX19_become 7 none :: (o_P19_becomeAll ++ (v_PC_size ++ (v_PC_get ++ (wsX120 ++ (v_PL_size ++ (v_P19_becomeRow ++ (v_PL_get ++ (wsX190 ++ (wsX150 ++ [])))))))))
theorem mow_P19_becomeAll : ∀ w ∈ o_P19_becomeAll, w ∈ v_P19_becomeAll := fun _ h => List.mem_cons_of_mem _ (List.mem_append_left _ h)
theorem mem_P19_becomeAll_0 : ∀ w ∈ v_PC_size, w ∈ v_P19_becomeAll := fun _ h => List.mem_cons_of_mem _ (List.mem_append_right _ (List.mem_append_left _ h))
theorem mem_P19_becomeAll_1 : ∀ w ∈ v_PC_get, w ∈ v_P19_becomeAll := fun _ h => List.mem_cons_of_mem _ (List.mem_append_right _ (List.mem_append_right _ (List.mem_append_left _ h)))
theorem mem_P19_becomeAll_2 : ∀ w ∈ wsX120, w ∈ v_P19_becomeAll := fun _ h => List.mem_cons_of_mem _ (List.mem_append_right _ (List.mem_append_right _ (List.mem_append_right _ (List.mem_append_left _ h))))
theorem mem_P19_becomeAll_3 : ∀ w ∈ v_PL_size, w ∈ v_P19_becomeAll := fun _ h => List.mem_cons_of_mem _ (List.mem_append_right _ (List.mem_append_right _ (List.mem_append_right _ (List.mem_append_right _ (List.mem_append_left _ h)))))
theorem mem_P19_becomeAll_4 : ∀ w ∈ v_P19_becomeRow, w ∈ v_P19_becomeAll := fun _ h => List.mem_cons_of_mem _ (List.mem_append_right _ (List.mem_append_right _ (List.mem_append_right _ (List.mem_append_right _ (List.mem_append_right _ (List.mem_append_left _ h))))))
theorem mem_P19_becomeAll_5 : ∀ w ∈ v_PL_get, w ∈ v_P19_becomeAll := fun _ h => List.mem_cons_of_mem _ (List.mem_append_right _ (List.mem_append_right _ (List.mem_append_right _ (List.mem_append_right _ (List.mem_append_right _ (List.mem_append_right _ (List.mem_append_left _ h)))))))
theorem mem_P19_becomeAll_6 : ∀ w ∈ wsX190, w ∈ v_P19_becomeAll := fun _ h => List.mem_cons_of_mem _ (List.mem_append_right _ (List.mem_append_right _ (List.mem_append_right _ (List.mem_append_right _ (List.mem_append_right _ (List.mem_append_right _ (List.mem_append_right _ (List.mem_append_left _ h))))))))
theorem mem_P19_becomeAll_7 : ∀ w ∈ wsX150, w ∈ v_P19_becomeAll := fun _ h => List.mem_cons_of_mem _ (List.mem_append_right _ (List.mem_append_right _ (List.mem_append_right _ (List.mem_append_right _ (List.mem_append_right _ (List.mem_append_right _ (List.mem_append_right _ (List.mem_append_right _ (List.mem_append_left _ h)))))))))
set_option maxRecDepth 20000 in
theorem gw_P19_becomeAll : v_P19_becomeAll.all goodWord = true := by decide +kernel
set_option maxRecDepth 20000 in
theorem g_P19_becomeAll_PC_size : GoodIn v_P19_becomeAll (wsV RX19 31 RX13 yX13_size v_PC_size) := goodIn_app (goodIn_sub (fun w h => mow_P19_becomeAll w (by revert w h; decide +kernel)) (by decide +kernel)) (goodIn_sub mem_P19_becomeAll_0 gw_PC_size)
set_option maxRecDepth 20000 in
theorem g_P19_becomeAll_PC_get : GoodIn v_P19_becomeAll (wsV RX19 57 RX13 yX13_get v_PC_get) := goodIn_app (goodIn_sub (fun w h => mow_P19_becomeAll w (by revert w h; decide +kernel)) (by decide +kernel)) (goodIn_sub mem_P19_becomeAll_1 gw_PC_get)
set_option maxRecDepth 20000 in
theorem g_P19_becomeAll_PL_size : GoodIn v_P19_becomeAll (wsV RX19 53 RJx4a65c yJx4a65c_size_8abf5 v_PL_size) := goodIn_app (goodIn_sub (fun w h => mow_P19_becomeAll w (by revert w h; decide +kernel)) (by decide +kernel)) (goodIn_sub mem_P19_becomeAll_3 gw_PL_size)
set_option maxRecDepth 20000 in
theorem g_P19_becomeAll_P19_becomeRow : GoodIn v_P19_becomeAll (wsV RX19 380 RX19 yX19_become_ v_P19_becomeRow) := goodIn_app (goodIn_sub (fun w h => mow_P19_becomeAll w (by revert w h; decide +kernel)) (by decide +kernel)) (goodIn_sub mem_P19_becomeAll_4 gw_P19_becomeRow)
set_option maxRecDepth 20000 in
theorem g_P19_becomeAll_PL_get : GoodIn v_P19_becomeAll (wsV RX19 41 RJx4a65c yJx4a65c_get_915e3 v_PL_get) := goodIn_app (goodIn_sub (fun w h => mow_P19_becomeAll w (by revert w h; decide +kernel)) (by decide +kernel)) (goodIn_sub mem_P19_becomeAll_5 gw_PL_get)
set_option maxHeartbeats 4000000 in
set_option maxRecDepth 100000 in
theorem c_P19_becomeAll (l : Launch) (dC : Nat → ClassId) (dI : Nat → Nat → Nat) (cI : ClassId) (cZ : ClassId) (h0 : Nat) (v19_0 : Value) (v19_1 : Value) (v19_2 : Value) (v19_3 : Value) (v19_4 : Value) (v19_5 : Value) (v19_6 : Value) (v19_7 : Value) (v19_8 : Value) (v19_9 : Value) (v19_10 : Value) (v19_11 : Value) (v19_12 : Value) (v19_13 : Value) (v19_14 : Value) (v19_15 : Value) (v19_16 : Value) (v19_17 : Value) (q_1918 : Nat) (cA_1918 : ClassId) (a19_becomes : Int → Int) (v19_19 : Value) (v19_20 : Value) (v19_21 : Value) (v19_22 : Value) (v19_23 : Value) (v19_24 : Value) (v19_25 : Value) (v19_26 : Value) (v19_27 : Value) (v19_28 : Value) (v19_29 : Value) (v19_30 : Value) (v19_31 : Value) (v19_32 : Value) (v19_33 : Value) (v19_34 : Value) (v19_35 : Value) (v19_36 : Value) (v19_37 : Value) (v19_38 : Value) (v19_39 : Value) (v19_40 : Value) (hc : Nat) (v13_0 : Value) (v13_1 : Value) (v13_2 : Value) (v13_3 : Value) (v13_4 : Value) (v13_6 : Value) (la : Nat) (cO : ClassId) (L : List Nat) (P : PO) (sx_ed : Nat) (hR_a19_becomes : ∀ j : Int, -1 ≤ a19_becomes j ∧ a19_becomes j ≤ 1001) (hX_a : ALP L P cO cI cZ sx_ed la) (hX_N : NDR P la) (hX_O : OCB P la a19_becomes) (sz : Nat) : Met l yX19_become v_P19_becomeAll ({ frames := 4, cells := 0, slots := 0, locals := 85 }) (va_Pc [.ref h0, .ref hc] (fun U => U.heap.size = sz ∧ va_P (dC, dI) vwQ ([(h0, .inr (16, [v19_0, v19_1, v19_2, v19_3, v19_4, v19_5, v19_6, v19_7, v19_8, v19_9, v19_10, v19_11, v19_12, v19_13, v19_14, v19_15, v19_16, v19_17, .ref q_1918, v19_19, v19_20, v19_21, v19_22, v19_23, v19_24, v19_25, v19_26, v19_27, v19_28, v19_29, v19_30, v19_31, v19_32, v19_33, v19_34, v19_35, v19_36, v19_37, v19_38, v19_39, v19_40])), (q_1918, .inl (cA_1918, 1002, .inl (fun j : Nat => zI (a19_becomes (j : Int))))), (hc, .inr (12, [v13_0, v13_1, v13_2, v13_3, v13_4, .ref la, v13_6]))] ++ va_pl L (pE P)) U.heap ∧ va_K (dC, dI) vwQ [(cA_1918, .int), (cO, .object "java/lang/Object"), (cI, .int), (cZ, .boolean)] U ∧ va_D (fun _ => True) ([(h0, .inr (16, [v19_0, v19_1, v19_2, v19_3, v19_4, v19_5, v19_6, v19_7, v19_8, v19_9, v19_10, v19_11, v19_12, v19_13, v19_14, v19_15, v19_16, v19_17, .ref q_1918, v19_19, v19_20, v19_21, v19_22, v19_23, v19_24, v19_25, v19_26, v19_27, v19_28, v19_29, v19_30, v19_31, v19_32, v19_33, v19_34, v19_35, v19_36, v19_37, v19_38, v19_39, v19_40])), (q_1918, .inl (cA_1918, 1002, .inl (fun j : Nat => zI (a19_becomes (j : Int))))), (hc, .inr (12, [v13_0, v13_1, v13_2, v13_3, v13_4, .ref la, v13_6]))] ++ va_pl L (pE P)) ∧ va_Nw (.castable "SsaForgeModel$Block" "SsaForgeModel$Block") U ∧ va_Nw (.castable "SsaForgeModel$Row" "SsaForgeModel$Row") U ∧ va_Nw (.castable "SsaForgeModel$Phi" "SsaForgeModel$Phi") U)) (va_Qv (fun _ : Unit => True) (fun (_ : Unit) (t : State) => ∃ (Pn_9 : PO), ((KEP [] L P L Pn_9 la ∧ ALP L Pn_9 cO cI cZ sx_ed la ∧ Pn_9.tot 2 la ≤ P.tot 2 la ∧ Pn_9.tot 1 la ≤ P.tot 1 la ∧ UNV P Pn_9 (VST P la (P.lz la) 0 0) ∧ DON P Pn_9 a19_becomes (VST P la (P.lz la) 0 0))) ∧ va_P (dC, dI) vwQ ([(h0, .inr (16, [v19_0, v19_1, v19_2, v19_3, v19_4, v19_5, v19_6, v19_7, v19_8, v19_9, v19_10, v19_11, v19_12, v19_13, v19_14, v19_15, v19_16, v19_17, .ref q_1918, v19_19, v19_20, v19_21, v19_22, v19_23, v19_24, v19_25, v19_26, v19_27, v19_28, v19_29, v19_30, v19_31, v19_32, v19_33, v19_34, v19_35, v19_36, v19_37, v19_38, v19_39, v19_40])), (q_1918, .inl (cA_1918, 1002, .inl (fun j : Nat => zI (a19_becomes (j : Int))))), (hc, .inr (12, [v13_0, v13_1, v13_2, v13_3, v13_4, .ref la, v13_6]))] ++ va_pl L (pE Pn_9)) t.heap ∧ va_K (dC, dI) vwQ [(cA_1918, .int), (cO, .object "java/lang/Object"), (cI, .int), (cZ, .boolean)] t ∧ va_D (va_A ([(h0, .inr (16, [v19_0, v19_1, v19_2, v19_3, v19_4, v19_5, v19_6, v19_7, v19_8, v19_9, v19_10, v19_11, v19_12, v19_13, v19_14, v19_15, v19_16, v19_17, .ref q_1918, v19_19, v19_20, v19_21, v19_22, v19_23, v19_24, v19_25, v19_26, v19_27, v19_28, v19_29, v19_30, v19_31, v19_32, v19_33, v19_34, v19_35, v19_36, v19_37, v19_38, v19_39, v19_40])), (q_1918, .inl (cA_1918, 1002, .inl (fun j : Nat => zI (a19_becomes (j : Int))))), (hc, .inr (12, [v13_0, v13_1, v13_2, v13_3, v13_4, .ref la, v13_6]))] ++ va_pl L (pE P)) sz) ([(h0, .inr (16, [v19_0, v19_1, v19_2, v19_3, v19_4, v19_5, v19_6, v19_7, v19_8, v19_9, v19_10, v19_11, v19_12, v19_13, v19_14, v19_15, v19_16, v19_17, .ref q_1918, v19_19, v19_20, v19_21, v19_22, v19_23, v19_24, v19_25, v19_26, v19_27, v19_28, v19_29, v19_30, v19_31, v19_32, v19_33, v19_34, v19_35, v19_36, v19_37, v19_38, v19_39, v19_40])), (q_1918, .inl (cA_1918, 1002, .inl (fun j : Nat => zI (a19_becomes (j : Int))))), (hc, .inr (12, [v13_0, v13_1, v13_2, v13_3, v13_4, .ref la, v13_6]))] ++ va_pl L (pE Pn_9))) (va_A ([(h0, .inr (16, [v19_0, v19_1, v19_2, v19_3, v19_4, v19_5, v19_6, v19_7, v19_8, v19_9, v19_10, v19_11, v19_12, v19_13, v19_14, v19_15, v19_16, v19_17, .ref q_1918, v19_19, v19_20, v19_21, v19_22, v19_23, v19_24, v19_25, v19_26, v19_27, v19_28, v19_29, v19_30, v19_31, v19_32, v19_33, v19_34, v19_35, v19_36, v19_37, v19_38, v19_39, v19_40])), (q_1918, .inl (cA_1918, 1002, .inl (fun j : Nat => zI (a19_becomes (j : Int))))), (hc, .inr (12, [v13_0, v13_1, v13_2, v13_3, v13_4, .ref la, v13_6]))] ++ va_pl L (pE P)) sz)) 0 0 (va_A ([(h0, .inr (16, [v19_0, v19_1, v19_2, v19_3, v19_4, v19_5, v19_6, v19_7, v19_8, v19_9, v19_10, v19_11, v19_12, v19_13, v19_14, v19_15, v19_16, v19_17, .ref q_1918, v19_19, v19_20, v19_21, v19_22, v19_23, v19_24, v19_25, v19_26, v19_27, v19_28, v19_29, v19_30, v19_31, v19_32, v19_33, v19_34, v19_35, v19_36, v19_37, v19_38, v19_39, v19_40])), (q_1918, .inl (cA_1918, 1002, .inl (fun j : Nat => zI (a19_becomes (j : Int))))), (hc, .inr (12, [v13_0, v13_1, v13_2, v13_3, v13_4, .ref la, v13_6]))] ++ va_pl L (pE P)) sz) := by
  refine Met.ofW (cc := cX19_become) (maxL := 7) (ret := none) (by decide) rfl ?_
  intro p e s m args below meth c s₁ B hml hv
  obtain ⟨rfl, hsz, hP, hK, hD0, hp0, hp1, hp2⟩ := hv
  have hx := B.exec
  have hb := B.bytes
  have hr := B.returns
  have hts := atoms_spec (ws := v_P19_becomeAll) B.pre
  have hown : s.vm.findClass RX19 = some m.cls := findClass_of_methodNamed B.named
  have hlocks := B.notSynchronized
  have ow : ∀ {k : Nat} {w : Cond}, o_P19_becomeAll[k]? = some w → w.before ([.ref h0, .ref hc] : List Value).toArray s = true := fun h => hts _ (mow_P19_becomeAll _ (List.mem_of_getElem? h))
  subst hsz
  have hD := hD0.self (sz := s.heap.size)
  generalize hAe : va_A ([(h0, .inr (16, [v19_0, v19_1, v19_2, v19_3, v19_4, v19_5, v19_6, v19_7, v19_8, v19_9, v19_10, v19_11, v19_12, v19_13, v19_14, v19_15, v19_16, v19_17, .ref q_1918, v19_19, v19_20, v19_21, v19_22, v19_23, v19_24, v19_25, v19_26, v19_27, v19_28, v19_29, v19_30, v19_31, v19_32, v19_33, v19_34, v19_35, v19_36, v19_37, v19_38, v19_39, v19_40])), (q_1918, .inl (cA_1918, 1002, .inl (fun j : Nat => zI (a19_becomes (j : Int))))), (hc, .inr (12, [v13_0, v13_1, v13_2, v13_3, v13_4, .ref la, v13_6]))] ++ va_pl L (pE P)) s.heap.size = A at hD ⊢
  have hA : ∀ q : Nat, s.heap.size ≤ q → A q := fun q h => by rw [← hAe]; exact Or.inr h
  have hS : va_S A s.heap s.heap [] := va_S.rf
  have hP : va_P (dC, dI) vwQ ([(h0, .inr (16, [v19_0, v19_1, v19_2, v19_3, v19_4, v19_5, v19_6, v19_7, v19_8, v19_9, v19_10, v19_11, v19_12, v19_13, v19_14, v19_15, v19_16, v19_17, .ref q_1918, v19_19, v19_20, v19_21, v19_22, v19_23, v19_24, v19_25, v19_26, v19_27, v19_28, v19_29, v19_30, v19_31, v19_32, v19_33, v19_34, v19_35, v19_36, v19_37, v19_38, v19_39, v19_40])), (q_1918, .inl (cA_1918, 1002, .inl (fun j : Nat => zI (a19_becomes (j : Int))))), (hc, .inr (12, [v13_0, v13_1, v13_2, v13_3, v13_4, .ref la, v13_6]))] ++ va_pl L (pE P)) s.heap := hP
  have hl := lv_entry ([.ref h0, .ref hc]) (n := 7) (Nat.le_of_ble_eq_true rfl)
  rw [lg_entry_eq]
  generalize (lg_sl ([.ref h0, .ref hc]) ++ List.replicate (7 - (lg_sl ([.ref h0, .ref hc])).length) Slot.unset).toArray = ls at hl ⊢
  have hl : lv_has ls 7 [(0, .ref h0), (1, .ref hc)] := hl
  obtain ⟨H, hH⟩ : ∃ H, H = s.heap := ⟨_, rfl⟩
  rw [← hH] at hP
  have hS : va_S A s.heap H [] := by rw [hH]; exact hS
  rw [← hH]
  refine zW_cap (fun Q hQ => ?_)
  have hX_a9 := hX_a
  have hla := hX_a.lok.2.2.1
  have hla2 := hX_a.1.1.2.1
  have hv0 := UNV.refl P (VST P la 0 0 0)
  have hd0 := DON.first P P a19_becomes la
  refine lv_iconst (v := 0) hx hb dX19_become_0 (by decide) ?_
  refine lv_istore_n (lv' := [(2, .int 0), (0, .ref h0), (1, .ref hc)]) hx hb dX19_become_1 rfl hl (by decide) rfl (fun ls hl => ?_)
  have key2 : ∀ n2 : Nat, ∀ (d2_2 : Int) (P2 : PO) (ls : Array Slot) (H : Heap) (locs : List Loc), (P2.tot 2 la ≤ P.tot 2 la ∧ P2.tot 1 la ≤ P.tot 1 la) → (KEP [] L P L P2 la) → (ALP L P2 cO cI cZ sx_ed la) → (0 ≤ d2_2 ∧ d2_2 ≤ P.lz la) → (UNV P P2 (VST P la (d2_2) (0) (0))) → (DON P P2 a19_becomes (VST P la (d2_2) (0) (0))) → ((400 - d2_2 : Int).toNat) < n2 → lv_has ls 7 [(0, .ref h0), (1, .ref hc), (2, .int (zI (d2_2)))] → va_P (dC, dI) vwQ ([(h0, .inr (16, [v19_0, v19_1, v19_2, v19_3, v19_4, v19_5, v19_6, v19_7, v19_8, v19_9, v19_10, v19_11, v19_12, v19_13, v19_14, v19_15, v19_16, v19_17, .ref q_1918, v19_19, v19_20, v19_21, v19_22, v19_23, v19_24, v19_25, v19_26, v19_27, v19_28, v19_29, v19_30, v19_31, v19_32, v19_33, v19_34, v19_35, v19_36, v19_37, v19_38, v19_39, v19_40])), (q_1918, .inl (cA_1918, 1002, .inl (fun j : Nat => zI (a19_becomes (j : Int))))), (hc, .inr (12, [v13_0, v13_1, v13_2, v13_3, v13_4, .ref la, v13_6]))] ++ va_pl L (pE P2)) H → va_D A ([(h0, .inr (16, [v19_0, v19_1, v19_2, v19_3, v19_4, v19_5, v19_6, v19_7, v19_8, v19_9, v19_10, v19_11, v19_12, v19_13, v19_14, v19_15, v19_16, v19_17, .ref q_1918, v19_19, v19_20, v19_21, v19_22, v19_23, v19_24, v19_25, v19_26, v19_27, v19_28, v19_29, v19_30, v19_31, v19_32, v19_33, v19_34, v19_35, v19_36, v19_37, v19_38, v19_39, v19_40])), (q_1918, .inl (cA_1918, 1002, .inl (fun j : Nat => zI (a19_becomes (j : Int))))), (hc, .inr (12, [v13_0, v13_1, v13_2, v13_3, v13_4, .ref la, v13_6]))] ++ va_pl L (pE P2)) → va_S A s.heap H locs → W p l e (headSpec v_P19_becomeAll ({ frames := 4, cells := 0, slots := 0, locals := 85 })).room s m ([.ref h0, .ref hc] : List Value).toArray below meth c H locs 0 0 Q (F0 m 2 ls []) := by
    intro n2
    induction n2 with
    | zero => intro d2_2 P2 ls H locs tP2 kP2 aP2 jd2_2 jv2 jd2 hm2; exact absurd hm2 (by omega)
    | succ n2 ih2 =>
      intro d2_2 P2 ls H locs tP2 kP2 aP2 jd2_2 jv2 jd2 hm2 hl hP hD hS
      have hq_2001 : la ∈ L ∧ P2.kd la = 30 := kP2.mem hX_a.lok.1 hX_a.lok.2.1 (by decide)
      have hz9 := kP2.2.2.1
      have hA_2002 : KEP [] L P L P2 la := (KEP.refl [] L P la).trans kP2
      have hj2 := kP2
      skip
      refine lv_iload_n hx hb dX19_become_2 rfl (lv_at hl 2 rfl) ?_
      refine lv_aload_n hx hb dX19_become_3 rfl (lv_at hl 1 rfl) ?_
      have hX_l := aP2.lok
      have hlz9 := hX_l.2.2.1
      have hPc := hP.part (X := [(h0, .inr (16, [v19_0, v19_1, v19_2, v19_3, v19_4, v19_5, v19_6, v19_7, v19_8, v19_9, v19_10, v19_11, v19_12, v19_13, v19_14, v19_15, v19_16, v19_17, .ref q_1918, v19_19, v19_20, v19_21, v19_22, v19_23, v19_24, v19_25, v19_26, v19_27, v19_28, v19_29, v19_30, v19_31, v19_32, v19_33, v19_34, v19_35, v19_36, v19_37, v19_38, v19_39, v19_40])), (q_1918, .inl (cA_1918, 1002, .inl (fun j : Nat => zI (a19_becomes (j : Int))))), (hc, .inr (12, [v13_0, v13_1, v13_2, v13_3, v13_4, .ref la, v13_6]))]) (cx := [(hc, .inr (12, [v13_0, v13_1, v13_2, v13_3, v13_4, .ref la, v13_6]))]) (pl := va_pl L (pE P2)) [2] rfl
      have hDc := hD.part (X := [(h0, .inr (16, [v19_0, v19_1, v19_2, v19_3, v19_4, v19_5, v19_6, v19_7, v19_8, v19_9, v19_10, v19_11, v19_12, v19_13, v19_14, v19_15, v19_16, v19_17, .ref q_1918, v19_19, v19_20, v19_21, v19_22, v19_23, v19_24, v19_25, v19_26, v19_27, v19_28, v19_29, v19_30, v19_31, v19_32, v19_33, v19_34, v19_35, v19_36, v19_37, v19_38, v19_39, v19_40])), (q_1918, .inl (cA_1918, 1002, .inl (fun j : Nat => zI (a19_becomes (j : Int))))), (hc, .inr (12, [v13_0, v13_1, v13_2, v13_3, v13_4, .ref la, v13_6]))]) (cx := [(hc, .inr (12, [v13_0, v13_1, v13_2, v13_3, v13_4, .ref la, v13_6]))]) (pl := va_pl L (pE P2)) [2] (by decide) rfl
      have hKc := hK.sub (tys' := [(cO, .object "java/lang/Object")]) [1] rfl
      have hFc := va_freeP (X := [(h0, .inr (16, [v19_0, v19_1, v19_2, v19_3, v19_4, v19_5, v19_6, v19_7, v19_8, v19_9, v19_10, v19_11, v19_12, v19_13, v19_14, v19_15, v19_16, v19_17, .ref q_1918, v19_19, v19_20, v19_21, v19_22, v19_23, v19_24, v19_25, v19_26, v19_27, v19_28, v19_29, v19_30, v19_31, v19_32, v19_33, v19_34, v19_35, v19_36, v19_37, v19_38, v19_39, v19_40])), (q_1918, .inl (cA_1918, 1002, .inl (fun j : Nat => zI (a19_becomes (j : Int))))), (hc, .inr (12, [v13_0, v13_1, v13_2, v13_3, v13_4, .ref la, v13_6]))]) (cx := [(hc, .inr (12, [v13_0, v13_1, v13_2, v13_3, v13_4, .ref la, v13_6]))]) (pl := va_pl L (pE P2)) hD hS hA [2] rfl
      refine va_calli (va_runV (As := []) (rest := [.int (zI (d2_2))]) ⟨hx, hb, hml, hown, hts⟩ (c_PC_size l dC dI hc v13_0 v13_1 v13_2 v13_3 v13_4 v13_6 la cO L P2 hX_l H.size) (cwV 0 hts g_P19_becomeAll_PC_size rfl rfl rfl (by decide +kernel) ⟨(Nat.le_of_ble_eq_true rfl), (Nat.le_of_ble_eq_true rfl)⟩) ⟨fun a U g mk q => by obtain ⟨q0, q1, qP, qK, qD⟩ := q; exact ⟨q0, q1, qP, va_K.moved (u := U) (U := U.calling g mk a) (Vm.Alike.refl U.vm) qK, qD⟩, va_recv hKc hPc (ci := 12) (q0 := 0) rfl rfl, fun U hU hW => ⟨rfl, by rw [hU], by rw [hU]; exact hPc, va_K.moved hW.alike hKc, hDc.weaken (fun _ _ _ _ => trivial)⟩⟩ rfl rfl hl.1 rfl (lv_room (Nat.le_of_ble_eq_true rfl)) dX19_become_4 ⟨(Nat.le_of_ble_eq_true rfl), (Nat.le_of_ble_eq_true rfl)⟩) hS (fun q _ h => hFc q h) hFc (fun r_2003 u t H1 locs ht hvm hw hB hz1 hk1 hS => ?_)
      obtain ⟨hP1, hK1, hD1⟩ := hB
      rw [ht] at hP1
      have hK1 := va_K.moved hvm.symm hK1
      obtain ⟨hP, hD⟩ := va_joinP (X := [(h0, .inr (16, [v19_0, v19_1, v19_2, v19_3, v19_4, v19_5, v19_6, v19_7, v19_8, v19_9, v19_10, v19_11, v19_12, v19_13, v19_14, v19_15, v19_16, v19_17, .ref q_1918, v19_19, v19_20, v19_21, v19_22, v19_23, v19_24, v19_25, v19_26, v19_27, v19_28, v19_29, v19_30, v19_31, v19_32, v19_33, v19_34, v19_35, v19_36, v19_37, v19_38, v19_39, v19_40])), (q_1918, .inl (cA_1918, 1002, .inl (fun j : Nat => zI (a19_becomes (j : Int))))), (hc, .inr (12, [v13_0, v13_1, v13_2, v13_3, v13_4, .ref la, v13_6]))]) (cx := [(hc, .inr (12, [v13_0, v13_1, v13_2, v13_3, v13_4, .ref la, v13_6]))]) (wr := [(h0, .inr (16, [v19_0, v19_1, v19_2, v19_3, v19_4, v19_5, v19_6, v19_7, v19_8, v19_9, v19_10, v19_11, v19_12, v19_13, v19_14, v19_15, v19_16, v19_17, .ref q_1918, v19_19, v19_20, v19_21, v19_22, v19_23, v19_24, v19_25, v19_26, v19_27, v19_28, v19_29, v19_30, v19_31, v19_32, v19_33, v19_34, v19_35, v19_36, v19_37, v19_38, v19_39, v19_40])), (q_1918, .inl (cA_1918, 1002, .inl (fun j : Nat => zI (a19_becomes (j : Int)))))]) (rx := [(hc, .inr (12, [v13_0, v13_1, v13_2, v13_3, v13_4, .ref la, v13_6]))]) (pl := va_pl L (pE P2)) (pl1 := va_pl L (pE P2)) hP hD [2] [0, 1] rfl rfl (by decide) (by decide) hk1 hFc hP1 hD1
      have hK := (hK.sub (tys' := [(cA_1918, .int), (cI, .int), (cZ, .boolean)]) [0, 2, 3] rfl).app hK1
      generalize H1 = H at hP hS ⊢
      have hP : va_P (dC, dI) vwQ ([(h0, .inr (16, [v19_0, v19_1, v19_2, v19_3, v19_4, v19_5, v19_6, v19_7, v19_8, v19_9, v19_10, v19_11, v19_12, v19_13, v19_14, v19_15, v19_16, v19_17, .ref q_1918, v19_19, v19_20, v19_21, v19_22, v19_23, v19_24, v19_25, v19_26, v19_27, v19_28, v19_29, v19_30, v19_31, v19_32, v19_33, v19_34, v19_35, v19_36, v19_37, v19_38, v19_39, v19_40])), (q_1918, .inl (cA_1918, 1002, .inl (fun j : Nat => zI (a19_becomes (j : Int))))), (hc, .inr (12, [v13_0, v13_1, v13_2, v13_3, v13_4, .ref la, v13_6]))] ++ va_pl L (pE P2)) H := hP
      have hD : va_D A ([(h0, .inr (16, [v19_0, v19_1, v19_2, v19_3, v19_4, v19_5, v19_6, v19_7, v19_8, v19_9, v19_10, v19_11, v19_12, v19_13, v19_14, v19_15, v19_16, v19_17, .ref q_1918, v19_19, v19_20, v19_21, v19_22, v19_23, v19_24, v19_25, v19_26, v19_27, v19_28, v19_29, v19_30, v19_31, v19_32, v19_33, v19_34, v19_35, v19_36, v19_37, v19_38, v19_39, v19_40])), (q_1918, .inl (cA_1918, 1002, .inl (fun j : Nat => zI (a19_becomes (j : Int))))), (hc, .inr (12, [v13_0, v13_1, v13_2, v13_3, v13_4, .ref la, v13_6]))] ++ va_pl L (pE P2)) := hD
      have hK : va_K (dC, dI) vwQ [(cA_1918, .int), (cI, .int), (cZ, .boolean), (cO, .object "java/lang/Object")] s := hK
      refine W.widen (k := 0) (n := 0) (Nat.le_of_ble_eq_true rfl) (Nat.le_of_ble_eq_true rfl) ?_
      obtain rfl : r_2003 = (zI (P2.lz la)) := hw
      refine lv_icmp_ge (tgt := 168) hx hb dX19_become_7 (by decide) (fun b7 => ?_) (fun b7 => ?_)
      · have yb7 : (P2.lz la : Int) ≤ (d2_2 : Int) := (zI_le (a := P2.lz la) (b := d2_2) (by omega) (by omega) (by omega) (by omega)).mp b7
        subst hQ
        have hK := hK.sub (tys' := [(cA_1918, .int), (cO, .object "java/lang/Object"), (cI, .int), (cZ, .boolean)]) [0, 3, 1, 2] rfl
        refine W.widen (k := 0) (n := 0) (Nat.le_of_ble_eq_true rfl) (Nat.le_of_ble_eq_true rfl) ?_
        exact W.vret hx hb hr (fun t ht hW => ⟨⟨(), rfl, trivial, P2, ⟨hA_2002, aP2, by omega, by omega, (by rw [show P.lz la = d2_2 from (by omega)]; exact jv2), (by rw [show P.lz la = d2_2 from (by omega)]; exact jd2)⟩, by rw [ht]; exact hP, va_K.moved hW.alike hK, hD⟩, hS.F ht⟩) hS.2.2 dX19_become_168
      · have yb7 : ¬ (P2.lz la : Int) ≤ (d2_2 : Int) := fun q => b7 ((zI_le (a := P2.lz la) (b := d2_2) (by omega) (by omega) (by omega) (by omega)).mpr q)
        refine lv_aload_n hx hb dX19_become_10 rfl (lv_at hl 1 rfl) ?_
        refine lv_iload_n hx hb dX19_become_11 rfl (lv_at hl 2 rfl) ?_
        have hX_l := aP2.lok
        obtain ⟨x, ex⟩ : ∃ q9 : Nat, q9 = P2.el la (d2_2) := ⟨_, rfl⟩
        have hX_el := ex
        have hPc := hP.part (X := [(h0, .inr (16, [v19_0, v19_1, v19_2, v19_3, v19_4, v19_5, v19_6, v19_7, v19_8, v19_9, v19_10, v19_11, v19_12, v19_13, v19_14, v19_15, v19_16, v19_17, .ref q_1918, v19_19, v19_20, v19_21, v19_22, v19_23, v19_24, v19_25, v19_26, v19_27, v19_28, v19_29, v19_30, v19_31, v19_32, v19_33, v19_34, v19_35, v19_36, v19_37, v19_38, v19_39, v19_40])), (q_1918, .inl (cA_1918, 1002, .inl (fun j : Nat => zI (a19_becomes (j : Int))))), (hc, .inr (12, [v13_0, v13_1, v13_2, v13_3, v13_4, .ref la, v13_6]))]) (cx := [(hc, .inr (12, [v13_0, v13_1, v13_2, v13_3, v13_4, .ref la, v13_6]))]) (pl := va_pl L (pE P2)) [2] rfl
        have hDc := hD.part (X := [(h0, .inr (16, [v19_0, v19_1, v19_2, v19_3, v19_4, v19_5, v19_6, v19_7, v19_8, v19_9, v19_10, v19_11, v19_12, v19_13, v19_14, v19_15, v19_16, v19_17, .ref q_1918, v19_19, v19_20, v19_21, v19_22, v19_23, v19_24, v19_25, v19_26, v19_27, v19_28, v19_29, v19_30, v19_31, v19_32, v19_33, v19_34, v19_35, v19_36, v19_37, v19_38, v19_39, v19_40])), (q_1918, .inl (cA_1918, 1002, .inl (fun j : Nat => zI (a19_becomes (j : Int))))), (hc, .inr (12, [v13_0, v13_1, v13_2, v13_3, v13_4, .ref la, v13_6]))]) (cx := [(hc, .inr (12, [v13_0, v13_1, v13_2, v13_3, v13_4, .ref la, v13_6]))]) (pl := va_pl L (pE P2)) [2] (by decide) rfl
        have hKc := hK.sub (tys' := [(cO, .object "java/lang/Object")]) [3] rfl
        have hFc := va_freeP (X := [(h0, .inr (16, [v19_0, v19_1, v19_2, v19_3, v19_4, v19_5, v19_6, v19_7, v19_8, v19_9, v19_10, v19_11, v19_12, v19_13, v19_14, v19_15, v19_16, v19_17, .ref q_1918, v19_19, v19_20, v19_21, v19_22, v19_23, v19_24, v19_25, v19_26, v19_27, v19_28, v19_29, v19_30, v19_31, v19_32, v19_33, v19_34, v19_35, v19_36, v19_37, v19_38, v19_39, v19_40])), (q_1918, .inl (cA_1918, 1002, .inl (fun j : Nat => zI (a19_becomes (j : Int))))), (hc, .inr (12, [v13_0, v13_1, v13_2, v13_3, v13_4, .ref la, v13_6]))]) (cx := [(hc, .inr (12, [v13_0, v13_1, v13_2, v13_3, v13_4, .ref la, v13_6]))]) (pl := va_pl L (pE P2)) hD hS hA [2] rfl
        refine va_callr (va_runV (As := [.int (zI (d2_2))]) (rest := []) ⟨hx, hb, hml, hown, hts⟩ (c_PC_get l dC dI hc v13_0 v13_1 v13_2 v13_3 v13_4 v13_6 la cO L P2 d2_2 x hX_l (by omega) hX_el H.size) (cwV 1 hts g_P19_becomeAll_PC_get rfl rfl rfl (by decide +kernel) ⟨(Nat.le_of_ble_eq_true rfl), (Nat.le_of_ble_eq_true rfl)⟩) ⟨fun a U g mk q => by obtain ⟨q0, q1, qP, qK, qD, e0⟩ := q; exact ⟨q0, q1, qP, va_K.moved (u := U) (U := U.calling g mk a) (Vm.Alike.refl U.vm) qK, qD, va_Nw.same rfl (u := U) (U := U.calling g mk a) rfl e0⟩, va_recv hKc hPc (ci := 12) (q0 := 0) rfl rfl, fun U hU hW => ⟨rfl, by rw [hU], by rw [hU]; exact hPc, va_K.moved hW.alike hKc, hDc.weaken (fun _ _ _ _ => trivial), va_Nw.warmC hW hp0⟩⟩ rfl rfl hl.1 rfl (lv_room (Nat.le_of_ble_eq_true rfl)) dX19_become_12 ⟨(Nat.le_of_ble_eq_true rfl), (Nat.le_of_ble_eq_true rfl)⟩) hS (fun q _ h => hFc q h) hFc (fun u q_2004 t H1 locs ht hvm hw hB hz1 hk1 hS => ?_)
        obtain ⟨hxt_2004, hP1, hK1, hD1⟩ := hB
        rw [ht] at hP1
        have hK1 := va_K.moved hvm.symm hK1
        obtain ⟨hP, hD⟩ := va_joinP (X := [(h0, .inr (16, [v19_0, v19_1, v19_2, v19_3, v19_4, v19_5, v19_6, v19_7, v19_8, v19_9, v19_10, v19_11, v19_12, v19_13, v19_14, v19_15, v19_16, v19_17, .ref q_1918, v19_19, v19_20, v19_21, v19_22, v19_23, v19_24, v19_25, v19_26, v19_27, v19_28, v19_29, v19_30, v19_31, v19_32, v19_33, v19_34, v19_35, v19_36, v19_37, v19_38, v19_39, v19_40])), (q_1918, .inl (cA_1918, 1002, .inl (fun j : Nat => zI (a19_becomes (j : Int))))), (hc, .inr (12, [v13_0, v13_1, v13_2, v13_3, v13_4, .ref la, v13_6]))]) (cx := [(hc, .inr (12, [v13_0, v13_1, v13_2, v13_3, v13_4, .ref la, v13_6]))]) (wr := [(h0, .inr (16, [v19_0, v19_1, v19_2, v19_3, v19_4, v19_5, v19_6, v19_7, v19_8, v19_9, v19_10, v19_11, v19_12, v19_13, v19_14, v19_15, v19_16, v19_17, .ref q_1918, v19_19, v19_20, v19_21, v19_22, v19_23, v19_24, v19_25, v19_26, v19_27, v19_28, v19_29, v19_30, v19_31, v19_32, v19_33, v19_34, v19_35, v19_36, v19_37, v19_38, v19_39, v19_40])), (q_1918, .inl (cA_1918, 1002, .inl (fun j : Nat => zI (a19_becomes (j : Int)))))]) (rx := [(hc, .inr (12, [v13_0, v13_1, v13_2, v13_3, v13_4, .ref la, v13_6]))]) (pl := va_pl L (pE P2)) (pl1 := va_pl L (pE P2)) hP hD [2] [0, 1] rfl rfl (by decide) (by decide) hk1 hFc hP1 hD1
        have hK := (hK.sub (tys' := [(cA_1918, .int), (cI, .int), (cZ, .boolean)]) [0, 1, 2] rfl).app hK1
        generalize H1 = H at hP hS ⊢
        have hP : va_P (dC, dI) vwQ ([(h0, .inr (16, [v19_0, v19_1, v19_2, v19_3, v19_4, v19_5, v19_6, v19_7, v19_8, v19_9, v19_10, v19_11, v19_12, v19_13, v19_14, v19_15, v19_16, v19_17, .ref q_1918, v19_19, v19_20, v19_21, v19_22, v19_23, v19_24, v19_25, v19_26, v19_27, v19_28, v19_29, v19_30, v19_31, v19_32, v19_33, v19_34, v19_35, v19_36, v19_37, v19_38, v19_39, v19_40])), (q_1918, .inl (cA_1918, 1002, .inl (fun j : Nat => zI (a19_becomes (j : Int))))), (hc, .inr (12, [v13_0, v13_1, v13_2, v13_3, v13_4, .ref la, v13_6]))] ++ va_pl L (pE P2)) H := hP
        have hD : va_D A ([(h0, .inr (16, [v19_0, v19_1, v19_2, v19_3, v19_4, v19_5, v19_6, v19_7, v19_8, v19_9, v19_10, v19_11, v19_12, v19_13, v19_14, v19_15, v19_16, v19_17, .ref q_1918, v19_19, v19_20, v19_21, v19_22, v19_23, v19_24, v19_25, v19_26, v19_27, v19_28, v19_29, v19_30, v19_31, v19_32, v19_33, v19_34, v19_35, v19_36, v19_37, v19_38, v19_39, v19_40])), (q_1918, .inl (cA_1918, 1002, .inl (fun j : Nat => zI (a19_becomes (j : Int))))), (hc, .inr (12, [v13_0, v13_1, v13_2, v13_3, v13_4, .ref la, v13_6]))] ++ va_pl L (pE P2)) := hD
        have hK : va_K (dC, dI) vwQ [(cA_1918, .int), (cI, .int), (cZ, .boolean), (cO, .object "java/lang/Object")] s := hK
        refine W.widen (k := 0) (n := 0) (Nat.le_of_ble_eq_true rfl) (Nat.le_of_ble_eq_true rfl) ?_
        rw [hxt_2004]
        obtain ⟨xb_2005, h9⟩ : ∃ q9 : Nat, q9 = x := ⟨_, rfl⟩
        subst h9
        have hi_2006 : INB P2 la xb_2005 := ⟨d2_2, by omega, by omega, ex⟩
        clear hX_el
        have hx_2008 := ex
        have hB_2007 := aP2.inb hi_2006
        have hfb := hB_2007.2.2.2.2
        have hyi : xb_2005 = P.el la (d2_2) := hx_2008.trans (jv2.el la (d2_2))
        refine lv_astore_n (lv' := [(3, .ref xb_2005), (0, .ref h0), (1, .ref hc), (2, .int (zI (d2_2)))]) hx hb dX19_become_15 rfl hl (by decide) rfl (fun ls hl => ?_)
        refine lv_iconst (v := 0) hx hb dX19_become_16 (by decide) ?_
        refine lv_istore (lv' := [(4, .int 0), (3, .ref xb_2005), (0, .ref h0), (1, .ref hc), (2, .int (zI (d2_2)))]) hx hb dX19_become_17 hl (by decide) rfl (fun ls hl => ?_)
        have key19 : ∀ n19 : Nat, ∀ (d19_4 : Int) (P19 : PO) (ls : Array Slot) (H : Heap) (locs : List Loc), (P19.tot 2 la ≤ P2.tot 2 la ∧ P19.tot 1 la ≤ P2.tot 1 la) → (KEP [] L P2 L P19 la) → (ALP L P19 cO cI cZ sx_ed la) → (0 ≤ d19_4 ∧ d19_4 ≤ 40000) → (UNV P P19 (VST P la (d2_2) (d19_4) (0))) → (DON P P19 a19_becomes (VST P la (d2_2) (d19_4) (0))) → ((50000 - d19_4 : Int).toNat) < n19 → lv_has ls 7 [(0, .ref h0), (1, .ref hc), (2, .int (zI (d2_2))), (3, .ref xb_2005), (4, .int (zI (d19_4)))] → va_P (dC, dI) vwQ ([(h0, .inr (16, [v19_0, v19_1, v19_2, v19_3, v19_4, v19_5, v19_6, v19_7, v19_8, v19_9, v19_10, v19_11, v19_12, v19_13, v19_14, v19_15, v19_16, v19_17, .ref q_1918, v19_19, v19_20, v19_21, v19_22, v19_23, v19_24, v19_25, v19_26, v19_27, v19_28, v19_29, v19_30, v19_31, v19_32, v19_33, v19_34, v19_35, v19_36, v19_37, v19_38, v19_39, v19_40])), (q_1918, .inl (cA_1918, 1002, .inl (fun j : Nat => zI (a19_becomes (j : Int))))), (hc, .inr (12, [v13_0, v13_1, v13_2, v13_3, v13_4, .ref la, v13_6]))] ++ va_pl L (pE P19)) H → va_D A ([(h0, .inr (16, [v19_0, v19_1, v19_2, v19_3, v19_4, v19_5, v19_6, v19_7, v19_8, v19_9, v19_10, v19_11, v19_12, v19_13, v19_14, v19_15, v19_16, v19_17, .ref q_1918, v19_19, v19_20, v19_21, v19_22, v19_23, v19_24, v19_25, v19_26, v19_27, v19_28, v19_29, v19_30, v19_31, v19_32, v19_33, v19_34, v19_35, v19_36, v19_37, v19_38, v19_39, v19_40])), (q_1918, .inl (cA_1918, 1002, .inl (fun j : Nat => zI (a19_becomes (j : Int))))), (hc, .inr (12, [v13_0, v13_1, v13_2, v13_3, v13_4, .ref la, v13_6]))] ++ va_pl L (pE P19)) → va_S A s.heap H locs → W p l e (headSpec v_P19_becomeAll ({ frames := 4, cells := 0, slots := 0, locals := 85 })).room s m ([.ref h0, .ref hc] : List Value).toArray below meth c H locs 0 0 Q (F0 m 19 ls []) := by
          intro n19
          induction n19 with
          | zero => intro d19_4 P19 ls H locs tP19 kP19 aP19 jd19_4 jv19 jd19 hm19; exact absurd hm19 (by omega)
          | succ n19 ih19 =>
            intro d19_4 P19 ls H locs tP19 kP19 aP19 jd19_4 jv19 jd19 hm19 hl hP hD hS
            have hq_2009 : la ∈ L ∧ P19.kd la = 30 := kP19.mem hq_2001.1 hq_2001.2 (by decide)
            have hq_2010 : xb_2005 ∈ L ∧ P19.kd xb_2005 = 12 := kP19.mem hB_2007.1.1 hB_2007.1.2 (by decide)
            have hi_2011 : INB P19 la xb_2005 := kP19.inb hi_2006
            have hz9 := kP19.2.2.1
            have hA_2012 : KEP [] L P L P19 la := hA_2002.trans kP19
            have hA_2013 : KEP [] L P2 L P19 la := (KEP.refl [] L P2 la).trans kP19
            have hj19 := kP19
            skip
            refine lv_iload hx hb dX19_become_19 (lv_at hl 4 rfl) ?_
            refine lv_aload_n hx hb dX19_become_21 rfl (lv_at hl 3 rfl) ?_
            have hfb := (aP19.inb hi_2011).2.2.2.2
            obtain ⟨kp_2014, hkp_2014⟩ := va_pl_get (X := [(h0, .inr (16, [v19_0, v19_1, v19_2, v19_3, v19_4, v19_5, v19_6, v19_7, v19_8, v19_9, v19_10, v19_11, v19_12, v19_13, v19_14, v19_15, v19_16, v19_17, .ref q_1918, v19_19, v19_20, v19_21, v19_22, v19_23, v19_24, v19_25, v19_26, v19_27, v19_28, v19_29, v19_30, v19_31, v19_32, v19_33, v19_34, v19_35, v19_36, v19_37, v19_38, v19_39, v19_40])), (q_1918, .inl (cA_1918, 1002, .inl (fun j : Nat => zI (a19_becomes (j : Int))))), (hc, .inr (12, [v13_0, v13_1, v13_2, v13_3, v13_4, .ref la, v13_6]))]) (f := pE P19) hq_2010.1
            rw [pE_block hq_2010.2] at hkp_2014
            refine va_get (D := (dC, dI)) (ci := 19) (v := .ref (P19.bp xb_2005)) (C := RX12) (T := TX12) (N := 5) hx hb hts mem_P19_becomeAll_2 hown hK hP kp_2014 hkp_2014 rfl 0 (by decide) (ow (k := 7) rfl) (fun _ h9 => h9) rfl dX19_become_22 ?_
            obtain ⟨pr_2015, epr_2015⟩ : ∃ q9 : Nat, q9 = P19.bp xb_2005 := ⟨_, rfl⟩
            rw [← epr_2015]
            have hlk_2016 : LOK L P19 cO 15 pr_2015 := (by rw [epr_2015]; exact (aP19.inb hi_2011).2.2.1)
            have hlz9 := hlk_2016.2.2.1
            have hlk_2017 := (show LOK L P19 cO 15 pr_2015 from (by rw [← epr_2015.symm]; exact (aP19.inb hi_2011).2.2.1))
            have hX_x := hlk_2017.1
            have hX_k := hlk_2017.2.1
            have hlz9 := hlk_2017.2.2.1
            have hPc := hP.part (X := [(h0, .inr (16, [v19_0, v19_1, v19_2, v19_3, v19_4, v19_5, v19_6, v19_7, v19_8, v19_9, v19_10, v19_11, v19_12, v19_13, v19_14, v19_15, v19_16, v19_17, .ref q_1918, v19_19, v19_20, v19_21, v19_22, v19_23, v19_24, v19_25, v19_26, v19_27, v19_28, v19_29, v19_30, v19_31, v19_32, v19_33, v19_34, v19_35, v19_36, v19_37, v19_38, v19_39, v19_40])), (q_1918, .inl (cA_1918, 1002, .inl (fun j : Nat => zI (a19_becomes (j : Int))))), (hc, .inr (12, [v13_0, v13_1, v13_2, v13_3, v13_4, .ref la, v13_6]))]) (cx := []) (pl := va_pl L (pE P19)) [] rfl
            have hDc := hD.part (X := [(h0, .inr (16, [v19_0, v19_1, v19_2, v19_3, v19_4, v19_5, v19_6, v19_7, v19_8, v19_9, v19_10, v19_11, v19_12, v19_13, v19_14, v19_15, v19_16, v19_17, .ref q_1918, v19_19, v19_20, v19_21, v19_22, v19_23, v19_24, v19_25, v19_26, v19_27, v19_28, v19_29, v19_30, v19_31, v19_32, v19_33, v19_34, v19_35, v19_36, v19_37, v19_38, v19_39, v19_40])), (q_1918, .inl (cA_1918, 1002, .inl (fun j : Nat => zI (a19_becomes (j : Int))))), (hc, .inr (12, [v13_0, v13_1, v13_2, v13_3, v13_4, .ref la, v13_6]))]) (cx := []) (pl := va_pl L (pE P19)) [] (by decide) rfl
            have hKc := hK.sub (tys' := [(cO, .object "java/lang/Object")]) [3] rfl
            have hFc := va_freeP (X := [(h0, .inr (16, [v19_0, v19_1, v19_2, v19_3, v19_4, v19_5, v19_6, v19_7, v19_8, v19_9, v19_10, v19_11, v19_12, v19_13, v19_14, v19_15, v19_16, v19_17, .ref q_1918, v19_19, v19_20, v19_21, v19_22, v19_23, v19_24, v19_25, v19_26, v19_27, v19_28, v19_29, v19_30, v19_31, v19_32, v19_33, v19_34, v19_35, v19_36, v19_37, v19_38, v19_39, v19_40])), (q_1918, .inl (cA_1918, 1002, .inl (fun j : Nat => zI (a19_becomes (j : Int))))), (hc, .inr (12, [v13_0, v13_1, v13_2, v13_3, v13_4, .ref la, v13_6]))]) (cx := []) (pl := va_pl L (pE P19)) hD hS hA [] rfl
            refine va_calli (va_runV (As := []) (rest := [.int (zI (d19_4))]) ⟨hx, hb, hml, hown, hts⟩ (c_PL_size l dC dI cO L P19 pr_2015 hX_x hX_k (by omega) H.size) (cwV 0 hts g_P19_becomeAll_PL_size rfl rfl rfl (by decide +kernel) ⟨(Nat.le_of_ble_eq_true rfl), (Nat.le_of_ble_eq_true rfl)⟩) ⟨fun a U g mk q => by obtain ⟨q0, q1, qP, qK, qD⟩ := q; exact ⟨q0, q1, qP, va_K.moved (u := U) (U := U.calling g mk a) (Vm.Alike.refl U.vm) qK, qD⟩, recv_30 hKc hPc hlk_2016.1 hlk_2016.2.1, fun U hU hW => ⟨rfl, by rw [hU], by rw [hU]; exact hPc, va_K.moved hW.alike hKc, hDc.weaken (fun _ _ _ _ => trivial)⟩⟩ rfl rfl hl.1 rfl (lv_room (Nat.le_of_ble_eq_true rfl)) dX19_become_25 ⟨(Nat.le_of_ble_eq_true rfl), (Nat.le_of_ble_eq_true rfl)⟩) hS (fun q _ h => hFc q h) hFc (fun r_2018 u t H1 locs ht hvm hw hB hz1 hk1 hS => ?_)
            obtain ⟨hP1, hK1, hD1⟩ := hB
            rw [ht] at hP1
            have hK1 := va_K.moved hvm.symm hK1
            obtain ⟨hP, hD⟩ := va_joinP (X := [(h0, .inr (16, [v19_0, v19_1, v19_2, v19_3, v19_4, v19_5, v19_6, v19_7, v19_8, v19_9, v19_10, v19_11, v19_12, v19_13, v19_14, v19_15, v19_16, v19_17, .ref q_1918, v19_19, v19_20, v19_21, v19_22, v19_23, v19_24, v19_25, v19_26, v19_27, v19_28, v19_29, v19_30, v19_31, v19_32, v19_33, v19_34, v19_35, v19_36, v19_37, v19_38, v19_39, v19_40])), (q_1918, .inl (cA_1918, 1002, .inl (fun j : Nat => zI (a19_becomes (j : Int))))), (hc, .inr (12, [v13_0, v13_1, v13_2, v13_3, v13_4, .ref la, v13_6]))]) (cx := []) (wr := [(h0, .inr (16, [v19_0, v19_1, v19_2, v19_3, v19_4, v19_5, v19_6, v19_7, v19_8, v19_9, v19_10, v19_11, v19_12, v19_13, v19_14, v19_15, v19_16, v19_17, .ref q_1918, v19_19, v19_20, v19_21, v19_22, v19_23, v19_24, v19_25, v19_26, v19_27, v19_28, v19_29, v19_30, v19_31, v19_32, v19_33, v19_34, v19_35, v19_36, v19_37, v19_38, v19_39, v19_40])), (q_1918, .inl (cA_1918, 1002, .inl (fun j : Nat => zI (a19_becomes (j : Int))))), (hc, .inr (12, [v13_0, v13_1, v13_2, v13_3, v13_4, .ref la, v13_6]))]) (rx := []) (pl := va_pl L (pE P19)) (pl1 := va_pl L (pE P19)) hP hD [] [0, 1, 2] rfl rfl (by decide) (by decide) hk1 hFc hP1 hD1
            have hK := (hK.sub (tys' := [(cA_1918, .int), (cI, .int), (cZ, .boolean)]) [0, 1, 2] rfl).app hK1
            generalize H1 = H at hP hS ⊢
            have hP : va_P (dC, dI) vwQ ([(h0, .inr (16, [v19_0, v19_1, v19_2, v19_3, v19_4, v19_5, v19_6, v19_7, v19_8, v19_9, v19_10, v19_11, v19_12, v19_13, v19_14, v19_15, v19_16, v19_17, .ref q_1918, v19_19, v19_20, v19_21, v19_22, v19_23, v19_24, v19_25, v19_26, v19_27, v19_28, v19_29, v19_30, v19_31, v19_32, v19_33, v19_34, v19_35, v19_36, v19_37, v19_38, v19_39, v19_40])), (q_1918, .inl (cA_1918, 1002, .inl (fun j : Nat => zI (a19_becomes (j : Int))))), (hc, .inr (12, [v13_0, v13_1, v13_2, v13_3, v13_4, .ref la, v13_6]))] ++ va_pl L (pE P19)) H := hP
            have hD : va_D A ([(h0, .inr (16, [v19_0, v19_1, v19_2, v19_3, v19_4, v19_5, v19_6, v19_7, v19_8, v19_9, v19_10, v19_11, v19_12, v19_13, v19_14, v19_15, v19_16, v19_17, .ref q_1918, v19_19, v19_20, v19_21, v19_22, v19_23, v19_24, v19_25, v19_26, v19_27, v19_28, v19_29, v19_30, v19_31, v19_32, v19_33, v19_34, v19_35, v19_36, v19_37, v19_38, v19_39, v19_40])), (q_1918, .inl (cA_1918, 1002, .inl (fun j : Nat => zI (a19_becomes (j : Int))))), (hc, .inr (12, [v13_0, v13_1, v13_2, v13_3, v13_4, .ref la, v13_6]))] ++ va_pl L (pE P19)) := hD
            have hK : va_K (dC, dI) vwQ [(cA_1918, .int), (cI, .int), (cZ, .boolean), (cO, .object "java/lang/Object")] s := hK
            refine W.widen (k := 0) (n := 0) (Nat.le_of_ble_eq_true rfl) (Nat.le_of_ble_eq_true rfl) ?_
            obtain rfl : r_2018 = (zI (P19.lz pr_2015)) := hw
            refine lv_icmp_ge (tgt := 117) hx hb dX19_become_28 (by decide) (fun b28 => ?_) (fun b28 => ?_)
            · have yb28 : (P19.lz pr_2015 : Int) ≤ (d19_4 : Int) := (zI_le (a := P19.lz pr_2015) (b := d19_4) (by omega) (by omega) (by omega) (by omega)).mp b28
              have hzl : P.lz (P.bp (P.el la (d2_2))) = P19.lz pr_2015 := (by rw [← hyi, ← jv19.bp xb_2005, epr_2015.symm]; exact (jv19.1.2.2 pr_2015 ((jv19.kd pr_2015).symm.trans hlk_2016.2.1)).symm)
              skip
              refine lv_iconst (v := 0) hx hb dX19_become_117 (by decide) ?_
              refine lv_istore (lv' := [(4, .int 0), (0, .ref h0), (1, .ref hc), (2, .int (zI (d2_2))), (3, .ref xb_2005)]) hx hb dX19_become_118 hl (by decide) rfl (fun ls hl => ?_)
              have key120 : ∀ n120 : Nat, ∀ (d120_4 : Int) (P120 : PO) (ls : Array Slot) (H : Heap) (locs : List Loc), (P120.tot 2 la ≤ P19.tot 2 la ∧ P120.tot 1 la ≤ P19.tot 1 la) → (KEP [] L P19 L P120 la) → (ALP L P120 cO cI cZ sx_ed la) → (0 ≤ d120_4 ∧ d120_4 ≤ 40000) → (UNV P P120 (VST P la (d2_2) (40000) (d120_4))) → (DON P P120 a19_becomes (VST P la (d2_2) (40000) (d120_4))) → ((50000 - d120_4 : Int).toNat) < n120 → lv_has ls 7 [(0, .ref h0), (1, .ref hc), (2, .int (zI (d2_2))), (3, .ref xb_2005), (4, .int (zI (d120_4)))] → va_P (dC, dI) vwQ ([(h0, .inr (16, [v19_0, v19_1, v19_2, v19_3, v19_4, v19_5, v19_6, v19_7, v19_8, v19_9, v19_10, v19_11, v19_12, v19_13, v19_14, v19_15, v19_16, v19_17, .ref q_1918, v19_19, v19_20, v19_21, v19_22, v19_23, v19_24, v19_25, v19_26, v19_27, v19_28, v19_29, v19_30, v19_31, v19_32, v19_33, v19_34, v19_35, v19_36, v19_37, v19_38, v19_39, v19_40])), (q_1918, .inl (cA_1918, 1002, .inl (fun j : Nat => zI (a19_becomes (j : Int))))), (hc, .inr (12, [v13_0, v13_1, v13_2, v13_3, v13_4, .ref la, v13_6]))] ++ va_pl L (pE P120)) H → va_D A ([(h0, .inr (16, [v19_0, v19_1, v19_2, v19_3, v19_4, v19_5, v19_6, v19_7, v19_8, v19_9, v19_10, v19_11, v19_12, v19_13, v19_14, v19_15, v19_16, v19_17, .ref q_1918, v19_19, v19_20, v19_21, v19_22, v19_23, v19_24, v19_25, v19_26, v19_27, v19_28, v19_29, v19_30, v19_31, v19_32, v19_33, v19_34, v19_35, v19_36, v19_37, v19_38, v19_39, v19_40])), (q_1918, .inl (cA_1918, 1002, .inl (fun j : Nat => zI (a19_becomes (j : Int))))), (hc, .inr (12, [v13_0, v13_1, v13_2, v13_3, v13_4, .ref la, v13_6]))] ++ va_pl L (pE P120)) → va_S A s.heap H locs → W p l e (headSpec v_P19_becomeAll ({ frames := 4, cells := 0, slots := 0, locals := 85 })).room s m ([.ref h0, .ref hc] : List Value).toArray below meth c H locs 0 0 Q (F0 m 120 ls []) := by
                intro n120
                induction n120 with
                | zero => intro d120_4 P120 ls H locs tP120 kP120 aP120 jd120_4 jv120 jd120 hm120; exact absurd hm120 (by omega)
                | succ n120 ih120 =>
                  intro d120_4 P120 ls H locs tP120 kP120 aP120 jd120_4 jv120 jd120 hm120 hl hP hD hS
                  have hq_2019 : la ∈ L ∧ P120.kd la = 30 := kP120.mem hq_2009.1 hq_2009.2 (by decide)
                  have hq_2020 : xb_2005 ∈ L ∧ P120.kd xb_2005 = 12 := kP120.mem hq_2010.1 hq_2010.2 (by decide)
                  have hq_2021 : pr_2015 ∈ L ∧ P120.kd pr_2015 = 30 := kP120.mem hlk_2016.1 hlk_2016.2.1 (by decide)
                  have hi_2022 : INB P120 la xb_2005 := kP120.inb hi_2011
                  have ha_2023 : P120.bp xb_2005 = pr_2015 := kP120.bp hq_2010.1 hq_2010.2 epr_2015.symm
                  have hz9 := kP120.2.2.1
                  have hA_2024 : KEP [] L P L P120 la := hA_2012.trans kP120
                  have hA_2025 : KEP [] L P2 L P120 la := hA_2013.trans kP120
                  have hA_2026 : KEP [] L P19 L P120 la := (KEP.refl [] L P19 la).trans kP120
                  have hj120 := kP120
                  skip
                  refine lv_iload hx hb dX19_become_120 (lv_at hl 4 rfl) ?_
                  refine lv_aload_n hx hb dX19_become_122 rfl (lv_at hl 3 rfl) ?_
                  have hfb := (aP120.inb hi_2022).2.2.2.2
                  obtain ⟨kp_2027, hkp_2027⟩ := va_pl_get (X := [(h0, .inr (16, [v19_0, v19_1, v19_2, v19_3, v19_4, v19_5, v19_6, v19_7, v19_8, v19_9, v19_10, v19_11, v19_12, v19_13, v19_14, v19_15, v19_16, v19_17, .ref q_1918, v19_19, v19_20, v19_21, v19_22, v19_23, v19_24, v19_25, v19_26, v19_27, v19_28, v19_29, v19_30, v19_31, v19_32, v19_33, v19_34, v19_35, v19_36, v19_37, v19_38, v19_39, v19_40])), (q_1918, .inl (cA_1918, 1002, .inl (fun j : Nat => zI (a19_becomes (j : Int))))), (hc, .inr (12, [v13_0, v13_1, v13_2, v13_3, v13_4, .ref la, v13_6]))]) (f := pE P120) hq_2020.1
                  rw [pE_block hq_2020.2] at hkp_2027
                  refine va_get (D := (dC, dI)) (ci := 19) (v := .ref (P120.br xb_2005)) (C := RX12) (T := TX12) (N := 5) hx hb hts mem_P19_becomeAll_2 hown hK hP kp_2027 hkp_2027 rfl 1 (by decide) (ow (k := 12) rfl) (fun _ h9 => h9) rfl dX19_become_123 ?_
                  obtain ⟨pr_2028, epr_2028⟩ : ∃ q9 : Nat, q9 = P120.br xb_2005 := ⟨_, rfl⟩
                  rw [← epr_2028]
                  have hlk_2029 : LOK L P120 cO 17 pr_2028 := (by rw [epr_2028]; exact (aP120.inb hi_2022).2.1)
                  have hlz9 := hlk_2029.2.2.1
                  have hlk_2030 := (show LOK L P120 cO 17 pr_2028 from (by rw [← epr_2028.symm]; exact (aP120.inb hi_2022).2.1))
                  have hX_x := hlk_2030.1
                  have hX_k := hlk_2030.2.1
                  have hlz9 := hlk_2030.2.2.1
                  have hPc := hP.part (X := [(h0, .inr (16, [v19_0, v19_1, v19_2, v19_3, v19_4, v19_5, v19_6, v19_7, v19_8, v19_9, v19_10, v19_11, v19_12, v19_13, v19_14, v19_15, v19_16, v19_17, .ref q_1918, v19_19, v19_20, v19_21, v19_22, v19_23, v19_24, v19_25, v19_26, v19_27, v19_28, v19_29, v19_30, v19_31, v19_32, v19_33, v19_34, v19_35, v19_36, v19_37, v19_38, v19_39, v19_40])), (q_1918, .inl (cA_1918, 1002, .inl (fun j : Nat => zI (a19_becomes (j : Int))))), (hc, .inr (12, [v13_0, v13_1, v13_2, v13_3, v13_4, .ref la, v13_6]))]) (cx := []) (pl := va_pl L (pE P120)) [] rfl
                  have hDc := hD.part (X := [(h0, .inr (16, [v19_0, v19_1, v19_2, v19_3, v19_4, v19_5, v19_6, v19_7, v19_8, v19_9, v19_10, v19_11, v19_12, v19_13, v19_14, v19_15, v19_16, v19_17, .ref q_1918, v19_19, v19_20, v19_21, v19_22, v19_23, v19_24, v19_25, v19_26, v19_27, v19_28, v19_29, v19_30, v19_31, v19_32, v19_33, v19_34, v19_35, v19_36, v19_37, v19_38, v19_39, v19_40])), (q_1918, .inl (cA_1918, 1002, .inl (fun j : Nat => zI (a19_becomes (j : Int))))), (hc, .inr (12, [v13_0, v13_1, v13_2, v13_3, v13_4, .ref la, v13_6]))]) (cx := []) (pl := va_pl L (pE P120)) [] (by decide) rfl
                  have hKc := hK.sub (tys' := [(cO, .object "java/lang/Object")]) [3] rfl
                  have hFc := va_freeP (X := [(h0, .inr (16, [v19_0, v19_1, v19_2, v19_3, v19_4, v19_5, v19_6, v19_7, v19_8, v19_9, v19_10, v19_11, v19_12, v19_13, v19_14, v19_15, v19_16, v19_17, .ref q_1918, v19_19, v19_20, v19_21, v19_22, v19_23, v19_24, v19_25, v19_26, v19_27, v19_28, v19_29, v19_30, v19_31, v19_32, v19_33, v19_34, v19_35, v19_36, v19_37, v19_38, v19_39, v19_40])), (q_1918, .inl (cA_1918, 1002, .inl (fun j : Nat => zI (a19_becomes (j : Int))))), (hc, .inr (12, [v13_0, v13_1, v13_2, v13_3, v13_4, .ref la, v13_6]))]) (cx := []) (pl := va_pl L (pE P120)) hD hS hA [] rfl
                  refine va_calli (va_runV (As := []) (rest := [.int (zI (d120_4))]) ⟨hx, hb, hml, hown, hts⟩ (c_PL_size l dC dI cO L P120 pr_2028 hX_x hX_k (by omega) H.size) (cwV 0 hts g_P19_becomeAll_PL_size rfl rfl rfl (by decide +kernel) ⟨(Nat.le_of_ble_eq_true rfl), (Nat.le_of_ble_eq_true rfl)⟩) ⟨fun a U g mk q => by obtain ⟨q0, q1, qP, qK, qD⟩ := q; exact ⟨q0, q1, qP, va_K.moved (u := U) (U := U.calling g mk a) (Vm.Alike.refl U.vm) qK, qD⟩, recv_30 hKc hPc hlk_2029.1 hlk_2029.2.1, fun U hU hW => ⟨rfl, by rw [hU], by rw [hU]; exact hPc, va_K.moved hW.alike hKc, hDc.weaken (fun _ _ _ _ => trivial)⟩⟩ rfl rfl hl.1 rfl (lv_room (Nat.le_of_ble_eq_true rfl)) dX19_become_126 ⟨(Nat.le_of_ble_eq_true rfl), (Nat.le_of_ble_eq_true rfl)⟩) hS (fun q _ h => hFc q h) hFc (fun r_2031 u t H1 locs ht hvm hw hB hz1 hk1 hS => ?_)
                  obtain ⟨hP1, hK1, hD1⟩ := hB
                  rw [ht] at hP1
                  have hK1 := va_K.moved hvm.symm hK1
                  obtain ⟨hP, hD⟩ := va_joinP (X := [(h0, .inr (16, [v19_0, v19_1, v19_2, v19_3, v19_4, v19_5, v19_6, v19_7, v19_8, v19_9, v19_10, v19_11, v19_12, v19_13, v19_14, v19_15, v19_16, v19_17, .ref q_1918, v19_19, v19_20, v19_21, v19_22, v19_23, v19_24, v19_25, v19_26, v19_27, v19_28, v19_29, v19_30, v19_31, v19_32, v19_33, v19_34, v19_35, v19_36, v19_37, v19_38, v19_39, v19_40])), (q_1918, .inl (cA_1918, 1002, .inl (fun j : Nat => zI (a19_becomes (j : Int))))), (hc, .inr (12, [v13_0, v13_1, v13_2, v13_3, v13_4, .ref la, v13_6]))]) (cx := []) (wr := [(h0, .inr (16, [v19_0, v19_1, v19_2, v19_3, v19_4, v19_5, v19_6, v19_7, v19_8, v19_9, v19_10, v19_11, v19_12, v19_13, v19_14, v19_15, v19_16, v19_17, .ref q_1918, v19_19, v19_20, v19_21, v19_22, v19_23, v19_24, v19_25, v19_26, v19_27, v19_28, v19_29, v19_30, v19_31, v19_32, v19_33, v19_34, v19_35, v19_36, v19_37, v19_38, v19_39, v19_40])), (q_1918, .inl (cA_1918, 1002, .inl (fun j : Nat => zI (a19_becomes (j : Int))))), (hc, .inr (12, [v13_0, v13_1, v13_2, v13_3, v13_4, .ref la, v13_6]))]) (rx := []) (pl := va_pl L (pE P120)) (pl1 := va_pl L (pE P120)) hP hD [] [0, 1, 2] rfl rfl (by decide) (by decide) hk1 hFc hP1 hD1
                  have hK := (hK.sub (tys' := [(cA_1918, .int), (cI, .int), (cZ, .boolean)]) [0, 1, 2] rfl).app hK1
                  generalize H1 = H at hP hS ⊢
                  have hP : va_P (dC, dI) vwQ ([(h0, .inr (16, [v19_0, v19_1, v19_2, v19_3, v19_4, v19_5, v19_6, v19_7, v19_8, v19_9, v19_10, v19_11, v19_12, v19_13, v19_14, v19_15, v19_16, v19_17, .ref q_1918, v19_19, v19_20, v19_21, v19_22, v19_23, v19_24, v19_25, v19_26, v19_27, v19_28, v19_29, v19_30, v19_31, v19_32, v19_33, v19_34, v19_35, v19_36, v19_37, v19_38, v19_39, v19_40])), (q_1918, .inl (cA_1918, 1002, .inl (fun j : Nat => zI (a19_becomes (j : Int))))), (hc, .inr (12, [v13_0, v13_1, v13_2, v13_3, v13_4, .ref la, v13_6]))] ++ va_pl L (pE P120)) H := hP
                  have hD : va_D A ([(h0, .inr (16, [v19_0, v19_1, v19_2, v19_3, v19_4, v19_5, v19_6, v19_7, v19_8, v19_9, v19_10, v19_11, v19_12, v19_13, v19_14, v19_15, v19_16, v19_17, .ref q_1918, v19_19, v19_20, v19_21, v19_22, v19_23, v19_24, v19_25, v19_26, v19_27, v19_28, v19_29, v19_30, v19_31, v19_32, v19_33, v19_34, v19_35, v19_36, v19_37, v19_38, v19_39, v19_40])), (q_1918, .inl (cA_1918, 1002, .inl (fun j : Nat => zI (a19_becomes (j : Int))))), (hc, .inr (12, [v13_0, v13_1, v13_2, v13_3, v13_4, .ref la, v13_6]))] ++ va_pl L (pE P120)) := hD
                  have hK : va_K (dC, dI) vwQ [(cA_1918, .int), (cI, .int), (cZ, .boolean), (cO, .object "java/lang/Object")] s := hK
                  refine W.widen (k := 0) (n := 0) (Nat.le_of_ble_eq_true rfl) (Nat.le_of_ble_eq_true rfl) ?_
                  obtain rfl : r_2031 = (zI (P120.lz pr_2028)) := hw
                  refine lv_icmp_ge (tgt := 154) hx hb dX19_become_129 (by decide) (fun b129 => ?_) (fun b129 => ?_)
                  · have yb129 : (P120.lz pr_2028 : Int) ≤ (d120_4 : Int) := (zI_le (a := P120.lz pr_2028) (b := d120_4) (by omega) (by omega) (by omega) (by omega)).mp b129
                    refine lv_aload_n hx hb dX19_become_154 rfl (lv_at hl 0 rfl) ?_
                    refine lv_aload_n hx hb dX19_become_155 rfl (lv_at hl 3 rfl) ?_
                    obtain ⟨kp_2032, hkp_2032⟩ := va_pl_get (X := [(h0, .inr (16, [v19_0, v19_1, v19_2, v19_3, v19_4, v19_5, v19_6, v19_7, v19_8, v19_9, v19_10, v19_11, v19_12, v19_13, v19_14, v19_15, v19_16, v19_17, .ref q_1918, v19_19, v19_20, v19_21, v19_22, v19_23, v19_24, v19_25, v19_26, v19_27, v19_28, v19_29, v19_30, v19_31, v19_32, v19_33, v19_34, v19_35, v19_36, v19_37, v19_38, v19_39, v19_40])), (q_1918, .inl (cA_1918, 1002, .inl (fun j : Nat => zI (a19_becomes (j : Int))))), (hc, .inr (12, [v13_0, v13_1, v13_2, v13_3, v13_4, .ref la, v13_6]))]) (f := pE P120) hq_2020.1
                    rw [pE_block hq_2020.2] at hkp_2032
                    refine va_get (D := (dC, dI)) (ci := 19) (v := .ref (P120.be xb_2005)) (C := RX12) (T := TX12) (N := 5) hx hb hts mem_P19_becomeAll_2 hown hK hP kp_2032 hkp_2032 rfl 2 (by decide) (ow (k := 13) rfl) (fun _ h9 => h9) rfl dX19_become_156 ?_
                    obtain ⟨pr_2033, epr_2033⟩ : ∃ q9 : Nat, q9 = P120.be xb_2005 := ⟨_, rfl⟩
                    rw [← epr_2033]
                    have hbe_2034 : pr_2033 ∈ L ∧ P120.kd pr_2033 = 17 := (by rw [epr_2033]; exact (aP120.inb hi_2022).2.2.2.1)
                    have hzl : P.lz (P.br (P.el la (d2_2))) = P120.lz pr_2028 := (by rw [← hyi, ← jv120.br xb_2005, epr_2028.symm]; exact (jv120.1.2.2 pr_2028 ((jv120.kd pr_2028).symm.trans hlk_2029.2.1)).symm)
                    have hlr9 := hzl
                    have hxi_2036 : pr_2033 = P.be (P.el la (d2_2)) := (by rw [← hyi, ← jv120.be xb_2005]; exact (epr_2033.symm).symm)
                    have hfr_2035 : ¬ VST P la (d2_2) 40000 (d120_4) pr_2033 := (by rw [hxi_2036]; exact VST.nend hX_N hX_a9 (by omega) (by omega))
                    have hX_w : RWB P120 a19_becomes pr_2033 := (by have q9 := (hX_O (d2_2) (by omega) (by omega)).2.2; rw [← hxi_2036] at q9; exact q9.same (jv120.2.1 pr_2033 hfr_2035))
                    have hX_x := hbe_2034.1
                    have hX_k := hbe_2034.2
                    have hX_r := aP120.rok hbe_2034.1 hbe_2034.2
                    have ⟨hr1, hr2, hr3, hr4, hr5, hr6, hr7, hr8, hr9⟩ := aP120.rok hbe_2034.1 hbe_2034.2
                    have hPc := hP.part (X := [(h0, .inr (16, [v19_0, v19_1, v19_2, v19_3, v19_4, v19_5, v19_6, v19_7, v19_8, v19_9, v19_10, v19_11, v19_12, v19_13, v19_14, v19_15, v19_16, v19_17, .ref q_1918, v19_19, v19_20, v19_21, v19_22, v19_23, v19_24, v19_25, v19_26, v19_27, v19_28, v19_29, v19_30, v19_31, v19_32, v19_33, v19_34, v19_35, v19_36, v19_37, v19_38, v19_39, v19_40])), (q_1918, .inl (cA_1918, 1002, .inl (fun j : Nat => zI (a19_becomes (j : Int))))), (hc, .inr (12, [v13_0, v13_1, v13_2, v13_3, v13_4, .ref la, v13_6]))]) (cx := [(h0, .inr (16, [v19_0, v19_1, v19_2, v19_3, v19_4, v19_5, v19_6, v19_7, v19_8, v19_9, v19_10, v19_11, v19_12, v19_13, v19_14, v19_15, v19_16, v19_17, .ref q_1918, v19_19, v19_20, v19_21, v19_22, v19_23, v19_24, v19_25, v19_26, v19_27, v19_28, v19_29, v19_30, v19_31, v19_32, v19_33, v19_34, v19_35, v19_36, v19_37, v19_38, v19_39, v19_40])), (q_1918, .inl (cA_1918, 1002, .inl (fun j : Nat => zI (a19_becomes (j : Int)))))]) (pl := va_pl L (pE P120)) [0, 1] rfl
                    have hDc := hD.part (X := [(h0, .inr (16, [v19_0, v19_1, v19_2, v19_3, v19_4, v19_5, v19_6, v19_7, v19_8, v19_9, v19_10, v19_11, v19_12, v19_13, v19_14, v19_15, v19_16, v19_17, .ref q_1918, v19_19, v19_20, v19_21, v19_22, v19_23, v19_24, v19_25, v19_26, v19_27, v19_28, v19_29, v19_30, v19_31, v19_32, v19_33, v19_34, v19_35, v19_36, v19_37, v19_38, v19_39, v19_40])), (q_1918, .inl (cA_1918, 1002, .inl (fun j : Nat => zI (a19_becomes (j : Int))))), (hc, .inr (12, [v13_0, v13_1, v13_2, v13_3, v13_4, .ref la, v13_6]))]) (cx := [(h0, .inr (16, [v19_0, v19_1, v19_2, v19_3, v19_4, v19_5, v19_6, v19_7, v19_8, v19_9, v19_10, v19_11, v19_12, v19_13, v19_14, v19_15, v19_16, v19_17, .ref q_1918, v19_19, v19_20, v19_21, v19_22, v19_23, v19_24, v19_25, v19_26, v19_27, v19_28, v19_29, v19_30, v19_31, v19_32, v19_33, v19_34, v19_35, v19_36, v19_37, v19_38, v19_39, v19_40])), (q_1918, .inl (cA_1918, 1002, .inl (fun j : Nat => zI (a19_becomes (j : Int)))))]) (pl := va_pl L (pE P120)) [0, 1] (by decide) rfl
                    have hKc := hK.sub (tys' := [(cA_1918, .int), (cO, .object "java/lang/Object")]) [0, 3] rfl
                    have hFc := va_freeP (X := [(h0, .inr (16, [v19_0, v19_1, v19_2, v19_3, v19_4, v19_5, v19_6, v19_7, v19_8, v19_9, v19_10, v19_11, v19_12, v19_13, v19_14, v19_15, v19_16, v19_17, .ref q_1918, v19_19, v19_20, v19_21, v19_22, v19_23, v19_24, v19_25, v19_26, v19_27, v19_28, v19_29, v19_30, v19_31, v19_32, v19_33, v19_34, v19_35, v19_36, v19_37, v19_38, v19_39, v19_40])), (q_1918, .inl (cA_1918, 1002, .inl (fun j : Nat => zI (a19_becomes (j : Int))))), (hc, .inr (12, [v13_0, v13_1, v13_2, v13_3, v13_4, .ref la, v13_6]))]) (cx := [(h0, .inr (16, [v19_0, v19_1, v19_2, v19_3, v19_4, v19_5, v19_6, v19_7, v19_8, v19_9, v19_10, v19_11, v19_12, v19_13, v19_14, v19_15, v19_16, v19_17, .ref q_1918, v19_19, v19_20, v19_21, v19_22, v19_23, v19_24, v19_25, v19_26, v19_27, v19_28, v19_29, v19_30, v19_31, v19_32, v19_33, v19_34, v19_35, v19_36, v19_37, v19_38, v19_39, v19_40])), (q_1918, .inl (cA_1918, 1002, .inl (fun j : Nat => zI (a19_becomes (j : Int)))))]) (pl := va_pl L (pE P120)) hD hS hA [0, 1] rfl
                    refine va_callv (va_runV (As := [.ref pr_2033]) (rest := []) ⟨hx, hb, hml, hown, hts⟩ (c_P19_becomeRow l dC dI h0 v19_0 v19_1 v19_2 v19_3 v19_4 v19_5 v19_6 v19_7 v19_8 v19_9 v19_10 v19_11 v19_12 v19_13 v19_14 v19_15 v19_16 v19_17 q_1918 cA_1918 a19_becomes v19_19 v19_20 v19_21 v19_22 v19_23 v19_24 v19_25 v19_26 v19_27 v19_28 v19_29 v19_30 v19_31 v19_32 v19_33 v19_34 v19_35 v19_36 v19_37 v19_38 v19_39 v19_40 cO L P120 pr_2033 hR_a19_becomes hX_x hX_k hX_r hX_w H.size) (cwV 1 hts g_P19_becomeAll_P19_becomeRow rfl rfl rfl (by decide +kernel) ⟨(Nat.le_of_ble_eq_true rfl), (Nat.le_of_ble_eq_true rfl)⟩) ⟨fun a U g mk q => by obtain ⟨q0, q1, qP, qK, qD⟩ := q; exact ⟨q0, q1, qP, va_K.moved (u := U) (U := U.calling g mk a) (Vm.Alike.refl U.vm) qK, qD⟩, va_recv hKc hPc (ci := 16) (q0 := 0) rfl rfl, fun U hU hW => ⟨rfl, by rw [hU], by rw [hU]; exact hPc, va_K.moved hW.alike hKc, hDc.weaken (fun _ _ _ _ => trivial)⟩⟩ rfl rfl hl.1 rfl (lv_room (Nat.le_of_ble_eq_true rfl)) dX19_become_159 ⟨(Nat.le_of_ble_eq_true rfl), (Nat.le_of_ble_eq_true rfl)⟩) hS (fun q _ h => hFc q h) hFc (fun  u t H1 locs ht hvm hw hB hz1 hk1 hS => ?_)
                    obtain ⟨Pn_2037, hxt_2037, hP1, hK1, hD1⟩ := hB
                    rw [ht] at hP1
                    have hK1 := va_K.moved hvm.symm hK1
                    obtain ⟨hP, hD⟩ := va_joinP (X := [(h0, .inr (16, [v19_0, v19_1, v19_2, v19_3, v19_4, v19_5, v19_6, v19_7, v19_8, v19_9, v19_10, v19_11, v19_12, v19_13, v19_14, v19_15, v19_16, v19_17, .ref q_1918, v19_19, v19_20, v19_21, v19_22, v19_23, v19_24, v19_25, v19_26, v19_27, v19_28, v19_29, v19_30, v19_31, v19_32, v19_33, v19_34, v19_35, v19_36, v19_37, v19_38, v19_39, v19_40])), (q_1918, .inl (cA_1918, 1002, .inl (fun j : Nat => zI (a19_becomes (j : Int))))), (hc, .inr (12, [v13_0, v13_1, v13_2, v13_3, v13_4, .ref la, v13_6]))]) (cx := [(h0, .inr (16, [v19_0, v19_1, v19_2, v19_3, v19_4, v19_5, v19_6, v19_7, v19_8, v19_9, v19_10, v19_11, v19_12, v19_13, v19_14, v19_15, v19_16, v19_17, .ref q_1918, v19_19, v19_20, v19_21, v19_22, v19_23, v19_24, v19_25, v19_26, v19_27, v19_28, v19_29, v19_30, v19_31, v19_32, v19_33, v19_34, v19_35, v19_36, v19_37, v19_38, v19_39, v19_40])), (q_1918, .inl (cA_1918, 1002, .inl (fun j : Nat => zI (a19_becomes (j : Int)))))]) (wr := [(hc, .inr (12, [v13_0, v13_1, v13_2, v13_3, v13_4, .ref la, v13_6]))]) (rx := [(h0, .inr (16, [v19_0, v19_1, v19_2, v19_3, v19_4, v19_5, v19_6, v19_7, v19_8, v19_9, v19_10, v19_11, v19_12, v19_13, v19_14, v19_15, v19_16, v19_17, .ref q_1918, v19_19, v19_20, v19_21, v19_22, v19_23, v19_24, v19_25, v19_26, v19_27, v19_28, v19_29, v19_30, v19_31, v19_32, v19_33, v19_34, v19_35, v19_36, v19_37, v19_38, v19_39, v19_40])), (q_1918, .inl (cA_1918, 1002, .inl (fun j : Nat => zI (a19_becomes (j : Int)))))]) (pl := va_pl L (pE P120)) (pl1 := va_pl L (pE Pn_2037)) hP hD [0, 1] [2] rfl rfl (by decide) (by decide) hk1 hFc hP1 hD1
                    have hK := (hK.sub (tys' := [(cI, .int), (cZ, .boolean)]) [1, 2] rfl).app hK1
                    generalize H1 = H at hP hS ⊢
                    have hP : va_P (dC, dI) vwQ ([(hc, .inr (12, [v13_0, v13_1, v13_2, v13_3, v13_4, .ref la, v13_6])), (h0, .inr (16, [v19_0, v19_1, v19_2, v19_3, v19_4, v19_5, v19_6, v19_7, v19_8, v19_9, v19_10, v19_11, v19_12, v19_13, v19_14, v19_15, v19_16, v19_17, .ref q_1918, v19_19, v19_20, v19_21, v19_22, v19_23, v19_24, v19_25, v19_26, v19_27, v19_28, v19_29, v19_30, v19_31, v19_32, v19_33, v19_34, v19_35, v19_36, v19_37, v19_38, v19_39, v19_40])), (q_1918, .inl (cA_1918, 1002, .inl (fun j : Nat => zI (a19_becomes (j : Int)))))] ++ va_pl L (pE Pn_2037)) H := hP
                    have hD : va_D A ([(hc, .inr (12, [v13_0, v13_1, v13_2, v13_3, v13_4, .ref la, v13_6])), (h0, .inr (16, [v19_0, v19_1, v19_2, v19_3, v19_4, v19_5, v19_6, v19_7, v19_8, v19_9, v19_10, v19_11, v19_12, v19_13, v19_14, v19_15, v19_16, v19_17, .ref q_1918, v19_19, v19_20, v19_21, v19_22, v19_23, v19_24, v19_25, v19_26, v19_27, v19_28, v19_29, v19_30, v19_31, v19_32, v19_33, v19_34, v19_35, v19_36, v19_37, v19_38, v19_39, v19_40])), (q_1918, .inl (cA_1918, 1002, .inl (fun j : Nat => zI (a19_becomes (j : Int)))))] ++ va_pl L (pE Pn_2037)) := hD
                    have hK : va_K (dC, dI) vwQ [(cI, .int), (cZ, .boolean), (cA_1918, .int), (cO, .object "java/lang/Object")] s := hK
                    refine W.widen (k := 0) (n := 0) (Nat.le_of_ble_eq_true rfl) (Nat.le_of_ble_eq_true rfl) ?_
                    have hu_2038 := hxt_2037
                    have hrw_2039 : RWD P120 Pn_2037 := hu_2038.1.rwd (Or.inl hbe_2034.2)
                    have hke_2040 : KEP [] L P120 L Pn_2037 la := hrw_2039.kep _ hq_2019.2
                    have hak_2041 : ALP L Pn_2037 cO cI cZ sx_ed la := aP120.row hu_2038.1 hbe_2034.2 hu_2038.2.1 (fun e9 => by rw [hu_2038.2.2.1]; exact aP120.op21 hbe_2034.1 hbe_2034.2 e9)
                    have hq_2042 : la ∈ L ∧ Pn_2037.kd la = 30 := hke_2040.mem hq_2019.1 hq_2019.2 (by decide)
                    have hq_2043 : xb_2005 ∈ L ∧ Pn_2037.kd xb_2005 = 12 := hke_2040.mem hq_2020.1 hq_2020.2 (by decide)
                    have hq_2044 : pr_2015 ∈ L ∧ Pn_2037.kd pr_2015 = 30 := hke_2040.mem hq_2021.1 hq_2021.2 (by decide)
                    have hq_2045 : pr_2028 ∈ L ∧ Pn_2037.kd pr_2028 = 30 := hke_2040.mem hlk_2029.1 hlk_2029.2.1 (by decide)
                    have hq_2046 : pr_2033 ∈ L ∧ Pn_2037.kd pr_2033 = 17 := hke_2040.mem hbe_2034.1 hbe_2034.2 (by decide)
                    have hi_2047 : INB Pn_2037 la xb_2005 := hke_2040.inb hi_2022
                    have ha_2048 : Pn_2037.bp xb_2005 = pr_2015 := hke_2040.bp hq_2020.1 hq_2020.2 ha_2023
                    have ha_2049 : Pn_2037.br xb_2005 = pr_2028 := hke_2040.br hq_2020.1 hq_2020.2 epr_2028.symm
                    have ha_2050 : Pn_2037.be xb_2005 = pr_2033 := hke_2040.be hq_2020.1 hq_2020.2 epr_2033.symm
                    have hz9 := hke_2040.2.2.1
                    have hA_2051 : KEP [] L P L Pn_2037 la := hA_2024.trans hke_2040
                    have hA_2052 : KEP [] L P2 L Pn_2037 la := hA_2025.trans hke_2040
                    have hA_2053 : KEP [] L P19 L Pn_2037 la := hA_2026.trans hke_2040
                    have hA_2054 : KEP [] L P120 L Pn_2037 la := (KEP.refl [] L P120 la).trans hke_2040
                    have : Pn_2037.lz la = P120.lz la := hrw_2039.lz hq_2019.2
                    have : Pn_2037.lz pr_2015 = P120.lz pr_2015 := hrw_2039.lz hq_2021.2
                    have : Pn_2037.lz pr_2028 = P120.lz pr_2028 := hrw_2039.lz hlk_2029.2.1
                    have ht9 := hrw_2039.tot aP120 2 (Or.inr rfl)
                    have ht8 := hrw_2039.tot aP120 1 (Or.inl rfl)
                    have huv_2055 : UNV P Pn_2037 (VST P la (d2_2 + 1) 0 0) := jv120.step hu_2038.1.ph1 (by rw [((jv120.kd pr_2033).symm.trans hbe_2034.2)]; decide) (fun z q => q.next) (by rw [hxi_2036]; exact VST.aend (by omega) (by omega))
                    have hbp4 := (hX_a9.inb ⟨d2_2, by omega, by omega, rfl⟩).2.2.1.2.2.1
                    have hdn_2056 : DON P Pn_2037 a19_becomes (VST P la (d2_2 + 1) 0 0) := (jd120.keep (fun z v k => hX_a9.vpik z v k) hu_2038.1.ph1 (fun a => jv120.ow a) hfr_2035).add (fun z q => by rw [hxi_2036]; exact q.blk (by omega) (by omega)) ⟨fun _ => hu_2038.2.2.2.2.pre (jv120.2.1 pr_2033 hfr_2035), fun q9 => absurd q9 (by rw [((jv120.kd pr_2033).symm.trans hbe_2034.2)]; decide)⟩
                    refine lv_iinc (v := zI (d2_2 + 1)) (lv' := [(2, .int (zI (d2_2 + 1))), (0, .ref h0), (1, .ref hc), (3, .ref xb_2005), (4, .int (zI (d120_4)))]) hx hb dX19_become_162 hl (k := 2) rfl (zI_add (d2_2) (1)) (by decide) rfl (fun ls hl => ?_)
                    refine lv_goto (tgt := 2) hx hb dX19_become_165 (by decide) ?_
                    have hP := hP.part (X := [(hc, .inr (12, [v13_0, v13_1, v13_2, v13_3, v13_4, .ref la, v13_6])), (h0, .inr (16, [v19_0, v19_1, v19_2, v19_3, v19_4, v19_5, v19_6, v19_7, v19_8, v19_9, v19_10, v19_11, v19_12, v19_13, v19_14, v19_15, v19_16, v19_17, .ref q_1918, v19_19, v19_20, v19_21, v19_22, v19_23, v19_24, v19_25, v19_26, v19_27, v19_28, v19_29, v19_30, v19_31, v19_32, v19_33, v19_34, v19_35, v19_36, v19_37, v19_38, v19_39, v19_40])), (q_1918, .inl (cA_1918, 1002, .inl (fun j : Nat => zI (a19_becomes (j : Int)))))]) (cx := [(h0, .inr (16, [v19_0, v19_1, v19_2, v19_3, v19_4, v19_5, v19_6, v19_7, v19_8, v19_9, v19_10, v19_11, v19_12, v19_13, v19_14, v19_15, v19_16, v19_17, .ref q_1918, v19_19, v19_20, v19_21, v19_22, v19_23, v19_24, v19_25, v19_26, v19_27, v19_28, v19_29, v19_30, v19_31, v19_32, v19_33, v19_34, v19_35, v19_36, v19_37, v19_38, v19_39, v19_40])), (q_1918, .inl (cA_1918, 1002, .inl (fun j : Nat => zI (a19_becomes (j : Int))))), (hc, .inr (12, [v13_0, v13_1, v13_2, v13_3, v13_4, .ref la, v13_6]))]) (pl := va_pl L (pE Pn_2037)) [1, 2, 0] rfl
                    have hD := hD.part (X := [(hc, .inr (12, [v13_0, v13_1, v13_2, v13_3, v13_4, .ref la, v13_6])), (h0, .inr (16, [v19_0, v19_1, v19_2, v19_3, v19_4, v19_5, v19_6, v19_7, v19_8, v19_9, v19_10, v19_11, v19_12, v19_13, v19_14, v19_15, v19_16, v19_17, .ref q_1918, v19_19, v19_20, v19_21, v19_22, v19_23, v19_24, v19_25, v19_26, v19_27, v19_28, v19_29, v19_30, v19_31, v19_32, v19_33, v19_34, v19_35, v19_36, v19_37, v19_38, v19_39, v19_40])), (q_1918, .inl (cA_1918, 1002, .inl (fun j : Nat => zI (a19_becomes (j : Int)))))]) (cx := [(h0, .inr (16, [v19_0, v19_1, v19_2, v19_3, v19_4, v19_5, v19_6, v19_7, v19_8, v19_9, v19_10, v19_11, v19_12, v19_13, v19_14, v19_15, v19_16, v19_17, .ref q_1918, v19_19, v19_20, v19_21, v19_22, v19_23, v19_24, v19_25, v19_26, v19_27, v19_28, v19_29, v19_30, v19_31, v19_32, v19_33, v19_34, v19_35, v19_36, v19_37, v19_38, v19_39, v19_40])), (q_1918, .inl (cA_1918, 1002, .inl (fun j : Nat => zI (a19_becomes (j : Int))))), (hc, .inr (12, [v13_0, v13_1, v13_2, v13_3, v13_4, .ref la, v13_6]))]) (pl := va_pl L (pE Pn_2037)) [1, 2, 0] (by decide) rfl
                    exact ih2 (d2_2 + 1) Pn_2037 ls H _ (by omega) (kP2.trans hA_2052) hak_2041 (by omega) huv_2055 hdn_2056 (by omega) (lv_sub hl [1, 2, 0] rfl) hP hD hS
                  · have yb129 : ¬ (P120.lz pr_2028 : Int) ≤ (d120_4 : Int) := fun q => b129 ((zI_le (a := P120.lz pr_2028) (b := d120_4) (by omega) (by omega) (by omega) (by omega)).mpr q)
                    refine lv_aload_n hx hb dX19_become_132 rfl (lv_at hl 0 rfl) ?_
                    refine lv_aload_n hx hb dX19_become_133 rfl (lv_at hl 3 rfl) ?_
                    obtain ⟨kp_2057, hkp_2057⟩ := va_pl_get (X := [(h0, .inr (16, [v19_0, v19_1, v19_2, v19_3, v19_4, v19_5, v19_6, v19_7, v19_8, v19_9, v19_10, v19_11, v19_12, v19_13, v19_14, v19_15, v19_16, v19_17, .ref q_1918, v19_19, v19_20, v19_21, v19_22, v19_23, v19_24, v19_25, v19_26, v19_27, v19_28, v19_29, v19_30, v19_31, v19_32, v19_33, v19_34, v19_35, v19_36, v19_37, v19_38, v19_39, v19_40])), (q_1918, .inl (cA_1918, 1002, .inl (fun j : Nat => zI (a19_becomes (j : Int))))), (hc, .inr (12, [v13_0, v13_1, v13_2, v13_3, v13_4, .ref la, v13_6]))]) (f := pE P120) hq_2020.1
                    rw [pE_block hq_2020.2] at hkp_2057
                    refine va_get (D := (dC, dI)) (ci := 19) (v := .ref (P120.br xb_2005)) (C := RX12) (T := TX12) (N := 5) hx hb hts mem_P19_becomeAll_2 hown hK hP kp_2057 hkp_2057 rfl 1 (by decide) (ow (k := 12) rfl) (fun _ h9 => h9) rfl dX19_become_134 ?_
                    obtain ⟨pr_2058, epr_2058⟩ : ∃ q9 : Nat, q9 = P120.br xb_2005 := ⟨_, rfl⟩
                    rw [← epr_2058]
                    obtain rfl : pr_2028 = pr_2058 := (by rw [epr_2058]; exact epr_2028.symm.symm)
                    refine lv_iload hx hb dX19_become_137 (lv_at hl 4 rfl) ?_
                    have hlk_2059 := (show LOK L P120 cO 17 pr_2028 from (by rw [← epr_2028.symm]; exact (aP120.inb hi_2022).2.1))
                    obtain ⟨x, ex⟩ : ∃ q9 : Nat, q9 = P120.el pr_2028 (d120_4) := ⟨_, rfl⟩
                    have hX_x := hlk_2059.1
                    have hX_k := hlk_2059.2.1
                    have hq9 := hlk_2059.row (i := d120_4) (by omega) (by omega)
                    have hX_q : P120.le pr_2028 ∈ L ∧ P120.kd (P120.le pr_2028) = 31 ∧ P120.ac (P120.le pr_2028) = cO := ⟨hq9.1, hq9.2.1, hq9.2.2.1⟩
                    have hq8 := hq9.2.2.2
                    have hX_e0 : P120.oa (P120.le pr_2028) (d120_4).toNat = some x := (by rw [ex]; exact (hlk_2059.2.2.2.2 (d120_4) (by omega) (by omega)).1)
                    have hxm : x ∈ L := (by rw [ex]; exact (hlk_2059.2.2.2.2 (d120_4) (by omega) (by omega)).2.1)
                    have hxk := (hlk_2059.2.2.2.2 (d120_4) (by omega) (by omega)).2.2
                    rw [← ex] at hxk
                    have hPc := hP.part (X := [(h0, .inr (16, [v19_0, v19_1, v19_2, v19_3, v19_4, v19_5, v19_6, v19_7, v19_8, v19_9, v19_10, v19_11, v19_12, v19_13, v19_14, v19_15, v19_16, v19_17, .ref q_1918, v19_19, v19_20, v19_21, v19_22, v19_23, v19_24, v19_25, v19_26, v19_27, v19_28, v19_29, v19_30, v19_31, v19_32, v19_33, v19_34, v19_35, v19_36, v19_37, v19_38, v19_39, v19_40])), (q_1918, .inl (cA_1918, 1002, .inl (fun j : Nat => zI (a19_becomes (j : Int))))), (hc, .inr (12, [v13_0, v13_1, v13_2, v13_3, v13_4, .ref la, v13_6]))]) (cx := []) (pl := va_pl L (pE P120)) [] rfl
                    have hDc := hD.part (X := [(h0, .inr (16, [v19_0, v19_1, v19_2, v19_3, v19_4, v19_5, v19_6, v19_7, v19_8, v19_9, v19_10, v19_11, v19_12, v19_13, v19_14, v19_15, v19_16, v19_17, .ref q_1918, v19_19, v19_20, v19_21, v19_22, v19_23, v19_24, v19_25, v19_26, v19_27, v19_28, v19_29, v19_30, v19_31, v19_32, v19_33, v19_34, v19_35, v19_36, v19_37, v19_38, v19_39, v19_40])), (q_1918, .inl (cA_1918, 1002, .inl (fun j : Nat => zI (a19_becomes (j : Int))))), (hc, .inr (12, [v13_0, v13_1, v13_2, v13_3, v13_4, .ref la, v13_6]))]) (cx := []) (pl := va_pl L (pE P120)) [] (by decide) rfl
                    have hKc := hK.sub (tys' := [(cO, .object "java/lang/Object")]) [3] rfl
                    have hFc := va_freeP (X := [(h0, .inr (16, [v19_0, v19_1, v19_2, v19_3, v19_4, v19_5, v19_6, v19_7, v19_8, v19_9, v19_10, v19_11, v19_12, v19_13, v19_14, v19_15, v19_16, v19_17, .ref q_1918, v19_19, v19_20, v19_21, v19_22, v19_23, v19_24, v19_25, v19_26, v19_27, v19_28, v19_29, v19_30, v19_31, v19_32, v19_33, v19_34, v19_35, v19_36, v19_37, v19_38, v19_39, v19_40])), (q_1918, .inl (cA_1918, 1002, .inl (fun j : Nat => zI (a19_becomes (j : Int))))), (hc, .inr (12, [v13_0, v13_1, v13_2, v13_3, v13_4, .ref la, v13_6]))]) (cx := []) (pl := va_pl L (pE P120)) hD hS hA [] rfl
                    refine va_callr (va_runV (As := [.int (zI (d120_4))]) (rest := [.ref h0]) ⟨hx, hb, hml, hown, hts⟩ (c_PL_get l dC dI cO L P120 pr_2028 d120_4 x hX_x hX_k hX_q (by omega) hX_e0 H.size) (cwV 1 hts g_P19_becomeAll_PL_get rfl rfl rfl (by decide +kernel) ⟨(Nat.le_of_ble_eq_true rfl), (Nat.le_of_ble_eq_true rfl)⟩) ⟨fun a U g mk q => by obtain ⟨q0, q1, qP, qK, qD⟩ := q; exact ⟨q0, q1, qP, va_K.moved (u := U) (U := U.calling g mk a) (Vm.Alike.refl U.vm) qK, qD⟩, recv_30 hKc hPc hlk_2029.1 hlk_2029.2.1, fun U hU hW => ⟨rfl, by rw [hU], by rw [hU]; exact hPc, va_K.moved hW.alike hKc, hDc.weaken (fun _ _ _ _ => trivial)⟩⟩ rfl rfl hl.1 rfl (lv_room (Nat.le_of_ble_eq_true rfl)) dX19_become_139 ⟨(Nat.le_of_ble_eq_true rfl), (Nat.le_of_ble_eq_true rfl)⟩) hS (fun q _ h => hFc q h) hFc (fun u q_2060 t H1 locs ht hvm hw hB hz1 hk1 hS => ?_)
                    obtain ⟨hxt_2060, hP1, hK1, hD1⟩ := hB
                    rw [ht] at hP1
                    have hK1 := va_K.moved hvm.symm hK1
                    obtain ⟨hP, hD⟩ := va_joinP (X := [(h0, .inr (16, [v19_0, v19_1, v19_2, v19_3, v19_4, v19_5, v19_6, v19_7, v19_8, v19_9, v19_10, v19_11, v19_12, v19_13, v19_14, v19_15, v19_16, v19_17, .ref q_1918, v19_19, v19_20, v19_21, v19_22, v19_23, v19_24, v19_25, v19_26, v19_27, v19_28, v19_29, v19_30, v19_31, v19_32, v19_33, v19_34, v19_35, v19_36, v19_37, v19_38, v19_39, v19_40])), (q_1918, .inl (cA_1918, 1002, .inl (fun j : Nat => zI (a19_becomes (j : Int))))), (hc, .inr (12, [v13_0, v13_1, v13_2, v13_3, v13_4, .ref la, v13_6]))]) (cx := []) (wr := [(h0, .inr (16, [v19_0, v19_1, v19_2, v19_3, v19_4, v19_5, v19_6, v19_7, v19_8, v19_9, v19_10, v19_11, v19_12, v19_13, v19_14, v19_15, v19_16, v19_17, .ref q_1918, v19_19, v19_20, v19_21, v19_22, v19_23, v19_24, v19_25, v19_26, v19_27, v19_28, v19_29, v19_30, v19_31, v19_32, v19_33, v19_34, v19_35, v19_36, v19_37, v19_38, v19_39, v19_40])), (q_1918, .inl (cA_1918, 1002, .inl (fun j : Nat => zI (a19_becomes (j : Int))))), (hc, .inr (12, [v13_0, v13_1, v13_2, v13_3, v13_4, .ref la, v13_6]))]) (rx := []) (pl := va_pl L (pE P120)) (pl1 := va_pl L (pE P120)) hP hD [] [0, 1, 2] rfl rfl (by decide) (by decide) hk1 hFc hP1 hD1
                    have hK := (hK.sub (tys' := [(cA_1918, .int), (cI, .int), (cZ, .boolean)]) [0, 1, 2] rfl).app hK1
                    generalize H1 = H at hP hS ⊢
                    have hP : va_P (dC, dI) vwQ ([(h0, .inr (16, [v19_0, v19_1, v19_2, v19_3, v19_4, v19_5, v19_6, v19_7, v19_8, v19_9, v19_10, v19_11, v19_12, v19_13, v19_14, v19_15, v19_16, v19_17, .ref q_1918, v19_19, v19_20, v19_21, v19_22, v19_23, v19_24, v19_25, v19_26, v19_27, v19_28, v19_29, v19_30, v19_31, v19_32, v19_33, v19_34, v19_35, v19_36, v19_37, v19_38, v19_39, v19_40])), (q_1918, .inl (cA_1918, 1002, .inl (fun j : Nat => zI (a19_becomes (j : Int))))), (hc, .inr (12, [v13_0, v13_1, v13_2, v13_3, v13_4, .ref la, v13_6]))] ++ va_pl L (pE P120)) H := hP
                    have hD : va_D A ([(h0, .inr (16, [v19_0, v19_1, v19_2, v19_3, v19_4, v19_5, v19_6, v19_7, v19_8, v19_9, v19_10, v19_11, v19_12, v19_13, v19_14, v19_15, v19_16, v19_17, .ref q_1918, v19_19, v19_20, v19_21, v19_22, v19_23, v19_24, v19_25, v19_26, v19_27, v19_28, v19_29, v19_30, v19_31, v19_32, v19_33, v19_34, v19_35, v19_36, v19_37, v19_38, v19_39, v19_40])), (q_1918, .inl (cA_1918, 1002, .inl (fun j : Nat => zI (a19_becomes (j : Int))))), (hc, .inr (12, [v13_0, v13_1, v13_2, v13_3, v13_4, .ref la, v13_6]))] ++ va_pl L (pE P120)) := hD
                    have hK : va_K (dC, dI) vwQ [(cA_1918, .int), (cI, .int), (cZ, .boolean), (cO, .object "java/lang/Object")] s := hK
                    refine W.widen (k := 0) (n := 0) (Nat.le_of_ble_eq_true rfl) (Nat.le_of_ble_eq_true rfl) ?_
                    rw [hxt_2060]
                    clear hX_e0
                    obtain ⟨xr_2061, h9⟩ : ∃ q9 : Nat, q9 = x := ⟨_, rfl⟩
                    subst h9
                    have hm_2062 := hxm
                    have hk_2063 := hxk
                    have hE_2064 : P120.ek xr_2061 ≠ 1 := (by rw [ex, ← epr_2028.symm]; exact (aP120.2.2.2.1 _ (aP120.2.1.2.2.1 xb_2005 hq_2020.1 hq_2020.2).1.2.2.1 (aP120.2.1.2.2.1 xb_2005 hq_2020.1 hq_2020.2).1.2.2.2).2.2 (aP120.2.1.2.2.1 xb_2005 hq_2020.1 hq_2020.2).1.1 _ (by omega) (by rw [epr_2028.symm]; omega))
                    refine va_castY (C := "SsaForgeModel$Row") (nm := "SsaForgeModel$Row") hx hb hown (ow (k := 21) rfl) hp1 (recv_17 hK hP hm_2062 hk_2063) dX19_become_142 ?_
                    have hzl : P.lz (P.br (P.el la (d2_2))) = P120.lz pr_2028 := (by rw [← hyi, ← jv120.br xb_2005, epr_2028.symm]; exact (jv120.1.2.2 pr_2028 ((jv120.kd pr_2028).symm.trans hlk_2029.2.1)).symm)
                    have hxi_2066 : xr_2061 = P.el (P.br (P.el la (d2_2))) (d120_4) := (by rw [← hyi, ← jv120.br xb_2005, epr_2028.symm, ← jv120.el pr_2028 (d120_4)]; exact ex)
                    have hfr_2065 : ¬ VST P la (d2_2) 40000 (d120_4) xr_2061 := (by rw [hxi_2066]; exact VST.nrow hX_N hX_a9 (by omega) (by omega) (by omega) (by omega))
                    have hX_w : RWB P120 a19_becomes xr_2061 := (by have q9 := (hX_O (d2_2) (by omega) (by omega)).2.1 (d120_4) (by omega) (by omega); rw [← hxi_2066] at q9; exact q9.same (jv120.2.1 xr_2061 hfr_2065))
                    have hlr9 := hzl
                    have hX_x := hm_2062
                    have hX_k := hk_2063
                    have hX_r := aP120.rok hm_2062 hk_2063
                    have ⟨hr1, hr2, hr3, hr4, hr5, hr6, hr7, hr8, hr9⟩ := aP120.rok hm_2062 hk_2063
                    have hPc := hP.part (X := [(h0, .inr (16, [v19_0, v19_1, v19_2, v19_3, v19_4, v19_5, v19_6, v19_7, v19_8, v19_9, v19_10, v19_11, v19_12, v19_13, v19_14, v19_15, v19_16, v19_17, .ref q_1918, v19_19, v19_20, v19_21, v19_22, v19_23, v19_24, v19_25, v19_26, v19_27, v19_28, v19_29, v19_30, v19_31, v19_32, v19_33, v19_34, v19_35, v19_36, v19_37, v19_38, v19_39, v19_40])), (q_1918, .inl (cA_1918, 1002, .inl (fun j : Nat => zI (a19_becomes (j : Int))))), (hc, .inr (12, [v13_0, v13_1, v13_2, v13_3, v13_4, .ref la, v13_6]))]) (cx := [(h0, .inr (16, [v19_0, v19_1, v19_2, v19_3, v19_4, v19_5, v19_6, v19_7, v19_8, v19_9, v19_10, v19_11, v19_12, v19_13, v19_14, v19_15, v19_16, v19_17, .ref q_1918, v19_19, v19_20, v19_21, v19_22, v19_23, v19_24, v19_25, v19_26, v19_27, v19_28, v19_29, v19_30, v19_31, v19_32, v19_33, v19_34, v19_35, v19_36, v19_37, v19_38, v19_39, v19_40])), (q_1918, .inl (cA_1918, 1002, .inl (fun j : Nat => zI (a19_becomes (j : Int)))))]) (pl := va_pl L (pE P120)) [0, 1] rfl
                    have hDc := hD.part (X := [(h0, .inr (16, [v19_0, v19_1, v19_2, v19_3, v19_4, v19_5, v19_6, v19_7, v19_8, v19_9, v19_10, v19_11, v19_12, v19_13, v19_14, v19_15, v19_16, v19_17, .ref q_1918, v19_19, v19_20, v19_21, v19_22, v19_23, v19_24, v19_25, v19_26, v19_27, v19_28, v19_29, v19_30, v19_31, v19_32, v19_33, v19_34, v19_35, v19_36, v19_37, v19_38, v19_39, v19_40])), (q_1918, .inl (cA_1918, 1002, .inl (fun j : Nat => zI (a19_becomes (j : Int))))), (hc, .inr (12, [v13_0, v13_1, v13_2, v13_3, v13_4, .ref la, v13_6]))]) (cx := [(h0, .inr (16, [v19_0, v19_1, v19_2, v19_3, v19_4, v19_5, v19_6, v19_7, v19_8, v19_9, v19_10, v19_11, v19_12, v19_13, v19_14, v19_15, v19_16, v19_17, .ref q_1918, v19_19, v19_20, v19_21, v19_22, v19_23, v19_24, v19_25, v19_26, v19_27, v19_28, v19_29, v19_30, v19_31, v19_32, v19_33, v19_34, v19_35, v19_36, v19_37, v19_38, v19_39, v19_40])), (q_1918, .inl (cA_1918, 1002, .inl (fun j : Nat => zI (a19_becomes (j : Int)))))]) (pl := va_pl L (pE P120)) [0, 1] (by decide) rfl
                    have hKc := hK.sub (tys' := [(cA_1918, .int), (cO, .object "java/lang/Object")]) [0, 3] rfl
                    have hFc := va_freeP (X := [(h0, .inr (16, [v19_0, v19_1, v19_2, v19_3, v19_4, v19_5, v19_6, v19_7, v19_8, v19_9, v19_10, v19_11, v19_12, v19_13, v19_14, v19_15, v19_16, v19_17, .ref q_1918, v19_19, v19_20, v19_21, v19_22, v19_23, v19_24, v19_25, v19_26, v19_27, v19_28, v19_29, v19_30, v19_31, v19_32, v19_33, v19_34, v19_35, v19_36, v19_37, v19_38, v19_39, v19_40])), (q_1918, .inl (cA_1918, 1002, .inl (fun j : Nat => zI (a19_becomes (j : Int))))), (hc, .inr (12, [v13_0, v13_1, v13_2, v13_3, v13_4, .ref la, v13_6]))]) (cx := [(h0, .inr (16, [v19_0, v19_1, v19_2, v19_3, v19_4, v19_5, v19_6, v19_7, v19_8, v19_9, v19_10, v19_11, v19_12, v19_13, v19_14, v19_15, v19_16, v19_17, .ref q_1918, v19_19, v19_20, v19_21, v19_22, v19_23, v19_24, v19_25, v19_26, v19_27, v19_28, v19_29, v19_30, v19_31, v19_32, v19_33, v19_34, v19_35, v19_36, v19_37, v19_38, v19_39, v19_40])), (q_1918, .inl (cA_1918, 1002, .inl (fun j : Nat => zI (a19_becomes (j : Int)))))]) (pl := va_pl L (pE P120)) hD hS hA [0, 1] rfl
                    refine va_callv (va_runV (As := [.ref xr_2061]) (rest := []) ⟨hx, hb, hml, hown, hts⟩ (c_P19_becomeRow l dC dI h0 v19_0 v19_1 v19_2 v19_3 v19_4 v19_5 v19_6 v19_7 v19_8 v19_9 v19_10 v19_11 v19_12 v19_13 v19_14 v19_15 v19_16 v19_17 q_1918 cA_1918 a19_becomes v19_19 v19_20 v19_21 v19_22 v19_23 v19_24 v19_25 v19_26 v19_27 v19_28 v19_29 v19_30 v19_31 v19_32 v19_33 v19_34 v19_35 v19_36 v19_37 v19_38 v19_39 v19_40 cO L P120 xr_2061 hR_a19_becomes hX_x hX_k hX_r hX_w H.size) (cwV 1 hts g_P19_becomeAll_P19_becomeRow rfl rfl rfl (by decide +kernel) ⟨(Nat.le_of_ble_eq_true rfl), (Nat.le_of_ble_eq_true rfl)⟩) ⟨fun a U g mk q => by obtain ⟨q0, q1, qP, qK, qD⟩ := q; exact ⟨q0, q1, qP, va_K.moved (u := U) (U := U.calling g mk a) (Vm.Alike.refl U.vm) qK, qD⟩, va_recv hKc hPc (ci := 16) (q0 := 0) rfl rfl, fun U hU hW => ⟨rfl, by rw [hU], by rw [hU]; exact hPc, va_K.moved hW.alike hKc, hDc.weaken (fun _ _ _ _ => trivial)⟩⟩ rfl rfl hl.1 rfl (lv_room (Nat.le_of_ble_eq_true rfl)) dX19_become_145 ⟨(Nat.le_of_ble_eq_true rfl), (Nat.le_of_ble_eq_true rfl)⟩) hS (fun q _ h => hFc q h) hFc (fun  u t H1 locs ht hvm hw hB hz1 hk1 hS => ?_)
                    obtain ⟨Pn_2067, hxt_2067, hP1, hK1, hD1⟩ := hB
                    rw [ht] at hP1
                    have hK1 := va_K.moved hvm.symm hK1
                    obtain ⟨hP, hD⟩ := va_joinP (X := [(h0, .inr (16, [v19_0, v19_1, v19_2, v19_3, v19_4, v19_5, v19_6, v19_7, v19_8, v19_9, v19_10, v19_11, v19_12, v19_13, v19_14, v19_15, v19_16, v19_17, .ref q_1918, v19_19, v19_20, v19_21, v19_22, v19_23, v19_24, v19_25, v19_26, v19_27, v19_28, v19_29, v19_30, v19_31, v19_32, v19_33, v19_34, v19_35, v19_36, v19_37, v19_38, v19_39, v19_40])), (q_1918, .inl (cA_1918, 1002, .inl (fun j : Nat => zI (a19_becomes (j : Int))))), (hc, .inr (12, [v13_0, v13_1, v13_2, v13_3, v13_4, .ref la, v13_6]))]) (cx := [(h0, .inr (16, [v19_0, v19_1, v19_2, v19_3, v19_4, v19_5, v19_6, v19_7, v19_8, v19_9, v19_10, v19_11, v19_12, v19_13, v19_14, v19_15, v19_16, v19_17, .ref q_1918, v19_19, v19_20, v19_21, v19_22, v19_23, v19_24, v19_25, v19_26, v19_27, v19_28, v19_29, v19_30, v19_31, v19_32, v19_33, v19_34, v19_35, v19_36, v19_37, v19_38, v19_39, v19_40])), (q_1918, .inl (cA_1918, 1002, .inl (fun j : Nat => zI (a19_becomes (j : Int)))))]) (wr := [(hc, .inr (12, [v13_0, v13_1, v13_2, v13_3, v13_4, .ref la, v13_6]))]) (rx := [(h0, .inr (16, [v19_0, v19_1, v19_2, v19_3, v19_4, v19_5, v19_6, v19_7, v19_8, v19_9, v19_10, v19_11, v19_12, v19_13, v19_14, v19_15, v19_16, v19_17, .ref q_1918, v19_19, v19_20, v19_21, v19_22, v19_23, v19_24, v19_25, v19_26, v19_27, v19_28, v19_29, v19_30, v19_31, v19_32, v19_33, v19_34, v19_35, v19_36, v19_37, v19_38, v19_39, v19_40])), (q_1918, .inl (cA_1918, 1002, .inl (fun j : Nat => zI (a19_becomes (j : Int)))))]) (pl := va_pl L (pE P120)) (pl1 := va_pl L (pE Pn_2067)) hP hD [0, 1] [2] rfl rfl (by decide) (by decide) hk1 hFc hP1 hD1
                    have hK := (hK.sub (tys' := [(cI, .int), (cZ, .boolean)]) [1, 2] rfl).app hK1
                    generalize H1 = H at hP hS ⊢
                    have hP : va_P (dC, dI) vwQ ([(hc, .inr (12, [v13_0, v13_1, v13_2, v13_3, v13_4, .ref la, v13_6])), (h0, .inr (16, [v19_0, v19_1, v19_2, v19_3, v19_4, v19_5, v19_6, v19_7, v19_8, v19_9, v19_10, v19_11, v19_12, v19_13, v19_14, v19_15, v19_16, v19_17, .ref q_1918, v19_19, v19_20, v19_21, v19_22, v19_23, v19_24, v19_25, v19_26, v19_27, v19_28, v19_29, v19_30, v19_31, v19_32, v19_33, v19_34, v19_35, v19_36, v19_37, v19_38, v19_39, v19_40])), (q_1918, .inl (cA_1918, 1002, .inl (fun j : Nat => zI (a19_becomes (j : Int)))))] ++ va_pl L (pE Pn_2067)) H := hP
                    have hD : va_D A ([(hc, .inr (12, [v13_0, v13_1, v13_2, v13_3, v13_4, .ref la, v13_6])), (h0, .inr (16, [v19_0, v19_1, v19_2, v19_3, v19_4, v19_5, v19_6, v19_7, v19_8, v19_9, v19_10, v19_11, v19_12, v19_13, v19_14, v19_15, v19_16, v19_17, .ref q_1918, v19_19, v19_20, v19_21, v19_22, v19_23, v19_24, v19_25, v19_26, v19_27, v19_28, v19_29, v19_30, v19_31, v19_32, v19_33, v19_34, v19_35, v19_36, v19_37, v19_38, v19_39, v19_40])), (q_1918, .inl (cA_1918, 1002, .inl (fun j : Nat => zI (a19_becomes (j : Int)))))] ++ va_pl L (pE Pn_2067)) := hD
                    have hK : va_K (dC, dI) vwQ [(cI, .int), (cZ, .boolean), (cA_1918, .int), (cO, .object "java/lang/Object")] s := hK
                    refine W.widen (k := 0) (n := 0) (Nat.le_of_ble_eq_true rfl) (Nat.le_of_ble_eq_true rfl) ?_
                    have hu_2068 := hxt_2067
                    have hrw_2069 : RWD P120 Pn_2067 := hu_2068.1.rwd (Or.inl hk_2063)
                    have hke_2070 : KEP [] L P120 L Pn_2067 la := hrw_2069.kep _ hq_2019.2
                    have hak_2071 : ALP L Pn_2067 cO cI cZ sx_ed la := aP120.row hu_2068.1 hk_2063 hu_2068.2.1 (fun e9 => by rw [hu_2068.2.2.1]; exact aP120.op21 hm_2062 hk_2063 e9)
                    have hq_2072 : la ∈ L ∧ Pn_2067.kd la = 30 := hke_2070.mem hq_2019.1 hq_2019.2 (by decide)
                    have hq_2073 : xb_2005 ∈ L ∧ Pn_2067.kd xb_2005 = 12 := hke_2070.mem hq_2020.1 hq_2020.2 (by decide)
                    have hq_2074 : pr_2015 ∈ L ∧ Pn_2067.kd pr_2015 = 30 := hke_2070.mem hq_2021.1 hq_2021.2 (by decide)
                    have hq_2075 : pr_2028 ∈ L ∧ Pn_2067.kd pr_2028 = 30 := hke_2070.mem hlk_2029.1 hlk_2029.2.1 (by decide)
                    have hq_2076 : xr_2061 ∈ L ∧ Pn_2067.kd xr_2061 = 17 := hke_2070.mem hm_2062 hk_2063 (by decide)
                    have hi_2077 : INB Pn_2067 la xb_2005 := hke_2070.inb hi_2022
                    have hE_2078 : Pn_2067.ek xr_2061 ≠ 1 := (by rw [hke_2070.ek hm_2062 hk_2063 (by decide)]; exact hE_2064)
                    have ha_2079 : Pn_2067.bp xb_2005 = pr_2015 := hke_2070.bp hq_2020.1 hq_2020.2 ha_2023
                    have ha_2080 : Pn_2067.br xb_2005 = pr_2028 := hke_2070.br hq_2020.1 hq_2020.2 epr_2028.symm
                    have hz9 := hke_2070.2.2.1
                    have hA_2081 : KEP [] L P L Pn_2067 la := hA_2024.trans hke_2070
                    have hA_2082 : KEP [] L P2 L Pn_2067 la := hA_2025.trans hke_2070
                    have hA_2083 : KEP [] L P19 L Pn_2067 la := hA_2026.trans hke_2070
                    have hA_2084 : KEP [] L P120 L Pn_2067 la := (KEP.refl [] L P120 la).trans hke_2070
                    have : Pn_2067.lz la = P120.lz la := hrw_2069.lz hq_2019.2
                    have : Pn_2067.lz pr_2015 = P120.lz pr_2015 := hrw_2069.lz hq_2021.2
                    have : Pn_2067.lz pr_2028 = P120.lz pr_2028 := hrw_2069.lz hlk_2029.2.1
                    have ht9 := hrw_2069.tot aP120 2 (Or.inr rfl)
                    have ht8 := hrw_2069.tot aP120 1 (Or.inl rfl)
                    have huv_2085 : UNV P Pn_2067 (VST P la (d2_2) 40000 (d120_4 + 1)) := jv120.step hu_2068.1.ph1 (by rw [((jv120.kd xr_2061).symm.trans hk_2063)]; decide) (fun z q => q.mono (by omega) (by omega)) (by rw [hxi_2066]; exact VST.arow (by omega) (by omega) (by omega) (by omega))
                    have hdn_2086 : DON P Pn_2067 a19_becomes (VST P la (d2_2) 40000 (d120_4 + 1)) := (jd120.keep (fun z v k => hX_a9.vpik z v k) hu_2068.1.ph1 (fun a => jv120.ow a) hfr_2065).add (fun z q => by rw [hxi_2066]; exact q.row) ⟨fun _ => hu_2068.2.2.2.2.pre (jv120.2.1 xr_2061 hfr_2065), fun q9 => absurd q9 (by rw [((jv120.kd xr_2061).symm.trans hk_2063)]; decide)⟩
                    refine lv_iinc (v := zI (d120_4 + 1)) (lv' := [(4, .int (zI (d120_4 + 1))), (0, .ref h0), (1, .ref hc), (2, .int (zI (d2_2))), (3, .ref xb_2005)]) hx hb dX19_become_148 hl (k := 4) rfl (zI_add (d120_4) (1)) (by decide) rfl (fun ls hl => ?_)
                    refine lv_goto (tgt := 120) hx hb dX19_become_151 (by decide) ?_
                    have hP := hP.part (X := [(hc, .inr (12, [v13_0, v13_1, v13_2, v13_3, v13_4, .ref la, v13_6])), (h0, .inr (16, [v19_0, v19_1, v19_2, v19_3, v19_4, v19_5, v19_6, v19_7, v19_8, v19_9, v19_10, v19_11, v19_12, v19_13, v19_14, v19_15, v19_16, v19_17, .ref q_1918, v19_19, v19_20, v19_21, v19_22, v19_23, v19_24, v19_25, v19_26, v19_27, v19_28, v19_29, v19_30, v19_31, v19_32, v19_33, v19_34, v19_35, v19_36, v19_37, v19_38, v19_39, v19_40])), (q_1918, .inl (cA_1918, 1002, .inl (fun j : Nat => zI (a19_becomes (j : Int)))))]) (cx := [(h0, .inr (16, [v19_0, v19_1, v19_2, v19_3, v19_4, v19_5, v19_6, v19_7, v19_8, v19_9, v19_10, v19_11, v19_12, v19_13, v19_14, v19_15, v19_16, v19_17, .ref q_1918, v19_19, v19_20, v19_21, v19_22, v19_23, v19_24, v19_25, v19_26, v19_27, v19_28, v19_29, v19_30, v19_31, v19_32, v19_33, v19_34, v19_35, v19_36, v19_37, v19_38, v19_39, v19_40])), (q_1918, .inl (cA_1918, 1002, .inl (fun j : Nat => zI (a19_becomes (j : Int))))), (hc, .inr (12, [v13_0, v13_1, v13_2, v13_3, v13_4, .ref la, v13_6]))]) (pl := va_pl L (pE Pn_2067)) [1, 2, 0] rfl
                    have hD := hD.part (X := [(hc, .inr (12, [v13_0, v13_1, v13_2, v13_3, v13_4, .ref la, v13_6])), (h0, .inr (16, [v19_0, v19_1, v19_2, v19_3, v19_4, v19_5, v19_6, v19_7, v19_8, v19_9, v19_10, v19_11, v19_12, v19_13, v19_14, v19_15, v19_16, v19_17, .ref q_1918, v19_19, v19_20, v19_21, v19_22, v19_23, v19_24, v19_25, v19_26, v19_27, v19_28, v19_29, v19_30, v19_31, v19_32, v19_33, v19_34, v19_35, v19_36, v19_37, v19_38, v19_39, v19_40])), (q_1918, .inl (cA_1918, 1002, .inl (fun j : Nat => zI (a19_becomes (j : Int)))))]) (cx := [(h0, .inr (16, [v19_0, v19_1, v19_2, v19_3, v19_4, v19_5, v19_6, v19_7, v19_8, v19_9, v19_10, v19_11, v19_12, v19_13, v19_14, v19_15, v19_16, v19_17, .ref q_1918, v19_19, v19_20, v19_21, v19_22, v19_23, v19_24, v19_25, v19_26, v19_27, v19_28, v19_29, v19_30, v19_31, v19_32, v19_33, v19_34, v19_35, v19_36, v19_37, v19_38, v19_39, v19_40])), (q_1918, .inl (cA_1918, 1002, .inl (fun j : Nat => zI (a19_becomes (j : Int))))), (hc, .inr (12, [v13_0, v13_1, v13_2, v13_3, v13_4, .ref la, v13_6]))]) (pl := va_pl L (pE Pn_2067)) [1, 2, 0] (by decide) rfl
                    exact ih120 (d120_4 + 1) Pn_2067 ls H _ (by omega) (kP120.trans hA_2084) hak_2071 (by omega) huv_2085 hdn_2086 (by omega) (lv_sub hl [1, 2, 3, 4, 0] rfl) hP hD hS
              exact key120 ((50000 - 0 : Int).toNat + 1) 0 P19 ls H _ (by omega) (KEP.refl _ _ _ _) aP19 (by omega) (jv19.wk (fun z q => q.mono (by omega) (by omega))) (jd19.wk (fun z q => q.full (by omega))) (by omega) (lv_sub hl [1, 2, 3, 4, 0] rfl) hP hD hS
            · have yb28 : ¬ (P19.lz pr_2015 : Int) ≤ (d19_4 : Int) := fun q => b28 ((zI_le (a := P19.lz pr_2015) (b := d19_4) (by omega) (by omega) (by omega) (by omega)).mpr q)
              refine lv_aload_n hx hb dX19_become_31 rfl (lv_at hl 3 rfl) ?_
              obtain ⟨kp_2087, hkp_2087⟩ := va_pl_get (X := [(h0, .inr (16, [v19_0, v19_1, v19_2, v19_3, v19_4, v19_5, v19_6, v19_7, v19_8, v19_9, v19_10, v19_11, v19_12, v19_13, v19_14, v19_15, v19_16, v19_17, .ref q_1918, v19_19, v19_20, v19_21, v19_22, v19_23, v19_24, v19_25, v19_26, v19_27, v19_28, v19_29, v19_30, v19_31, v19_32, v19_33, v19_34, v19_35, v19_36, v19_37, v19_38, v19_39, v19_40])), (q_1918, .inl (cA_1918, 1002, .inl (fun j : Nat => zI (a19_becomes (j : Int))))), (hc, .inr (12, [v13_0, v13_1, v13_2, v13_3, v13_4, .ref la, v13_6]))]) (f := pE P19) hq_2010.1
              rw [pE_block hq_2010.2] at hkp_2087
              refine va_get (D := (dC, dI)) (ci := 19) (v := .ref (P19.bp xb_2005)) (C := RX12) (T := TX12) (N := 5) hx hb hts mem_P19_becomeAll_2 hown hK hP kp_2087 hkp_2087 rfl 0 (by decide) (ow (k := 7) rfl) (fun _ h9 => h9) rfl dX19_become_32 ?_
              obtain ⟨pr_2088, epr_2088⟩ : ∃ q9 : Nat, q9 = P19.bp xb_2005 := ⟨_, rfl⟩
              rw [← epr_2088]
              obtain rfl : pr_2015 = pr_2088 := (by rw [epr_2088]; exact epr_2015.symm.symm)
              refine lv_iload hx hb dX19_become_35 (lv_at hl 4 rfl) ?_
              have hlk_2089 := (show LOK L P19 cO 15 pr_2015 from (by rw [← epr_2015.symm]; exact (aP19.inb hi_2011).2.2.1))
              obtain ⟨x, ex⟩ : ∃ q9 : Nat, q9 = P19.el pr_2015 (d19_4) := ⟨_, rfl⟩
              have hX_x := hlk_2089.1
              have hX_k := hlk_2089.2.1
              have hq9 := hlk_2089.row (i := d19_4) (by omega) (by omega)
              have hX_q : P19.le pr_2015 ∈ L ∧ P19.kd (P19.le pr_2015) = 31 ∧ P19.ac (P19.le pr_2015) = cO := ⟨hq9.1, hq9.2.1, hq9.2.2.1⟩
              have hq8 := hq9.2.2.2
              have hX_e0 : P19.oa (P19.le pr_2015) (d19_4).toNat = some x := (by rw [ex]; exact (hlk_2089.2.2.2.2 (d19_4) (by omega) (by omega)).1)
              have hxm : x ∈ L := (by rw [ex]; exact (hlk_2089.2.2.2.2 (d19_4) (by omega) (by omega)).2.1)
              have hxk := (hlk_2089.2.2.2.2 (d19_4) (by omega) (by omega)).2.2
              rw [← ex] at hxk
              have hPc := hP.part (X := [(h0, .inr (16, [v19_0, v19_1, v19_2, v19_3, v19_4, v19_5, v19_6, v19_7, v19_8, v19_9, v19_10, v19_11, v19_12, v19_13, v19_14, v19_15, v19_16, v19_17, .ref q_1918, v19_19, v19_20, v19_21, v19_22, v19_23, v19_24, v19_25, v19_26, v19_27, v19_28, v19_29, v19_30, v19_31, v19_32, v19_33, v19_34, v19_35, v19_36, v19_37, v19_38, v19_39, v19_40])), (q_1918, .inl (cA_1918, 1002, .inl (fun j : Nat => zI (a19_becomes (j : Int))))), (hc, .inr (12, [v13_0, v13_1, v13_2, v13_3, v13_4, .ref la, v13_6]))]) (cx := []) (pl := va_pl L (pE P19)) [] rfl
              have hDc := hD.part (X := [(h0, .inr (16, [v19_0, v19_1, v19_2, v19_3, v19_4, v19_5, v19_6, v19_7, v19_8, v19_9, v19_10, v19_11, v19_12, v19_13, v19_14, v19_15, v19_16, v19_17, .ref q_1918, v19_19, v19_20, v19_21, v19_22, v19_23, v19_24, v19_25, v19_26, v19_27, v19_28, v19_29, v19_30, v19_31, v19_32, v19_33, v19_34, v19_35, v19_36, v19_37, v19_38, v19_39, v19_40])), (q_1918, .inl (cA_1918, 1002, .inl (fun j : Nat => zI (a19_becomes (j : Int))))), (hc, .inr (12, [v13_0, v13_1, v13_2, v13_3, v13_4, .ref la, v13_6]))]) (cx := []) (pl := va_pl L (pE P19)) [] (by decide) rfl
              have hKc := hK.sub (tys' := [(cO, .object "java/lang/Object")]) [3] rfl
              have hFc := va_freeP (X := [(h0, .inr (16, [v19_0, v19_1, v19_2, v19_3, v19_4, v19_5, v19_6, v19_7, v19_8, v19_9, v19_10, v19_11, v19_12, v19_13, v19_14, v19_15, v19_16, v19_17, .ref q_1918, v19_19, v19_20, v19_21, v19_22, v19_23, v19_24, v19_25, v19_26, v19_27, v19_28, v19_29, v19_30, v19_31, v19_32, v19_33, v19_34, v19_35, v19_36, v19_37, v19_38, v19_39, v19_40])), (q_1918, .inl (cA_1918, 1002, .inl (fun j : Nat => zI (a19_becomes (j : Int))))), (hc, .inr (12, [v13_0, v13_1, v13_2, v13_3, v13_4, .ref la, v13_6]))]) (cx := []) (pl := va_pl L (pE P19)) hD hS hA [] rfl
              refine va_callr (va_runV (As := [.int (zI (d19_4))]) (rest := []) ⟨hx, hb, hml, hown, hts⟩ (c_PL_get l dC dI cO L P19 pr_2015 d19_4 x hX_x hX_k hX_q (by omega) hX_e0 H.size) (cwV 1 hts g_P19_becomeAll_PL_get rfl rfl rfl (by decide +kernel) ⟨(Nat.le_of_ble_eq_true rfl), (Nat.le_of_ble_eq_true rfl)⟩) ⟨fun a U g mk q => by obtain ⟨q0, q1, qP, qK, qD⟩ := q; exact ⟨q0, q1, qP, va_K.moved (u := U) (U := U.calling g mk a) (Vm.Alike.refl U.vm) qK, qD⟩, recv_30 hKc hPc hlk_2016.1 hlk_2016.2.1, fun U hU hW => ⟨rfl, by rw [hU], by rw [hU]; exact hPc, va_K.moved hW.alike hKc, hDc.weaken (fun _ _ _ _ => trivial)⟩⟩ rfl rfl hl.1 rfl (lv_room (Nat.le_of_ble_eq_true rfl)) dX19_become_37 ⟨(Nat.le_of_ble_eq_true rfl), (Nat.le_of_ble_eq_true rfl)⟩) hS (fun q _ h => hFc q h) hFc (fun u q_2090 t H1 locs ht hvm hw hB hz1 hk1 hS => ?_)
              obtain ⟨hxt_2090, hP1, hK1, hD1⟩ := hB
              rw [ht] at hP1
              have hK1 := va_K.moved hvm.symm hK1
              obtain ⟨hP, hD⟩ := va_joinP (X := [(h0, .inr (16, [v19_0, v19_1, v19_2, v19_3, v19_4, v19_5, v19_6, v19_7, v19_8, v19_9, v19_10, v19_11, v19_12, v19_13, v19_14, v19_15, v19_16, v19_17, .ref q_1918, v19_19, v19_20, v19_21, v19_22, v19_23, v19_24, v19_25, v19_26, v19_27, v19_28, v19_29, v19_30, v19_31, v19_32, v19_33, v19_34, v19_35, v19_36, v19_37, v19_38, v19_39, v19_40])), (q_1918, .inl (cA_1918, 1002, .inl (fun j : Nat => zI (a19_becomes (j : Int))))), (hc, .inr (12, [v13_0, v13_1, v13_2, v13_3, v13_4, .ref la, v13_6]))]) (cx := []) (wr := [(h0, .inr (16, [v19_0, v19_1, v19_2, v19_3, v19_4, v19_5, v19_6, v19_7, v19_8, v19_9, v19_10, v19_11, v19_12, v19_13, v19_14, v19_15, v19_16, v19_17, .ref q_1918, v19_19, v19_20, v19_21, v19_22, v19_23, v19_24, v19_25, v19_26, v19_27, v19_28, v19_29, v19_30, v19_31, v19_32, v19_33, v19_34, v19_35, v19_36, v19_37, v19_38, v19_39, v19_40])), (q_1918, .inl (cA_1918, 1002, .inl (fun j : Nat => zI (a19_becomes (j : Int))))), (hc, .inr (12, [v13_0, v13_1, v13_2, v13_3, v13_4, .ref la, v13_6]))]) (rx := []) (pl := va_pl L (pE P19)) (pl1 := va_pl L (pE P19)) hP hD [] [0, 1, 2] rfl rfl (by decide) (by decide) hk1 hFc hP1 hD1
              have hK := (hK.sub (tys' := [(cA_1918, .int), (cI, .int), (cZ, .boolean)]) [0, 1, 2] rfl).app hK1
              generalize H1 = H at hP hS ⊢
              have hP : va_P (dC, dI) vwQ ([(h0, .inr (16, [v19_0, v19_1, v19_2, v19_3, v19_4, v19_5, v19_6, v19_7, v19_8, v19_9, v19_10, v19_11, v19_12, v19_13, v19_14, v19_15, v19_16, v19_17, .ref q_1918, v19_19, v19_20, v19_21, v19_22, v19_23, v19_24, v19_25, v19_26, v19_27, v19_28, v19_29, v19_30, v19_31, v19_32, v19_33, v19_34, v19_35, v19_36, v19_37, v19_38, v19_39, v19_40])), (q_1918, .inl (cA_1918, 1002, .inl (fun j : Nat => zI (a19_becomes (j : Int))))), (hc, .inr (12, [v13_0, v13_1, v13_2, v13_3, v13_4, .ref la, v13_6]))] ++ va_pl L (pE P19)) H := hP
              have hD : va_D A ([(h0, .inr (16, [v19_0, v19_1, v19_2, v19_3, v19_4, v19_5, v19_6, v19_7, v19_8, v19_9, v19_10, v19_11, v19_12, v19_13, v19_14, v19_15, v19_16, v19_17, .ref q_1918, v19_19, v19_20, v19_21, v19_22, v19_23, v19_24, v19_25, v19_26, v19_27, v19_28, v19_29, v19_30, v19_31, v19_32, v19_33, v19_34, v19_35, v19_36, v19_37, v19_38, v19_39, v19_40])), (q_1918, .inl (cA_1918, 1002, .inl (fun j : Nat => zI (a19_becomes (j : Int))))), (hc, .inr (12, [v13_0, v13_1, v13_2, v13_3, v13_4, .ref la, v13_6]))] ++ va_pl L (pE P19)) := hD
              have hK : va_K (dC, dI) vwQ [(cA_1918, .int), (cI, .int), (cZ, .boolean), (cO, .object "java/lang/Object")] s := hK
              refine W.widen (k := 0) (n := 0) (Nat.le_of_ble_eq_true rfl) (Nat.le_of_ble_eq_true rfl) ?_
              rw [hxt_2090]
              clear hX_e0
              obtain ⟨xp_2091, h9⟩ : ∃ q9 : Nat, q9 = x := ⟨_, rfl⟩
              subst h9
              have hm_2092 := hxm
              have hk_2093 := hxk
              have hpb_2094 : PRB P19 xp_2091 (P19.lz la) := (by have q9 := aP19.2.2.1 xb_2005 hi_2011 (d19_4) (by omega) (by rw [epr_2015.symm]; omega); rw [epr_2015.symm, ← ex] at q9; exact q9)
              refine va_castY (C := "SsaForgeModel$Phi") (nm := "SsaForgeModel$Phi") hx hb hown (ow (k := 22) rfl) hp2 (recv_15 hK hP hm_2092 hk_2093) dX19_become_40 ?_
              refine lv_astore (lv' := [(5, .ref xp_2091), (0, .ref h0), (1, .ref hc), (2, .int (zI (d2_2))), (3, .ref xb_2005), (4, .int (zI (d19_4)))]) hx hb dX19_become_43 hl (by decide) rfl (fun ls hl => ?_)
              have hzl : P.lz (P.bp (P.el la (d2_2))) = P19.lz pr_2015 := (by rw [← hyi, ← jv19.bp xb_2005, epr_2015.symm]; exact (jv19.1.2.2 pr_2015 ((jv19.kd pr_2015).symm.trans hlk_2016.2.1)).symm)
              have hxi_2095 : xp_2091 = P.el (P.bp (P.el la (d2_2))) (d19_4) := (by rw [← hyi, ← jv19.bp xb_2005, epr_2015.symm, ← jv19.el pr_2015 (d19_4)]; exact ex)
              have hfr_2096 : ¬ VST P la (d2_2) (d19_4) (0) xp_2091 := (by rw [hxi_2095]; exact VST.nphi hX_N hX_a9 (by omega) (by omega) (by omega) (by omega))
              have hpk_2097 : PIK L P cI cZ xp_2091 := (by have q9 := hX_a9.kphi (i := d2_2) (j := d19_4) (by omega) (by omega) (by omega) (by omega); rw [← hxi_2095] at q9; exact hX_a9.pik q9.1 q9.2)
              have hpt9 : P19.pt xp_2091 = P.pt xp_2091 := jv19.2.1 xp_2091 hfr_2096 0
              have hop9 := (hX_O (d2_2) (by omega) (by omega)).1 (d19_4) (by omega) (by omega)
              rw [← hxi_2095] at hop9
              have hog9 := hop9.1
              rw [← hpt9] at hog9
              skip
              refine lv_aload hx hb dX19_become_45 (lv_at hl 0 rfl) ?_
              refine lv_aload_n hx hb dX19_become_47 rfl (lv_at hl 1 rfl) ?_
              refine va_get (D := (dC, dI)) (ci := 16) (v := .ref q_1918) (C := RX19) (T := TX19) (N := 41) hx hb hts mem_P19_becomeAll_6 hown hK hP 0 rfl rfl 18 (by decide) (ow (k := 23) rfl) (fun _ h9 => h9) rfl dX19_become_48 ?_
              refine lv_aload hx hb dX19_become_51 (lv_at hl 0 rfl) ?_
              have hp9 := aP19.pik hm_2092 hk_2093
              have hpn := hp9.2.2.2.2.1
              have hpt := hp9.2.2.2.2.2.1
              clear hp9
              obtain ⟨kp_2098, hkp_2098⟩ := va_pl_get (X := [(h0, .inr (16, [v19_0, v19_1, v19_2, v19_3, v19_4, v19_5, v19_6, v19_7, v19_8, v19_9, v19_10, v19_11, v19_12, v19_13, v19_14, v19_15, v19_16, v19_17, .ref q_1918, v19_19, v19_20, v19_21, v19_22, v19_23, v19_24, v19_25, v19_26, v19_27, v19_28, v19_29, v19_30, v19_31, v19_32, v19_33, v19_34, v19_35, v19_36, v19_37, v19_38, v19_39, v19_40])), (q_1918, .inl (cA_1918, 1002, .inl (fun j : Nat => zI (a19_becomes (j : Int))))), (hc, .inr (12, [v13_0, v13_1, v13_2, v13_3, v13_4, .ref la, v13_6]))]) (f := pE P19) hm_2092
              rw [pE_phi hk_2093] at hkp_2098
              refine va_get (D := (dC, dI)) (ci := 20) (v := .int (zI (P19.pt xp_2091))) (C := RX15) (T := TX15) (N := 6) hx hb hts mem_P19_becomeAll_7 hown hK hP kp_2098 hkp_2098 rfl 0 (by decide) (ow (k := 24) rfl) (fun _ h9 => h9) rfl dX19_become_53 ?_
              refine va_iald hx hb hK hP 1 0 rfl rfl (zI_in (a := P19.pt xp_2091) (n := 1002) (by omega) (by omega) (by decide)) dX19_become_56 ?_
              refine lv_topi (fun z ez => ?_)
              obtain rfl : z = zI (a19_becomes (P19.pt xp_2091)) := ez.trans (zI_ld (a19_becomes) (by omega) (by omega))
              have k1 := hR_a19_becomes (P19.pt xp_2091)
              obtain ⟨kp_2099, gkp_2099⟩ := va_pl_get (X := [(h0, .inr (16, [v19_0, v19_1, v19_2, v19_3, v19_4, v19_5, v19_6, v19_7, v19_8, v19_9, v19_10, v19_11, v19_12, v19_13, v19_14, v19_15, v19_16, v19_17, .ref q_1918, v19_19, v19_20, v19_21, v19_22, v19_23, v19_24, v19_25, v19_26, v19_27, v19_28, v19_29, v19_30, v19_31, v19_32, v19_33, v19_34, v19_35, v19_36, v19_37, v19_38, v19_39, v19_40])), (q_1918, .inl (cA_1918, 1002, .inl (fun j : Nat => zI (a19_becomes (j : Int))))), (hc, .inr (12, [v13_0, v13_1, v13_2, v13_3, v13_4, .ref la, v13_6]))]) (f := pE P19) hm_2092
              have hkp_2099 := gkp_2099
              rw [pE_phi hk_2093] at hkp_2099
              have hD0 := hD
              refine va_put (D := (dC, dI)) (ci := 20) (v := .int (zI (a19_becomes (P19.pt xp_2091)))) (ty := .int) (C := RX15) (T := TX15) (N := 6) hx hb hts mem_P19_becomeAll_7 tyX15 tyX15_ok nmX15 hown hK hP hD hS kp_2099 hkp_2099 rfl 0 (by decide) (ow (k := 24) rfl) (fun _ h9 => h9) rfl (by decide +kernel) rfl rfl (Nat.le_of_ble_eq_true rfl) dX19_become_57 (fun H locs hP hD hS => ?_)
              obtain ⟨Pw_2100, ePw_2100⟩ : ∃ q9 : PO, q9 = P19.rw9 0 xp_2091 (a19_becomes (P19.pt xp_2091)) := ⟨_, rfl⟩
              have eU : (([(h0, .inr (16, [v19_0, v19_1, v19_2, v19_3, v19_4, v19_5, v19_6, v19_7, v19_8, v19_9, v19_10, v19_11, v19_12, v19_13, v19_14, v19_15, v19_16, v19_17, .ref q_1918, v19_19, v19_20, v19_21, v19_22, v19_23, v19_24, v19_25, v19_26, v19_27, v19_28, v19_29, v19_30, v19_31, v19_32, v19_33, v19_34, v19_35, v19_36, v19_37, v19_38, v19_39, v19_40])), (q_1918, .inl (cA_1918, 1002, .inl (fun j : Nat => zI (a19_becomes (j : Int))))), (hc, .inr (12, [v13_0, v13_1, v13_2, v13_3, v13_4, .ref la, v13_6]))] : va_W) ++ va_pl L (pE P19)).set kp_2099 (xp_2091, phiE (a19_becomes (P19.pt xp_2091)) (P19.pn xp_2091) (P19.pp xp_2091) (P19.pu xp_2091) (P19.pr xp_2091) (P19.pg xp_2091)) = ([(h0, .inr (16, [v19_0, v19_1, v19_2, v19_3, v19_4, v19_5, v19_6, v19_7, v19_8, v19_9, v19_10, v19_11, v19_12, v19_13, v19_14, v19_15, v19_16, v19_17, .ref q_1918, v19_19, v19_20, v19_21, v19_22, v19_23, v19_24, v19_25, v19_26, v19_27, v19_28, v19_29, v19_30, v19_31, v19_32, v19_33, v19_34, v19_35, v19_36, v19_37, v19_38, v19_39, v19_40])), (q_1918, .inl (cA_1918, 1002, .inl (fun j : Nat => zI (a19_becomes (j : Int))))), (hc, .inr (12, [v13_0, v13_1, v13_2, v13_3, v13_4, .ref la, v13_6]))] : va_W) ++ va_pl L (pE Pw_2100) := (by rw [va_pl_set hD0 hm_2092 gkp_2099, ePw_2100]; exact congrArg (fun f9 => ([(h0, .inr (16, [v19_0, v19_1, v19_2, v19_3, v19_4, v19_5, v19_6, v19_7, v19_8, v19_9, v19_10, v19_11, v19_12, v19_13, v19_14, v19_15, v19_16, v19_17, .ref q_1918, v19_19, v19_20, v19_21, v19_22, v19_23, v19_24, v19_25, v19_26, v19_27, v19_28, v19_29, v19_30, v19_31, v19_32, v19_33, v19_34, v19_35, v19_36, v19_37, v19_38, v19_39, v19_40])), (q_1918, .inl (cA_1918, 1002, .inl (fun j : Nat => zI (a19_becomes (j : Int))))), (hc, .inr (12, [v13_0, v13_1, v13_2, v13_3, v13_4, .ref la, v13_6]))] : va_W) ++ va_pl L f9) (put15_0 hk_2093))
              have hP : va_P (dC, dI) vwQ ([(h0, .inr (16, [v19_0, v19_1, v19_2, v19_3, v19_4, v19_5, v19_6, v19_7, v19_8, v19_9, v19_10, v19_11, v19_12, v19_13, v19_14, v19_15, v19_16, v19_17, .ref q_1918, v19_19, v19_20, v19_21, v19_22, v19_23, v19_24, v19_25, v19_26, v19_27, v19_28, v19_29, v19_30, v19_31, v19_32, v19_33, v19_34, v19_35, v19_36, v19_37, v19_38, v19_39, v19_40])), (q_1918, .inl (cA_1918, 1002, .inl (fun j : Nat => zI (a19_becomes (j : Int))))), (hc, .inr (12, [v13_0, v13_1, v13_2, v13_3, v13_4, .ref la, v13_6]))] ++ va_pl L (pE Pw_2100)) H := (by rw [← eU]; exact hP)
              have hD : va_D A ([(h0, .inr (16, [v19_0, v19_1, v19_2, v19_3, v19_4, v19_5, v19_6, v19_7, v19_8, v19_9, v19_10, v19_11, v19_12, v19_13, v19_14, v19_15, v19_16, v19_17, .ref q_1918, v19_19, v19_20, v19_21, v19_22, v19_23, v19_24, v19_25, v19_26, v19_27, v19_28, v19_29, v19_30, v19_31, v19_32, v19_33, v19_34, v19_35, v19_36, v19_37, v19_38, v19_39, v19_40])), (q_1918, .inl (cA_1918, 1002, .inl (fun j : Nat => zI (a19_becomes (j : Int))))), (hc, .inr (12, [v13_0, v13_1, v13_2, v13_3, v13_4, .ref la, v13_6]))] ++ va_pl L (pE Pw_2100)) := (by rw [← eU]; exact hD)
              clear eU hD0 gkp_2099 hkp_2099
              have wPw_2100 : PH1 xp_2091 P19 Pw_2100 := (by rw [ePw_2100]; exact PH1.put _ _ _ _)
              have hy_2101 : Pw_2100.kd la = 30 := (by rw [ePw_2100]; exact hq_2009.2)
              have hy_2102 : Pw_2100.kd xb_2005 = 12 := (by rw [ePw_2100]; exact hq_2010.2)
              have : Pw_2100.bf xb_2005 = P19.bf xb_2005 := wPw_2100.2.1 _ (kd_ne hq_2010.2 hk_2093 (by decide)) _
              have : Pw_2100.bs xb_2005 = P19.bs xb_2005 := wPw_2100.2.1 _ (kd_ne hq_2010.2 hk_2093 (by decide)) _
              have hy_2103 : Pw_2100.kd pr_2015 = 30 := (by rw [ePw_2100]; exact hlk_2016.2.1)
              have hy_2104 : Pw_2100.kd xp_2091 = 15 := (by rw [ePw_2100]; exact hk_2093)
              have : Pw_2100.pt xp_2091 = a19_becomes (P19.pt xp_2091) := (by rw [ePw_2100]; exact rw9_at _ _ _ _)
              have : Pw_2100.pn xp_2091 = P19.pn xp_2091 := (by rw [ePw_2100]; exact rw9_of _ (by decide))
              have : Pw_2100.pg xp_2091 = P19.pg xp_2091 := (by rw [ePw_2100]; exact rw9_of _ (by decide))
              have ha_2105 : Pw_2100.bp xb_2005 = pr_2015 := (by rw [ePw_2100]; exact epr_2015.symm)
              have hW_2106 : PH1 xp_2091 P19 Pw_2100 := wPw_2100
              have hrw_2109 : RWD P19 Pw_2100 := hW_2106.rwd hk_2093
              have hak_2108 : ALP L Pw_2100 cO cI cZ sx_ed la := aP19.phi hW_2106 hk_2093 ((aP19.pik hm_2092 hk_2093).of hW_2106 (by omega) (by omega) (by omega) (fun i i0 i1 => (by have q9 := (aP19.pik hm_2092 hk_2093).ef (i := i) i0 (by omega); rw [ePw_2100]; exact q9))) (fun n q8 i i0 i1 => by have q9 := q8 i i0 (by omega); rw [ePw_2100]; exact q9)
              have hke_2107 : KEP [] L P19 L Pw_2100 la := hrw_2109.kep _ hq_2009.2
              have hq_2110 : la ∈ L ∧ Pw_2100.kd la = 30 := hke_2107.mem hq_2009.1 hq_2009.2 (by decide)
              have hq_2111 : xb_2005 ∈ L ∧ Pw_2100.kd xb_2005 = 12 := hke_2107.mem hq_2010.1 hq_2010.2 (by decide)
              have hq_2112 : pr_2015 ∈ L ∧ Pw_2100.kd pr_2015 = 30 := hke_2107.mem hlk_2016.1 hlk_2016.2.1 (by decide)
              have hq_2113 : xp_2091 ∈ L ∧ Pw_2100.kd xp_2091 = 15 := hke_2107.mem hm_2092 hk_2093 (by decide)
              have hi_2114 : INB Pw_2100 la xb_2005 := hke_2107.inb hi_2011
              have ha_2115 : Pw_2100.bp xb_2005 = pr_2015 := hke_2107.bp hq_2010.1 hq_2010.2 epr_2015.symm
              have hz9 := hke_2107.2.2.1
              have hA_2116 : KEP [] L P L Pw_2100 la := hA_2012.trans hke_2107
              have hA_2117 : KEP [] L P2 L Pw_2100 la := hA_2013.trans hke_2107
              have hA_2118 : KEP [] L P19 L Pw_2100 la := (KEP.refl [] L P19 la).trans hke_2107
              have : Pw_2100.lz la = P19.lz la := hrw_2109.lz hq_2009.2
              have : Pw_2100.lz pr_2015 = P19.lz pr_2015 := hrw_2109.lz hlk_2016.2.1
              have ht9 := hrw_2109.tot aP19 2 (Or.inr rfl)
              have ht8 := hrw_2109.tot aP19 1 (Or.inl rfl)
              have huv_2119 : UNV P Pw_2100 (VST P la (d2_2) (d19_4 + 1) 0) := jv19.step hW_2106 (by rw [((jv19.kd xp_2091).symm.trans hk_2093)]; decide) (fun z q => q.mono (by omega) (by omega)) (by rw [hxi_2095]; exact VST.aphi (by omega) (by omega) (by omega) (by omega))
              have hdn_2120 : DON P Pw_2100 a19_becomes (VST P la (d2_2) (d19_4) 0) := (jd19.keep (fun z v k => hX_a9.vpik z v k) hW_2106 (fun a => jv19.ow a) hfr_2096)
              have hrn_2121 : RNP P Pw_2100 a19_becomes xp_2091 0 := RNP.zero (by have q9 : P19.pn xp_2091 = P.pn xp_2091 := jv19.2.1 xp_2091 hfr_2096 1; omega) (by rw [← hpt9]; omega) ((show Pw_2100.ia (P.pp xp_2091) = P19.ia (P.pp xp_2091) from (by rw [ePw_2100]; rfl)).trans (jv19.2.2 _ (by rw [hpk_2097.2.1.2.2.2]; exact hfr_2096))) ((show Pw_2100.ia (P.pu xp_2091) = P19.ia (P.pu xp_2091) from (by rw [ePw_2100]; rfl)).trans (jv19.2.2 _ (by rw [hpk_2097.2.2.1.2.2.2]; exact hfr_2096))) ((show Pw_2100.ia (P.pr xp_2091) = P19.ia (P.pr xp_2091) from (by rw [ePw_2100]; rfl)).trans (jv19.2.2 _ (by rw [hpk_2097.2.2.2.1.2.2.2]; exact hfr_2096)))
              refine lv_iconst (v := 0) hx hb dX19_become_60 (by decide) ?_
              refine lv_istore (lv' := [(6, .int 0), (5, .ref xp_2091), (0, .ref h0), (1, .ref hc), (2, .int (zI (d2_2))), (3, .ref xb_2005), (4, .int (zI (d19_4)))]) hx hb dX19_become_61 hl (by decide) rfl (fun ls hl => ?_)
              have key63 : ∀ n63 : Nat, ∀ (d63_6 : Int) (P63 : PO) (ls : Array Slot) (H : Heap) (locs : List Loc), (P63.tot 2 la ≤ Pw_2100.tot 2 la ∧ P63.tot 1 la ≤ Pw_2100.tot 1 la) → (KEP [] L Pw_2100 L P63 la) → (ALP L P63 cO cI cZ sx_ed la) → (0 ≤ d63_6 ∧ d63_6 ≤ 300) → (UNV P P63 (VST P la (d2_2) (d19_4 + 1) (0))) → (DON P P63 a19_becomes (VST P la (d2_2) (d19_4) (0))) → (RNP P P63 a19_becomes xp_2091 (d63_6)) → ((400 - d63_6 : Int).toNat) < n63 → lv_has ls 7 [(0, .ref h0), (1, .ref hc), (2, .int (zI (d2_2))), (3, .ref xb_2005), (4, .int (zI (d19_4))), (5, .ref xp_2091), (6, .int (zI (d63_6)))] → va_P (dC, dI) vwQ ([(h0, .inr (16, [v19_0, v19_1, v19_2, v19_3, v19_4, v19_5, v19_6, v19_7, v19_8, v19_9, v19_10, v19_11, v19_12, v19_13, v19_14, v19_15, v19_16, v19_17, .ref q_1918, v19_19, v19_20, v19_21, v19_22, v19_23, v19_24, v19_25, v19_26, v19_27, v19_28, v19_29, v19_30, v19_31, v19_32, v19_33, v19_34, v19_35, v19_36, v19_37, v19_38, v19_39, v19_40])), (q_1918, .inl (cA_1918, 1002, .inl (fun j : Nat => zI (a19_becomes (j : Int))))), (hc, .inr (12, [v13_0, v13_1, v13_2, v13_3, v13_4, .ref la, v13_6]))] ++ va_pl L (pE P63)) H → va_D A ([(h0, .inr (16, [v19_0, v19_1, v19_2, v19_3, v19_4, v19_5, v19_6, v19_7, v19_8, v19_9, v19_10, v19_11, v19_12, v19_13, v19_14, v19_15, v19_16, v19_17, .ref q_1918, v19_19, v19_20, v19_21, v19_22, v19_23, v19_24, v19_25, v19_26, v19_27, v19_28, v19_29, v19_30, v19_31, v19_32, v19_33, v19_34, v19_35, v19_36, v19_37, v19_38, v19_39, v19_40])), (q_1918, .inl (cA_1918, 1002, .inl (fun j : Nat => zI (a19_becomes (j : Int))))), (hc, .inr (12, [v13_0, v13_1, v13_2, v13_3, v13_4, .ref la, v13_6]))] ++ va_pl L (pE P63)) → va_S A s.heap H locs → W p l e (headSpec v_P19_becomeAll ({ frames := 4, cells := 0, slots := 0, locals := 85 })).room s m ([.ref h0, .ref hc] : List Value).toArray below meth c H locs 0 0 Q (F0 m 63 ls []) := by
                intro n63
                induction n63 with
                | zero => intro d63_6 P63 ls H locs tP63 kP63 aP63 jd63_6 jv63 jd63 jr63 hm63; exact absurd hm63 (by omega)
                | succ n63 ih63 =>
                  intro d63_6 P63 ls H locs tP63 kP63 aP63 jd63_6 jv63 jd63 jr63 hm63 hl hP hD hS
                  have hq_2122 : la ∈ L ∧ P63.kd la = 30 := kP63.mem hq_2110.1 hq_2110.2 (by decide)
                  have hq_2123 : xb_2005 ∈ L ∧ P63.kd xb_2005 = 12 := kP63.mem hq_2111.1 hq_2111.2 (by decide)
                  have hq_2124 : pr_2015 ∈ L ∧ P63.kd pr_2015 = 30 := kP63.mem hq_2112.1 hq_2112.2 (by decide)
                  have hq_2125 : xp_2091 ∈ L ∧ P63.kd xp_2091 = 15 := kP63.mem hq_2113.1 hq_2113.2 (by decide)
                  have hi_2126 : INB P63 la xb_2005 := kP63.inb hi_2114
                  have ha_2127 : P63.bp xb_2005 = pr_2015 := kP63.bp hq_2111.1 hq_2111.2 ha_2115
                  have hz9 := kP63.2.2.1
                  have hA_2128 : KEP [] L P L P63 la := hA_2116.trans kP63
                  have hA_2129 : KEP [] L P2 L P63 la := hA_2117.trans kP63
                  have hA_2130 : KEP [] L P19 L P63 la := hA_2118.trans kP63
                  have hj63 := kP63
                  have hpn9 := jr63.1
                  refine lv_iload hx hb dX19_become_63 (lv_at hl 6 rfl) ?_
                  refine lv_aload hx hb dX19_become_65 (lv_at hl 5 rfl) ?_
                  have hp9 := aP63.pik hq_2125.1 hq_2125.2
                  have hpn := hp9.2.2.2.2.1
                  have hpt := hp9.2.2.2.2.2.1
                  clear hp9
                  obtain ⟨kp_2131, hkp_2131⟩ := va_pl_get (X := [(h0, .inr (16, [v19_0, v19_1, v19_2, v19_3, v19_4, v19_5, v19_6, v19_7, v19_8, v19_9, v19_10, v19_11, v19_12, v19_13, v19_14, v19_15, v19_16, v19_17, .ref q_1918, v19_19, v19_20, v19_21, v19_22, v19_23, v19_24, v19_25, v19_26, v19_27, v19_28, v19_29, v19_30, v19_31, v19_32, v19_33, v19_34, v19_35, v19_36, v19_37, v19_38, v19_39, v19_40])), (q_1918, .inl (cA_1918, 1002, .inl (fun j : Nat => zI (a19_becomes (j : Int))))), (hc, .inr (12, [v13_0, v13_1, v13_2, v13_3, v13_4, .ref la, v13_6]))]) (f := pE P63) hq_2125.1
                  rw [pE_phi hq_2125.2] at hkp_2131
                  refine va_get (D := (dC, dI)) (ci := 20) (v := .int (zI (P63.pn xp_2091))) (C := RX15) (T := TX15) (N := 6) hx hb hts mem_P19_becomeAll_7 hown hK hP kp_2131 hkp_2131 rfl 1 (by decide) (ow (k := 25) rfl) (fun _ h9 => h9) rfl dX19_become_67 ?_
                  refine lv_icmp_ge (tgt := 111) hx hb dX19_become_70 (by decide) (fun b70 => ?_) (fun b70 => ?_)
                  · have yb70 : (P63.pn xp_2091 : Int) ≤ (d63_6 : Int) := (zI_le (a := P63.pn xp_2091) (b := d63_6) (by omega) (by omega) (by omega) (by omega)).mp b70
                    have hdn_2132 : DON P P63 a19_becomes (VST P la (d2_2) (d19_4 + 1) (0)) := jd63.add (fun z q => by rw [hxi_2095]; exact q.phi) ⟨fun q9 => absurd q9 (by rw [hpk_2097.1.2]; decide), fun _ => jr63.full (by omega)⟩
                    skip
                    refine lv_iinc (v := zI (d19_4 + 1)) (lv' := [(4, .int (zI (d19_4 + 1))), (0, .ref h0), (1, .ref hc), (2, .int (zI (d2_2))), (3, .ref xb_2005), (5, .ref xp_2091), (6, .int (zI (d63_6)))]) hx hb dX19_become_111 hl (k := 4) rfl (zI_add (d19_4) (1)) (by decide) rfl (fun ls hl => ?_)
                    refine lv_goto (tgt := 19) hx hb dX19_become_114 (by decide) ?_
                    exact ih19 (d19_4 + 1) P63 ls H _ (by omega) (kP19.trans hA_2130) aP63 (by omega) jv63 hdn_2132 (by omega) (lv_sub hl [1, 2, 3, 4, 0] rfl) hP hD hS
                  · have yb70 : ¬ (P63.pn xp_2091 : Int) ≤ (d63_6 : Int) := fun q => b70 ((zI_le (a := P63.pn xp_2091) (b := d63_6) (by omega) (by omega) (by omega) (by omega)).mpr q)
                    refine lv_aload hx hb dX19_become_73 (lv_at hl 5 rfl) ?_
                    obtain ⟨kp_2133, hkp_2133⟩ := va_pl_get (X := [(h0, .inr (16, [v19_0, v19_1, v19_2, v19_3, v19_4, v19_5, v19_6, v19_7, v19_8, v19_9, v19_10, v19_11, v19_12, v19_13, v19_14, v19_15, v19_16, v19_17, .ref q_1918, v19_19, v19_20, v19_21, v19_22, v19_23, v19_24, v19_25, v19_26, v19_27, v19_28, v19_29, v19_30, v19_31, v19_32, v19_33, v19_34, v19_35, v19_36, v19_37, v19_38, v19_39, v19_40])), (q_1918, .inl (cA_1918, 1002, .inl (fun j : Nat => zI (a19_becomes (j : Int))))), (hc, .inr (12, [v13_0, v13_1, v13_2, v13_3, v13_4, .ref la, v13_6]))]) (f := pE P63) hq_2125.1
                    rw [pE_phi hq_2125.2] at hkp_2133
                    refine va_get (D := (dC, dI)) (ci := 20) (v := .ref (P63.pr xp_2091)) (C := RX15) (T := TX15) (N := 6) hx hb hts mem_P19_becomeAll_7 hown hK hP kp_2133 hkp_2133 rfl 4 (by decide) (ow (k := 26) rfl) (fun _ h9 => h9) rfl dX19_become_75 ?_
                    obtain ⟨pr_2134, epr_2134⟩ : ∃ q9 : Nat, q9 = P63.pr xp_2091 := ⟨_, rfl⟩
                    rw [← epr_2134]
                    have hpk_2135 := aP63.pik hq_2125.1 hq_2125.2
                    have hopr_2134 : pr_2134 ∈ L ∧ P63.kd pr_2134 = 42 ∧ P63.ac pr_2134 = cZ ∧ P63.ow pr_2134 = xp_2091 := (by rw [epr_2134]; exact hpk_2135.2.2.2.1)
                    have hnpr_2134 : P63.an pr_2134 = P63.an (P63.pr xp_2091) := (by rw [epr_2134])
                    have hipr_2134 : P63.ia pr_2134 = P63.ia (P63.pr xp_2091) := (by rw [epr_2134])
                    refine lv_iload hx hb dX19_become_78 (lv_at hl 6 rfl) ?_
                    obtain ⟨kp_2136, hkp_2136⟩ := va_pl_get (X := [(h0, .inr (16, [v19_0, v19_1, v19_2, v19_3, v19_4, v19_5, v19_6, v19_7, v19_8, v19_9, v19_10, v19_11, v19_12, v19_13, v19_14, v19_15, v19_16, v19_17, .ref q_1918, v19_19, v19_20, v19_21, v19_22, v19_23, v19_24, v19_25, v19_26, v19_27, v19_28, v19_29, v19_30, v19_31, v19_32, v19_33, v19_34, v19_35, v19_36, v19_37, v19_38, v19_39, v19_40])), (q_1918, .inl (cA_1918, 1002, .inl (fun j : Nat => zI (a19_becomes (j : Int))))), (hc, .inr (12, [v13_0, v13_1, v13_2, v13_3, v13_4, .ref la, v13_6]))]) (f := pE P63) hopr_2134.1
                    rw [pE_n42 hopr_2134.2.1, hopr_2134.2.2.1] at hkp_2136
                    refine va_zald hx hb hK hP kp_2136 2 hkp_2136 rfl (zI_in (a := d63_6) (n := P63.an pr_2134) (by omega) (by omega) (by omega)) dX19_become_80 ?_
                    refine lv_topi (fun z ez => ?_)
                    obtain rfl : z = zI (P63.ia pr_2134 (d63_6)) := ez.trans (zI_ld (P63.ia pr_2134) (by omega) (by omega))
                    have hef9 := hpk_2135.ef (i := d63_6) (by omega) (by omega)
                    unfold PEF EF at hef9
                    have : P63.ia pr_2134 (d63_6) = P63.ia (P63.pr xp_2091) (d63_6) := (by rw [hipr_2134])
                    have hat9 := jr63.at (by omega) (by omega)
                    have hoc9 := hop9.2 (d63_6) (by omega) (by omega)
                    have hqr9 : P.pr xp_2091 = pr_2134 := (jv63.pr xp_2091).symm.trans epr_2134.symm
                    have hbt9 := hat9.1
                    rw [hqr9] at hbt9
                    skip
                    refine lv_if_eq (tgt := 105) hx hb dX19_become_81 (by decide) (fun b81 => ?_) (fun b81 => ?_)
                    · have yb81 : (P63.ia pr_2134 (d63_6) : Int) = (0 : Int) := (zI_eq (a := P63.ia pr_2134 (d63_6)) (b := 0) (by omega) (by omega) (by omega) (by omega)).mp b81
                      refine lv_iinc (v := zI (d63_6 + 1)) (lv' := [(6, .int (zI (d63_6 + 1))), (0, .ref h0), (1, .ref hc), (2, .int (zI (d2_2))), (3, .ref xb_2005), (4, .int (zI (d19_4))), (5, .ref xp_2091)]) hx hb dX19_become_105 hl (k := 6) rfl (zI_add (d63_6) (1)) (by decide) rfl (fun ls hl => ?_)
                      refine lv_goto (tgt := 63) hx hb dX19_become_108 (by decide) ?_
                      exact ih63 (d63_6 + 1) P63 ls H _ (by omega) (kP63.trans (KEP.refl [] L P63 la)) aP63 (by omega) jv63 jd63 (jr63.skip (by omega) (by rw [hqr9]; omega)) (by omega) (lv_sub hl [1, 2, 3, 4, 5, 6, 0] rfl) hP hD hS
                    · have yb81 : ¬ (P63.ia pr_2134 (d63_6) : Int) = (0 : Int) := fun q => b81 ((zI_eq (a := P63.ia pr_2134 (d63_6)) (b := 0) (by omega) (by omega) (by omega) (by omega)).mpr q)
                      refine lv_aload hx hb dX19_become_84 (lv_at hl 5 rfl) ?_
                      obtain ⟨kp_2137, hkp_2137⟩ := va_pl_get (X := [(h0, .inr (16, [v19_0, v19_1, v19_2, v19_3, v19_4, v19_5, v19_6, v19_7, v19_8, v19_9, v19_10, v19_11, v19_12, v19_13, v19_14, v19_15, v19_16, v19_17, .ref q_1918, v19_19, v19_20, v19_21, v19_22, v19_23, v19_24, v19_25, v19_26, v19_27, v19_28, v19_29, v19_30, v19_31, v19_32, v19_33, v19_34, v19_35, v19_36, v19_37, v19_38, v19_39, v19_40])), (q_1918, .inl (cA_1918, 1002, .inl (fun j : Nat => zI (a19_becomes (j : Int))))), (hc, .inr (12, [v13_0, v13_1, v13_2, v13_3, v13_4, .ref la, v13_6]))]) (f := pE P63) hq_2125.1
                      rw [pE_phi hq_2125.2] at hkp_2137
                      refine va_get (D := (dC, dI)) (ci := 20) (v := .ref (P63.pu xp_2091)) (C := RX15) (T := TX15) (N := 6) hx hb hts mem_P19_becomeAll_7 hown hK hP kp_2137 hkp_2137 rfl 3 (by decide) (ow (k := 27) rfl) (fun _ h9 => h9) rfl dX19_become_86 ?_
                      obtain ⟨pr_2138, epr_2138⟩ : ∃ q9 : Nat, q9 = P63.pu xp_2091 := ⟨_, rfl⟩
                      rw [← epr_2138]
                      have hpk_2139 := aP63.pik hq_2125.1 hq_2125.2
                      have hopr_2138 : pr_2138 ∈ L ∧ P63.kd pr_2138 = 41 ∧ P63.ac pr_2138 = cI ∧ P63.ow pr_2138 = xp_2091 := (by rw [epr_2138]; exact hpk_2139.2.2.1)
                      have hnpr_2138 : P63.an pr_2138 = P63.an (P63.pu xp_2091) := (by rw [epr_2138])
                      have hipr_2138 : P63.ia pr_2138 = P63.ia (P63.pu xp_2091) := (by rw [epr_2138])
                      refine lv_iload hx hb dX19_become_89 (lv_at hl 6 rfl) ?_
                      refine lv_aload_n hx hb dX19_become_91 rfl (lv_at hl 0 rfl) ?_
                      refine va_get (D := (dC, dI)) (ci := 16) (v := .ref q_1918) (C := RX19) (T := TX19) (N := 41) hx hb hts mem_P19_becomeAll_6 hown hK hP 0 rfl rfl 18 (by decide) (ow (k := 23) rfl) (fun _ h9 => h9) rfl dX19_become_92 ?_
                      refine lv_aload hx hb dX19_become_95 (lv_at hl 5 rfl) ?_
                      obtain ⟨kp_2140, hkp_2140⟩ := va_pl_get (X := [(h0, .inr (16, [v19_0, v19_1, v19_2, v19_3, v19_4, v19_5, v19_6, v19_7, v19_8, v19_9, v19_10, v19_11, v19_12, v19_13, v19_14, v19_15, v19_16, v19_17, .ref q_1918, v19_19, v19_20, v19_21, v19_22, v19_23, v19_24, v19_25, v19_26, v19_27, v19_28, v19_29, v19_30, v19_31, v19_32, v19_33, v19_34, v19_35, v19_36, v19_37, v19_38, v19_39, v19_40])), (q_1918, .inl (cA_1918, 1002, .inl (fun j : Nat => zI (a19_becomes (j : Int))))), (hc, .inr (12, [v13_0, v13_1, v13_2, v13_3, v13_4, .ref la, v13_6]))]) (f := pE P63) hq_2125.1
                      rw [pE_phi hq_2125.2] at hkp_2140
                      refine va_get (D := (dC, dI)) (ci := 20) (v := .ref (P63.pu xp_2091)) (C := RX15) (T := TX15) (N := 6) hx hb hts mem_P19_becomeAll_7 hown hK hP kp_2140 hkp_2140 rfl 3 (by decide) (ow (k := 27) rfl) (fun _ h9 => h9) rfl dX19_become_97 ?_
                      obtain ⟨pr_2141, epr_2141⟩ : ∃ q9 : Nat, q9 = P63.pu xp_2091 := ⟨_, rfl⟩
                      rw [← epr_2141]
                      obtain rfl : pr_2138 = pr_2141 := (by rw [epr_2141]; exact epr_2138.symm.symm)
                      refine lv_iload hx hb dX19_become_100 (lv_at hl 6 rfl) ?_
                      obtain ⟨kp_2142, hkp_2142⟩ := va_pl_get (X := [(h0, .inr (16, [v19_0, v19_1, v19_2, v19_3, v19_4, v19_5, v19_6, v19_7, v19_8, v19_9, v19_10, v19_11, v19_12, v19_13, v19_14, v19_15, v19_16, v19_17, .ref q_1918, v19_19, v19_20, v19_21, v19_22, v19_23, v19_24, v19_25, v19_26, v19_27, v19_28, v19_29, v19_30, v19_31, v19_32, v19_33, v19_34, v19_35, v19_36, v19_37, v19_38, v19_39, v19_40])), (q_1918, .inl (cA_1918, 1002, .inl (fun j : Nat => zI (a19_becomes (j : Int))))), (hc, .inr (12, [v13_0, v13_1, v13_2, v13_3, v13_4, .ref la, v13_6]))]) (f := pE P63) hopr_2138.1
                      rw [pE_n41 hopr_2138.2.1, hopr_2138.2.2.1] at hkp_2142
                      refine va_iald hx hb hK hP kp_2142 1 hkp_2142 rfl (zI_in (a := d63_6) (n := P63.an pr_2138) (by omega) (by omega) (by omega)) dX19_become_102 ?_
                      refine lv_topi (fun z ez => ?_)
                      obtain rfl : z = zI (P63.ia pr_2138 (d63_6)) := ez.trans (zI_ld (P63.ia pr_2138) (by omega) (by omega))
                      have hef9 := hpk_2139.ef (i := d63_6) (by omega) (by omega)
                      unfold PEF EF at hef9
                      have : P63.ia pr_2138 (d63_6) = P63.ia (P63.pu xp_2091) (d63_6) := (by rw [hipr_2138])
                      have hqu9 : P.pu xp_2091 = pr_2138 := (jv63.pu xp_2091).symm.trans epr_2138.symm
                      rw [hqr9, hqu9] at hoc9
                      rw [hqu9, hqr9] at hat9
                      have hcv9 : 0 ≤ a19_becomes (P63.ia pr_2138 (d63_6)) := (by rw [hat9.2]; omega)
                      skip
                      refine va_iald hx hb hK hP 1 0 rfl rfl (zI_in (a := P63.ia pr_2138 (d63_6)) (n := 1002) (by omega) (by omega) (by decide)) dX19_become_103 ?_
                      refine lv_topi (fun z ez => ?_)
                      obtain rfl : z = zI (a19_becomes (P63.ia pr_2138 (d63_6))) := ez.trans (zI_ld (a19_becomes) (by omega) (by omega))
                      have k2 := hR_a19_becomes (P63.ia pr_2138 (d63_6))
                      obtain ⟨kp_2143, gkp_2143⟩ := va_pl_get (X := [(h0, .inr (16, [v19_0, v19_1, v19_2, v19_3, v19_4, v19_5, v19_6, v19_7, v19_8, v19_9, v19_10, v19_11, v19_12, v19_13, v19_14, v19_15, v19_16, v19_17, .ref q_1918, v19_19, v19_20, v19_21, v19_22, v19_23, v19_24, v19_25, v19_26, v19_27, v19_28, v19_29, v19_30, v19_31, v19_32, v19_33, v19_34, v19_35, v19_36, v19_37, v19_38, v19_39, v19_40])), (q_1918, .inl (cA_1918, 1002, .inl (fun j : Nat => zI (a19_becomes (j : Int))))), (hc, .inr (12, [v13_0, v13_1, v13_2, v13_3, v13_4, .ref la, v13_6]))]) (f := pE P63) hopr_2138.1
                      have hkp_2143 := gkp_2143
                      rw [pE_n41 hopr_2138.2.1, hopr_2138.2.2.1] at hkp_2143
                      have hD0 := hD
                      refine va_iast (i := zI (d63_6)) hx hb hK hP hD hS kp_2143 1 hkp_2143 rfl (zI_in (a := d63_6) (n := P63.an pr_2138) (by omega) (by omega) (by omega)) dX19_become_104 (fun H locs hP hD hS => ?_)
                      obtain ⟨Pw_2144, ePw_2144⟩ : ∃ q9 : PO, q9 = P63.ri9 pr_2138 (zup (P63.ia pr_2138) (d63_6) (a19_becomes (P63.ia pr_2138 (d63_6)))) := ⟨_, rfl⟩
                      have eQ : upd (fun j : Nat => zI (P63.ia pr_2138 (j : Int))) (zI (d63_6)).toNatClampNeg (zI (a19_becomes (P63.ia pr_2138 (d63_6)))) = (fun j : Nat => zI ((zup (P63.ia pr_2138) (d63_6) (a19_becomes (P63.ia pr_2138 (d63_6)))) (j : Int))) := zI_st (P63.ia pr_2138) (e := d63_6) (v := a19_becomes (P63.ia pr_2138 (d63_6))) (by omega) (by omega)
                      have eU : (([(h0, .inr (16, [v19_0, v19_1, v19_2, v19_3, v19_4, v19_5, v19_6, v19_7, v19_8, v19_9, v19_10, v19_11, v19_12, v19_13, v19_14, v19_15, v19_16, v19_17, .ref q_1918, v19_19, v19_20, v19_21, v19_22, v19_23, v19_24, v19_25, v19_26, v19_27, v19_28, v19_29, v19_30, v19_31, v19_32, v19_33, v19_34, v19_35, v19_36, v19_37, v19_38, v19_39, v19_40])), (q_1918, .inl (cA_1918, 1002, .inl (fun j : Nat => zI (a19_becomes (j : Int))))), (hc, .inr (12, [v13_0, v13_1, v13_2, v13_3, v13_4, .ref la, v13_6]))] : va_W) ++ va_pl L (pE P63)).set kp_2143 (pr_2138, (.inl (cI, P63.an pr_2138, .inl (upd (fun j : Nat => zI (P63.ia pr_2138 (j : Int))) (zI (d63_6)).toNatClampNeg (zI (a19_becomes (P63.ia pr_2138 (d63_6)))))) : va_E)) = ([(h0, .inr (16, [v19_0, v19_1, v19_2, v19_3, v19_4, v19_5, v19_6, v19_7, v19_8, v19_9, v19_10, v19_11, v19_12, v19_13, v19_14, v19_15, v19_16, v19_17, .ref q_1918, v19_19, v19_20, v19_21, v19_22, v19_23, v19_24, v19_25, v19_26, v19_27, v19_28, v19_29, v19_30, v19_31, v19_32, v19_33, v19_34, v19_35, v19_36, v19_37, v19_38, v19_39, v19_40])), (q_1918, .inl (cA_1918, 1002, .inl (fun j : Nat => zI (a19_becomes (j : Int))))), (hc, .inr (12, [v13_0, v13_1, v13_2, v13_3, v13_4, .ref la, v13_6]))] : va_W) ++ va_pl L (pE Pw_2144) := (by rw [eQ, va_pl_set hD0 hopr_2138.1 gkp_2143, ePw_2144]; exact congrArg (fun f9 => ([(h0, .inr (16, [v19_0, v19_1, v19_2, v19_3, v19_4, v19_5, v19_6, v19_7, v19_8, v19_9, v19_10, v19_11, v19_12, v19_13, v19_14, v19_15, v19_16, v19_17, .ref q_1918, v19_19, v19_20, v19_21, v19_22, v19_23, v19_24, v19_25, v19_26, v19_27, v19_28, v19_29, v19_30, v19_31, v19_32, v19_33, v19_34, v19_35, v19_36, v19_37, v19_38, v19_39, v19_40])), (q_1918, .inl (cA_1918, 1002, .inl (fun j : Nat => zI (a19_becomes (j : Int))))), (hc, .inr (12, [v13_0, v13_1, v13_2, v13_3, v13_4, .ref la, v13_6]))] : va_W) ++ va_pl L f9) (by have h9 := putnum (P := P63) (x := pr_2138) (a := zup (P63.ia pr_2138) (d63_6) (a19_becomes (P63.ia pr_2138 (d63_6)))) (by omega); rw [hopr_2138.2.2.1] at h9; exact h9))
                      have hP : va_P (dC, dI) vwQ ([(h0, .inr (16, [v19_0, v19_1, v19_2, v19_3, v19_4, v19_5, v19_6, v19_7, v19_8, v19_9, v19_10, v19_11, v19_12, v19_13, v19_14, v19_15, v19_16, v19_17, .ref q_1918, v19_19, v19_20, v19_21, v19_22, v19_23, v19_24, v19_25, v19_26, v19_27, v19_28, v19_29, v19_30, v19_31, v19_32, v19_33, v19_34, v19_35, v19_36, v19_37, v19_38, v19_39, v19_40])), (q_1918, .inl (cA_1918, 1002, .inl (fun j : Nat => zI (a19_becomes (j : Int))))), (hc, .inr (12, [v13_0, v13_1, v13_2, v13_3, v13_4, .ref la, v13_6]))] ++ va_pl L (pE Pw_2144)) H := (by rw [← eU]; exact hP)
                      have hD : va_D A ([(h0, .inr (16, [v19_0, v19_1, v19_2, v19_3, v19_4, v19_5, v19_6, v19_7, v19_8, v19_9, v19_10, v19_11, v19_12, v19_13, v19_14, v19_15, v19_16, v19_17, .ref q_1918, v19_19, v19_20, v19_21, v19_22, v19_23, v19_24, v19_25, v19_26, v19_27, v19_28, v19_29, v19_30, v19_31, v19_32, v19_33, v19_34, v19_35, v19_36, v19_37, v19_38, v19_39, v19_40])), (q_1918, .inl (cA_1918, 1002, .inl (fun j : Nat => zI (a19_becomes (j : Int))))), (hc, .inr (12, [v13_0, v13_1, v13_2, v13_3, v13_4, .ref la, v13_6]))] ++ va_pl L (pE Pw_2144)) := (by rw [← eU]; exact hD)
                      clear eU eQ hD0 gkp_2143 hkp_2143
                      have wPw_2144 : PH1 xp_2091 P63 Pw_2144 := (by rw [ePw_2144]; exact PH1.num hopr_2138.2.2.2)
                      have hi_2145 : Pw_2144.ia pr_2134 = P63.ia pr_2134 := (by rw [ePw_2144]; exact ri9_of _ _ (kd_ne hopr_2134.2.1 hopr_2138.2.1 (by decide)))
                      have hi_2146 : Pw_2144.ia pr_2138 = zup (P63.ia pr_2138) (d63_6) (a19_becomes (P63.ia pr_2138 (d63_6))) := (by rw [ePw_2144]; exact ri9_at _ _ _)
                      have hy_2147 : Pw_2144.kd la = 30 := (by rw [ePw_2144]; exact hq_2122.2)
                      have hy_2148 : Pw_2144.kd xb_2005 = 12 := (by rw [ePw_2144]; exact hq_2123.2)
                      have : Pw_2144.bf xb_2005 = P63.bf xb_2005 := (by rw [ePw_2144]; rfl)
                      have : Pw_2144.bs xb_2005 = P63.bs xb_2005 := (by rw [ePw_2144]; rfl)
                      have hy_2149 : Pw_2144.kd pr_2015 = 30 := (by rw [ePw_2144]; exact hq_2124.2)
                      have hy_2150 : Pw_2144.kd xp_2091 = 15 := (by rw [ePw_2144]; exact hq_2125.2)
                      have : Pw_2144.pt xp_2091 = P63.pt xp_2091 := (by rw [ePw_2144]; rfl)
                      have : Pw_2144.pn xp_2091 = P63.pn xp_2091 := (by rw [ePw_2144]; rfl)
                      have : Pw_2144.pg xp_2091 = P63.pg xp_2091 := (by rw [ePw_2144]; rfl)
                      have hy_2151 : Pw_2144.kd pr_2134 = 42 := (by rw [ePw_2144]; exact hopr_2134.2.1)
                      have hy_2152 : Pw_2144.kd pr_2138 = 41 := (by rw [ePw_2144]; exact hopr_2138.2.1)
                      have hc_2153 : Pw_2144.ac pr_2134 = cZ := (by rw [ePw_2144]; exact hopr_2134.2.2.1)
                      have : Pw_2144.an pr_2134 = P63.an pr_2134 := (by rw [ePw_2144]; rfl)
                      have hc_2154 : Pw_2144.ac pr_2138 = cI := (by rw [ePw_2144]; exact hopr_2138.2.2.1)
                      have : Pw_2144.an pr_2138 = P63.an pr_2138 := (by rw [ePw_2144]; rfl)
                      have ha_2155 : Pw_2144.bp xb_2005 = pr_2015 := (by rw [ePw_2144]; exact ha_2127)
                      have ha_2156 : Pw_2144.pr xp_2091 = pr_2134 := (by rw [ePw_2144]; exact epr_2134.symm)
                      have ha_2157 : Pw_2144.pu xp_2091 = pr_2138 := (by rw [ePw_2144]; exact epr_2138.symm)
                      have ho_2158 : Pw_2144.ow pr_2134 = xp_2091 := (by rw [ePw_2144]; exact hopr_2134.2.2.2)
                      have ho_2159 : Pw_2144.ow pr_2138 = xp_2091 := (by rw [ePw_2144]; exact hopr_2138.2.2.2)
                      have hpt_2160 := PIK.put (aP63.pik hq_2125.1 hq_2125.2) epr_2138.symm (i := d63_6) (v := a19_becomes (P63.ia pr_2138 (d63_6))) (by omega) (by omega) (by omega) (by omega) ePw_2144
                      have hrw_2161 : RWD P63 Pw_2144 := hpt_2160.1.rwd hq_2125.2
                      have hke_2162 : KEP [] L P63 L Pw_2144 la := hrw_2161.kep _ hq_2122.2
                      have hak_2163 : ALP L Pw_2144 cO cI cZ sx_ed la := aP63.phi hpt_2160.1 hq_2125.2 hpt_2160.2.1 hpt_2160.2.2.1
                      have hq_2164 : la ∈ L ∧ Pw_2144.kd la = 30 := hke_2162.mem hq_2122.1 hq_2122.2 (by decide)
                      have hq_2165 : xb_2005 ∈ L ∧ Pw_2144.kd xb_2005 = 12 := hke_2162.mem hq_2123.1 hq_2123.2 (by decide)
                      have hq_2166 : pr_2015 ∈ L ∧ Pw_2144.kd pr_2015 = 30 := hke_2162.mem hq_2124.1 hq_2124.2 (by decide)
                      have hq_2167 : xp_2091 ∈ L ∧ Pw_2144.kd xp_2091 = 15 := hke_2162.mem hq_2125.1 hq_2125.2 (by decide)
                      have hi_2168 : INB Pw_2144 la xb_2005 := hke_2162.inb hi_2126
                      have ha_2169 : Pw_2144.bp xb_2005 = pr_2015 := hke_2162.bp hq_2123.1 hq_2123.2 ha_2127
                      have hz9 := hke_2162.2.2.1
                      have hA_2170 : KEP [] L P L Pw_2144 la := hA_2128.trans hke_2162
                      have hA_2171 : KEP [] L P2 L Pw_2144 la := hA_2129.trans hke_2162
                      have hA_2172 : KEP [] L P19 L Pw_2144 la := hA_2130.trans hke_2162
                      have hA_2173 : KEP [] L P63 L Pw_2144 la := (KEP.refl [] L P63 la).trans hke_2162
                      have : Pw_2144.lz la = P63.lz la := hrw_2161.lz hq_2122.2
                      have : Pw_2144.lz pr_2015 = P63.lz pr_2015 := hrw_2161.lz hq_2124.2
                      have ht9 := hrw_2161.tot aP63 2 (Or.inr rfl)
                      have ht8 := hrw_2161.tot aP63 1 (Or.inl rfl)
                      have hpn9 := hpt_2160.2.2.2.1.1
                      have huv_2174 : UNV P Pw_2144 (VST P la (d2_2) (d19_4 + 1) 0) := jv63.step hpt_2160.1 (by rw [((jv63.kd xp_2091).symm.trans hq_2125.2)]; decide) (fun z q => q) (by rw [hxi_2095]; exact VST.aphi (by omega) (by omega) (by omega) (by omega))
                      have hdn_2175 : DON P Pw_2144 a19_becomes (VST P la (d2_2) (d19_4) 0) := (jd63.keep (fun z v k => hX_a9.vpik z v k) hpt_2160.1 (fun a => jv63.ow a) hfr_2096)
                      have hrn_2176 : RNP P Pw_2144 a19_becomes xp_2091 (d63_6 + 1) := jr63.put (by omega) (by rw [hqr9]; omega) (by rw [hqu9, ← hat9.2]) hpt_2160.2.2.2.1 (by have q9 := hpt_2160.2.2.2.2.1; rw [jv63.pp] at q9; exact q9) (by have q9 := hpt_2160.2.2.2.2.2.1; rw [jv63.pr] at q9; exact q9) (by have q9 := hpt_2160.2.2.2.2.2.2; rw [jv63.pu] at q9; exact q9)
                      refine lv_iinc (v := zI (d63_6 + 1)) (lv' := [(6, .int (zI (d63_6 + 1))), (0, .ref h0), (1, .ref hc), (2, .int (zI (d2_2))), (3, .ref xb_2005), (4, .int (zI (d19_4))), (5, .ref xp_2091)]) hx hb dX19_become_105 hl (k := 6) rfl (zI_add (d63_6) (1)) (by decide) rfl (fun ls hl => ?_)
                      refine lv_goto (tgt := 63) hx hb dX19_become_108 (by decide) ?_
                      exact ih63 (d63_6 + 1) Pw_2144 ls H _ (by omega) (kP63.trans hA_2173) hak_2163 (by omega) huv_2174 hdn_2175 hrn_2176 (by omega) (lv_sub hl [1, 2, 3, 4, 5, 6, 0] rfl) hP hD hS
              exact key63 ((400 - 0 : Int).toNat + 1) 0 Pw_2100 ls H _ (by omega) (KEP.refl _ _ _ _) hak_2108 (by omega) huv_2119 hdn_2120 hrn_2121 (by omega) (lv_sub hl [2, 3, 4, 5, 6, 1, 0] rfl) hP hD hS
        exact key19 ((50000 - 0 : Int).toNat + 1) 0 P2 ls H _ (by omega) (KEP.refl _ _ _ _) aP2 (by omega) jv2 jd2 (by omega) (lv_sub hl [2, 3, 4, 1, 0] rfl) hP hD hS
  exact key2 ((400 - 0 : Int).toNat + 1) 0 P ls H _ (by omega) (KEP.refl _ _ _ _) hX_a9 (by omega) hv0 hd0 (by omega) (lv_sub hl [1, 2, 0] rfl) hP hD hS
