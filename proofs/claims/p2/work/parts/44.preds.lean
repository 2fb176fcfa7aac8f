theorem dX0_findPreds_0 : decode cX0_findPreds 0 = .ok (.iconst 0, 1) := by decide +kernel
theorem dX0_findPreds_1 : decode cX0_findPreds 1 = .ok (.istore_n 1, 1) := by decide +kernel
theorem dX0_findPreds_2 : decode cX0_findPreds 2 = .ok (.iload_n 1, 1) := by decide +kernel
theorem dX0_findPreds_3 : decode cX0_findPreds 3 = .ok (.aload_n 0, 1) := by decide +kernel
theorem dX0_findPreds_4 : decode cX0_findPreds 4 = .ok (.getfield 9, 3) := by decide +kernel
theorem dX0_findPreds_7 : decode cX0_findPreds 7 = .ok (.if_icmp .gt 16, 3) := by decide +kernel
theorem dX0_findPreds_23 : decode cX0_findPreds 23 = .ok (.iconst 0, 1) := by decide +kernel
theorem dX0_findPreds_24 : decode cX0_findPreds 24 = .ok (.istore_n 1, 1) := by decide +kernel
theorem dX0_findPreds_25 : decode cX0_findPreds 25 = .ok (.iload_n 1, 1) := by decide +kernel
theorem dX0_findPreds_26 : decode cX0_findPreds 26 = .ok (.aload_n 0, 1) := by decide +kernel
theorem dX0_findPreds_27 : decode cX0_findPreds 27 = .ok (.getfield 9, 3) := by decide +kernel
theorem dX0_findPreds_30 : decode cX0_findPreds 30 = .ok (.if_icmp .ge 41, 3) := by decide +kernel
theorem dX0_findPreds_71 : decode cX0_findPreds 71 = .ok (.iconst 0, 1) := by decide +kernel
theorem dX0_findPreds_72 : decode cX0_findPreds 72 = .ok (.istore_n 1, 1) := by decide +kernel
theorem dX0_findPreds_73 : decode cX0_findPreds 73 = .ok (.iconst 0, 1) := by decide +kernel
theorem dX0_findPreds_74 : decode cX0_findPreds 74 = .ok (.istore_n 2, 1) := by decide +kernel
theorem dX0_findPreds_75 : decode cX0_findPreds 75 = .ok (.iload_n 2, 1) := by decide +kernel
theorem dX0_findPreds_76 : decode cX0_findPreds 76 = .ok (.aload_n 0, 1) := by decide +kernel
theorem dX0_findPreds_77 : decode cX0_findPreds 77 = .ok (.getfield 9, 3) := by decide +kernel
theorem dX0_findPreds_80 : decode cX0_findPreds 80 = .ok (.if_icmp .gt 27, 3) := by decide +kernel
theorem dX0_findPreds_107 : decode cX0_findPreds 107 = .ok (.iconst 0, 1) := by decide +kernel
theorem dX0_findPreds_108 : decode cX0_findPreds 108 = .ok (.istore_n 2, 1) := by decide +kernel
theorem dX0_findPreds_109 : decode cX0_findPreds 109 = .ok (.iload_n 2, 1) := by decide +kernel
theorem dX0_findPreds_110 : decode cX0_findPreds 110 = .ok (.aload_n 0, 1) := by decide +kernel
theorem dX0_findPreds_111 : decode cX0_findPreds 111 = .ok (.getfield 9, 3) := by decide +kernel
theorem dX0_findPreds_114 : decode cX0_findPreds 114 = .ok (.if_icmp .ge 58, 3) := by decide +kernel
theorem dX0_findPreds_172 : decode cX0_findPreds 172 = .ok (.aload_n 0, 1) := by decide +kernel
theorem dX0_findPreds_173 : decode cX0_findPreds 173 = .ok (.getfield 9, 3) := by decide +kernel
theorem dX0_findPreds_176 : decode cX0_findPreds 176 = .ok (.istore_n 2, 1) := by decide +kernel
theorem dX0_findPreds_177 : decode cX0_findPreds 177 = .ok (.iload_n 2, 1) := by decide +kernel
theorem dX0_findPreds_178 : decode cX0_findPreds 178 = .ok (.ifCond .le 23, 3) := by decide +kernel
theorem dX0_findPreds_201 : decode cX0_findPreds 201 = .ok (.aload_n 0, 1) := by decide +kernel
theorem dX0_findPreds_202 : decode cX0_findPreds 202 = .ok (.getfield 53, 3) := by decide +kernel
theorem dX0_findPreds_205 : decode cX0_findPreds 205 = .ok (.iconst 0, 1) := by decide +kernel
theorem dX0_findPreds_206 : decode cX0_findPreds 206 = .ok (.iconst 0, 1) := by decide +kernel
theorem dX0_findPreds_207 : decode cX0_findPreds 207 = .ok (.iastore, 1) := by decide +kernel
theorem dX0_findPreds_208 : decode cX0_findPreds 208 = .ok (.return_, 1) := by decide +kernel
theorem dX0_findPreds_181 : decode cX0_findPreds 181 = .ok (.aload_n 0, 1) := by decide +kernel
theorem dX0_findPreds_182 : decode cX0_findPreds 182 = .ok (.getfield 53, 3) := by decide +kernel
theorem dX0_findPreds_185 : decode cX0_findPreds 185 = .ok (.iload_n 2, 1) := by decide +kernel
theorem dX0_findPreds_186 : decode cX0_findPreds 186 = .ok (.aload_n 0, 1) := by decide +kernel
theorem dX0_findPreds_187 : decode cX0_findPreds 187 = .ok (.getfield 53, 3) := by decide +kernel
theorem dX0_findPreds_190 : decode cX0_findPreds 190 = .ok (.iload_n 2, 1) := by decide +kernel
theorem dX0_findPreds_191 : decode cX0_findPreds 191 = .ok (.iconst 1, 1) := by decide +kernel
theorem dX0_findPreds_192 : decode cX0_findPreds 192 = .ok (.isub, 1) := by decide +kernel
theorem dX0_findPreds_193 : decode cX0_findPreds 193 = .ok (.iaload, 1) := by decide +kernel
theorem dX0_findPreds_194 : decode cX0_findPreds 194 = .ok (.iastore, 1) := by decide +kernel
theorem dX0_findPreds_195 : decode cX0_findPreds 195 = .ok (.iinc 2 (-1), 3) := by decide +kernel
theorem dX0_findPreds_198 : decode cX0_findPreds 198 = .ok (.goto (-21), 3) := by decide +kernel
theorem dX0_findPreds_117 : decode cX0_findPreds 117 = .ok (.iconst 0, 1) := by decide +kernel
theorem dX0_findPreds_118 : decode cX0_findPreds 118 = .ok (.istore_n 3, 1) := by decide +kernel
theorem dX0_findPreds_119 : decode cX0_findPreds 119 = .ok (.iload_n 3, 1) := by decide +kernel
theorem dX0_findPreds_120 : decode cX0_findPreds 120 = .ok (.aload_n 0, 1) := by decide +kernel
theorem dX0_findPreds_121 : decode cX0_findPreds 121 = .ok (.iload_n 2, 1) := by decide +kernel
theorem dX0_findPreds_122 : decode cX0_findPreds 122 = .ok (.invokevirtual 89, 3) := by decide +kernel
theorem dX0_findPreds_125 : decode cX0_findPreds 125 = .ok (.if_icmp .ge 41, 3) := by decide +kernel
theorem dX0_findPreds_166 : decode cX0_findPreds 166 = .ok (.iinc 2 1, 3) := by decide +kernel
theorem dX0_findPreds_169 : decode cX0_findPreds 169 = .ok (.goto (-60), 3) := by decide +kernel
theorem dX0_findPreds_128 : decode cX0_findPreds 128 = .ok (.aload_n 0, 1) := by decide +kernel
theorem dX0_findPreds_129 : decode cX0_findPreds 129 = .ok (.iload_n 2, 1) := by decide +kernel
theorem dX0_findPreds_130 : decode cX0_findPreds 130 = .ok (.iload_n 3, 1) := by decide +kernel
theorem dX0_findPreds_131 : decode cX0_findPreds 131 = .ok (.invokevirtual 93, 3) := by decide +kernel
theorem dX0_findPreds_134 : decode cX0_findPreds 134 = .ok (.istore 4, 2) := by decide +kernel
theorem dX0_findPreds_136 : decode cX0_findPreds 136 = .ok (.aload_n 0, 1) := by decide +kernel
theorem dX0_findPreds_137 : decode cX0_findPreds 137 = .ok (.getfield 56, 3) := by decide +kernel
theorem dX0_findPreds_140 : decode cX0_findPreds 140 = .ok (.aload_n 0, 1) := by decide +kernel
theorem dX0_findPreds_141 : decode cX0_findPreds 141 = .ok (.getfield 53, 3) := by decide +kernel
theorem dX0_findPreds_144 : decode cX0_findPreds 144 = .ok (.iload 4, 2) := by decide +kernel
theorem dX0_findPreds_146 : decode cX0_findPreds 146 = .ok (.iaload, 1) := by decide +kernel
theorem dX0_findPreds_147 : decode cX0_findPreds 147 = .ok (.iload_n 2, 1) := by decide +kernel
theorem dX0_findPreds_148 : decode cX0_findPreds 148 = .ok (.iastore, 1) := by decide +kernel
theorem dX0_findPreds_149 : decode cX0_findPreds 149 = .ok (.aload_n 0, 1) := by decide +kernel
theorem dX0_findPreds_150 : decode cX0_findPreds 150 = .ok (.getfield 53, 3) := by decide +kernel
theorem dX0_findPreds_153 : decode cX0_findPreds 153 = .ok (.iload 4, 2) := by decide +kernel
theorem dX0_findPreds_155 : decode cX0_findPreds 155 = .ok (.dup2, 1) := by decide +kernel
theorem dX0_findPreds_156 : decode cX0_findPreds 156 = .ok (.iaload, 1) := by decide +kernel
theorem dX0_findPreds_157 : decode cX0_findPreds 157 = .ok (.iconst 1, 1) := by decide +kernel
theorem dX0_findPreds_158 : decode cX0_findPreds 158 = .ok (.iadd, 1) := by decide +kernel
theorem dX0_findPreds_159 : decode cX0_findPreds 159 = .ok (.iastore, 1) := by decide +kernel
theorem dX0_findPreds_160 : decode cX0_findPreds 160 = .ok (.iinc 3 1, 3) := by decide +kernel
theorem dX0_findPreds_163 : decode cX0_findPreds 163 = .ok (.goto (-44), 3) := by decide +kernel
theorem dX0_findPreds_83 : decode cX0_findPreds 83 = .ok (.aload_n 0, 1) := by decide +kernel
theorem dX0_findPreds_84 : decode cX0_findPreds 84 = .ok (.getfield 53, 3) := by decide +kernel
theorem dX0_findPreds_87 : decode cX0_findPreds 87 = .ok (.iload_n 2, 1) := by decide +kernel
theorem dX0_findPreds_88 : decode cX0_findPreds 88 = .ok (.iaload, 1) := by decide +kernel
theorem dX0_findPreds_89 : decode cX0_findPreds 89 = .ok (.istore_n 3, 1) := by decide +kernel
theorem dX0_findPreds_90 : decode cX0_findPreds 90 = .ok (.aload_n 0, 1) := by decide +kernel
theorem dX0_findPreds_91 : decode cX0_findPreds 91 = .ok (.getfield 53, 3) := by decide +kernel
theorem dX0_findPreds_94 : decode cX0_findPreds 94 = .ok (.iload_n 2, 1) := by decide +kernel
theorem dX0_findPreds_95 : decode cX0_findPreds 95 = .ok (.iload_n 1, 1) := by decide +kernel
theorem dX0_findPreds_96 : decode cX0_findPreds 96 = .ok (.iastore, 1) := by decide +kernel
theorem dX0_findPreds_97 : decode cX0_findPreds 97 = .ok (.iload_n 1, 1) := by decide +kernel
theorem dX0_findPreds_98 : decode cX0_findPreds 98 = .ok (.iload_n 3, 1) := by decide +kernel
theorem dX0_findPreds_99 : decode cX0_findPreds 99 = .ok (.iadd, 1) := by decide +kernel
theorem dX0_findPreds_100 : decode cX0_findPreds 100 = .ok (.istore_n 1, 1) := by decide +kernel
theorem dX0_findPreds_101 : decode cX0_findPreds 101 = .ok (.iinc 2 1, 3) := by decide +kernel
theorem dX0_findPreds_104 : decode cX0_findPreds 104 = .ok (.goto (-29), 3) := by decide +kernel
theorem dX0_findPreds_33 : decode cX0_findPreds 33 = .ok (.iconst 0, 1) := by decide +kernel
theorem dX0_findPreds_34 : decode cX0_findPreds 34 = .ok (.istore_n 2, 1) := by decide +kernel
theorem dX0_findPreds_35 : decode cX0_findPreds 35 = .ok (.iload_n 2, 1) := by decide +kernel
theorem dX0_findPreds_36 : decode cX0_findPreds 36 = .ok (.aload_n 0, 1) := by decide +kernel
theorem dX0_findPreds_37 : decode cX0_findPreds 37 = .ok (.iload_n 1, 1) := by decide +kernel
theorem dX0_findPreds_38 : decode cX0_findPreds 38 = .ok (.invokevirtual 89, 3) := by decide +kernel
theorem dX0_findPreds_41 : decode cX0_findPreds 41 = .ok (.if_icmp .ge 24, 3) := by decide +kernel
theorem dX0_findPreds_65 : decode cX0_findPreds 65 = .ok (.iinc 1 1, 3) := by decide +kernel
theorem dX0_findPreds_68 : decode cX0_findPreds 68 = .ok (.goto (-43), 3) := by decide +kernel
theorem dX0_findPreds_44 : decode cX0_findPreds 44 = .ok (.aload_n 0, 1) := by decide +kernel
theorem dX0_findPreds_45 : decode cX0_findPreds 45 = .ok (.getfield 53, 3) := by decide +kernel
theorem dX0_findPreds_48 : decode cX0_findPreds 48 = .ok (.aload_n 0, 1) := by decide +kernel
theorem dX0_findPreds_49 : decode cX0_findPreds 49 = .ok (.iload_n 1, 1) := by decide +kernel
theorem dX0_findPreds_50 : decode cX0_findPreds 50 = .ok (.iload_n 2, 1) := by decide +kernel
theorem dX0_findPreds_51 : decode cX0_findPreds 51 = .ok (.invokevirtual 93, 3) := by decide +kernel
theorem dX0_findPreds_54 : decode cX0_findPreds 54 = .ok (.dup2, 1) := by decide +kernel
theorem dX0_findPreds_55 : decode cX0_findPreds 55 = .ok (.iaload, 1) := by decide +kernel
theorem dX0_findPreds_56 : decode cX0_findPreds 56 = .ok (.iconst 1, 1) := by decide +kernel
theorem dX0_findPreds_57 : decode cX0_findPreds 57 = .ok (.iadd, 1) := by decide +kernel
theorem dX0_findPreds_58 : decode cX0_findPreds 58 = .ok (.iastore, 1) := by decide +kernel
theorem dX0_findPreds_59 : decode cX0_findPreds 59 = .ok (.iinc 2 1, 3) := by decide +kernel
theorem dX0_findPreds_62 : decode cX0_findPreds 62 = .ok (.goto (-27), 3) := by decide +kernel
theorem dX0_findPreds_10 : decode cX0_findPreds 10 = .ok (.aload_n 0, 1) := by decide +kernel
theorem dX0_findPreds_11 : decode cX0_findPreds 11 = .ok (.getfield 53, 3) := by decide +kernel
theorem dX0_findPreds_14 : decode cX0_findPreds 14 = .ok (.iload_n 1, 1) := by decide +kernel
theorem dX0_findPreds_15 : decode cX0_findPreds 15 = .ok (.iconst 0, 1) := by decide +kernel
theorem dX0_findPreds_16 : decode cX0_findPreds 16 = .ok (.iastore, 1) := by decide +kernel
theorem dX0_findPreds_17 : decode cX0_findPreds 17 = .ok (.iinc 1 1, 3) := by decide +kernel
theorem dX0_findPreds_20 : decode cX0_findPreds 20 = .ok (.goto (-18), 3) := by decide +kernel
def o_X0_findPreds : List Cond := [.fieldLink RX0 9 "SsaForge$Code" "blocks" "I", .fieldLink RX0 53 "SsaForge$Code" "predStart" "[I", .methodLink RX0 89 yX0_goalCount, .instanceMethod yX0_goalCount, .selects RX0 yX0_goalCount yX0_goalCount, .initialized RX0, .methodLink RX0 93 yX0_goal, .instanceMethod yX0_goal, .selects RX0 yX0_goal yX0_goal, .fieldLink RX0 56 "SsaForge$Code" "preds" "[I"]
def v_X0_findPreds : List Cond := .code yX0_findPreds cX0_findPreds 5 none :: (o_X0_findPreds ++ (wsX00 ++ (v_X0_goalCount ++ (v_X0_goal ++ []))))
theorem mow_X0_findPreds : ∀ w ∈ o_X0_findPreds, w ∈ v_X0_findPreds := fun _ h => List.mem_cons_of_mem _ (List.mem_append_left _ h)
theorem mem_X0_findPreds_0 : ∀ w ∈ wsX00, w ∈ v_X0_findPreds := fun _ h => List.mem_cons_of_mem _ (List.mem_append_right _ (List.mem_append_left _ h))
theorem mem_X0_findPreds_1 : ∀ w ∈ v_X0_goalCount, w ∈ v_X0_findPreds := fun _ h => List.mem_cons_of_mem _ (List.mem_append_right _ (List.mem_append_right _ (List.mem_append_left _ h)))
theorem mem_X0_findPreds_2 : ∀ w ∈ v_X0_goal, w ∈ v_X0_findPreds := fun _ h => List.mem_cons_of_mem _ (List.mem_append_right _ (List.mem_append_right _ (List.mem_append_right _ (List.mem_append_left _ h))))
set_option maxRecDepth 20000 in
theorem gw_X0_findPreds : v_X0_findPreds.all goodWord = true := by decide +kernel
set_option maxRecDepth 20000 in
theorem g_X0_findPreds_X0_goalCount : GoodIn v_X0_findPreds (wsV RX0 89 RX0 yX0_goalCount v_X0_goalCount) := goodIn_app (goodIn_sub (fun w h => mow_X0_findPreds w (by revert w h; decide +kernel)) (by decide +kernel)) (goodIn_sub mem_X0_findPreds_1 gw_X0_goalCount)
set_option maxRecDepth 20000 in
theorem g_X0_findPreds_X0_goal : GoodIn v_X0_findPreds (wsV RX0 93 RX0 yX0_goal v_X0_goal) := goodIn_app (goodIn_sub (fun w h => mow_X0_findPreds w (by revert w h; decide +kernel)) (by decide +kernel)) (goodIn_sub mem_X0_findPreds_2 gw_X0_goal)
set_option maxHeartbeats 4000000 in
set_option maxRecDepth 100000 in
theorem c_X0_findPreds (l : Launch) (dC : Nat → ClassId) (dI : Nat → Nat → Nat) (h0 : Nat) (B1 : Int) (v_1 : Value) (v_2 : Value) (v_3 : Value) (v_4 : Value) (v_5 : Value) (v_6 : Value) (v_7 : Value) (v_8 : Value) (q_709 : Nat) (cA_709 : ClassId) (a_9 : Int → Int) (v_10 : Value) (q_711 : Nat) (cA_711 : ClassId) (a_11 : Int → Int) (q_712 : Nat) (cA_712 : ClassId) (a_12 : Int → Int) (q_713 : Nat) (cA_713 : ClassId) (a_13 : Int → Int) (q_714 : Nat) (cA_714 : ClassId) (a_14 : Int → Int) (v_15 : Value) (v_16 : Value) (v_17 : Value) (v_18 : Value) (hNB1 : 0 ≤ B1 ∧ B1 ≤ 300) (hR_a_9 : ∀ j : Int, 0 ≤ a_9 j ∧ a_9 j ≤ 2) (hR_a_11 : ∀ j : Int, -1 ≤ a_11 j ∧ a_11 j ≤ 299) (hR_a_12 : ∀ j : Int, -1 ≤ a_12 j ∧ a_12 j ≤ 299) (hR_a_13 : ∀ j : Int, 0 ≤ a_13 j ∧ a_13 j ≤ 600) (hR_a_14 : ∀ j : Int, 0 ≤ a_14 j ∧ a_14 j ≤ 299) (hX_G : ∀ b : Int, 0 ≤ b → b < B1 → ¬ a_9 b = 2 → (0 ≤ a_11 b ∧ a_11 b < B1) ∧ (0 ≤ a_12 b ∧ a_12 b < B1)) (sz : Nat) : Met l yX0_findPreds v_X0_findPreds ({ frames := 1, cells := 0, slots := 0, locals := 22 }) (va_Pc [.ref h0] (fun U => U.heap.size = sz ∧ va_P (dC, dI) vwP [(h0, .inr (0, [.int (zI (B1)), v_1, v_2, v_3, v_4, v_5, v_6, v_7, v_8, .ref q_709, v_10, .ref q_711, .ref q_712, .ref q_713, .ref q_714, v_15, v_16, v_17, v_18])), (q_709, .inl (cA_709, 300, .inl (fun j : Nat => zI (a_9 (j : Int))))), (q_711, .inl (cA_711, 300, .inl (fun j : Nat => zI (a_11 (j : Int))))), (q_712, .inl (cA_712, 300, .inl (fun j : Nat => zI (a_12 (j : Int))))), (q_713, .inl (cA_713, 301, .inl (fun j : Nat => zI (a_13 (j : Int))))), (q_714, .inl (cA_714, 600, .inl (fun j : Nat => zI (a_14 (j : Int)))))] U.heap ∧ va_K (dC, dI) vwP [(cA_709, .int), (cA_711, .int), (cA_712, .int), (cA_713, .int), (cA_714, .int)] U ∧ va_D (fun _ => True) [(h0, .inr (0, [.int (zI (B1)), v_1, v_2, v_3, v_4, v_5, v_6, v_7, v_8, .ref q_709, v_10, .ref q_711, .ref q_712, .ref q_713, .ref q_714, v_15, v_16, v_17, v_18])), (q_709, .inl (cA_709, 300, .inl (fun j : Nat => zI (a_9 (j : Int))))), (q_711, .inl (cA_711, 300, .inl (fun j : Nat => zI (a_11 (j : Int))))), (q_712, .inl (cA_712, 300, .inl (fun j : Nat => zI (a_12 (j : Int))))), (q_713, .inl (cA_713, 301, .inl (fun j : Nat => zI (a_13 (j : Int))))), (q_714, .inl (cA_714, 600, .inl (fun j : Nat => zI (a_14 (j : Int)))))])) (va_Qv (fun _ : Unit => True) (fun (_ : Unit) (t : State) => ∃ (a0_9 : Int → Int) (a1_9 : Int → Int), ((∀ j : Int, 0 ≤ a0_9 j ∧ a0_9 j ≤ 600) ∧ (∀ j : Int, 0 ≤ a1_9 j ∧ a1_9 j ≤ 299)) ∧ va_P (dC, dI) vwP [(h0, .inr (0, [.int (zI (B1)), v_1, v_2, v_3, v_4, v_5, v_6, v_7, v_8, .ref q_709, v_10, .ref q_711, .ref q_712, .ref q_713, .ref q_714, v_15, v_16, v_17, v_18])), (q_709, .inl (cA_709, 300, .inl (fun j : Nat => zI (a_9 (j : Int))))), (q_711, .inl (cA_711, 300, .inl (fun j : Nat => zI (a_11 (j : Int))))), (q_712, .inl (cA_712, 300, .inl (fun j : Nat => zI (a_12 (j : Int))))), (q_713, .inl (cA_713, 301, .inl (fun j : Nat => zI (a0_9 (j : Int))))), (q_714, .inl (cA_714, 600, .inl (fun j : Nat => zI (a1_9 (j : Int)))))] t.heap ∧ va_K (dC, dI) vwP [(cA_709, .int), (cA_711, .int), (cA_712, .int), (cA_713, .int), (cA_714, .int)] t ∧ va_D (va_A [(h0, .inr (0, [.int (zI (B1)), v_1, v_2, v_3, v_4, v_5, v_6, v_7, v_8, .ref q_709, v_10, .ref q_711, .ref q_712, .ref q_713, .ref q_714, v_15, v_16, v_17, v_18])), (q_709, .inl (cA_709, 300, .inl (fun j : Nat => zI (a_9 (j : Int))))), (q_711, .inl (cA_711, 300, .inl (fun j : Nat => zI (a_11 (j : Int))))), (q_712, .inl (cA_712, 300, .inl (fun j : Nat => zI (a_12 (j : Int))))), (q_713, .inl (cA_713, 301, .inl (fun j : Nat => zI (a_13 (j : Int))))), (q_714, .inl (cA_714, 600, .inl (fun j : Nat => zI (a_14 (j : Int)))))] sz) [(h0, .inr (0, [.int (zI (B1)), v_1, v_2, v_3, v_4, v_5, v_6, v_7, v_8, .ref q_709, v_10, .ref q_711, .ref q_712, .ref q_713, .ref q_714, v_15, v_16, v_17, v_18])), (q_709, .inl (cA_709, 300, .inl (fun j : Nat => zI (a_9 (j : Int))))), (q_711, .inl (cA_711, 300, .inl (fun j : Nat => zI (a_11 (j : Int))))), (q_712, .inl (cA_712, 300, .inl (fun j : Nat => zI (a_12 (j : Int))))), (q_713, .inl (cA_713, 301, .inl (fun j : Nat => zI (a0_9 (j : Int))))), (q_714, .inl (cA_714, 600, .inl (fun j : Nat => zI (a1_9 (j : Int)))))]) (va_A [(h0, .inr (0, [.int (zI (B1)), v_1, v_2, v_3, v_4, v_5, v_6, v_7, v_8, .ref q_709, v_10, .ref q_711, .ref q_712, .ref q_713, .ref q_714, v_15, v_16, v_17, v_18])), (q_709, .inl (cA_709, 300, .inl (fun j : Nat => zI (a_9 (j : Int))))), (q_711, .inl (cA_711, 300, .inl (fun j : Nat => zI (a_11 (j : Int))))), (q_712, .inl (cA_712, 300, .inl (fun j : Nat => zI (a_12 (j : Int))))), (q_713, .inl (cA_713, 301, .inl (fun j : Nat => zI (a_13 (j : Int))))), (q_714, .inl (cA_714, 600, .inl (fun j : Nat => zI (a_14 (j : Int)))))] sz)) 0 0 (va_A [(h0, .inr (0, [.int (zI (B1)), v_1, v_2, v_3, v_4, v_5, v_6, v_7, v_8, .ref q_709, v_10, .ref q_711, .ref q_712, .ref q_713, .ref q_714, v_15, v_16, v_17, v_18])), (q_709, .inl (cA_709, 300, .inl (fun j : Nat => zI (a_9 (j : Int))))), (q_711, .inl (cA_711, 300, .inl (fun j : Nat => zI (a_11 (j : Int))))), (q_712, .inl (cA_712, 300, .inl (fun j : Nat => zI (a_12 (j : Int))))), (q_713, .inl (cA_713, 301, .inl (fun j : Nat => zI (a_13 (j : Int))))), (q_714, .inl (cA_714, 600, .inl (fun j : Nat => zI (a_14 (j : Int)))))] sz) := by
  refine Met.ofW (cc := cX0_findPreds) (maxL := 5) (ret := none) (by decide) rfl ?_
  intro p e s m args below meth c s₁ B hml hv
  obtain ⟨rfl, hsz, hP, hK, hD0⟩ := hv
  have hx := B.exec
  have hb := B.bytes
  have hr := B.returns
  have hts := atoms_spec (ws := v_X0_findPreds) B.pre
  have hown : s.vm.findClass RX0 = some m.cls := findClass_of_methodNamed B.named
  have hlocks := B.notSynchronized
  have ow : ∀ {k : Nat} {w : Cond}, o_X0_findPreds[k]? = some w → w.before ([.ref h0] : List Value).toArray s = true := fun h => hts _ (mow_X0_findPreds _ (List.mem_of_getElem? h))
  subst hsz
  have hD := hD0.self (sz := s.heap.size)
  generalize hAe : va_A [(h0, .inr (0, [.int (zI (B1)), v_1, v_2, v_3, v_4, v_5, v_6, v_7, v_8, .ref q_709, v_10, .ref q_711, .ref q_712, .ref q_713, .ref q_714, v_15, v_16, v_17, v_18])), (q_709, .inl (cA_709, 300, .inl (fun j : Nat => zI (a_9 (j : Int))))), (q_711, .inl (cA_711, 300, .inl (fun j : Nat => zI (a_11 (j : Int))))), (q_712, .inl (cA_712, 300, .inl (fun j : Nat => zI (a_12 (j : Int))))), (q_713, .inl (cA_713, 301, .inl (fun j : Nat => zI (a_13 (j : Int))))), (q_714, .inl (cA_714, 600, .inl (fun j : Nat => zI (a_14 (j : Int)))))] s.heap.size = A at hD ⊢
  have hA : ∀ q : Nat, s.heap.size ≤ q → A q := fun q h => by rw [← hAe]; exact Or.inr h
  have hS : va_S A s.heap s.heap [] := va_S.rf
  have hP : va_P (dC, dI) vwP [(h0, .inr (0, [.int (zI (B1)), v_1, v_2, v_3, v_4, v_5, v_6, v_7, v_8, .ref q_709, v_10, .ref q_711, .ref q_712, .ref q_713, .ref q_714, v_15, v_16, v_17, v_18])), (q_709, .inl (cA_709, 300, .inl (fun j : Nat => zI (a_9 (j : Int))))), (q_711, .inl (cA_711, 300, .inl (fun j : Nat => zI (a_11 (j : Int))))), (q_712, .inl (cA_712, 300, .inl (fun j : Nat => zI (a_12 (j : Int))))), (q_713, .inl (cA_713, 301, .inl (fun j : Nat => zI (a_13 (j : Int))))), (q_714, .inl (cA_714, 600, .inl (fun j : Nat => zI (a_14 (j : Int)))))] s.heap := hP
  have hl := lv_entry ([.ref h0]) (n := 5) (Nat.le_of_ble_eq_true rfl)
  rw [lg_entry_eq]
  generalize (lg_sl ([.ref h0]) ++ List.replicate (5 - (lg_sl ([.ref h0])).length) Slot.unset).toArray = ls at hl ⊢
  have hl : lv_has ls 5 [(0, .ref h0)] := hl
  obtain ⟨H, hH⟩ : ∃ H, H = s.heap := ⟨_, rfl⟩
  rw [← hH] at hP
  have hS : va_S A s.heap H [] := by rw [hH]; exact hS
  rw [← hH]
  refine zW_cap (fun Q hQ => ?_)
  refine lv_iconst (v := 0) hx hb dX0_findPreds_0 (by decide) ?_
  refine lv_istore_n (lv' := [(1, .int 0), (0, .ref h0)]) hx hb dX0_findPreds_1 rfl hl (by decide) rfl (fun ls hl => ?_)
  have key2 : ∀ n2 : Nat, ∀ (i : Int) (w : Int → Int) (ls : Array Slot) (H : Heap) (locs : List Loc), (∀ j : Int, 0 ≤ w j ∧ w j ≤ 600) → (0 ≤ i ∧ i ≤ B1 + 1) → (∀ j : Int, 0 ≤ j → j < i → w j = 0) → ((B1 + 1 - i : Int).toNat) < n2 → lv_has ls 5 [(0, .ref h0), (1, .int (zI (i)))] → va_P (dC, dI) vwP [(h0, .inr (0, [.int (zI (B1)), v_1, v_2, v_3, v_4, v_5, v_6, v_7, v_8, .ref q_709, v_10, .ref q_711, .ref q_712, .ref q_713, .ref q_714, v_15, v_16, v_17, v_18])), (q_709, .inl (cA_709, 300, .inl (fun j : Nat => zI (a_9 (j : Int))))), (q_711, .inl (cA_711, 300, .inl (fun j : Nat => zI (a_11 (j : Int))))), (q_712, .inl (cA_712, 300, .inl (fun j : Nat => zI (a_12 (j : Int))))), (q_713, .inl (cA_713, 301, .inl (fun j : Nat => zI (w (j : Int))))), (q_714, .inl (cA_714, 600, .inl (fun j : Nat => zI (a_14 (j : Int)))))] H → va_D A [(h0, .inr (0, [.int (zI (B1)), v_1, v_2, v_3, v_4, v_5, v_6, v_7, v_8, .ref q_709, v_10, .ref q_711, .ref q_712, .ref q_713, .ref q_714, v_15, v_16, v_17, v_18])), (q_709, .inl (cA_709, 300, .inl (fun j : Nat => zI (a_9 (j : Int))))), (q_711, .inl (cA_711, 300, .inl (fun j : Nat => zI (a_11 (j : Int))))), (q_712, .inl (cA_712, 300, .inl (fun j : Nat => zI (a_12 (j : Int))))), (q_713, .inl (cA_713, 301, .inl (fun j : Nat => zI (w (j : Int))))), (q_714, .inl (cA_714, 600, .inl (fun j : Nat => zI (a_14 (j : Int)))))] → va_S A s.heap H locs → W p l e (headSpec v_X0_findPreds ({ frames := 1, cells := 0, slots := 0, locals := 22 })).room s m ([.ref h0] : List Value).toArray below meth c H locs 0 0 Q (F0 m 2 ls []) := by
    intro n2
    induction n2 with
    | zero => intro i w ls H locs jw ji jW hm2; exact absurd hm2 (by omega)
    | succ n2 ih2 =>
      intro i w ls H locs jw ji jW hm2 hl hP hD hS
      refine lv_iload_n hx hb dX0_findPreds_2 rfl (lv_at hl 1 rfl) ?_
      refine lv_aload_n hx hb dX0_findPreds_3 rfl (lv_at hl 0 rfl) ?_
      refine va_get (D := (dC, dI)) (ci := 0) (v := .int (zI (B1))) (C := RX0) (T := TX0) (N := 19) hx hb hts mem_X0_findPreds_0 hown hK hP 0 rfl rfl 0 (by decide) (ow (k := 0) rfl) (fun _ h9 => h9) rfl dX0_findPreds_4 ?_
      refine lv_icmp_gt (tgt := 23) hx hb dX0_findPreds_7 (by decide) (fun b7 => ?_) (fun b7 => ?_)
      · have yb7 : (B1 : Int) < (i : Int) := (zI_lt (a := B1) (b := i) (by omega) (by omega) (by omega) (by omega)).mp b7
        refine lv_iconst (v := 0) hx hb dX0_findPreds_23 (by decide) ?_
        refine lv_istore_n (lv' := [(1, .int 0), (0, .ref h0)]) hx hb dX0_findPreds_24 rfl hl (by decide) rfl (fun ls hl => ?_)
        have key25 : ∀ n25 : Nat, ∀ (b : Int) (w : Int → Int) (ls : Array Slot) (H : Heap) (locs : List Loc), (∀ j : Int, 0 ≤ w j ∧ w j ≤ 600) → (0 ≤ b ∧ b ≤ B1) → (∀ j : Int, 0 ≤ j → j ≤ B1 → w j = 0 + cn a_9 a_11 a_12 j b.toNat) → ((B1 - b : Int).toNat) < n25 → lv_has ls 5 [(0, .ref h0), (1, .int (zI (b)))] → va_P (dC, dI) vwP [(h0, .inr (0, [.int (zI (B1)), v_1, v_2, v_3, v_4, v_5, v_6, v_7, v_8, .ref q_709, v_10, .ref q_711, .ref q_712, .ref q_713, .ref q_714, v_15, v_16, v_17, v_18])), (q_709, .inl (cA_709, 300, .inl (fun j : Nat => zI (a_9 (j : Int))))), (q_711, .inl (cA_711, 300, .inl (fun j : Nat => zI (a_11 (j : Int))))), (q_712, .inl (cA_712, 300, .inl (fun j : Nat => zI (a_12 (j : Int))))), (q_713, .inl (cA_713, 301, .inl (fun j : Nat => zI (w (j : Int))))), (q_714, .inl (cA_714, 600, .inl (fun j : Nat => zI (a_14 (j : Int)))))] H → va_D A [(h0, .inr (0, [.int (zI (B1)), v_1, v_2, v_3, v_4, v_5, v_6, v_7, v_8, .ref q_709, v_10, .ref q_711, .ref q_712, .ref q_713, .ref q_714, v_15, v_16, v_17, v_18])), (q_709, .inl (cA_709, 300, .inl (fun j : Nat => zI (a_9 (j : Int))))), (q_711, .inl (cA_711, 300, .inl (fun j : Nat => zI (a_11 (j : Int))))), (q_712, .inl (cA_712, 300, .inl (fun j : Nat => zI (a_12 (j : Int))))), (q_713, .inl (cA_713, 301, .inl (fun j : Nat => zI (w (j : Int))))), (q_714, .inl (cA_714, 600, .inl (fun j : Nat => zI (a_14 (j : Int)))))] → va_S A s.heap H locs → W p l e (headSpec v_X0_findPreds ({ frames := 1, cells := 0, slots := 0, locals := 22 })).room s m ([.ref h0] : List Value).toArray below meth c H locs 0 0 Q (F0 m 25 ls []) := by
          intro n25
          induction n25 with
          | zero => intro b w ls H locs jw jb jW hm25; exact absurd hm25 (by omega)
          | succ n25 ih25 =>
            intro b w ls H locs jw jb jW hm25 hl hP hD hS
            refine lv_iload_n hx hb dX0_findPreds_25 rfl (lv_at hl 1 rfl) ?_
            refine lv_aload_n hx hb dX0_findPreds_26 rfl (lv_at hl 0 rfl) ?_
            refine va_get (D := (dC, dI)) (ci := 0) (v := .int (zI (B1))) (C := RX0) (T := TX0) (N := 19) hx hb hts mem_X0_findPreds_0 hown hK hP 0 rfl rfl 0 (by decide) (ow (k := 0) rfl) (fun _ h9 => h9) rfl dX0_findPreds_27 ?_
            refine lv_icmp_ge (tgt := 71) hx hb dX0_findPreds_30 (by decide) (fun b30 => ?_) (fun b30 => ?_)
            · have yb30 : (B1 : Int) ≤ (b : Int) := (zI_le (a := B1) (b := b) (by omega) (by omega) (by omega) (by omega)).mp b30
              refine lv_iconst (v := 0) hx hb dX0_findPreds_71 (by decide) ?_
              refine lv_istore_n (lv' := [(1, .int 0), (0, .ref h0)]) hx hb dX0_findPreds_72 rfl hl (by decide) rfl (fun ls hl => ?_)
              refine lv_iconst (v := 0) hx hb dX0_findPreds_73 (by decide) ?_
              refine lv_istore_n (lv' := [(2, .int 0), (1, .int 0), (0, .ref h0)]) hx hb dX0_findPreds_74 rfl hl (by decide) rfl (fun ls hl => ?_)
              have key75 : ∀ n75 : Nat, ∀ (S : Int) (b : Int) (w : Int → Int) (ls : Array Slot) (H : Heap) (locs : List Loc), (∀ j : Int, 0 ≤ w j ∧ w j ≤ 600) → (0 ≤ b ∧ b ≤ B1 + 1) → (S = psF a_9 a_11 a_12 B1.toNat b.toNat) → (∀ j : Int, 0 ≤ j → j < b → w j = psF a_9 a_11 a_12 B1.toNat j.toNat) → (∀ j : Int, b ≤ j → j ≤ B1 → w j = cn a_9 a_11 a_12 j B1.toNat) → ((B1 + 1 - b : Int).toNat) < n75 → lv_has ls 5 [(0, .ref h0), (1, .int (zI (S))), (2, .int (zI (b)))] → va_P (dC, dI) vwP [(h0, .inr (0, [.int (zI (B1)), v_1, v_2, v_3, v_4, v_5, v_6, v_7, v_8, .ref q_709, v_10, .ref q_711, .ref q_712, .ref q_713, .ref q_714, v_15, v_16, v_17, v_18])), (q_709, .inl (cA_709, 300, .inl (fun j : Nat => zI (a_9 (j : Int))))), (q_711, .inl (cA_711, 300, .inl (fun j : Nat => zI (a_11 (j : Int))))), (q_712, .inl (cA_712, 300, .inl (fun j : Nat => zI (a_12 (j : Int))))), (q_713, .inl (cA_713, 301, .inl (fun j : Nat => zI (w (j : Int))))), (q_714, .inl (cA_714, 600, .inl (fun j : Nat => zI (a_14 (j : Int)))))] H → va_D A [(h0, .inr (0, [.int (zI (B1)), v_1, v_2, v_3, v_4, v_5, v_6, v_7, v_8, .ref q_709, v_10, .ref q_711, .ref q_712, .ref q_713, .ref q_714, v_15, v_16, v_17, v_18])), (q_709, .inl (cA_709, 300, .inl (fun j : Nat => zI (a_9 (j : Int))))), (q_711, .inl (cA_711, 300, .inl (fun j : Nat => zI (a_11 (j : Int))))), (q_712, .inl (cA_712, 300, .inl (fun j : Nat => zI (a_12 (j : Int))))), (q_713, .inl (cA_713, 301, .inl (fun j : Nat => zI (w (j : Int))))), (q_714, .inl (cA_714, 600, .inl (fun j : Nat => zI (a_14 (j : Int)))))] → va_S A s.heap H locs → W p l e (headSpec v_X0_findPreds ({ frames := 1, cells := 0, slots := 0, locals := 22 })).room s m ([.ref h0] : List Value).toArray below meth c H locs 0 0 Q (F0 m 75 ls []) := by
                intro n75
                induction n75 with
                | zero => intro S b w ls H locs jw jb jS jW jV hm75; exact absurd hm75 (by omega)
                | succ n75 ih75 =>
                  intro S b w ls H locs jw jb jS jW jV hm75 hl hP hD hS
                  refine lv_iload_n hx hb dX0_findPreds_75 rfl (lv_at hl 2 rfl) ?_
                  refine lv_aload_n hx hb dX0_findPreds_76 rfl (lv_at hl 0 rfl) ?_
                  refine va_get (D := (dC, dI)) (ci := 0) (v := .int (zI (B1))) (C := RX0) (T := TX0) (N := 19) hx hb hts mem_X0_findPreds_0 hown hK hP 0 rfl rfl 0 (by decide) (ow (k := 0) rfl) (fun _ h9 => h9) rfl dX0_findPreds_77 ?_
                  refine lv_icmp_gt (tgt := 107) hx hb dX0_findPreds_80 (by decide) (fun b80 => ?_) (fun b80 => ?_)
                  · have yb80 : (B1 : Int) < (b : Int) := (zI_lt (a := B1) (b := b) (by omega) (by omega) (by omega) (by omega)).mp b80
                    refine lv_iconst (v := 0) hx hb dX0_findPreds_107 (by decide) ?_
                    refine lv_istore_n (lv' := [(2, .int 0), (0, .ref h0), (1, .int (zI (S)))]) hx hb dX0_findPreds_108 rfl hl (by decide) rfl (fun ls hl => ?_)
                    have key109 : ∀ n109 : Nat, ∀ (b : Int) (w : Int → Int) (uu : Int → Int) (ls : Array Slot) (H : Heap) (locs : List Loc), (∀ j : Int, 0 ≤ w j ∧ w j ≤ 600) → (∀ j : Int, 0 ≤ uu j ∧ uu j ≤ 299) → (0 ≤ b ∧ b ≤ B1) → (∀ j : Int, 0 ≤ j → j ≤ B1 → w j = psF a_9 a_11 a_12 B1.toNat j.toNat + cn a_9 a_11 a_12 j b.toNat) → ((B1 - b : Int).toNat) < n109 → lv_has ls 5 [(0, .ref h0), (2, .int (zI (b)))] → va_P (dC, dI) vwP [(h0, .inr (0, [.int (zI (B1)), v_1, v_2, v_3, v_4, v_5, v_6, v_7, v_8, .ref q_709, v_10, .ref q_711, .ref q_712, .ref q_713, .ref q_714, v_15, v_16, v_17, v_18])), (q_709, .inl (cA_709, 300, .inl (fun j : Nat => zI (a_9 (j : Int))))), (q_711, .inl (cA_711, 300, .inl (fun j : Nat => zI (a_11 (j : Int))))), (q_712, .inl (cA_712, 300, .inl (fun j : Nat => zI (a_12 (j : Int))))), (q_713, .inl (cA_713, 301, .inl (fun j : Nat => zI (w (j : Int))))), (q_714, .inl (cA_714, 600, .inl (fun j : Nat => zI (uu (j : Int)))))] H → va_D A [(h0, .inr (0, [.int (zI (B1)), v_1, v_2, v_3, v_4, v_5, v_6, v_7, v_8, .ref q_709, v_10, .ref q_711, .ref q_712, .ref q_713, .ref q_714, v_15, v_16, v_17, v_18])), (q_709, .inl (cA_709, 300, .inl (fun j : Nat => zI (a_9 (j : Int))))), (q_711, .inl (cA_711, 300, .inl (fun j : Nat => zI (a_11 (j : Int))))), (q_712, .inl (cA_712, 300, .inl (fun j : Nat => zI (a_12 (j : Int))))), (q_713, .inl (cA_713, 301, .inl (fun j : Nat => zI (w (j : Int))))), (q_714, .inl (cA_714, 600, .inl (fun j : Nat => zI (uu (j : Int)))))] → va_S A s.heap H locs → W p l e (headSpec v_X0_findPreds ({ frames := 1, cells := 0, slots := 0, locals := 22 })).room s m ([.ref h0] : List Value).toArray below meth c H locs 0 0 Q (F0 m 109 ls []) := by
                      intro n109
                      induction n109 with
                      | zero => intro b w uu ls H locs jw ju jb jW hm109; exact absurd hm109 (by omega)
                      | succ n109 ih109 =>
                        intro b w uu ls H locs jw ju jb jW hm109 hl hP hD hS
                        refine lv_iload_n hx hb dX0_findPreds_109 rfl (lv_at hl 1 rfl) ?_
                        refine lv_aload_n hx hb dX0_findPreds_110 rfl (lv_at hl 0 rfl) ?_
                        refine va_get (D := (dC, dI)) (ci := 0) (v := .int (zI (B1))) (C := RX0) (T := TX0) (N := 19) hx hb hts mem_X0_findPreds_0 hown hK hP 0 rfl rfl 0 (by decide) (ow (k := 0) rfl) (fun _ h9 => h9) rfl dX0_findPreds_111 ?_
                        refine lv_icmp_ge (tgt := 172) hx hb dX0_findPreds_114 (by decide) (fun b114 => ?_) (fun b114 => ?_)
                        · have yb114 : (B1 : Int) ≤ (b : Int) := (zI_le (a := B1) (b := b) (by omega) (by omega) (by omega) (by omega)).mp b114
                          refine lv_aload_n hx hb dX0_findPreds_172 rfl (lv_at hl 0 rfl) ?_
                          refine va_get (D := (dC, dI)) (ci := 0) (v := .int (zI (B1))) (C := RX0) (T := TX0) (N := 19) hx hb hts mem_X0_findPreds_0 hown hK hP 0 rfl rfl 0 (by decide) (ow (k := 0) rfl) (fun _ h9 => h9) rfl dX0_findPreds_173 ?_
                          refine lv_istore_n (lv' := [(2, .int (zI (B1))), (0, .ref h0)]) hx hb dX0_findPreds_176 rfl hl (by decide) rfl (fun ls hl => ?_)
                          have key177 : ∀ n177 : Nat, ∀ (b : Int) (w : Int → Int) (ls : Array Slot) (H : Heap) (locs : List Loc), (∀ j : Int, 0 ≤ w j ∧ w j ≤ 600) → (0 ≤ b ∧ b ≤ B1) → (∀ j : Int, b < j → j ≤ B1 → w j = psF a_9 a_11 a_12 B1.toNat j.toNat) → (∀ j : Int, 0 ≤ j → j ≤ b → w j = psF a_9 a_11 a_12 B1.toNat j.toNat + cn a_9 a_11 a_12 j B1.toNat) → ((b : Int).toNat) < n177 → lv_has ls 5 [(0, .ref h0), (2, .int (zI (b)))] → va_P (dC, dI) vwP [(h0, .inr (0, [.int (zI (B1)), v_1, v_2, v_3, v_4, v_5, v_6, v_7, v_8, .ref q_709, v_10, .ref q_711, .ref q_712, .ref q_713, .ref q_714, v_15, v_16, v_17, v_18])), (q_709, .inl (cA_709, 300, .inl (fun j : Nat => zI (a_9 (j : Int))))), (q_711, .inl (cA_711, 300, .inl (fun j : Nat => zI (a_11 (j : Int))))), (q_712, .inl (cA_712, 300, .inl (fun j : Nat => zI (a_12 (j : Int))))), (q_713, .inl (cA_713, 301, .inl (fun j : Nat => zI (w (j : Int))))), (q_714, .inl (cA_714, 600, .inl (fun j : Nat => zI (uu (j : Int)))))] H → va_D A [(h0, .inr (0, [.int (zI (B1)), v_1, v_2, v_3, v_4, v_5, v_6, v_7, v_8, .ref q_709, v_10, .ref q_711, .ref q_712, .ref q_713, .ref q_714, v_15, v_16, v_17, v_18])), (q_709, .inl (cA_709, 300, .inl (fun j : Nat => zI (a_9 (j : Int))))), (q_711, .inl (cA_711, 300, .inl (fun j : Nat => zI (a_11 (j : Int))))), (q_712, .inl (cA_712, 300, .inl (fun j : Nat => zI (a_12 (j : Int))))), (q_713, .inl (cA_713, 301, .inl (fun j : Nat => zI (w (j : Int))))), (q_714, .inl (cA_714, 600, .inl (fun j : Nat => zI (uu (j : Int)))))] → va_S A s.heap H locs → W p l e (headSpec v_X0_findPreds ({ frames := 1, cells := 0, slots := 0, locals := 22 })).room s m ([.ref h0] : List Value).toArray below meth c H locs 0 0 Q (F0 m 177 ls []) := by
                            intro n177
                            induction n177 with
                            | zero => intro b w ls H locs jw jb jW jV hm177; exact absurd hm177 (by omega)
                            | succ n177 ih177 =>
                              intro b w ls H locs jw jb jW jV hm177 hl hP hD hS
                              refine lv_iload_n hx hb dX0_findPreds_177 rfl (lv_at hl 1 rfl) ?_
                              refine lv_if_le (tgt := 201) hx hb dX0_findPreds_178 (by decide) (fun b178 => ?_) (fun b178 => ?_)
                              · have yb178 : (b : Int) ≤ (0 : Int) := (zI_le (a := b) (b := 0) (by omega) (by omega) (by omega) (by omega)).mp b178
                                refine lv_aload_n hx hb dX0_findPreds_201 rfl (lv_at hl 0 rfl) ?_
                                refine va_get (D := (dC, dI)) (ci := 0) (v := .ref q_713) (C := RX0) (T := TX0) (N := 19) hx hb hts mem_X0_findPreds_0 hown hK hP 0 rfl rfl 13 (by decide) (ow (k := 1) rfl) (fun _ h9 => h9) rfl dX0_findPreds_202 ?_
                                refine lv_iconst (v := 0) hx hb dX0_findPreds_205 (by decide) ?_
                                refine lv_iconst (v := 0) hx hb dX0_findPreds_206 (by decide) ?_
                                refine va_iast (i := zI (0)) hx hb hK hP hD hS 4 3 rfl rfl (zI_in (a := 0) (n := 301) (by omega) (by omega) (by decide)) dX0_findPreds_207 (fun H locs hP hD hS => ?_)
                                have eQ : upd (fun j : Nat => zI (w (j : Int))) (zI (0)).toNatClampNeg 0 = (fun j : Nat => zI (zup w (0) (0) (j : Int))) := zI_st w (e := 0) (v := 0) (by omega) (by omega)
                                rw [eQ] at hP hD
                                clear eQ
                                have ra_2001 : ∀ j : Int, 0 ≤ zup w (0) (0) j ∧ zup w (0) (0) j ≤ 600 := zup_P (P := fun x9 => 0 ≤ x9 ∧ x9 ≤ 600) jw (show 0 ≤ (0) ∧ (0) ≤ 600 by omega)
                                obtain ⟨a_2001, ea_2001⟩ : ∃ a9 : Int → Int, a9 = zup w (0) (0) := ⟨_, rfl⟩
                                rw [← ea_2001] at hP hD ra_2001
                                have hP : va_P (dC, dI) vwP [(h0, .inr (0, [.int (zI (B1)), v_1, v_2, v_3, v_4, v_5, v_6, v_7, v_8, .ref q_709, v_10, .ref q_711, .ref q_712, .ref q_713, .ref q_714, v_15, v_16, v_17, v_18])), (q_709, .inl (cA_709, 300, .inl (fun j : Nat => zI (a_9 (j : Int))))), (q_711, .inl (cA_711, 300, .inl (fun j : Nat => zI (a_11 (j : Int))))), (q_712, .inl (cA_712, 300, .inl (fun j : Nat => zI (a_12 (j : Int))))), (q_713, .inl (cA_713, 301, .inl (fun j : Nat => zI (a_2001 (j : Int))))), (q_714, .inl (cA_714, 600, .inl (fun j : Nat => zI (uu (j : Int)))))] H := hP
                                have hD : va_D A [(h0, .inr (0, [.int (zI (B1)), v_1, v_2, v_3, v_4, v_5, v_6, v_7, v_8, .ref q_709, v_10, .ref q_711, .ref q_712, .ref q_713, .ref q_714, v_15, v_16, v_17, v_18])), (q_709, .inl (cA_709, 300, .inl (fun j : Nat => zI (a_9 (j : Int))))), (q_711, .inl (cA_711, 300, .inl (fun j : Nat => zI (a_11 (j : Int))))), (q_712, .inl (cA_712, 300, .inl (fun j : Nat => zI (a_12 (j : Int))))), (q_713, .inl (cA_713, 301, .inl (fun j : Nat => zI (a_2001 (j : Int))))), (q_714, .inl (cA_714, 600, .inl (fun j : Nat => zI (uu (j : Int)))))] := hD
                                subst hQ
                                refine W.widen (k := 0) (n := 0) (Nat.le_of_ble_eq_true rfl) (Nat.le_of_ble_eq_true rfl) ?_
                                exact W.vret hx hb hr (fun t ht hW => ⟨⟨(), rfl, trivial, a_2001, uu, ⟨ra_2001, ju⟩, by rw [ht]; exact hP, va_K.moved hW.alike hK, hD⟩, hS.F ht⟩) hS.2.2 dX0_findPreds_208
                              · have yb178 : ¬ (b : Int) ≤ (0 : Int) := fun q => b178 ((zI_le (a := b) (b := 0) (by omega) (by omega) (by omega) (by omega)).mpr q)
                                refine lv_aload_n hx hb dX0_findPreds_181 rfl (lv_at hl 0 rfl) ?_
                                refine va_get (D := (dC, dI)) (ci := 0) (v := .ref q_713) (C := RX0) (T := TX0) (N := 19) hx hb hts mem_X0_findPreds_0 hown hK hP 0 rfl rfl 13 (by decide) (ow (k := 1) rfl) (fun _ h9 => h9) rfl dX0_findPreds_182 ?_
                                refine lv_iload_n hx hb dX0_findPreds_185 rfl (lv_at hl 1 rfl) ?_
                                refine lv_aload_n hx hb dX0_findPreds_186 rfl (lv_at hl 0 rfl) ?_
                                refine va_get (D := (dC, dI)) (ci := 0) (v := .ref q_713) (C := RX0) (T := TX0) (N := 19) hx hb hts mem_X0_findPreds_0 hown hK hP 0 rfl rfl 13 (by decide) (ow (k := 1) rfl) (fun _ h9 => h9) rfl dX0_findPreds_187 ?_
                                refine lv_iload_n hx hb dX0_findPreds_190 rfl (lv_at hl 1 rfl) ?_
                                refine lv_iconst (v := 1) hx hb dX0_findPreds_191 (by decide) ?_
                                refine lv_isub hx hb dX0_findPreds_192 ?_
                                refine lv_topi (fun z ez => ?_)
                                obtain rfl : z = zI (b - 1) := ez.trans (zI_sub (b) (1))
                                refine va_iald hx hb hK hP 4 3 rfl rfl (zI_in (a := b - 1) (n := 301) (by omega) (by omega) (by decide)) dX0_findPreds_193 ?_
                                refine lv_topi (fun z ez => ?_)
                                obtain rfl : z = zI (w (b - 1)) := ez.trans (zI_ld (w) (by omega) (by omega))
                                have k1 := jw (b - 1)
                                refine va_iast (i := zI (b)) hx hb hK hP hD hS 4 3 rfl rfl (zI_in (a := b) (n := 301) (by omega) (by omega) (by decide)) dX0_findPreds_194 (fun H locs hP hD hS => ?_)
                                have eQ : upd (fun j : Nat => zI (w (j : Int))) (zI (b)).toNatClampNeg (zI (w (b - 1))) = (fun j : Nat => zI (zup w (b) (w (b - 1)) (j : Int))) := zI_st w (e := b) (v := w (b - 1)) (by omega) (by omega)
                                rw [eQ] at hP hD
                                clear eQ
                                have ra_2002 : ∀ j : Int, 0 ≤ zup w (b) (w (b - 1)) j ∧ zup w (b) (w (b - 1)) j ≤ 600 := zup_P (P := fun x9 => 0 ≤ x9 ∧ x9 ≤ 600) jw (show 0 ≤ (w (b - 1)) ∧ (w (b - 1)) ≤ 600 by omega)
                                obtain ⟨a_2002, ea_2002⟩ : ∃ a9 : Int → Int, a9 = zup w (b) (w (b - 1)) := ⟨_, rfl⟩
                                rw [← ea_2002] at hP hD ra_2002
                                have hP : va_P (dC, dI) vwP [(h0, .inr (0, [.int (zI (B1)), v_1, v_2, v_3, v_4, v_5, v_6, v_7, v_8, .ref q_709, v_10, .ref q_711, .ref q_712, .ref q_713, .ref q_714, v_15, v_16, v_17, v_18])), (q_709, .inl (cA_709, 300, .inl (fun j : Nat => zI (a_9 (j : Int))))), (q_711, .inl (cA_711, 300, .inl (fun j : Nat => zI (a_11 (j : Int))))), (q_712, .inl (cA_712, 300, .inl (fun j : Nat => zI (a_12 (j : Int))))), (q_713, .inl (cA_713, 301, .inl (fun j : Nat => zI (a_2002 (j : Int))))), (q_714, .inl (cA_714, 600, .inl (fun j : Nat => zI (uu (j : Int)))))] H := hP
                                have hD : va_D A [(h0, .inr (0, [.int (zI (B1)), v_1, v_2, v_3, v_4, v_5, v_6, v_7, v_8, .ref q_709, v_10, .ref q_711, .ref q_712, .ref q_713, .ref q_714, v_15, v_16, v_17, v_18])), (q_709, .inl (cA_709, 300, .inl (fun j : Nat => zI (a_9 (j : Int))))), (q_711, .inl (cA_711, 300, .inl (fun j : Nat => zI (a_11 (j : Int))))), (q_712, .inl (cA_712, 300, .inl (fun j : Nat => zI (a_12 (j : Int))))), (q_713, .inl (cA_713, 301, .inl (fun j : Nat => zI (a_2002 (j : Int))))), (q_714, .inl (cA_714, 600, .inl (fun j : Nat => zI (uu (j : Int)))))] := hD
                                refine lv_iinc (v := zI (b - 1)) (lv' := [(2, .int (zI (b - 1))), (0, .ref h0)]) hx hb dX0_findPreds_195 hl (k := 1) rfl (zI_dec (b) (1)) (by decide) rfl (fun ls hl => ?_)
                                refine lv_goto (tgt := 177) hx hb dX0_findPreds_198 (by decide) ?_
                                exact ih177 (b - 1) a_2002 ls H _ ra_2002 (by omega) (fun j h1 h2 => by rw [ea_2002]; unfold zup; split; rename_i h; rw [h, jV (b - 1) (by omega) (by omega), ← psF_succ a_9 a_11 a_12 B1.toNat (by omega), show b - 1 + 1 = b by omega]; exact jW j (by omega) h2) (fun j h1 h2 => by rw [ea_2002]; unfold zup; rw [if_neg (by omega)]; exact jV j h1 (by omega)) (by omega) (lv_sub hl [1, 0] rfl) hP hD hS
                          exact key177 ((B1 : Int).toNat + 1) B1 w ls H _ jw (by omega) (fun j h1 h2 => by omega) (fun j h1 h2 => by rw [jW j h1 (by omega), show b = B1 by omega]) (by omega) (lv_sub hl [1, 0] rfl) hP hD hS
                        · have yb114 : ¬ (B1 : Int) ≤ (b : Int) := fun q => b114 ((zI_le (a := B1) (b := b) (by omega) (by omega) (by omega) (by omega)).mpr q)
                          refine lv_iconst (v := 0) hx hb dX0_findPreds_117 (by decide) ?_
                          refine lv_istore_n (lv' := [(3, .int 0), (0, .ref h0), (2, .int (zI (b)))]) hx hb dX0_findPreds_118 rfl hl (by decide) rfl (fun ls hl => ?_)
                          have key119 : ∀ n119 : Nat, ∀ (i : Int) (w : Int → Int) (uu : Int → Int) (ls : Array Slot) (H : Heap) (locs : List Loc), (∀ j : Int, 0 ≤ w j ∧ w j ≤ 600) → (∀ j : Int, 0 ≤ uu j ∧ uu j ≤ 299) → (0 ≤ i ∧ i ≤ gcF a_9 a_11 a_12 b) → (∀ j : Int, 0 ≤ j → j ≤ B1 → w j = psF a_9 a_11 a_12 B1.toNat j.toNat + cni a_9 a_11 a_12 j b i) → ((gcF a_9 a_11 a_12 b - i : Int).toNat) < n119 → lv_has ls 5 [(0, .ref h0), (2, .int (zI (b))), (3, .int (zI (i)))] → va_P (dC, dI) vwP [(h0, .inr (0, [.int (zI (B1)), v_1, v_2, v_3, v_4, v_5, v_6, v_7, v_8, .ref q_709, v_10, .ref q_711, .ref q_712, .ref q_713, .ref q_714, v_15, v_16, v_17, v_18])), (q_709, .inl (cA_709, 300, .inl (fun j : Nat => zI (a_9 (j : Int))))), (q_711, .inl (cA_711, 300, .inl (fun j : Nat => zI (a_11 (j : Int))))), (q_712, .inl (cA_712, 300, .inl (fun j : Nat => zI (a_12 (j : Int))))), (q_713, .inl (cA_713, 301, .inl (fun j : Nat => zI (w (j : Int))))), (q_714, .inl (cA_714, 600, .inl (fun j : Nat => zI (uu (j : Int)))))] H → va_D A [(h0, .inr (0, [.int (zI (B1)), v_1, v_2, v_3, v_4, v_5, v_6, v_7, v_8, .ref q_709, v_10, .ref q_711, .ref q_712, .ref q_713, .ref q_714, v_15, v_16, v_17, v_18])), (q_709, .inl (cA_709, 300, .inl (fun j : Nat => zI (a_9 (j : Int))))), (q_711, .inl (cA_711, 300, .inl (fun j : Nat => zI (a_11 (j : Int))))), (q_712, .inl (cA_712, 300, .inl (fun j : Nat => zI (a_12 (j : Int))))), (q_713, .inl (cA_713, 301, .inl (fun j : Nat => zI (w (j : Int))))), (q_714, .inl (cA_714, 600, .inl (fun j : Nat => zI (uu (j : Int)))))] → va_S A s.heap H locs → W p l e (headSpec v_X0_findPreds ({ frames := 1, cells := 0, slots := 0, locals := 22 })).room s m ([.ref h0] : List Value).toArray below meth c H locs 0 0 Q (F0 m 119 ls []) := by
                            intro n119
                            induction n119 with
                            | zero => intro i w uu ls H locs jw ju ji jW hm119; exact absurd hm119 (by omega)
                            | succ n119 ih119 =>
                              intro i w uu ls H locs jw ju ji jW hm119 hl hP hD hS
                              refine lv_iload_n hx hb dX0_findPreds_119 rfl (lv_at hl 2 rfl) ?_
                              refine lv_aload_n hx hb dX0_findPreds_120 rfl (lv_at hl 0 rfl) ?_
                              refine lv_iload_n hx hb dX0_findPreds_121 rfl (lv_at hl 1 rfl) ?_
                              have hPc := hP.sub (ws' := [(h0, .inr (0, [.int (zI (B1)), v_1, v_2, v_3, v_4, v_5, v_6, v_7, v_8, .ref q_709, v_10, .ref q_711, .ref q_712, .ref q_713, .ref q_714, v_15, v_16, v_17, v_18])), (q_709, .inl (cA_709, 300, .inl (fun j : Nat => zI (a_9 (j : Int))))), (q_711, .inl (cA_711, 300, .inl (fun j : Nat => zI (a_11 (j : Int))))), (q_712, .inl (cA_712, 300, .inl (fun j : Nat => zI (a_12 (j : Int)))))]) [0, 1, 2, 3] rfl
                              have hDc := hD.sub (ws' := [(h0, .inr (0, [.int (zI (B1)), v_1, v_2, v_3, v_4, v_5, v_6, v_7, v_8, .ref q_709, v_10, .ref q_711, .ref q_712, .ref q_713, .ref q_714, v_15, v_16, v_17, v_18])), (q_709, .inl (cA_709, 300, .inl (fun j : Nat => zI (a_9 (j : Int))))), (q_711, .inl (cA_711, 300, .inl (fun j : Nat => zI (a_11 (j : Int))))), (q_712, .inl (cA_712, 300, .inl (fun j : Nat => zI (a_12 (j : Int)))))]) [0, 1, 2, 3] (by decide) rfl
                              have hKc := hK.sub (tys' := [(cA_709, .int), (cA_711, .int), (cA_712, .int)]) [0, 1, 2] rfl
                              have hFc := va_free (wc := [(h0, .inr (0, [.int (zI (B1)), v_1, v_2, v_3, v_4, v_5, v_6, v_7, v_8, .ref q_709, v_10, .ref q_711, .ref q_712, .ref q_713, .ref q_714, v_15, v_16, v_17, v_18])), (q_709, .inl (cA_709, 300, .inl (fun j : Nat => zI (a_9 (j : Int))))), (q_711, .inl (cA_711, 300, .inl (fun j : Nat => zI (a_11 (j : Int))))), (q_712, .inl (cA_712, 300, .inl (fun j : Nat => zI (a_12 (j : Int)))))]) hD hS hA [0, 1, 2, 3] rfl
                              refine va_calli (va_runV (As := [.int (zI (b))]) (rest := [.int (zI (i))]) ⟨hx, hb, hml, hown, hts⟩ (c_X0_goalCount l dC dI h0 (.int (zI (B1))) v_1 v_2 v_3 v_4 v_5 v_6 v_7 v_8 q_709 cA_709 a_9 v_10 q_711 cA_711 a_11 q_712 cA_712 a_12 (.ref q_713) (.ref q_714) v_15 v_16 v_17 v_18 b hR_a_9 hR_a_11 hR_a_12 (by omega) H.size) (cwV 1 hts g_X0_findPreds_X0_goalCount rfl rfl rfl (by decide +kernel) ⟨(Nat.le_of_ble_eq_true rfl), (Nat.le_of_ble_eq_true rfl)⟩) ⟨fun a U g mk q => by obtain ⟨q0, q1, qP, qK, qD⟩ := q; exact ⟨q0, q1, qP, va_K.moved (u := U) (U := U.calling g mk a) (Vm.Alike.refl U.vm) qK, qD⟩, va_recv hKc hPc (ci := 0) (q0 := 0) rfl rfl, fun U hU hW => ⟨rfl, by rw [hU], by rw [hU]; exact hPc, va_K.moved hW.alike hKc, hDc.weaken (fun _ _ _ _ => trivial)⟩⟩ rfl rfl hl.1 rfl (lv_room (Nat.le_of_ble_eq_true rfl)) dX0_findPreds_122 ⟨(Nat.le_of_ble_eq_true rfl), (Nat.le_of_ble_eq_true rfl)⟩) hS (fun q _ h => hFc q h) hFc (fun r_2003 u t H1 locs ht hvm hw hB hz1 hk1 hS => ?_)
                              obtain ⟨hP1, hK1, hD1⟩ := hB
                              rw [ht] at hP1
                              have hK1 := va_K.moved hvm.symm hK1
                              obtain ⟨hP, hD⟩ := va_join (wr := [(q_713, .inl (cA_713, 301, .inl (fun j : Nat => zI (w (j : Int))))), (q_714, .inl (cA_714, 600, .inl (fun j : Nat => zI (uu (j : Int)))))]) (w1 := [(h0, .inr (0, [.int (zI (B1)), v_1, v_2, v_3, v_4, v_5, v_6, v_7, v_8, .ref q_709, v_10, .ref q_711, .ref q_712, .ref q_713, .ref q_714, v_15, v_16, v_17, v_18])), (q_709, .inl (cA_709, 300, .inl (fun j : Nat => zI (a_9 (j : Int))))), (q_711, .inl (cA_711, 300, .inl (fun j : Nat => zI (a_11 (j : Int))))), (q_712, .inl (cA_712, 300, .inl (fun j : Nat => zI (a_12 (j : Int)))))]) hP hD [0, 1, 2, 3] [4, 5] rfl rfl (by decide) (by decide) hk1 hFc hP1 hD1
                              have hK := (hK.sub (tys' := [(cA_713, .int), (cA_714, .int)]) [3, 4] rfl).app hK1
                              generalize H1 = H at hP hS ⊢
                              have hP : va_P (dC, dI) vwP [(q_713, .inl (cA_713, 301, .inl (fun j : Nat => zI (w (j : Int))))), (q_714, .inl (cA_714, 600, .inl (fun j : Nat => zI (uu (j : Int))))), (h0, .inr (0, [.int (zI (B1)), v_1, v_2, v_3, v_4, v_5, v_6, v_7, v_8, .ref q_709, v_10, .ref q_711, .ref q_712, .ref q_713, .ref q_714, v_15, v_16, v_17, v_18])), (q_709, .inl (cA_709, 300, .inl (fun j : Nat => zI (a_9 (j : Int))))), (q_711, .inl (cA_711, 300, .inl (fun j : Nat => zI (a_11 (j : Int))))), (q_712, .inl (cA_712, 300, .inl (fun j : Nat => zI (a_12 (j : Int)))))] H := hP
                              have hD : va_D A [(q_713, .inl (cA_713, 301, .inl (fun j : Nat => zI (w (j : Int))))), (q_714, .inl (cA_714, 600, .inl (fun j : Nat => zI (uu (j : Int))))), (h0, .inr (0, [.int (zI (B1)), v_1, v_2, v_3, v_4, v_5, v_6, v_7, v_8, .ref q_709, v_10, .ref q_711, .ref q_712, .ref q_713, .ref q_714, v_15, v_16, v_17, v_18])), (q_709, .inl (cA_709, 300, .inl (fun j : Nat => zI (a_9 (j : Int))))), (q_711, .inl (cA_711, 300, .inl (fun j : Nat => zI (a_11 (j : Int))))), (q_712, .inl (cA_712, 300, .inl (fun j : Nat => zI (a_12 (j : Int)))))] := hD
                              have hK : va_K (dC, dI) vwP [(cA_713, .int), (cA_714, .int), (cA_709, .int), (cA_711, .int), (cA_712, .int)] s := hK
                              refine W.widen (k := 0) (n := 0) (Nat.le_of_ble_eq_true rfl) (Nat.le_of_ble_eq_true rfl) ?_
                              obtain rfl : r_2003 = (zI (gcF a_9 a_11 a_12 (b))) := hw
                              have := gcF_rng a_9 a_11 a_12 (b)
                              refine lv_icmp_ge (tgt := 166) hx hb dX0_findPreds_125 (by decide) (fun b125 => ?_) (fun b125 => ?_)
                              · have yb125 : (gcF a_9 a_11 a_12 (b) : Int) ≤ (i : Int) := (zI_le (a := gcF a_9 a_11 a_12 (b)) (b := i) (by omega) (by omega) (by omega) (by omega)).mp b125
                                refine lv_iinc (v := zI (b + 1)) (lv' := [(2, .int (zI (b + 1))), (0, .ref h0), (3, .int (zI (i)))]) hx hb dX0_findPreds_166 hl (k := 1) rfl (zI_add (b) (1)) (by decide) rfl (fun ls hl => ?_)
                                refine lv_goto (tgt := 109) hx hb dX0_findPreds_169 (by decide) ?_
                                have hP := hP.sub (ws' := [(h0, .inr (0, [.int (zI (B1)), v_1, v_2, v_3, v_4, v_5, v_6, v_7, v_8, .ref q_709, v_10, .ref q_711, .ref q_712, .ref q_713, .ref q_714, v_15, v_16, v_17, v_18])), (q_709, .inl (cA_709, 300, .inl (fun j : Nat => zI (a_9 (j : Int))))), (q_711, .inl (cA_711, 300, .inl (fun j : Nat => zI (a_11 (j : Int))))), (q_712, .inl (cA_712, 300, .inl (fun j : Nat => zI (a_12 (j : Int))))), (q_713, .inl (cA_713, 301, .inl (fun j : Nat => zI (w (j : Int))))), (q_714, .inl (cA_714, 600, .inl (fun j : Nat => zI (uu (j : Int)))))]) [2, 3, 4, 5, 0, 1] rfl
                                have hD := hD.sub (ws' := [(h0, .inr (0, [.int (zI (B1)), v_1, v_2, v_3, v_4, v_5, v_6, v_7, v_8, .ref q_709, v_10, .ref q_711, .ref q_712, .ref q_713, .ref q_714, v_15, v_16, v_17, v_18])), (q_709, .inl (cA_709, 300, .inl (fun j : Nat => zI (a_9 (j : Int))))), (q_711, .inl (cA_711, 300, .inl (fun j : Nat => zI (a_11 (j : Int))))), (q_712, .inl (cA_712, 300, .inl (fun j : Nat => zI (a_12 (j : Int))))), (q_713, .inl (cA_713, 301, .inl (fun j : Nat => zI (w (j : Int))))), (q_714, .inl (cA_714, 600, .inl (fun j : Nat => zI (uu (j : Int)))))]) [2, 3, 4, 5, 0, 1] (by decide) rfl
                                exact ih109 (b + 1) w uu ls H _ jw ju (by omega) (fun j h1 h2 => by rw [cn_succ a_9 a_11 a_12 j (by omega), jW j h1 h2, show i = gcF a_9 a_11 a_12 b by omega]) (by omega) (lv_sub hl [1, 0] rfl) hP hD hS
                              · have yb125 : ¬ (gcF a_9 a_11 a_12 (b) : Int) ≤ (i : Int) := fun q => b125 ((zI_le (a := gcF a_9 a_11 a_12 (b)) (b := i) (by omega) (by omega) (by omega) (by omega)).mpr q)
                                refine lv_aload_n hx hb dX0_findPreds_128 rfl (lv_at hl 0 rfl) ?_
                                refine lv_iload_n hx hb dX0_findPreds_129 rfl (lv_at hl 1 rfl) ?_
                                refine lv_iload_n hx hb dX0_findPreds_130 rfl (lv_at hl 2 rfl) ?_
                                have hPc := hP.sub (ws' := [(h0, .inr (0, [.int (zI (B1)), v_1, v_2, v_3, v_4, v_5, v_6, v_7, v_8, .ref q_709, v_10, .ref q_711, .ref q_712, .ref q_713, .ref q_714, v_15, v_16, v_17, v_18])), (q_711, .inl (cA_711, 300, .inl (fun j : Nat => zI (a_11 (j : Int))))), (q_712, .inl (cA_712, 300, .inl (fun j : Nat => zI (a_12 (j : Int)))))]) [2, 4, 5] rfl
                                have hDc := hD.sub (ws' := [(h0, .inr (0, [.int (zI (B1)), v_1, v_2, v_3, v_4, v_5, v_6, v_7, v_8, .ref q_709, v_10, .ref q_711, .ref q_712, .ref q_713, .ref q_714, v_15, v_16, v_17, v_18])), (q_711, .inl (cA_711, 300, .inl (fun j : Nat => zI (a_11 (j : Int))))), (q_712, .inl (cA_712, 300, .inl (fun j : Nat => zI (a_12 (j : Int)))))]) [2, 4, 5] (by decide) rfl
                                have hKc := hK.sub (tys' := [(cA_711, .int), (cA_712, .int)]) [3, 4] rfl
                                have hFc := va_free (wc := [(h0, .inr (0, [.int (zI (B1)), v_1, v_2, v_3, v_4, v_5, v_6, v_7, v_8, .ref q_709, v_10, .ref q_711, .ref q_712, .ref q_713, .ref q_714, v_15, v_16, v_17, v_18])), (q_711, .inl (cA_711, 300, .inl (fun j : Nat => zI (a_11 (j : Int))))), (q_712, .inl (cA_712, 300, .inl (fun j : Nat => zI (a_12 (j : Int)))))]) hD hS hA [2, 4, 5] rfl
                                refine va_calli (va_runV (As := [.int (zI (b)), .int (zI (i))]) (rest := []) ⟨hx, hb, hml, hown, hts⟩ (c_X0_goal l dC dI h0 (.int (zI (B1))) v_1 v_2 v_3 v_4 v_5 v_6 v_7 v_8 (.ref q_709) v_10 q_711 cA_711 a_11 q_712 cA_712 a_12 (.ref q_713) (.ref q_714) v_15 v_16 v_17 v_18 b i hR_a_11 hR_a_12 (by omega) (by omega) H.size) (cwV 2 hts g_X0_findPreds_X0_goal rfl rfl rfl (by decide +kernel) ⟨(Nat.le_of_ble_eq_true rfl), (Nat.le_of_ble_eq_true rfl)⟩) ⟨fun a U g mk q => by obtain ⟨q0, q1, qP, qK, qD⟩ := q; exact ⟨q0, q1, qP, va_K.moved (u := U) (U := U.calling g mk a) (Vm.Alike.refl U.vm) qK, qD⟩, va_recv hKc hPc (ci := 0) (q0 := 0) rfl rfl, fun U hU hW => ⟨rfl, by rw [hU], by rw [hU]; exact hPc, va_K.moved hW.alike hKc, hDc.weaken (fun _ _ _ _ => trivial)⟩⟩ rfl rfl hl.1 rfl (lv_room (Nat.le_of_ble_eq_true rfl)) dX0_findPreds_131 ⟨(Nat.le_of_ble_eq_true rfl), (Nat.le_of_ble_eq_true rfl)⟩) hS (fun q _ h => hFc q h) hFc (fun r_2004 u t H1 locs ht hvm hw hB hz1 hk1 hS => ?_)
                                obtain ⟨hP1, hK1, hD1⟩ := hB
                                rw [ht] at hP1
                                have hK1 := va_K.moved hvm.symm hK1
                                obtain ⟨hP, hD⟩ := va_join (wr := [(q_713, .inl (cA_713, 301, .inl (fun j : Nat => zI (w (j : Int))))), (q_714, .inl (cA_714, 600, .inl (fun j : Nat => zI (uu (j : Int))))), (q_709, .inl (cA_709, 300, .inl (fun j : Nat => zI (a_9 (j : Int)))))]) (w1 := [(h0, .inr (0, [.int (zI (B1)), v_1, v_2, v_3, v_4, v_5, v_6, v_7, v_8, .ref q_709, v_10, .ref q_711, .ref q_712, .ref q_713, .ref q_714, v_15, v_16, v_17, v_18])), (q_711, .inl (cA_711, 300, .inl (fun j : Nat => zI (a_11 (j : Int))))), (q_712, .inl (cA_712, 300, .inl (fun j : Nat => zI (a_12 (j : Int)))))]) hP hD [2, 4, 5] [0, 1, 3] rfl rfl (by decide) (by decide) hk1 hFc hP1 hD1
                                have hK := (hK.sub (tys' := [(cA_713, .int), (cA_714, .int), (cA_709, .int)]) [0, 1, 2] rfl).app hK1
                                generalize H1 = H at hP hS ⊢
                                have hP : va_P (dC, dI) vwP [(q_713, .inl (cA_713, 301, .inl (fun j : Nat => zI (w (j : Int))))), (q_714, .inl (cA_714, 600, .inl (fun j : Nat => zI (uu (j : Int))))), (q_709, .inl (cA_709, 300, .inl (fun j : Nat => zI (a_9 (j : Int))))), (h0, .inr (0, [.int (zI (B1)), v_1, v_2, v_3, v_4, v_5, v_6, v_7, v_8, .ref q_709, v_10, .ref q_711, .ref q_712, .ref q_713, .ref q_714, v_15, v_16, v_17, v_18])), (q_711, .inl (cA_711, 300, .inl (fun j : Nat => zI (a_11 (j : Int))))), (q_712, .inl (cA_712, 300, .inl (fun j : Nat => zI (a_12 (j : Int)))))] H := hP
                                have hD : va_D A [(q_713, .inl (cA_713, 301, .inl (fun j : Nat => zI (w (j : Int))))), (q_714, .inl (cA_714, 600, .inl (fun j : Nat => zI (uu (j : Int))))), (q_709, .inl (cA_709, 300, .inl (fun j : Nat => zI (a_9 (j : Int))))), (h0, .inr (0, [.int (zI (B1)), v_1, v_2, v_3, v_4, v_5, v_6, v_7, v_8, .ref q_709, v_10, .ref q_711, .ref q_712, .ref q_713, .ref q_714, v_15, v_16, v_17, v_18])), (q_711, .inl (cA_711, 300, .inl (fun j : Nat => zI (a_11 (j : Int))))), (q_712, .inl (cA_712, 300, .inl (fun j : Nat => zI (a_12 (j : Int)))))] := hD
                                have hK : va_K (dC, dI) vwP [(cA_713, .int), (cA_714, .int), (cA_709, .int), (cA_711, .int), (cA_712, .int)] s := hK
                                refine W.widen (k := 0) (n := 0) (Nat.le_of_ble_eq_true rfl) (Nat.le_of_ble_eq_true rfl) ?_
                                obtain rfl : r_2004 = (zI (glF a_11 a_12 (b) (i))) := hw
                                refine lv_istore (lv' := [(4, .int (zI (glF a_11 a_12 (b) (i)))), (0, .ref h0), (2, .int (zI (b))), (3, .int (zI (i)))]) hx hb dX0_findPreds_134 hl (by decide) rfl (fun ls hl => ?_)
                                have hg := gl_lt hX_G (b := b) (i := i) (by omega) (by omega) (by omega) (by omega)
                                have c1 := ps_lt a_9 a_11 a_12 (B := B1) (b := b) (i := i) (by omega) (by omega) (by omega) (by omega) (by omega)
                                have c2 := jW (glF a_11 a_12 b i) (by omega) (by omega)
                                have c3 := (cni_b a_9 a_11 a_12 (b := b) (i := i) (by omega) (by omega) (by omega)).2.2
                                refine lv_aload_n hx hb dX0_findPreds_136 rfl (lv_at hl 1 rfl) ?_
                                refine va_get (D := (dC, dI)) (ci := 0) (v := .ref q_714) (C := RX0) (T := TX0) (N := 19) hx hb hts mem_X0_findPreds_0 hown hK hP 3 rfl rfl 14 (by decide) (ow (k := 9) rfl) (fun _ h9 => h9) rfl dX0_findPreds_137 ?_
                                refine lv_aload_n hx hb dX0_findPreds_140 rfl (lv_at hl 1 rfl) ?_
                                refine va_get (D := (dC, dI)) (ci := 0) (v := .ref q_713) (C := RX0) (T := TX0) (N := 19) hx hb hts mem_X0_findPreds_0 hown hK hP 3 rfl rfl 13 (by decide) (ow (k := 1) rfl) (fun _ h9 => h9) rfl dX0_findPreds_141 ?_
                                refine lv_iload hx hb dX0_findPreds_144 (lv_at hl 0 rfl) ?_
                                refine va_iald hx hb hK hP 0 0 rfl rfl (zI_in (a := glF a_11 a_12 (b) (i)) (n := 301) (by omega) (by omega) (by decide)) dX0_findPreds_146 ?_
                                refine lv_topi (fun z ez => ?_)
                                obtain rfl : z = zI (w (glF a_11 a_12 (b) (i))) := ez.trans (zI_ld (w) (by omega) (by omega))
                                have k2 := jw (glF a_11 a_12 (b) (i))
                                refine lv_iload_n hx hb dX0_findPreds_147 rfl (lv_at hl 2 rfl) ?_
                                refine va_iast (i := zI (w (glF a_11 a_12 (b) (i)))) hx hb hK hP hD hS 1 1 rfl rfl (zI_in (a := w (glF a_11 a_12 (b) (i))) (n := 600) (by omega) (by omega) (by decide)) dX0_findPreds_148 (fun H locs hP hD hS => ?_)
                                have eQ : upd (fun j : Nat => zI (uu (j : Int))) (zI (w (glF a_11 a_12 (b) (i)))).toNatClampNeg (zI (b)) = (fun j : Nat => zI (zup uu (w (glF a_11 a_12 (b) (i))) (b) (j : Int))) := zI_st uu (e := w (glF a_11 a_12 (b) (i))) (v := b) (by omega) (by omega)
                                rw [eQ] at hP hD
                                clear eQ
                                have ra_2005 : ∀ j : Int, 0 ≤ zup uu (w (glF a_11 a_12 (b) (i))) (b) j ∧ zup uu (w (glF a_11 a_12 (b) (i))) (b) j ≤ 299 := zup_P (P := fun x9 => 0 ≤ x9 ∧ x9 ≤ 299) ju (show 0 ≤ (b) ∧ (b) ≤ 299 by omega)
                                generalize zup uu (w (glF a_11 a_12 (b) (i))) (b) = a_2005 at hP hD ra_2005
                                have hP : va_P (dC, dI) vwP [(q_713, .inl (cA_713, 301, .inl (fun j : Nat => zI (w (j : Int))))), (q_714, .inl (cA_714, 600, .inl (fun j : Nat => zI (a_2005 (j : Int))))), (q_709, .inl (cA_709, 300, .inl (fun j : Nat => zI (a_9 (j : Int))))), (h0, .inr (0, [.int (zI (B1)), v_1, v_2, v_3, v_4, v_5, v_6, v_7, v_8, .ref q_709, v_10, .ref q_711, .ref q_712, .ref q_713, .ref q_714, v_15, v_16, v_17, v_18])), (q_711, .inl (cA_711, 300, .inl (fun j : Nat => zI (a_11 (j : Int))))), (q_712, .inl (cA_712, 300, .inl (fun j : Nat => zI (a_12 (j : Int)))))] H := hP
                                have hD : va_D A [(q_713, .inl (cA_713, 301, .inl (fun j : Nat => zI (w (j : Int))))), (q_714, .inl (cA_714, 600, .inl (fun j : Nat => zI (a_2005 (j : Int))))), (q_709, .inl (cA_709, 300, .inl (fun j : Nat => zI (a_9 (j : Int))))), (h0, .inr (0, [.int (zI (B1)), v_1, v_2, v_3, v_4, v_5, v_6, v_7, v_8, .ref q_709, v_10, .ref q_711, .ref q_712, .ref q_713, .ref q_714, v_15, v_16, v_17, v_18])), (q_711, .inl (cA_711, 300, .inl (fun j : Nat => zI (a_11 (j : Int))))), (q_712, .inl (cA_712, 300, .inl (fun j : Nat => zI (a_12 (j : Int)))))] := hD
                                refine lv_aload_n hx hb dX0_findPreds_149 rfl (lv_at hl 1 rfl) ?_
                                refine va_get (D := (dC, dI)) (ci := 0) (v := .ref q_713) (C := RX0) (T := TX0) (N := 19) hx hb hts mem_X0_findPreds_0 hown hK hP 3 rfl rfl 13 (by decide) (ow (k := 1) rfl) (fun _ h9 => h9) rfl dX0_findPreds_150 ?_
                                refine lv_iload hx hb dX0_findPreds_153 (lv_at hl 0 rfl) ?_
                                refine lv_dup2_11 hx hb dX0_findPreds_155 rfl rfl ?_
                                refine va_iald hx hb hK hP 0 0 rfl rfl (zI_in (a := glF a_11 a_12 (b) (i)) (n := 301) (by omega) (by omega) (by decide)) dX0_findPreds_156 ?_
                                refine lv_topi (fun z ez => ?_)
                                obtain rfl : z = zI (w (glF a_11 a_12 (b) (i))) := ez.trans (zI_ld (w) (by omega) (by omega))
                                have k3 := jw (glF a_11 a_12 (b) (i))
                                refine lv_iconst (v := 1) hx hb dX0_findPreds_157 (by decide) ?_
                                refine lv_iadd hx hb dX0_findPreds_158 ?_
                                refine lv_topi (fun z ez => ?_)
                                obtain rfl : z = zI ((w (glF a_11 a_12 (b) (i))) + 1) := ez.trans (zI_add (w (glF a_11 a_12 (b) (i))) (1))
                                refine va_iast (i := zI (glF a_11 a_12 (b) (i))) hx hb hK hP hD hS 0 0 rfl rfl (zI_in (a := glF a_11 a_12 (b) (i)) (n := 301) (by omega) (by omega) (by decide)) dX0_findPreds_159 (fun H locs hP hD hS => ?_)
                                have eQ : upd (fun j : Nat => zI (w (j : Int))) (zI (glF a_11 a_12 (b) (i))).toNatClampNeg (zI ((w (glF a_11 a_12 (b) (i))) + 1)) = (fun j : Nat => zI (zup w (glF a_11 a_12 (b) (i)) ((w (glF a_11 a_12 (b) (i))) + 1) (j : Int))) := zI_st w (e := glF a_11 a_12 (b) (i)) (v := (w (glF a_11 a_12 (b) (i))) + 1) (by omega) (by omega)
                                rw [eQ] at hP hD
                                clear eQ
                                have ra_2006 : ∀ j : Int, 0 ≤ zup w (glF a_11 a_12 (b) (i)) ((w (glF a_11 a_12 (b) (i))) + 1) j ∧ zup w (glF a_11 a_12 (b) (i)) ((w (glF a_11 a_12 (b) (i))) + 1) j ≤ 600 := zup_P (P := fun x9 => 0 ≤ x9 ∧ x9 ≤ 600) jw (show 0 ≤ ((w (glF a_11 a_12 (b) (i))) + 1) ∧ ((w (glF a_11 a_12 (b) (i))) + 1) ≤ 600 by omega)
                                obtain ⟨a_2006, ea_2006⟩ : ∃ a9 : Int → Int, a9 = zup w (glF a_11 a_12 (b) (i)) ((w (glF a_11 a_12 (b) (i))) + 1) := ⟨_, rfl⟩
                                rw [← ea_2006] at hP hD ra_2006
                                have hP : va_P (dC, dI) vwP [(q_713, .inl (cA_713, 301, .inl (fun j : Nat => zI (a_2006 (j : Int))))), (q_714, .inl (cA_714, 600, .inl (fun j : Nat => zI (a_2005 (j : Int))))), (q_709, .inl (cA_709, 300, .inl (fun j : Nat => zI (a_9 (j : Int))))), (h0, .inr (0, [.int (zI (B1)), v_1, v_2, v_3, v_4, v_5, v_6, v_7, v_8, .ref q_709, v_10, .ref q_711, .ref q_712, .ref q_713, .ref q_714, v_15, v_16, v_17, v_18])), (q_711, .inl (cA_711, 300, .inl (fun j : Nat => zI (a_11 (j : Int))))), (q_712, .inl (cA_712, 300, .inl (fun j : Nat => zI (a_12 (j : Int)))))] H := hP
                                have hD : va_D A [(q_713, .inl (cA_713, 301, .inl (fun j : Nat => zI (a_2006 (j : Int))))), (q_714, .inl (cA_714, 600, .inl (fun j : Nat => zI (a_2005 (j : Int))))), (q_709, .inl (cA_709, 300, .inl (fun j : Nat => zI (a_9 (j : Int))))), (h0, .inr (0, [.int (zI (B1)), v_1, v_2, v_3, v_4, v_5, v_6, v_7, v_8, .ref q_709, v_10, .ref q_711, .ref q_712, .ref q_713, .ref q_714, v_15, v_16, v_17, v_18])), (q_711, .inl (cA_711, 300, .inl (fun j : Nat => zI (a_11 (j : Int))))), (q_712, .inl (cA_712, 300, .inl (fun j : Nat => zI (a_12 (j : Int)))))] := hD
                                refine lv_iinc (v := zI (i + 1)) (lv' := [(3, .int (zI (i + 1))), (4, .int (zI (glF a_11 a_12 (b) (i)))), (0, .ref h0), (2, .int (zI (b)))]) hx hb dX0_findPreds_160 hl (k := 3) rfl (zI_add (i) (1)) (by decide) rfl (fun ls hl => ?_)
                                refine lv_goto (tgt := 119) hx hb dX0_findPreds_163 (by decide) ?_
                                have hP := hP.sub (ws' := [(h0, .inr (0, [.int (zI (B1)), v_1, v_2, v_3, v_4, v_5, v_6, v_7, v_8, .ref q_709, v_10, .ref q_711, .ref q_712, .ref q_713, .ref q_714, v_15, v_16, v_17, v_18])), (q_709, .inl (cA_709, 300, .inl (fun j : Nat => zI (a_9 (j : Int))))), (q_711, .inl (cA_711, 300, .inl (fun j : Nat => zI (a_11 (j : Int))))), (q_712, .inl (cA_712, 300, .inl (fun j : Nat => zI (a_12 (j : Int))))), (q_713, .inl (cA_713, 301, .inl (fun j : Nat => zI (a_2006 (j : Int))))), (q_714, .inl (cA_714, 600, .inl (fun j : Nat => zI (a_2005 (j : Int)))))]) [3, 2, 4, 5, 0, 1] rfl
                                have hD := hD.sub (ws' := [(h0, .inr (0, [.int (zI (B1)), v_1, v_2, v_3, v_4, v_5, v_6, v_7, v_8, .ref q_709, v_10, .ref q_711, .ref q_712, .ref q_713, .ref q_714, v_15, v_16, v_17, v_18])), (q_709, .inl (cA_709, 300, .inl (fun j : Nat => zI (a_9 (j : Int))))), (q_711, .inl (cA_711, 300, .inl (fun j : Nat => zI (a_11 (j : Int))))), (q_712, .inl (cA_712, 300, .inl (fun j : Nat => zI (a_12 (j : Int))))), (q_713, .inl (cA_713, 301, .inl (fun j : Nat => zI (a_2006 (j : Int))))), (q_714, .inl (cA_714, 600, .inl (fun j : Nat => zI (a_2005 (j : Int)))))]) [3, 2, 4, 5, 0, 1] (by decide) rfl
                                exact ih119 (i + 1) a_2006 a_2005 ls H _ ra_2006 ra_2005 (by have := gcF_rng a_9 a_11 a_12 b; omega) (by rw [ea_2006]; exact cni_step (p := fun j => psF a_9 a_11 a_12 B1.toNat j.toNat) jW (by omega) (by omega)) (by omega) (lv_sub hl [2, 3, 0] rfl) hP hD hS
                          exact key119 ((gcF a_9 a_11 a_12 b - 0 : Int).toNat + 1) 0 w uu ls H _ jw ju (by have := gcF_rng a_9 a_11 a_12 b; omega) (fun j h1 h2 => by rw [jW j h1 h2, cni_0]) (by omega) (lv_sub hl [1, 2, 0] rfl) hP hD hS
                    exact key109 ((B1 - 0 : Int).toNat + 1) 0 w a_14 ls H _ jw hR_a_14 (by omega) (fun j h1 h2 => by rw [jW j h1 (by omega)]; exact (Int.add_zero _).symm) (by omega) (lv_sub hl [1, 0] rfl) hP hD hS
                  · have yb80 : ¬ (B1 : Int) < (b : Int) := fun q => b80 ((zI_lt (a := B1) (b := b) (by omega) (by omega) (by omega) (by omega)).mpr q)
                    refine lv_aload_n hx hb dX0_findPreds_83 rfl (lv_at hl 0 rfl) ?_
                    refine va_get (D := (dC, dI)) (ci := 0) (v := .ref q_713) (C := RX0) (T := TX0) (N := 19) hx hb hts mem_X0_findPreds_0 hown hK hP 0 rfl rfl 13 (by decide) (ow (k := 1) rfl) (fun _ h9 => h9) rfl dX0_findPreds_84 ?_
                    refine lv_iload_n hx hb dX0_findPreds_87 rfl (lv_at hl 2 rfl) ?_
                    have c1 := psF_le a_9 a_11 a_12 B1.toNat (b).toNat
                    have c2 := psF_nn a_9 a_11 a_12 B1.toNat (b).toNat
                    refine va_iald hx hb hK hP 4 3 rfl rfl (zI_in (a := b) (n := 301) (by omega) (by omega) (by decide)) dX0_findPreds_88 ?_
                    refine lv_topi (fun z ez => ?_)
                    obtain rfl : z = zI (w (b)) := ez.trans (zI_ld (w) (by omega) (by omega))
                    have k4 := jw (b)
                    refine lv_istore_n (lv' := [(3, .int (zI (w (b)))), (0, .ref h0), (1, .int (zI (S))), (2, .int (zI (b)))]) hx hb dX0_findPreds_89 rfl hl (by decide) rfl (fun ls hl => ?_)
                    refine lv_aload_n hx hb dX0_findPreds_90 rfl (lv_at hl 1 rfl) ?_
                    refine va_get (D := (dC, dI)) (ci := 0) (v := .ref q_713) (C := RX0) (T := TX0) (N := 19) hx hb hts mem_X0_findPreds_0 hown hK hP 0 rfl rfl 13 (by decide) (ow (k := 1) rfl) (fun _ h9 => h9) rfl dX0_findPreds_91 ?_
                    refine lv_iload_n hx hb dX0_findPreds_94 rfl (lv_at hl 3 rfl) ?_
                    refine lv_iload_n hx hb dX0_findPreds_95 rfl (lv_at hl 2 rfl) ?_
                    refine va_iast (i := zI (b)) hx hb hK hP hD hS 4 3 rfl rfl (zI_in (a := b) (n := 301) (by omega) (by omega) (by decide)) dX0_findPreds_96 (fun H locs hP hD hS => ?_)
                    have eQ : upd (fun j : Nat => zI (w (j : Int))) (zI (b)).toNatClampNeg (zI (S)) = (fun j : Nat => zI (zup w (b) (S) (j : Int))) := zI_st w (e := b) (v := S) (by omega) (by omega)
                    rw [eQ] at hP hD
                    clear eQ
                    have ra_2007 : ∀ j : Int, 0 ≤ zup w (b) (S) j ∧ zup w (b) (S) j ≤ 600 := zup_P (P := fun x9 => 0 ≤ x9 ∧ x9 ≤ 600) jw (show 0 ≤ (S) ∧ (S) ≤ 600 by omega)
                    obtain ⟨a_2007, ea_2007⟩ : ∃ a9 : Int → Int, a9 = zup w (b) (S) := ⟨_, rfl⟩
                    rw [← ea_2007] at hP hD ra_2007
                    have hP : va_P (dC, dI) vwP [(h0, .inr (0, [.int (zI (B1)), v_1, v_2, v_3, v_4, v_5, v_6, v_7, v_8, .ref q_709, v_10, .ref q_711, .ref q_712, .ref q_713, .ref q_714, v_15, v_16, v_17, v_18])), (q_709, .inl (cA_709, 300, .inl (fun j : Nat => zI (a_9 (j : Int))))), (q_711, .inl (cA_711, 300, .inl (fun j : Nat => zI (a_11 (j : Int))))), (q_712, .inl (cA_712, 300, .inl (fun j : Nat => zI (a_12 (j : Int))))), (q_713, .inl (cA_713, 301, .inl (fun j : Nat => zI (a_2007 (j : Int))))), (q_714, .inl (cA_714, 600, .inl (fun j : Nat => zI (a_14 (j : Int)))))] H := hP
                    have hD : va_D A [(h0, .inr (0, [.int (zI (B1)), v_1, v_2, v_3, v_4, v_5, v_6, v_7, v_8, .ref q_709, v_10, .ref q_711, .ref q_712, .ref q_713, .ref q_714, v_15, v_16, v_17, v_18])), (q_709, .inl (cA_709, 300, .inl (fun j : Nat => zI (a_9 (j : Int))))), (q_711, .inl (cA_711, 300, .inl (fun j : Nat => zI (a_11 (j : Int))))), (q_712, .inl (cA_712, 300, .inl (fun j : Nat => zI (a_12 (j : Int))))), (q_713, .inl (cA_713, 301, .inl (fun j : Nat => zI (a_2007 (j : Int))))), (q_714, .inl (cA_714, 600, .inl (fun j : Nat => zI (a_14 (j : Int)))))] := hD
                    refine lv_iload_n hx hb dX0_findPreds_97 rfl (lv_at hl 2 rfl) ?_
                    refine lv_iload_n hx hb dX0_findPreds_98 rfl (lv_at hl 0 rfl) ?_
                    refine lv_iadd hx hb dX0_findPreds_99 ?_
                    refine lv_topi (fun z ez => ?_)
                    obtain rfl : z = zI (S + (w (b))) := ez.trans (zI_add (S) (w (b)))
                    refine lv_istore_n (lv' := [(1, .int (zI (S + (w (b))))), (3, .int (zI (w (b)))), (0, .ref h0), (2, .int (zI (b)))]) hx hb dX0_findPreds_100 rfl hl (by decide) rfl (fun ls hl => ?_)
                    refine lv_iinc (v := zI (b + 1)) (lv' := [(2, .int (zI (b + 1))), (1, .int (zI (S + (w (b))))), (3, .int (zI (w (b)))), (0, .ref h0)]) hx hb dX0_findPreds_101 hl (k := 3) rfl (zI_add (b) (1)) (by decide) rfl (fun ls hl => ?_)
                    refine lv_goto (tgt := 75) hx hb dX0_findPreds_104 (by decide) ?_
                    exact ih75 (S + (w (b))) (b + 1) a_2007 ls H _ ra_2007 (by omega) (by rw [psF_succ a_9 a_11 a_12 B1.toNat (by omega), ← jS, ← jV b (by omega) (by omega)]) (fun j h1 h2 => by rw [ea_2007]; unfold zup; split; rename_i h; rw [h]; exact jS; exact jW j h1 (by omega)) (fun j h1 h2 => by rw [ea_2007]; unfold zup; rw [if_neg (by omega)]; exact jV j (by omega) h2) (by omega) (lv_sub hl [3, 1, 0] rfl) hP hD hS
              exact key75 ((B1 + 1 - 0 : Int).toNat + 1) 0 0 w ls H _ jw (by omega) rfl (fun j h1 h2 => by omega) (fun j h1 h2 => by rw [jW j (by omega) h2, show b = B1 by omega]; omega) (by omega) (lv_sub hl [2, 1, 0] rfl) hP hD hS
            · have yb30 : ¬ (B1 : Int) ≤ (b : Int) := fun q => b30 ((zI_le (a := B1) (b := b) (by omega) (by omega) (by omega) (by omega)).mpr q)
              refine lv_iconst (v := 0) hx hb dX0_findPreds_33 (by decide) ?_
              refine lv_istore_n (lv' := [(2, .int 0), (0, .ref h0), (1, .int (zI (b)))]) hx hb dX0_findPreds_34 rfl hl (by decide) rfl (fun ls hl => ?_)
              have key35 : ∀ n35 : Nat, ∀ (i : Int) (w : Int → Int) (ls : Array Slot) (H : Heap) (locs : List Loc), (∀ j : Int, 0 ≤ w j ∧ w j ≤ 600) → (0 ≤ i ∧ i ≤ gcF a_9 a_11 a_12 b) → (∀ j : Int, 0 ≤ j → j ≤ B1 → w j = 0 + cni a_9 a_11 a_12 j b i) → ((gcF a_9 a_11 a_12 b - i : Int).toNat) < n35 → lv_has ls 5 [(0, .ref h0), (1, .int (zI (b))), (2, .int (zI (i)))] → va_P (dC, dI) vwP [(h0, .inr (0, [.int (zI (B1)), v_1, v_2, v_3, v_4, v_5, v_6, v_7, v_8, .ref q_709, v_10, .ref q_711, .ref q_712, .ref q_713, .ref q_714, v_15, v_16, v_17, v_18])), (q_709, .inl (cA_709, 300, .inl (fun j : Nat => zI (a_9 (j : Int))))), (q_711, .inl (cA_711, 300, .inl (fun j : Nat => zI (a_11 (j : Int))))), (q_712, .inl (cA_712, 300, .inl (fun j : Nat => zI (a_12 (j : Int))))), (q_713, .inl (cA_713, 301, .inl (fun j : Nat => zI (w (j : Int))))), (q_714, .inl (cA_714, 600, .inl (fun j : Nat => zI (a_14 (j : Int)))))] H → va_D A [(h0, .inr (0, [.int (zI (B1)), v_1, v_2, v_3, v_4, v_5, v_6, v_7, v_8, .ref q_709, v_10, .ref q_711, .ref q_712, .ref q_713, .ref q_714, v_15, v_16, v_17, v_18])), (q_709, .inl (cA_709, 300, .inl (fun j : Nat => zI (a_9 (j : Int))))), (q_711, .inl (cA_711, 300, .inl (fun j : Nat => zI (a_11 (j : Int))))), (q_712, .inl (cA_712, 300, .inl (fun j : Nat => zI (a_12 (j : Int))))), (q_713, .inl (cA_713, 301, .inl (fun j : Nat => zI (w (j : Int))))), (q_714, .inl (cA_714, 600, .inl (fun j : Nat => zI (a_14 (j : Int)))))] → va_S A s.heap H locs → W p l e (headSpec v_X0_findPreds ({ frames := 1, cells := 0, slots := 0, locals := 22 })).room s m ([.ref h0] : List Value).toArray below meth c H locs 0 0 Q (F0 m 35 ls []) := by
                intro n35
                induction n35 with
                | zero => intro i w ls H locs jw ji jW hm35; exact absurd hm35 (by omega)
                | succ n35 ih35 =>
                  intro i w ls H locs jw ji jW hm35 hl hP hD hS
                  refine lv_iload_n hx hb dX0_findPreds_35 rfl (lv_at hl 2 rfl) ?_
                  refine lv_aload_n hx hb dX0_findPreds_36 rfl (lv_at hl 0 rfl) ?_
                  refine lv_iload_n hx hb dX0_findPreds_37 rfl (lv_at hl 1 rfl) ?_
                  have hPc := hP.sub (ws' := [(h0, .inr (0, [.int (zI (B1)), v_1, v_2, v_3, v_4, v_5, v_6, v_7, v_8, .ref q_709, v_10, .ref q_711, .ref q_712, .ref q_713, .ref q_714, v_15, v_16, v_17, v_18])), (q_709, .inl (cA_709, 300, .inl (fun j : Nat => zI (a_9 (j : Int))))), (q_711, .inl (cA_711, 300, .inl (fun j : Nat => zI (a_11 (j : Int))))), (q_712, .inl (cA_712, 300, .inl (fun j : Nat => zI (a_12 (j : Int)))))]) [0, 1, 2, 3] rfl
                  have hDc := hD.sub (ws' := [(h0, .inr (0, [.int (zI (B1)), v_1, v_2, v_3, v_4, v_5, v_6, v_7, v_8, .ref q_709, v_10, .ref q_711, .ref q_712, .ref q_713, .ref q_714, v_15, v_16, v_17, v_18])), (q_709, .inl (cA_709, 300, .inl (fun j : Nat => zI (a_9 (j : Int))))), (q_711, .inl (cA_711, 300, .inl (fun j : Nat => zI (a_11 (j : Int))))), (q_712, .inl (cA_712, 300, .inl (fun j : Nat => zI (a_12 (j : Int)))))]) [0, 1, 2, 3] (by decide) rfl
                  have hKc := hK.sub (tys' := [(cA_709, .int), (cA_711, .int), (cA_712, .int)]) [0, 1, 2] rfl
                  have hFc := va_free (wc := [(h0, .inr (0, [.int (zI (B1)), v_1, v_2, v_3, v_4, v_5, v_6, v_7, v_8, .ref q_709, v_10, .ref q_711, .ref q_712, .ref q_713, .ref q_714, v_15, v_16, v_17, v_18])), (q_709, .inl (cA_709, 300, .inl (fun j : Nat => zI (a_9 (j : Int))))), (q_711, .inl (cA_711, 300, .inl (fun j : Nat => zI (a_11 (j : Int))))), (q_712, .inl (cA_712, 300, .inl (fun j : Nat => zI (a_12 (j : Int)))))]) hD hS hA [0, 1, 2, 3] rfl
                  refine va_calli (va_runV (As := [.int (zI (b))]) (rest := [.int (zI (i))]) ⟨hx, hb, hml, hown, hts⟩ (c_X0_goalCount l dC dI h0 (.int (zI (B1))) v_1 v_2 v_3 v_4 v_5 v_6 v_7 v_8 q_709 cA_709 a_9 v_10 q_711 cA_711 a_11 q_712 cA_712 a_12 (.ref q_713) (.ref q_714) v_15 v_16 v_17 v_18 b hR_a_9 hR_a_11 hR_a_12 (by omega) H.size) (cwV 1 hts g_X0_findPreds_X0_goalCount rfl rfl rfl (by decide +kernel) ⟨(Nat.le_of_ble_eq_true rfl), (Nat.le_of_ble_eq_true rfl)⟩) ⟨fun a U g mk q => by obtain ⟨q0, q1, qP, qK, qD⟩ := q; exact ⟨q0, q1, qP, va_K.moved (u := U) (U := U.calling g mk a) (Vm.Alike.refl U.vm) qK, qD⟩, va_recv hKc hPc (ci := 0) (q0 := 0) rfl rfl, fun U hU hW => ⟨rfl, by rw [hU], by rw [hU]; exact hPc, va_K.moved hW.alike hKc, hDc.weaken (fun _ _ _ _ => trivial)⟩⟩ rfl rfl hl.1 rfl (lv_room (Nat.le_of_ble_eq_true rfl)) dX0_findPreds_38 ⟨(Nat.le_of_ble_eq_true rfl), (Nat.le_of_ble_eq_true rfl)⟩) hS (fun q _ h => hFc q h) hFc (fun r_2008 u t H1 locs ht hvm hw hB hz1 hk1 hS => ?_)
                  obtain ⟨hP1, hK1, hD1⟩ := hB
                  rw [ht] at hP1
                  have hK1 := va_K.moved hvm.symm hK1
                  obtain ⟨hP, hD⟩ := va_join (wr := [(q_713, .inl (cA_713, 301, .inl (fun j : Nat => zI (w (j : Int))))), (q_714, .inl (cA_714, 600, .inl (fun j : Nat => zI (a_14 (j : Int)))))]) (w1 := [(h0, .inr (0, [.int (zI (B1)), v_1, v_2, v_3, v_4, v_5, v_6, v_7, v_8, .ref q_709, v_10, .ref q_711, .ref q_712, .ref q_713, .ref q_714, v_15, v_16, v_17, v_18])), (q_709, .inl (cA_709, 300, .inl (fun j : Nat => zI (a_9 (j : Int))))), (q_711, .inl (cA_711, 300, .inl (fun j : Nat => zI (a_11 (j : Int))))), (q_712, .inl (cA_712, 300, .inl (fun j : Nat => zI (a_12 (j : Int)))))]) hP hD [0, 1, 2, 3] [4, 5] rfl rfl (by decide) (by decide) hk1 hFc hP1 hD1
                  have hK := (hK.sub (tys' := [(cA_713, .int), (cA_714, .int)]) [3, 4] rfl).app hK1
                  generalize H1 = H at hP hS ⊢
                  have hP : va_P (dC, dI) vwP [(q_713, .inl (cA_713, 301, .inl (fun j : Nat => zI (w (j : Int))))), (q_714, .inl (cA_714, 600, .inl (fun j : Nat => zI (a_14 (j : Int))))), (h0, .inr (0, [.int (zI (B1)), v_1, v_2, v_3, v_4, v_5, v_6, v_7, v_8, .ref q_709, v_10, .ref q_711, .ref q_712, .ref q_713, .ref q_714, v_15, v_16, v_17, v_18])), (q_709, .inl (cA_709, 300, .inl (fun j : Nat => zI (a_9 (j : Int))))), (q_711, .inl (cA_711, 300, .inl (fun j : Nat => zI (a_11 (j : Int))))), (q_712, .inl (cA_712, 300, .inl (fun j : Nat => zI (a_12 (j : Int)))))] H := hP
                  have hD : va_D A [(q_713, .inl (cA_713, 301, .inl (fun j : Nat => zI (w (j : Int))))), (q_714, .inl (cA_714, 600, .inl (fun j : Nat => zI (a_14 (j : Int))))), (h0, .inr (0, [.int (zI (B1)), v_1, v_2, v_3, v_4, v_5, v_6, v_7, v_8, .ref q_709, v_10, .ref q_711, .ref q_712, .ref q_713, .ref q_714, v_15, v_16, v_17, v_18])), (q_709, .inl (cA_709, 300, .inl (fun j : Nat => zI (a_9 (j : Int))))), (q_711, .inl (cA_711, 300, .inl (fun j : Nat => zI (a_11 (j : Int))))), (q_712, .inl (cA_712, 300, .inl (fun j : Nat => zI (a_12 (j : Int)))))] := hD
                  have hK : va_K (dC, dI) vwP [(cA_713, .int), (cA_714, .int), (cA_709, .int), (cA_711, .int), (cA_712, .int)] s := hK
                  refine W.widen (k := 0) (n := 0) (Nat.le_of_ble_eq_true rfl) (Nat.le_of_ble_eq_true rfl) ?_
                  obtain rfl : r_2008 = (zI (gcF a_9 a_11 a_12 (b))) := hw
                  have := gcF_rng a_9 a_11 a_12 (b)
                  refine lv_icmp_ge (tgt := 65) hx hb dX0_findPreds_41 (by decide) (fun b41 => ?_) (fun b41 => ?_)
                  · have yb41 : (gcF a_9 a_11 a_12 (b) : Int) ≤ (i : Int) := (zI_le (a := gcF a_9 a_11 a_12 (b)) (b := i) (by omega) (by omega) (by omega) (by omega)).mp b41
                    refine lv_iinc (v := zI (b + 1)) (lv' := [(1, .int (zI (b + 1))), (0, .ref h0), (2, .int (zI (i)))]) hx hb dX0_findPreds_65 hl (k := 1) rfl (zI_add (b) (1)) (by decide) rfl (fun ls hl => ?_)
                    refine lv_goto (tgt := 25) hx hb dX0_findPreds_68 (by decide) ?_
                    have hP := hP.sub (ws' := [(h0, .inr (0, [.int (zI (B1)), v_1, v_2, v_3, v_4, v_5, v_6, v_7, v_8, .ref q_709, v_10, .ref q_711, .ref q_712, .ref q_713, .ref q_714, v_15, v_16, v_17, v_18])), (q_709, .inl (cA_709, 300, .inl (fun j : Nat => zI (a_9 (j : Int))))), (q_711, .inl (cA_711, 300, .inl (fun j : Nat => zI (a_11 (j : Int))))), (q_712, .inl (cA_712, 300, .inl (fun j : Nat => zI (a_12 (j : Int))))), (q_713, .inl (cA_713, 301, .inl (fun j : Nat => zI (w (j : Int))))), (q_714, .inl (cA_714, 600, .inl (fun j : Nat => zI (a_14 (j : Int)))))]) [2, 3, 4, 5, 0, 1] rfl
                    have hD := hD.sub (ws' := [(h0, .inr (0, [.int (zI (B1)), v_1, v_2, v_3, v_4, v_5, v_6, v_7, v_8, .ref q_709, v_10, .ref q_711, .ref q_712, .ref q_713, .ref q_714, v_15, v_16, v_17, v_18])), (q_709, .inl (cA_709, 300, .inl (fun j : Nat => zI (a_9 (j : Int))))), (q_711, .inl (cA_711, 300, .inl (fun j : Nat => zI (a_11 (j : Int))))), (q_712, .inl (cA_712, 300, .inl (fun j : Nat => zI (a_12 (j : Int))))), (q_713, .inl (cA_713, 301, .inl (fun j : Nat => zI (w (j : Int))))), (q_714, .inl (cA_714, 600, .inl (fun j : Nat => zI (a_14 (j : Int)))))]) [2, 3, 4, 5, 0, 1] (by decide) rfl
                    exact ih25 (b + 1) w ls H _ jw (by omega) (fun j h1 h2 => by rw [cn_succ a_9 a_11 a_12 j (by omega), jW j h1 h2, show i = gcF a_9 a_11 a_12 b by omega]) (by omega) (lv_sub hl [1, 0] rfl) hP hD hS
                  · have yb41 : ¬ (gcF a_9 a_11 a_12 (b) : Int) ≤ (i : Int) := fun q => b41 ((zI_le (a := gcF a_9 a_11 a_12 (b)) (b := i) (by omega) (by omega) (by omega) (by omega)).mpr q)
                    refine lv_aload_n hx hb dX0_findPreds_44 rfl (lv_at hl 0 rfl) ?_
                    refine va_get (D := (dC, dI)) (ci := 0) (v := .ref q_713) (C := RX0) (T := TX0) (N := 19) hx hb hts mem_X0_findPreds_0 hown hK hP 2 rfl rfl 13 (by decide) (ow (k := 1) rfl) (fun _ h9 => h9) rfl dX0_findPreds_45 ?_
                    refine lv_aload_n hx hb dX0_findPreds_48 rfl (lv_at hl 0 rfl) ?_
                    refine lv_iload_n hx hb dX0_findPreds_49 rfl (lv_at hl 1 rfl) ?_
                    refine lv_iload_n hx hb dX0_findPreds_50 rfl (lv_at hl 2 rfl) ?_
                    have hPc := hP.sub (ws' := [(h0, .inr (0, [.int (zI (B1)), v_1, v_2, v_3, v_4, v_5, v_6, v_7, v_8, .ref q_709, v_10, .ref q_711, .ref q_712, .ref q_713, .ref q_714, v_15, v_16, v_17, v_18])), (q_711, .inl (cA_711, 300, .inl (fun j : Nat => zI (a_11 (j : Int))))), (q_712, .inl (cA_712, 300, .inl (fun j : Nat => zI (a_12 (j : Int)))))]) [2, 4, 5] rfl
                    have hDc := hD.sub (ws' := [(h0, .inr (0, [.int (zI (B1)), v_1, v_2, v_3, v_4, v_5, v_6, v_7, v_8, .ref q_709, v_10, .ref q_711, .ref q_712, .ref q_713, .ref q_714, v_15, v_16, v_17, v_18])), (q_711, .inl (cA_711, 300, .inl (fun j : Nat => zI (a_11 (j : Int))))), (q_712, .inl (cA_712, 300, .inl (fun j : Nat => zI (a_12 (j : Int)))))]) [2, 4, 5] (by decide) rfl
                    have hKc := hK.sub (tys' := [(cA_711, .int), (cA_712, .int)]) [3, 4] rfl
                    have hFc := va_free (wc := [(h0, .inr (0, [.int (zI (B1)), v_1, v_2, v_3, v_4, v_5, v_6, v_7, v_8, .ref q_709, v_10, .ref q_711, .ref q_712, .ref q_713, .ref q_714, v_15, v_16, v_17, v_18])), (q_711, .inl (cA_711, 300, .inl (fun j : Nat => zI (a_11 (j : Int))))), (q_712, .inl (cA_712, 300, .inl (fun j : Nat => zI (a_12 (j : Int)))))]) hD hS hA [2, 4, 5] rfl
                    refine va_calli (va_runV (As := [.int (zI (b)), .int (zI (i))]) (rest := [.ref q_713]) ⟨hx, hb, hml, hown, hts⟩ (c_X0_goal l dC dI h0 (.int (zI (B1))) v_1 v_2 v_3 v_4 v_5 v_6 v_7 v_8 (.ref q_709) v_10 q_711 cA_711 a_11 q_712 cA_712 a_12 (.ref q_713) (.ref q_714) v_15 v_16 v_17 v_18 b i hR_a_11 hR_a_12 (by omega) (by omega) H.size) (cwV 2 hts g_X0_findPreds_X0_goal rfl rfl rfl (by decide +kernel) ⟨(Nat.le_of_ble_eq_true rfl), (Nat.le_of_ble_eq_true rfl)⟩) ⟨fun a U g mk q => by obtain ⟨q0, q1, qP, qK, qD⟩ := q; exact ⟨q0, q1, qP, va_K.moved (u := U) (U := U.calling g mk a) (Vm.Alike.refl U.vm) qK, qD⟩, va_recv hKc hPc (ci := 0) (q0 := 0) rfl rfl, fun U hU hW => ⟨rfl, by rw [hU], by rw [hU]; exact hPc, va_K.moved hW.alike hKc, hDc.weaken (fun _ _ _ _ => trivial)⟩⟩ rfl rfl hl.1 rfl (lv_room (Nat.le_of_ble_eq_true rfl)) dX0_findPreds_51 ⟨(Nat.le_of_ble_eq_true rfl), (Nat.le_of_ble_eq_true rfl)⟩) hS (fun q _ h => hFc q h) hFc (fun r_2009 u t H1 locs ht hvm hw hB hz1 hk1 hS => ?_)
                    obtain ⟨hP1, hK1, hD1⟩ := hB
                    rw [ht] at hP1
                    have hK1 := va_K.moved hvm.symm hK1
                    obtain ⟨hP, hD⟩ := va_join (wr := [(q_713, .inl (cA_713, 301, .inl (fun j : Nat => zI (w (j : Int))))), (q_714, .inl (cA_714, 600, .inl (fun j : Nat => zI (a_14 (j : Int))))), (q_709, .inl (cA_709, 300, .inl (fun j : Nat => zI (a_9 (j : Int)))))]) (w1 := [(h0, .inr (0, [.int (zI (B1)), v_1, v_2, v_3, v_4, v_5, v_6, v_7, v_8, .ref q_709, v_10, .ref q_711, .ref q_712, .ref q_713, .ref q_714, v_15, v_16, v_17, v_18])), (q_711, .inl (cA_711, 300, .inl (fun j : Nat => zI (a_11 (j : Int))))), (q_712, .inl (cA_712, 300, .inl (fun j : Nat => zI (a_12 (j : Int)))))]) hP hD [2, 4, 5] [0, 1, 3] rfl rfl (by decide) (by decide) hk1 hFc hP1 hD1
                    have hK := (hK.sub (tys' := [(cA_713, .int), (cA_714, .int), (cA_709, .int)]) [0, 1, 2] rfl).app hK1
                    generalize H1 = H at hP hS ⊢
                    have hP : va_P (dC, dI) vwP [(q_713, .inl (cA_713, 301, .inl (fun j : Nat => zI (w (j : Int))))), (q_714, .inl (cA_714, 600, .inl (fun j : Nat => zI (a_14 (j : Int))))), (q_709, .inl (cA_709, 300, .inl (fun j : Nat => zI (a_9 (j : Int))))), (h0, .inr (0, [.int (zI (B1)), v_1, v_2, v_3, v_4, v_5, v_6, v_7, v_8, .ref q_709, v_10, .ref q_711, .ref q_712, .ref q_713, .ref q_714, v_15, v_16, v_17, v_18])), (q_711, .inl (cA_711, 300, .inl (fun j : Nat => zI (a_11 (j : Int))))), (q_712, .inl (cA_712, 300, .inl (fun j : Nat => zI (a_12 (j : Int)))))] H := hP
                    have hD : va_D A [(q_713, .inl (cA_713, 301, .inl (fun j : Nat => zI (w (j : Int))))), (q_714, .inl (cA_714, 600, .inl (fun j : Nat => zI (a_14 (j : Int))))), (q_709, .inl (cA_709, 300, .inl (fun j : Nat => zI (a_9 (j : Int))))), (h0, .inr (0, [.int (zI (B1)), v_1, v_2, v_3, v_4, v_5, v_6, v_7, v_8, .ref q_709, v_10, .ref q_711, .ref q_712, .ref q_713, .ref q_714, v_15, v_16, v_17, v_18])), (q_711, .inl (cA_711, 300, .inl (fun j : Nat => zI (a_11 (j : Int))))), (q_712, .inl (cA_712, 300, .inl (fun j : Nat => zI (a_12 (j : Int)))))] := hD
                    have hK : va_K (dC, dI) vwP [(cA_713, .int), (cA_714, .int), (cA_709, .int), (cA_711, .int), (cA_712, .int)] s := hK
                    refine W.widen (k := 0) (n := 0) (Nat.le_of_ble_eq_true rfl) (Nat.le_of_ble_eq_true rfl) ?_
                    obtain rfl : r_2009 = (zI (glF a_11 a_12 (b) (i))) := hw
                    have hg := gl_lt hX_G (b := b) (i := i) (by omega) (by omega) (by omega) (by omega)
                    have c1 := cni_b a_9 a_11 a_12 (b := b) (i := i) (by omega) (by omega) (by omega)
                    have c2 := jW (glF a_11 a_12 b i) (by omega) (by omega)
                    refine lv_dup2_11 hx hb dX0_findPreds_54 rfl rfl ?_
                    refine va_iald hx hb hK hP 0 0 rfl rfl (zI_in (a := glF a_11 a_12 (b) (i)) (n := 301) (by omega) (by omega) (by decide)) dX0_findPreds_55 ?_
                    refine lv_topi (fun z ez => ?_)
                    obtain rfl : z = zI (w (glF a_11 a_12 (b) (i))) := ez.trans (zI_ld (w) (by omega) (by omega))
                    have k5 := jw (glF a_11 a_12 (b) (i))
                    refine lv_iconst (v := 1) hx hb dX0_findPreds_56 (by decide) ?_
                    refine lv_iadd hx hb dX0_findPreds_57 ?_
                    refine lv_topi (fun z ez => ?_)
                    obtain rfl : z = zI ((w (glF a_11 a_12 (b) (i))) + 1) := ez.trans (zI_add (w (glF a_11 a_12 (b) (i))) (1))
                    refine va_iast (i := zI (glF a_11 a_12 (b) (i))) hx hb hK hP hD hS 0 0 rfl rfl (zI_in (a := glF a_11 a_12 (b) (i)) (n := 301) (by omega) (by omega) (by decide)) dX0_findPreds_58 (fun H locs hP hD hS => ?_)
                    have eQ : upd (fun j : Nat => zI (w (j : Int))) (zI (glF a_11 a_12 (b) (i))).toNatClampNeg (zI ((w (glF a_11 a_12 (b) (i))) + 1)) = (fun j : Nat => zI (zup w (glF a_11 a_12 (b) (i)) ((w (glF a_11 a_12 (b) (i))) + 1) (j : Int))) := zI_st w (e := glF a_11 a_12 (b) (i)) (v := (w (glF a_11 a_12 (b) (i))) + 1) (by omega) (by omega)
                    rw [eQ] at hP hD
                    clear eQ
                    have ra_2010 : ∀ j : Int, 0 ≤ zup w (glF a_11 a_12 (b) (i)) ((w (glF a_11 a_12 (b) (i))) + 1) j ∧ zup w (glF a_11 a_12 (b) (i)) ((w (glF a_11 a_12 (b) (i))) + 1) j ≤ 600 := zup_P (P := fun x9 => 0 ≤ x9 ∧ x9 ≤ 600) jw (show 0 ≤ ((w (glF a_11 a_12 (b) (i))) + 1) ∧ ((w (glF a_11 a_12 (b) (i))) + 1) ≤ 600 by omega)
                    obtain ⟨a_2010, ea_2010⟩ : ∃ a9 : Int → Int, a9 = zup w (glF a_11 a_12 (b) (i)) ((w (glF a_11 a_12 (b) (i))) + 1) := ⟨_, rfl⟩
                    rw [← ea_2010] at hP hD ra_2010
                    have hP : va_P (dC, dI) vwP [(q_713, .inl (cA_713, 301, .inl (fun j : Nat => zI (a_2010 (j : Int))))), (q_714, .inl (cA_714, 600, .inl (fun j : Nat => zI (a_14 (j : Int))))), (q_709, .inl (cA_709, 300, .inl (fun j : Nat => zI (a_9 (j : Int))))), (h0, .inr (0, [.int (zI (B1)), v_1, v_2, v_3, v_4, v_5, v_6, v_7, v_8, .ref q_709, v_10, .ref q_711, .ref q_712, .ref q_713, .ref q_714, v_15, v_16, v_17, v_18])), (q_711, .inl (cA_711, 300, .inl (fun j : Nat => zI (a_11 (j : Int))))), (q_712, .inl (cA_712, 300, .inl (fun j : Nat => zI (a_12 (j : Int)))))] H := hP
                    have hD : va_D A [(q_713, .inl (cA_713, 301, .inl (fun j : Nat => zI (a_2010 (j : Int))))), (q_714, .inl (cA_714, 600, .inl (fun j : Nat => zI (a_14 (j : Int))))), (q_709, .inl (cA_709, 300, .inl (fun j : Nat => zI (a_9 (j : Int))))), (h0, .inr (0, [.int (zI (B1)), v_1, v_2, v_3, v_4, v_5, v_6, v_7, v_8, .ref q_709, v_10, .ref q_711, .ref q_712, .ref q_713, .ref q_714, v_15, v_16, v_17, v_18])), (q_711, .inl (cA_711, 300, .inl (fun j : Nat => zI (a_11 (j : Int))))), (q_712, .inl (cA_712, 300, .inl (fun j : Nat => zI (a_12 (j : Int)))))] := hD
                    refine lv_iinc (v := zI (i + 1)) (lv' := [(2, .int (zI (i + 1))), (0, .ref h0), (1, .int (zI (b)))]) hx hb dX0_findPreds_59 hl (k := 2) rfl (zI_add (i) (1)) (by decide) rfl (fun ls hl => ?_)
                    refine lv_goto (tgt := 35) hx hb dX0_findPreds_62 (by decide) ?_
                    have hP := hP.sub (ws' := [(h0, .inr (0, [.int (zI (B1)), v_1, v_2, v_3, v_4, v_5, v_6, v_7, v_8, .ref q_709, v_10, .ref q_711, .ref q_712, .ref q_713, .ref q_714, v_15, v_16, v_17, v_18])), (q_709, .inl (cA_709, 300, .inl (fun j : Nat => zI (a_9 (j : Int))))), (q_711, .inl (cA_711, 300, .inl (fun j : Nat => zI (a_11 (j : Int))))), (q_712, .inl (cA_712, 300, .inl (fun j : Nat => zI (a_12 (j : Int))))), (q_713, .inl (cA_713, 301, .inl (fun j : Nat => zI (a_2010 (j : Int))))), (q_714, .inl (cA_714, 600, .inl (fun j : Nat => zI (a_14 (j : Int)))))]) [3, 2, 4, 5, 0, 1] rfl
                    have hD := hD.sub (ws' := [(h0, .inr (0, [.int (zI (B1)), v_1, v_2, v_3, v_4, v_5, v_6, v_7, v_8, .ref q_709, v_10, .ref q_711, .ref q_712, .ref q_713, .ref q_714, v_15, v_16, v_17, v_18])), (q_709, .inl (cA_709, 300, .inl (fun j : Nat => zI (a_9 (j : Int))))), (q_711, .inl (cA_711, 300, .inl (fun j : Nat => zI (a_11 (j : Int))))), (q_712, .inl (cA_712, 300, .inl (fun j : Nat => zI (a_12 (j : Int))))), (q_713, .inl (cA_713, 301, .inl (fun j : Nat => zI (a_2010 (j : Int))))), (q_714, .inl (cA_714, 600, .inl (fun j : Nat => zI (a_14 (j : Int)))))]) [3, 2, 4, 5, 0, 1] (by decide) rfl
                    exact ih35 (i + 1) a_2010 ls H _ ra_2010 (by have := gcF_rng a_9 a_11 a_12 b; omega) (by rw [ea_2010]; exact cni_step (p := fun _ => 0) jW (by omega) (by omega)) (by omega) (lv_sub hl [1, 2, 0] rfl) hP hD hS
              exact key35 ((gcF a_9 a_11 a_12 b - 0 : Int).toNat + 1) 0 w ls H _ jw (by have := gcF_rng a_9 a_11 a_12 b; omega) (fun j h1 h2 => by rw [jW j h1 h2, cni_0]) (by omega) (lv_sub hl [1, 2, 0] rfl) hP hD hS
        exact key25 ((B1 - 0 : Int).toNat + 1) 0 w ls H _ jw (by omega) (fun j h1 h2 => by rw [jW j h1 (by omega)]; rfl) (by omega) (lv_sub hl [1, 0] rfl) hP hD hS
      · have yb7 : ¬ (B1 : Int) < (i : Int) := fun q => b7 ((zI_lt (a := B1) (b := i) (by omega) (by omega) (by omega) (by omega)).mpr q)
        refine lv_aload_n hx hb dX0_findPreds_10 rfl (lv_at hl 0 rfl) ?_
        refine va_get (D := (dC, dI)) (ci := 0) (v := .ref q_713) (C := RX0) (T := TX0) (N := 19) hx hb hts mem_X0_findPreds_0 hown hK hP 0 rfl rfl 13 (by decide) (ow (k := 1) rfl) (fun _ h9 => h9) rfl dX0_findPreds_11 ?_
        refine lv_iload_n hx hb dX0_findPreds_14 rfl (lv_at hl 1 rfl) ?_
        refine lv_iconst (v := 0) hx hb dX0_findPreds_15 (by decide) ?_
        refine va_iast (i := zI (i)) hx hb hK hP hD hS 4 3 rfl rfl (zI_in (a := i) (n := 301) (by omega) (by omega) (by decide)) dX0_findPreds_16 (fun H locs hP hD hS => ?_)
        have eQ : upd (fun j : Nat => zI (w (j : Int))) (zI (i)).toNatClampNeg 0 = (fun j : Nat => zI (zup w (i) (0) (j : Int))) := zI_st w (e := i) (v := 0) (by omega) (by omega)
        rw [eQ] at hP hD
        clear eQ
        have ra_2011 : ∀ j : Int, 0 ≤ zup w (i) (0) j ∧ zup w (i) (0) j ≤ 600 := zup_P (P := fun x9 => 0 ≤ x9 ∧ x9 ≤ 600) jw (show 0 ≤ (0) ∧ (0) ≤ 600 by omega)
        obtain ⟨a_2011, ea_2011⟩ : ∃ a9 : Int → Int, a9 = zup w (i) (0) := ⟨_, rfl⟩
        rw [← ea_2011] at hP hD ra_2011
        have hP : va_P (dC, dI) vwP [(h0, .inr (0, [.int (zI (B1)), v_1, v_2, v_3, v_4, v_5, v_6, v_7, v_8, .ref q_709, v_10, .ref q_711, .ref q_712, .ref q_713, .ref q_714, v_15, v_16, v_17, v_18])), (q_709, .inl (cA_709, 300, .inl (fun j : Nat => zI (a_9 (j : Int))))), (q_711, .inl (cA_711, 300, .inl (fun j : Nat => zI (a_11 (j : Int))))), (q_712, .inl (cA_712, 300, .inl (fun j : Nat => zI (a_12 (j : Int))))), (q_713, .inl (cA_713, 301, .inl (fun j : Nat => zI (a_2011 (j : Int))))), (q_714, .inl (cA_714, 600, .inl (fun j : Nat => zI (a_14 (j : Int)))))] H := hP
        have hD : va_D A [(h0, .inr (0, [.int (zI (B1)), v_1, v_2, v_3, v_4, v_5, v_6, v_7, v_8, .ref q_709, v_10, .ref q_711, .ref q_712, .ref q_713, .ref q_714, v_15, v_16, v_17, v_18])), (q_709, .inl (cA_709, 300, .inl (fun j : Nat => zI (a_9 (j : Int))))), (q_711, .inl (cA_711, 300, .inl (fun j : Nat => zI (a_11 (j : Int))))), (q_712, .inl (cA_712, 300, .inl (fun j : Nat => zI (a_12 (j : Int))))), (q_713, .inl (cA_713, 301, .inl (fun j : Nat => zI (a_2011 (j : Int))))), (q_714, .inl (cA_714, 600, .inl (fun j : Nat => zI (a_14 (j : Int)))))] := hD
        refine lv_iinc (v := zI (i + 1)) (lv' := [(1, .int (zI (i + 1))), (0, .ref h0)]) hx hb dX0_findPreds_17 hl (k := 1) rfl (zI_add (i) (1)) (by decide) rfl (fun ls hl => ?_)
        refine lv_goto (tgt := 2) hx hb dX0_findPreds_20 (by decide) ?_
        exact ih2 (i + 1) a_2011 ls H _ ra_2011 (by omega) (fun j h1 h2 => by rw [ea_2011]; unfold zup; split; rfl; exact jW j h1 (by omega)) (by omega) (lv_sub hl [1, 0] rfl) hP hD hS
  exact key2 ((B1 + 1 - 0 : Int).toNat + 1) 0 a_13 ls H _ hR_a_13 (by omega) (fun j h1 h2 => by omega) (by omega) (lv_sub hl [1, 0] rfl) hP hD hS
