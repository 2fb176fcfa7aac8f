theorem dX2_makeOrder_0 : decode cX2_makeOrder 0 = .ok (.iconst 0, 1) := by decide +kernel
theorem dX2_makeOrder_1 : decode cX2_makeOrder 1 = .ok (.istore_n 2, 1) := by decide +kernel
theorem dX2_makeOrder_2 : decode cX2_makeOrder 2 = .ok (.iload_n 2, 1) := by decide +kernel
theorem dX2_makeOrder_3 : decode cX2_makeOrder 3 = .ok (.aload_n 1, 1) := by decide +kernel
theorem dX2_makeOrder_4 : decode cX2_makeOrder 4 = .ok (.getfield 75, 3) := by decide +kernel
theorem dX2_makeOrder_7 : decode cX2_makeOrder 7 = .ok (.if_icmp .ge 30, 3) := by decide +kernel
theorem dX2_makeOrder_37 : decode cX2_makeOrder 37 = .ok (.iconst 1, 1) := by decide +kernel
theorem dX2_makeOrder_38 : decode cX2_makeOrder 38 = .ok (.istore_n 2, 1) := by decide +kernel
theorem dX2_makeOrder_39 : decode cX2_makeOrder 39 = .ok (.iload_n 2, 1) := by decide +kernel
theorem dX2_makeOrder_40 : decode cX2_makeOrder 40 = .ok (.aload_n 1, 1) := by decide +kernel
theorem dX2_makeOrder_41 : decode cX2_makeOrder 41 = .ok (.getfield 75, 3) := by decide +kernel
theorem dX2_makeOrder_44 : decode cX2_makeOrder 44 = .ok (.if_icmp .ge 47, 3) := by decide +kernel
theorem dX2_makeOrder_91 : decode cX2_makeOrder 91 = .ok (.iconst 1, 1) := by decide +kernel
theorem dX2_makeOrder_92 : decode cX2_makeOrder 92 = .ok (.istore_n 2, 1) := by decide +kernel
theorem dX2_makeOrder_93 : decode cX2_makeOrder 93 = .ok (.aload_n 0, 1) := by decide +kernel
theorem dX2_makeOrder_94 : decode cX2_makeOrder 94 = .ok (.getfield 36, 3) := by decide +kernel
theorem dX2_makeOrder_97 : decode cX2_makeOrder 97 = .ok (.iconst 0, 1) := by decide +kernel
theorem dX2_makeOrder_98 : decode cX2_makeOrder 98 = .ok (.iconst 0, 1) := by decide +kernel
theorem dX2_makeOrder_99 : decode cX2_makeOrder 99 = .ok (.iastore, 1) := by decide +kernel
theorem dX2_makeOrder_100 : decode cX2_makeOrder 100 = .ok (.iconst 0, 1) := by decide +kernel
theorem dX2_makeOrder_101 : decode cX2_makeOrder 101 = .ok (.istore_n 3, 1) := by decide +kernel
theorem dX2_makeOrder_102 : decode cX2_makeOrder 102 = .ok (.iload_n 3, 1) := by decide +kernel
theorem dX2_makeOrder_103 : decode cX2_makeOrder 103 = .ok (.aload_n 0, 1) := by decide +kernel
theorem dX2_makeOrder_104 : decode cX2_makeOrder 104 = .ok (.getfield 9, 3) := by decide +kernel
theorem dX2_makeOrder_107 : decode cX2_makeOrder 107 = .ok (.if_icmp .ge 87, 3) := by decide +kernel
theorem dX2_makeOrder_194 : decode cX2_makeOrder 194 = .ok (.aload_n 0, 1) := by decide +kernel
theorem dX2_makeOrder_195 : decode cX2_makeOrder 195 = .ok (.getfield 9, 3) := by decide +kernel
theorem dX2_makeOrder_198 : decode cX2_makeOrder 198 = .ok (.iconst 1, 1) := by decide +kernel
theorem dX2_makeOrder_199 : decode cX2_makeOrder 199 = .ok (.isub, 1) := by decide +kernel
theorem dX2_makeOrder_200 : decode cX2_makeOrder 200 = .ok (.istore_n 3, 1) := by decide +kernel
theorem dX2_makeOrder_201 : decode cX2_makeOrder 201 = .ok (.iload_n 3, 1) := by decide +kernel
theorem dX2_makeOrder_202 : decode cX2_makeOrder 202 = .ok (.ifCond .le 39, 3) := by decide +kernel
theorem dX2_makeOrder_241 : decode cX2_makeOrder 241 = .ok (.return_, 1) := by decide +kernel
theorem dX2_makeOrder_205 : decode cX2_makeOrder 205 = .ok (.aload_n 0, 1) := by decide +kernel
theorem dX2_makeOrder_206 : decode cX2_makeOrder 206 = .ok (.getfield 29, 3) := by decide +kernel
theorem dX2_makeOrder_209 : decode cX2_makeOrder 209 = .ok (.aload_n 0, 1) := by decide +kernel
theorem dX2_makeOrder_210 : decode cX2_makeOrder 210 = .ok (.getfield 15, 3) := by decide +kernel
theorem dX2_makeOrder_213 : decode cX2_makeOrder 213 = .ok (.aload_n 0, 1) := by decide +kernel
theorem dX2_makeOrder_214 : decode cX2_makeOrder 214 = .ok (.getfield 19, 3) := by decide +kernel
theorem dX2_makeOrder_217 : decode cX2_makeOrder 217 = .ok (.iload_n 3, 1) := by decide +kernel
theorem dX2_makeOrder_218 : decode cX2_makeOrder 218 = .ok (.iaload, 1) := by decide +kernel
theorem dX2_makeOrder_219 : decode cX2_makeOrder 219 = .ok (.iaload, 1) := by decide +kernel
theorem dX2_makeOrder_220 : decode cX2_makeOrder 220 = .ok (.dup2, 1) := by decide +kernel
theorem dX2_makeOrder_221 : decode cX2_makeOrder 221 = .ok (.iaload, 1) := by decide +kernel
theorem dX2_makeOrder_222 : decode cX2_makeOrder 222 = .ok (.aload_n 0, 1) := by decide +kernel
theorem dX2_makeOrder_223 : decode cX2_makeOrder 223 = .ok (.getfield 29, 3) := by decide +kernel
theorem dX2_makeOrder_226 : decode cX2_makeOrder 226 = .ok (.aload_n 0, 1) := by decide +kernel
theorem dX2_makeOrder_227 : decode cX2_makeOrder 227 = .ok (.getfield 19, 3) := by decide +kernel
theorem dX2_makeOrder_230 : decode cX2_makeOrder 230 = .ok (.iload_n 3, 1) := by decide +kernel
theorem dX2_makeOrder_231 : decode cX2_makeOrder 231 = .ok (.iaload, 1) := by decide +kernel
theorem dX2_makeOrder_232 : decode cX2_makeOrder 232 = .ok (.iaload, 1) := by decide +kernel
theorem dX2_makeOrder_233 : decode cX2_makeOrder 233 = .ok (.iadd, 1) := by decide +kernel
theorem dX2_makeOrder_234 : decode cX2_makeOrder 234 = .ok (.iastore, 1) := by decide +kernel
theorem dX2_makeOrder_235 : decode cX2_makeOrder 235 = .ok (.iinc 3 (-1), 3) := by decide +kernel
theorem dX2_makeOrder_238 : decode cX2_makeOrder 238 = .ok (.goto (-37), 3) := by decide +kernel
theorem dX2_makeOrder_110 : decode cX2_makeOrder 110 = .ok (.iinc 2 (-1), 3) := by decide +kernel
theorem dX2_makeOrder_113 : decode cX2_makeOrder 113 = .ok (.aload_n 0, 1) := by decide +kernel
theorem dX2_makeOrder_114 : decode cX2_makeOrder 114 = .ok (.getfield 36, 3) := by decide +kernel
theorem dX2_makeOrder_117 : decode cX2_makeOrder 117 = .ok (.iload_n 2, 1) := by decide +kernel
theorem dX2_makeOrder_118 : decode cX2_makeOrder 118 = .ok (.iaload, 1) := by decide +kernel
theorem dX2_makeOrder_119 : decode cX2_makeOrder 119 = .ok (.istore 4, 2) := by decide +kernel
theorem dX2_makeOrder_121 : decode cX2_makeOrder 121 = .ok (.aload_n 0, 1) := by decide +kernel
theorem dX2_makeOrder_122 : decode cX2_makeOrder 122 = .ok (.getfield 19, 3) := by decide +kernel
theorem dX2_makeOrder_125 : decode cX2_makeOrder 125 = .ok (.iload_n 3, 1) := by decide +kernel
theorem dX2_makeOrder_126 : decode cX2_makeOrder 126 = .ok (.iload 4, 2) := by decide +kernel
theorem dX2_makeOrder_128 : decode cX2_makeOrder 128 = .ok (.iastore, 1) := by decide +kernel
theorem dX2_makeOrder_129 : decode cX2_makeOrder 129 = .ok (.aload_n 0, 1) := by decide +kernel
theorem dX2_makeOrder_130 : decode cX2_makeOrder 130 = .ok (.getfield 26, 3) := by decide +kernel
theorem dX2_makeOrder_133 : decode cX2_makeOrder 133 = .ok (.iload 4, 2) := by decide +kernel
theorem dX2_makeOrder_135 : decode cX2_makeOrder 135 = .ok (.iload_n 3, 1) := by decide +kernel
theorem dX2_makeOrder_136 : decode cX2_makeOrder 136 = .ok (.iastore, 1) := by decide +kernel
theorem dX2_makeOrder_137 : decode cX2_makeOrder 137 = .ok (.aload_n 0, 1) := by decide +kernel
theorem dX2_makeOrder_138 : decode cX2_makeOrder 138 = .ok (.getfield 48, 3) := by decide +kernel
theorem dX2_makeOrder_141 : decode cX2_makeOrder 141 = .ok (.iload 4, 2) := by decide +kernel
theorem dX2_makeOrder_143 : decode cX2_makeOrder 143 = .ok (.iaload, 1) := by decide +kernel
theorem dX2_makeOrder_144 : decode cX2_makeOrder 144 = .ok (.istore 5, 2) := by decide +kernel
theorem dX2_makeOrder_146 : decode cX2_makeOrder 146 = .ok (.iconst 0, 1) := by decide +kernel
theorem dX2_makeOrder_147 : decode cX2_makeOrder 147 = .ok (.istore 6, 2) := by decide +kernel
theorem dX2_makeOrder_149 : decode cX2_makeOrder 149 = .ok (.iload 5, 2) := by decide +kernel
theorem dX2_makeOrder_151 : decode cX2_makeOrder 151 = .ok (.ifCond .le 37, 3) := by decide +kernel
theorem dX2_makeOrder_188 : decode cX2_makeOrder 188 = .ok (.iinc 3 1, 3) := by decide +kernel
theorem dX2_makeOrder_191 : decode cX2_makeOrder 191 = .ok (.goto (-89), 3) := by decide +kernel
theorem dX2_makeOrder_154 : decode cX2_makeOrder 154 = .ok (.iload 6, 2) := by decide +kernel
theorem dX2_makeOrder_156 : decode cX2_makeOrder 156 = .ok (.sipush 300, 3) := by decide +kernel
theorem dX2_makeOrder_159 : decode cX2_makeOrder 159 = .ok (.if_icmp .ge 29, 3) := by decide +kernel
theorem dX2_makeOrder_162 : decode cX2_makeOrder 162 = .ok (.aload_n 0, 1) := by decide +kernel
theorem dX2_makeOrder_163 : decode cX2_makeOrder 163 = .ok (.getfield 36, 3) := by decide +kernel
theorem dX2_makeOrder_166 : decode cX2_makeOrder 166 = .ok (.iload_n 2, 1) := by decide +kernel
theorem dX2_makeOrder_167 : decode cX2_makeOrder 167 = .ok (.iload 5, 2) := by decide +kernel
theorem dX2_makeOrder_169 : decode cX2_makeOrder 169 = .ok (.iastore, 1) := by decide +kernel
theorem dX2_makeOrder_170 : decode cX2_makeOrder 170 = .ok (.iinc 2 1, 3) := by decide +kernel
theorem dX2_makeOrder_173 : decode cX2_makeOrder 173 = .ok (.aload_n 0, 1) := by decide +kernel
theorem dX2_makeOrder_174 : decode cX2_makeOrder 174 = .ok (.getfield 51, 3) := by decide +kernel
theorem dX2_makeOrder_177 : decode cX2_makeOrder 177 = .ok (.iload 5, 2) := by decide +kernel
theorem dX2_makeOrder_179 : decode cX2_makeOrder 179 = .ok (.iaload, 1) := by decide +kernel
theorem dX2_makeOrder_180 : decode cX2_makeOrder 180 = .ok (.istore 5, 2) := by decide +kernel
theorem dX2_makeOrder_182 : decode cX2_makeOrder 182 = .ok (.iinc 6 1, 3) := by decide +kernel
theorem dX2_makeOrder_185 : decode cX2_makeOrder 185 = .ok (.goto (-36), 3) := by decide +kernel
theorem dX2_makeOrder_47 : decode cX2_makeOrder 47 = .ok (.aload_n 0, 1) := by decide +kernel
theorem dX2_makeOrder_48 : decode cX2_makeOrder 48 = .ok (.getfield 15, 3) := by decide +kernel
theorem dX2_makeOrder_51 : decode cX2_makeOrder 51 = .ok (.iload_n 2, 1) := by decide +kernel
theorem dX2_makeOrder_52 : decode cX2_makeOrder 52 = .ok (.iaload, 1) := by decide +kernel
theorem dX2_makeOrder_53 : decode cX2_makeOrder 53 = .ok (.ifCond .lt 32, 3) := by decide +kernel
theorem dX2_makeOrder_85 : decode cX2_makeOrder 85 = .ok (.iinc 2 1, 3) := by decide +kernel
theorem dX2_makeOrder_88 : decode cX2_makeOrder 88 = .ok (.goto (-49), 3) := by decide +kernel
theorem dX2_makeOrder_56 : decode cX2_makeOrder 56 = .ok (.aload_n 0, 1) := by decide +kernel
theorem dX2_makeOrder_57 : decode cX2_makeOrder 57 = .ok (.getfield 51, 3) := by decide +kernel
theorem dX2_makeOrder_60 : decode cX2_makeOrder 60 = .ok (.iload_n 2, 1) := by decide +kernel
theorem dX2_makeOrder_61 : decode cX2_makeOrder 61 = .ok (.aload_n 0, 1) := by decide +kernel
theorem dX2_makeOrder_62 : decode cX2_makeOrder 62 = .ok (.getfield 48, 3) := by decide +kernel
theorem dX2_makeOrder_65 : decode cX2_makeOrder 65 = .ok (.aload_n 0, 1) := by decide +kernel
theorem dX2_makeOrder_66 : decode cX2_makeOrder 66 = .ok (.getfield 15, 3) := by decide +kernel
theorem dX2_makeOrder_69 : decode cX2_makeOrder 69 = .ok (.iload_n 2, 1) := by decide +kernel
theorem dX2_makeOrder_70 : decode cX2_makeOrder 70 = .ok (.iaload, 1) := by decide +kernel
theorem dX2_makeOrder_71 : decode cX2_makeOrder 71 = .ok (.iaload, 1) := by decide +kernel
theorem dX2_makeOrder_72 : decode cX2_makeOrder 72 = .ok (.iastore, 1) := by decide +kernel
theorem dX2_makeOrder_73 : decode cX2_makeOrder 73 = .ok (.aload_n 0, 1) := by decide +kernel
theorem dX2_makeOrder_74 : decode cX2_makeOrder 74 = .ok (.getfield 48, 3) := by decide +kernel
theorem dX2_makeOrder_77 : decode cX2_makeOrder 77 = .ok (.aload_n 0, 1) := by decide +kernel
theorem dX2_makeOrder_78 : decode cX2_makeOrder 78 = .ok (.getfield 15, 3) := by decide +kernel
theorem dX2_makeOrder_81 : decode cX2_makeOrder 81 = .ok (.iload_n 2, 1) := by decide +kernel
theorem dX2_makeOrder_82 : decode cX2_makeOrder 82 = .ok (.iaload, 1) := by decide +kernel
theorem dX2_makeOrder_83 : decode cX2_makeOrder 83 = .ok (.iload_n 2, 1) := by decide +kernel
theorem dX2_makeOrder_84 : decode cX2_makeOrder 84 = .ok (.iastore, 1) := by decide +kernel
theorem dX2_makeOrder_10 : decode cX2_makeOrder 10 = .ok (.aload_n 0, 1) := by decide +kernel
theorem dX2_makeOrder_11 : decode cX2_makeOrder 11 = .ok (.getfield 48, 3) := by decide +kernel
theorem dX2_makeOrder_14 : decode cX2_makeOrder 14 = .ok (.iload_n 2, 1) := by decide +kernel
theorem dX2_makeOrder_15 : decode cX2_makeOrder 15 = .ok (.iconst 0, 1) := by decide +kernel
theorem dX2_makeOrder_16 : decode cX2_makeOrder 16 = .ok (.iastore, 1) := by decide +kernel
theorem dX2_makeOrder_17 : decode cX2_makeOrder 17 = .ok (.aload_n 0, 1) := by decide +kernel
theorem dX2_makeOrder_18 : decode cX2_makeOrder 18 = .ok (.getfield 26, 3) := by decide +kernel
theorem dX2_makeOrder_21 : decode cX2_makeOrder 21 = .ok (.iload_n 2, 1) := by decide +kernel
theorem dX2_makeOrder_22 : decode cX2_makeOrder 22 = .ok (.iconst (-1), 1) := by decide +kernel
theorem dX2_makeOrder_23 : decode cX2_makeOrder 23 = .ok (.iastore, 1) := by decide +kernel
theorem dX2_makeOrder_24 : decode cX2_makeOrder 24 = .ok (.aload_n 0, 1) := by decide +kernel
theorem dX2_makeOrder_25 : decode cX2_makeOrder 25 = .ok (.getfield 29, 3) := by decide +kernel
theorem dX2_makeOrder_28 : decode cX2_makeOrder 28 = .ok (.iload_n 2, 1) := by decide +kernel
theorem dX2_makeOrder_29 : decode cX2_makeOrder 29 = .ok (.iconst 1, 1) := by decide +kernel
theorem dX2_makeOrder_30 : decode cX2_makeOrder 30 = .ok (.iastore, 1) := by decide +kernel
theorem dX2_makeOrder_31 : decode cX2_makeOrder 31 = .ok (.iinc 2 1, 3) := by decide +kernel
theorem dX2_makeOrder_34 : decode cX2_makeOrder 34 = .ok (.goto (-32), 3) := by decide +kernel
def o_X2_makeOrder : List Cond := [.fieldLink RX2 75 "SsaForge$Code" "blocks" "I", .fieldLink RX2 36 "SsaForge$Flow" "stack" "[I", .fieldLink RX2 9 "SsaForge$Flow" "reached" "I", .fieldLink RX2 29 "SsaForge$Flow" "span" "[I", .fieldLink RX2 15 "SsaForge$Flow" "idom" "[I", .fieldLink RX2 19 "SsaForge$Flow" "order" "[I", .fieldLink RX2 26 "SsaForge$Flow" "place" "[I", .fieldLink RX2 48 "SsaForge$Flow" "firstChild" "[I", .fieldLink RX2 51 "SsaForge$Flow" "nextChild" "[I"]
def v_X2_makeOrder : List Cond := .code yX2_makeOrder cX2_makeOrder 7 none :: (o_X2_makeOrder ++ (wsX00 ++ (wsX20 ++ [])))
theorem mow_X2_makeOrder : ∀ w ∈ o_X2_makeOrder, w ∈ v_X2_makeOrder := fun _ h => List.mem_cons_of_mem _ (List.mem_append_left _ h)
theorem mem_X2_makeOrder_0 : ∀ w ∈ wsX00, w ∈ v_X2_makeOrder := fun _ h => List.mem_cons_of_mem _ (List.mem_append_right _ (List.mem_append_left _ h))
theorem mem_X2_makeOrder_1 : ∀ w ∈ wsX20, w ∈ v_X2_makeOrder := fun _ h => List.mem_cons_of_mem _ (List.mem_append_right _ (List.mem_append_right _ (List.mem_append_left _ h)))
set_option maxRecDepth 20000 in
theorem gw_X2_makeOrder : v_X2_makeOrder.all goodWord = true := by decide +kernel
set_option maxHeartbeats 4000000 in
set_option maxRecDepth 100000 in
theorem c_X2_makeOrder (l : Launch) (dC : Nat → ClassId) (dI : Nat → Nat → Nat) (h0 : Nat) (z2_reached : Int) (q_201 : Nat) (cA_201 : ClassId) (a2_idom : Int → Int) (q_202 : Nat) (cA_202 : ClassId) (a2_order : Int → Int) (v2_3 : Value) (q_204 : Nat) (cA_204 : ClassId) (a2_place : Int → Int) (q_205 : Nat) (cA_205 : ClassId) (a2_span : Int → Int) (v2_6 : Value) (q_207 : Nat) (cA_207 : ClassId) (a2_stack : Int → Int) (v2_8 : Value) (q_209 : Nat) (cA_209 : ClassId) (a2_post : Int → Int) (q_210 : Nat) (cA_210 : ClassId) (a2_byPost : Int → Int) (q_211 : Nat) (cA_211 : ClassId) (a2_firstChild : Int → Int) (q_212 : Nat) (cA_212 : ClassId) (a2_nextChild : Int → Int) (hc : Nat) (B1 : Int) (v_1 : Value) (v_2 : Value) (v_3 : Value) (v_4 : Value) (v_5 : Value) (v_6 : Value) (v_7 : Value) (v_8 : Value) (v_9 : Value) (v_10 : Value) (v_11 : Value) (v_12 : Value) (v_13 : Value) (v_14 : Value) (v_15 : Value) (v_16 : Value) (v_17 : Value) (v_18 : Value) (a_9 : Int → Int) (a_11 : Int → Int) (a_12 : Int → Int) (hNz2_reached : 0 ≤ z2_reached ∧ z2_reached ≤ 300) (hR_a2_idom : ∀ j : Int, -2 ≤ a2_idom j ∧ a2_idom j ≤ 299) (hR_a2_order : ∀ j : Int, 0 ≤ a2_order j ∧ a2_order j ≤ 299) (hR_a2_place : ∀ j : Int, -1 ≤ a2_place j ∧ a2_place j ≤ 299) (hR_a2_span : ∀ j : Int, 0 ≤ a2_span j ∧ a2_span j ≤ 90000) (hR_a2_stack : ∀ j : Int, 0 ≤ a2_stack j ∧ a2_stack j ≤ 299) (hR_a2_post : ∀ j : Int, -1 ≤ a2_post j ∧ a2_post j ≤ 299) (hR_a2_byPost : ∀ j : Int, 0 ≤ a2_byPost j ∧ a2_byPost j ≤ 299) (hR_a2_firstChild : ∀ j : Int, 0 ≤ a2_firstChild j ∧ a2_firstChild j ≤ 299) (hR_a2_nextChild : ∀ j : Int, 0 ≤ a2_nextChild j ∧ a2_nextChild j ≤ 299) (hNB1 : 0 ≤ B1 ∧ B1 ≤ 300) (hN1B : 1 ≤ B1) (hX_W : FW a_9 a_11 a_12 B1 a2_post a2_byPost z2_reached) (hX_T : TR B1 a2_post a2_idom) (sz : Nat) : Met l yX2_makeOrder v_X2_makeOrder ({ frames := 0, cells := 0, slots := 0, locals := 0 }) (va_Pc [.ref h0, .ref hc] (fun U => U.heap.size = sz ∧ va_P (dC, dI) vwP [(h0, .inr (2, [.int (zI (z2_reached)), .ref q_201, .ref q_202, v2_3, .ref q_204, .ref q_205, v2_6, .ref q_207, v2_8, .ref q_209, .ref q_210, .ref q_211, .ref q_212])), (q_201, .inl (cA_201, 300, .inl (fun j : Nat => zI (a2_idom (j : Int))))), (q_202, .inl (cA_202, 300, .inl (fun j : Nat => zI (a2_order (j : Int))))), (q_204, .inl (cA_204, 300, .inl (fun j : Nat => zI (a2_place (j : Int))))), (q_205, .inl (cA_205, 300, .inl (fun j : Nat => zI (a2_span (j : Int))))), (q_207, .inl (cA_207, 600, .inl (fun j : Nat => zI (a2_stack (j : Int))))), (q_209, .inl (cA_209, 300, .inl (fun j : Nat => zI (a2_post (j : Int))))), (q_210, .inl (cA_210, 300, .inl (fun j : Nat => zI (a2_byPost (j : Int))))), (q_211, .inl (cA_211, 300, .inl (fun j : Nat => zI (a2_firstChild (j : Int))))), (q_212, .inl (cA_212, 300, .inl (fun j : Nat => zI (a2_nextChild (j : Int))))), (hc, .inr (0, [.int (zI (B1)), v_1, v_2, v_3, v_4, v_5, v_6, v_7, v_8, v_9, v_10, v_11, v_12, v_13, v_14, v_15, v_16, v_17, v_18]))] U.heap ∧ va_K (dC, dI) vwP [(cA_201, .int), (cA_202, .int), (cA_204, .int), (cA_205, .int), (cA_207, .int), (cA_209, .int), (cA_210, .int), (cA_211, .int), (cA_212, .int)] U ∧ va_D (fun _ => True) [(h0, .inr (2, [.int (zI (z2_reached)), .ref q_201, .ref q_202, v2_3, .ref q_204, .ref q_205, v2_6, .ref q_207, v2_8, .ref q_209, .ref q_210, .ref q_211, .ref q_212])), (q_201, .inl (cA_201, 300, .inl (fun j : Nat => zI (a2_idom (j : Int))))), (q_202, .inl (cA_202, 300, .inl (fun j : Nat => zI (a2_order (j : Int))))), (q_204, .inl (cA_204, 300, .inl (fun j : Nat => zI (a2_place (j : Int))))), (q_205, .inl (cA_205, 300, .inl (fun j : Nat => zI (a2_span (j : Int))))), (q_207, .inl (cA_207, 600, .inl (fun j : Nat => zI (a2_stack (j : Int))))), (q_209, .inl (cA_209, 300, .inl (fun j : Nat => zI (a2_post (j : Int))))), (q_210, .inl (cA_210, 300, .inl (fun j : Nat => zI (a2_byPost (j : Int))))), (q_211, .inl (cA_211, 300, .inl (fun j : Nat => zI (a2_firstChild (j : Int))))), (q_212, .inl (cA_212, 300, .inl (fun j : Nat => zI (a2_nextChild (j : Int))))), (hc, .inr (0, [.int (zI (B1)), v_1, v_2, v_3, v_4, v_5, v_6, v_7, v_8, v_9, v_10, v_11, v_12, v_13, v_14, v_15, v_16, v_17, v_18]))])) (va_Qv (fun _ : Unit => True) (fun (_ : Unit) (t : State) => ∃ (a0_9 : Int → Int) (a1_9 : Int → Int) (a2_9 : Int → Int) (a3_9 : Int → Int) (a4_9 : Int → Int) (a5_9 : Int → Int), ((∀ j : Int, 0 ≤ a0_9 j ∧ a0_9 j ≤ 299) ∧ (∀ j : Int, -1 ≤ a1_9 j ∧ a1_9 j ≤ 299) ∧ (∀ j : Int, 0 ≤ a2_9 j ∧ a2_9 j ≤ 90000) ∧ (∀ j : Int, 0 ≤ a3_9 j ∧ a3_9 j ≤ 299) ∧ (∀ j : Int, 0 ≤ a4_9 j ∧ a4_9 j ≤ 299) ∧ (∀ j : Int, 0 ≤ a5_9 j ∧ a5_9 j ≤ 299) ∧ (OD B1 a2_post a2_idom a1_9 a0_9 z2_reached)) ∧ va_P (dC, dI) vwP [(h0, .inr (2, [.int (zI (z2_reached)), .ref q_201, .ref q_202, v2_3, .ref q_204, .ref q_205, v2_6, .ref q_207, v2_8, .ref q_209, .ref q_210, .ref q_211, .ref q_212])), (q_201, .inl (cA_201, 300, .inl (fun j : Nat => zI (a2_idom (j : Int))))), (q_202, .inl (cA_202, 300, .inl (fun j : Nat => zI (a0_9 (j : Int))))), (q_204, .inl (cA_204, 300, .inl (fun j : Nat => zI (a1_9 (j : Int))))), (q_205, .inl (cA_205, 300, .inl (fun j : Nat => zI (a2_9 (j : Int))))), (q_207, .inl (cA_207, 600, .inl (fun j : Nat => zI (a3_9 (j : Int))))), (q_209, .inl (cA_209, 300, .inl (fun j : Nat => zI (a2_post (j : Int))))), (q_210, .inl (cA_210, 300, .inl (fun j : Nat => zI (a2_byPost (j : Int))))), (q_211, .inl (cA_211, 300, .inl (fun j : Nat => zI (a4_9 (j : Int))))), (q_212, .inl (cA_212, 300, .inl (fun j : Nat => zI (a5_9 (j : Int))))), (hc, .inr (0, [.int (zI (B1)), v_1, v_2, v_3, v_4, v_5, v_6, v_7, v_8, v_9, v_10, v_11, v_12, v_13, v_14, v_15, v_16, v_17, v_18]))] t.heap ∧ va_K (dC, dI) vwP [(cA_201, .int), (cA_202, .int), (cA_204, .int), (cA_205, .int), (cA_207, .int), (cA_209, .int), (cA_210, .int), (cA_211, .int), (cA_212, .int)] t ∧ va_D (va_A [(h0, .inr (2, [.int (zI (z2_reached)), .ref q_201, .ref q_202, v2_3, .ref q_204, .ref q_205, v2_6, .ref q_207, v2_8, .ref q_209, .ref q_210, .ref q_211, .ref q_212])), (q_201, .inl (cA_201, 300, .inl (fun j : Nat => zI (a2_idom (j : Int))))), (q_202, .inl (cA_202, 300, .inl (fun j : Nat => zI (a2_order (j : Int))))), (q_204, .inl (cA_204, 300, .inl (fun j : Nat => zI (a2_place (j : Int))))), (q_205, .inl (cA_205, 300, .inl (fun j : Nat => zI (a2_span (j : Int))))), (q_207, .inl (cA_207, 600, .inl (fun j : Nat => zI (a2_stack (j : Int))))), (q_209, .inl (cA_209, 300, .inl (fun j : Nat => zI (a2_post (j : Int))))), (q_210, .inl (cA_210, 300, .inl (fun j : Nat => zI (a2_byPost (j : Int))))), (q_211, .inl (cA_211, 300, .inl (fun j : Nat => zI (a2_firstChild (j : Int))))), (q_212, .inl (cA_212, 300, .inl (fun j : Nat => zI (a2_nextChild (j : Int))))), (hc, .inr (0, [.int (zI (B1)), v_1, v_2, v_3, v_4, v_5, v_6, v_7, v_8, v_9, v_10, v_11, v_12, v_13, v_14, v_15, v_16, v_17, v_18]))] sz) [(h0, .inr (2, [.int (zI (z2_reached)), .ref q_201, .ref q_202, v2_3, .ref q_204, .ref q_205, v2_6, .ref q_207, v2_8, .ref q_209, .ref q_210, .ref q_211, .ref q_212])), (q_201, .inl (cA_201, 300, .inl (fun j : Nat => zI (a2_idom (j : Int))))), (q_202, .inl (cA_202, 300, .inl (fun j : Nat => zI (a0_9 (j : Int))))), (q_204, .inl (cA_204, 300, .inl (fun j : Nat => zI (a1_9 (j : Int))))), (q_205, .inl (cA_205, 300, .inl (fun j : Nat => zI (a2_9 (j : Int))))), (q_207, .inl (cA_207, 600, .inl (fun j : Nat => zI (a3_9 (j : Int))))), (q_209, .inl (cA_209, 300, .inl (fun j : Nat => zI (a2_post (j : Int))))), (q_210, .inl (cA_210, 300, .inl (fun j : Nat => zI (a2_byPost (j : Int))))), (q_211, .inl (cA_211, 300, .inl (fun j : Nat => zI (a4_9 (j : Int))))), (q_212, .inl (cA_212, 300, .inl (fun j : Nat => zI (a5_9 (j : Int))))), (hc, .inr (0, [.int (zI (B1)), v_1, v_2, v_3, v_4, v_5, v_6, v_7, v_8, v_9, v_10, v_11, v_12, v_13, v_14, v_15, v_16, v_17, v_18]))]) (va_A [(h0, .inr (2, [.int (zI (z2_reached)), .ref q_201, .ref q_202, v2_3, .ref q_204, .ref q_205, v2_6, .ref q_207, v2_8, .ref q_209, .ref q_210, .ref q_211, .ref q_212])), (q_201, .inl (cA_201, 300, .inl (fun j : Nat => zI (a2_idom (j : Int))))), (q_202, .inl (cA_202, 300, .inl (fun j : Nat => zI (a2_order (j : Int))))), (q_204, .inl (cA_204, 300, .inl (fun j : Nat => zI (a2_place (j : Int))))), (q_205, .inl (cA_205, 300, .inl (fun j : Nat => zI (a2_span (j : Int))))), (q_207, .inl (cA_207, 600, .inl (fun j : Nat => zI (a2_stack (j : Int))))), (q_209, .inl (cA_209, 300, .inl (fun j : Nat => zI (a2_post (j : Int))))), (q_210, .inl (cA_210, 300, .inl (fun j : Nat => zI (a2_byPost (j : Int))))), (q_211, .inl (cA_211, 300, .inl (fun j : Nat => zI (a2_firstChild (j : Int))))), (q_212, .inl (cA_212, 300, .inl (fun j : Nat => zI (a2_nextChild (j : Int))))), (hc, .inr (0, [.int (zI (B1)), v_1, v_2, v_3, v_4, v_5, v_6, v_7, v_8, v_9, v_10, v_11, v_12, v_13, v_14, v_15, v_16, v_17, v_18]))] sz)) 0 0 (va_A [(h0, .inr (2, [.int (zI (z2_reached)), .ref q_201, .ref q_202, v2_3, .ref q_204, .ref q_205, v2_6, .ref q_207, v2_8, .ref q_209, .ref q_210, .ref q_211, .ref q_212])), (q_201, .inl (cA_201, 300, .inl (fun j : Nat => zI (a2_idom (j : Int))))), (q_202, .inl (cA_202, 300, .inl (fun j : Nat => zI (a2_order (j : Int))))), (q_204, .inl (cA_204, 300, .inl (fun j : Nat => zI (a2_place (j : Int))))), (q_205, .inl (cA_205, 300, .inl (fun j : Nat => zI (a2_span (j : Int))))), (q_207, .inl (cA_207, 600, .inl (fun j : Nat => zI (a2_stack (j : Int))))), (q_209, .inl (cA_209, 300, .inl (fun j : Nat => zI (a2_post (j : Int))))), (q_210, .inl (cA_210, 300, .inl (fun j : Nat => zI (a2_byPost (j : Int))))), (q_211, .inl (cA_211, 300, .inl (fun j : Nat => zI (a2_firstChild (j : Int))))), (q_212, .inl (cA_212, 300, .inl (fun j : Nat => zI (a2_nextChild (j : Int))))), (hc, .inr (0, [.int (zI (B1)), v_1, v_2, v_3, v_4, v_5, v_6, v_7, v_8, v_9, v_10, v_11, v_12, v_13, v_14, v_15, v_16, v_17, v_18]))] sz) := by
  refine Met.ofW (cc := cX2_makeOrder) (maxL := 7) (ret := none) (by decide) rfl ?_
  intro p e s m args below meth c s₁ B hml hv
  obtain ⟨rfl, hsz, hP, hK, hD0⟩ := hv
  have hx := B.exec
  have hb := B.bytes
  have hr := B.returns
  have hts := atoms_spec (ws := v_X2_makeOrder) B.pre
  have hown : s.vm.findClass RX2 = some m.cls := findClass_of_methodNamed B.named
  have hlocks := B.notSynchronized
  have ow : ∀ {k : Nat} {w : Cond}, o_X2_makeOrder[k]? = some w → w.before ([.ref h0, .ref hc] : List Value).toArray s = true := fun h => hts _ (mow_X2_makeOrder _ (List.mem_of_getElem? h))
  subst hsz
  have hD := hD0.self (sz := s.heap.size)
  generalize hAe : va_A [(h0, .inr (2, [.int (zI (z2_reached)), .ref q_201, .ref q_202, v2_3, .ref q_204, .ref q_205, v2_6, .ref q_207, v2_8, .ref q_209, .ref q_210, .ref q_211, .ref q_212])), (q_201, .inl (cA_201, 300, .inl (fun j : Nat => zI (a2_idom (j : Int))))), (q_202, .inl (cA_202, 300, .inl (fun j : Nat => zI (a2_order (j : Int))))), (q_204, .inl (cA_204, 300, .inl (fun j : Nat => zI (a2_place (j : Int))))), (q_205, .inl (cA_205, 300, .inl (fun j : Nat => zI (a2_span (j : Int))))), (q_207, .inl (cA_207, 600, .inl (fun j : Nat => zI (a2_stack (j : Int))))), (q_209, .inl (cA_209, 300, .inl (fun j : Nat => zI (a2_post (j : Int))))), (q_210, .inl (cA_210, 300, .inl (fun j : Nat => zI (a2_byPost (j : Int))))), (q_211, .inl (cA_211, 300, .inl (fun j : Nat => zI (a2_firstChild (j : Int))))), (q_212, .inl (cA_212, 300, .inl (fun j : Nat => zI (a2_nextChild (j : Int))))), (hc, .inr (0, [.int (zI (B1)), v_1, v_2, v_3, v_4, v_5, v_6, v_7, v_8, v_9, v_10, v_11, v_12, v_13, v_14, v_15, v_16, v_17, v_18]))] s.heap.size = A at hD ⊢
  have hA : ∀ q : Nat, s.heap.size ≤ q → A q := fun q h => by rw [← hAe]; exact Or.inr h
  have hS : va_S A s.heap s.heap [] := va_S.rf
  have hP : va_P (dC, dI) vwP [(h0, .inr (2, [.int (zI (z2_reached)), .ref q_201, .ref q_202, v2_3, .ref q_204, .ref q_205, v2_6, .ref q_207, v2_8, .ref q_209, .ref q_210, .ref q_211, .ref q_212])), (q_201, .inl (cA_201, 300, .inl (fun j : Nat => zI (a2_idom (j : Int))))), (q_202, .inl (cA_202, 300, .inl (fun j : Nat => zI (a2_order (j : Int))))), (q_204, .inl (cA_204, 300, .inl (fun j : Nat => zI (a2_place (j : Int))))), (q_205, .inl (cA_205, 300, .inl (fun j : Nat => zI (a2_span (j : Int))))), (q_207, .inl (cA_207, 600, .inl (fun j : Nat => zI (a2_stack (j : Int))))), (q_209, .inl (cA_209, 300, .inl (fun j : Nat => zI (a2_post (j : Int))))), (q_210, .inl (cA_210, 300, .inl (fun j : Nat => zI (a2_byPost (j : Int))))), (q_211, .inl (cA_211, 300, .inl (fun j : Nat => zI (a2_firstChild (j : Int))))), (q_212, .inl (cA_212, 300, .inl (fun j : Nat => zI (a2_nextChild (j : Int))))), (hc, .inr (0, [.int (zI (B1)), v_1, v_2, v_3, v_4, v_5, v_6, v_7, v_8, v_9, v_10, v_11, v_12, v_13, v_14, v_15, v_16, v_17, v_18]))] s.heap := hP
  have hl := lv_entry ([.ref h0, .ref hc]) (n := 7) (Nat.le_of_ble_eq_true rfl)
  rw [lg_entry_eq]
  generalize (lg_sl ([.ref h0, .ref hc]) ++ List.replicate (7 - (lg_sl ([.ref h0, .ref hc])).length) Slot.unset).toArray = ls at hl ⊢
  have hl : lv_has ls 7 [(0, .ref h0), (1, .ref hc)] := hl
  obtain ⟨H, hH⟩ : ∃ H, H = s.heap := ⟨_, rfl⟩
  rw [← hH] at hP
  have hS : va_S A s.heap H [] := by rw [hH]; exact hS
  rw [← hH]
  refine zW_cap (fun Q hQ => ?_)
  refine lv_iconst (v := 0) hx hb dX2_makeOrder_0 (by decide) ?_
  refine lv_istore_n (lv' := [(2, .int 0), (0, .ref h0), (1, .ref hc)]) hx hb dX2_makeOrder_1 rfl hl (by decide) rfl (fun ls hl => ?_)
  have key2 : ∀ n2 : Nat, ∀ (d2_2 : Int) (w2_204 : Int → Int) (w2_205 : Int → Int) (w2_211 : Int → Int) (ls : Array Slot) (H : Heap) (locs : List Loc), (0 ≤ d2_2 ∧ d2_2 ≤ 1000000000) → (∀ j : Int, -1 ≤ w2_204 j ∧ w2_204 j ≤ 299) → (∀ j : Int, 0 ≤ w2_205 j ∧ w2_205 j ≤ 90000) → (∀ j : Int, 0 ≤ w2_211 j ∧ w2_211 j ≤ 299) → (∀ j : Int, 0 ≤ j → j < d2_2 → w2_211 j = 0) → (∀ j : Int, 0 ≤ j → j < d2_2 → w2_204 j = -1) → (∀ j : Int, 0 ≤ j → j < d2_2 → w2_205 j = 1) → (((B1) - (d2_2) : Int).toNat) < n2 → lv_has ls 7 [(0, .ref h0), (1, .ref hc), (2, .int (zI (d2_2)))] → va_P (dC, dI) vwP [(h0, .inr (2, [.int (zI (z2_reached)), .ref q_201, .ref q_202, v2_3, .ref q_204, .ref q_205, v2_6, .ref q_207, v2_8, .ref q_209, .ref q_210, .ref q_211, .ref q_212])), (q_201, .inl (cA_201, 300, .inl (fun j : Nat => zI (a2_idom (j : Int))))), (q_202, .inl (cA_202, 300, .inl (fun j : Nat => zI (a2_order (j : Int))))), (q_204, .inl (cA_204, 300, .inl (fun j : Nat => zI (w2_204 (j : Int))))), (q_205, .inl (cA_205, 300, .inl (fun j : Nat => zI (w2_205 (j : Int))))), (q_207, .inl (cA_207, 600, .inl (fun j : Nat => zI (a2_stack (j : Int))))), (q_209, .inl (cA_209, 300, .inl (fun j : Nat => zI (a2_post (j : Int))))), (q_210, .inl (cA_210, 300, .inl (fun j : Nat => zI (a2_byPost (j : Int))))), (q_211, .inl (cA_211, 300, .inl (fun j : Nat => zI (w2_211 (j : Int))))), (q_212, .inl (cA_212, 300, .inl (fun j : Nat => zI (a2_nextChild (j : Int))))), (hc, .inr (0, [.int (zI (B1)), v_1, v_2, v_3, v_4, v_5, v_6, v_7, v_8, v_9, v_10, v_11, v_12, v_13, v_14, v_15, v_16, v_17, v_18]))] H → va_D A [(h0, .inr (2, [.int (zI (z2_reached)), .ref q_201, .ref q_202, v2_3, .ref q_204, .ref q_205, v2_6, .ref q_207, v2_8, .ref q_209, .ref q_210, .ref q_211, .ref q_212])), (q_201, .inl (cA_201, 300, .inl (fun j : Nat => zI (a2_idom (j : Int))))), (q_202, .inl (cA_202, 300, .inl (fun j : Nat => zI (a2_order (j : Int))))), (q_204, .inl (cA_204, 300, .inl (fun j : Nat => zI (w2_204 (j : Int))))), (q_205, .inl (cA_205, 300, .inl (fun j : Nat => zI (w2_205 (j : Int))))), (q_207, .inl (cA_207, 600, .inl (fun j : Nat => zI (a2_stack (j : Int))))), (q_209, .inl (cA_209, 300, .inl (fun j : Nat => zI (a2_post (j : Int))))), (q_210, .inl (cA_210, 300, .inl (fun j : Nat => zI (a2_byPost (j : Int))))), (q_211, .inl (cA_211, 300, .inl (fun j : Nat => zI (w2_211 (j : Int))))), (q_212, .inl (cA_212, 300, .inl (fun j : Nat => zI (a2_nextChild (j : Int))))), (hc, .inr (0, [.int (zI (B1)), v_1, v_2, v_3, v_4, v_5, v_6, v_7, v_8, v_9, v_10, v_11, v_12, v_13, v_14, v_15, v_16, v_17, v_18]))] → va_S A s.heap H locs → W p l e (headSpec v_X2_makeOrder ({ frames := 0, cells := 0, slots := 0, locals := 0 })).room s m ([.ref h0, .ref hc] : List Value).toArray below meth c H locs 0 0 Q (F0 m 2 ls []) := by
    intro n2
    induction n2 with
    | zero => intro d2_2 w2_204 w2_205 w2_211 ls H locs jd2_2 jw2_204 jw2_205 jw2_211 jf jp js hm2; exact absurd hm2 (by omega)
    | succ n2 ih2 =>
      intro d2_2 w2_204 w2_205 w2_211 ls H locs jd2_2 jw2_204 jw2_205 jw2_211 jf jp js hm2 hl hP hD hS
      refine lv_iload_n hx hb dX2_makeOrder_2 rfl (lv_at hl 2 rfl) ?_
      refine lv_aload_n hx hb dX2_makeOrder_3 rfl (lv_at hl 1 rfl) ?_
      refine va_get (D := (dC, dI)) (ci := 0) (v := .int (zI (B1))) (C := RX0) (T := TX0) (N := 19) hx hb hts mem_X2_makeOrder_0 hown hK hP 10 rfl rfl 0 (by decide) (ow (k := 0) rfl) (fun _ h9 => h9) rfl dX2_makeOrder_4 ?_
      refine lv_icmp_ge (tgt := 37) hx hb dX2_makeOrder_7 (by decide) (fun b7 => ?_) (fun b7 => ?_)
      · have yb7 : (B1 : Int) ≤ (d2_2 : Int) := (zI_le (a := B1) (b := d2_2) (by omega) (by omega) (by omega) (by omega)).mp b7
        refine lv_iconst (v := 1) hx hb dX2_makeOrder_37 (by decide) ?_
        refine lv_istore_n (lv' := [(2, .int 1), (0, .ref h0), (1, .ref hc)]) hx hb dX2_makeOrder_38 rfl hl (by decide) rfl (fun ls hl => ?_)
        have key39 : ∀ n39 : Nat, ∀ (d39_2 : Int) (w39_211 : Int → Int) (w39_212 : Int → Int) (ls : Array Slot) (H : Heap) (locs : List Loc), (1 ≤ d39_2 ∧ d39_2 ≤ B1) → (∀ j : Int, 0 ≤ w39_211 j ∧ w39_211 j ≤ 299) → (∀ j : Int, 0 ≤ w39_212 j ∧ w39_212 j ≤ 299) → (CH B1 a2_idom w39_211 w39_212 d39_2) → (((B1) - (d39_2) : Int).toNat) < n39 → lv_has ls 7 [(0, .ref h0), (1, .ref hc), (2, .int (zI (d39_2)))] → va_P (dC, dI) vwP [(h0, .inr (2, [.int (zI (z2_reached)), .ref q_201, .ref q_202, v2_3, .ref q_204, .ref q_205, v2_6, .ref q_207, v2_8, .ref q_209, .ref q_210, .ref q_211, .ref q_212])), (q_201, .inl (cA_201, 300, .inl (fun j : Nat => zI (a2_idom (j : Int))))), (q_202, .inl (cA_202, 300, .inl (fun j : Nat => zI (a2_order (j : Int))))), (q_204, .inl (cA_204, 300, .inl (fun j : Nat => zI (w2_204 (j : Int))))), (q_205, .inl (cA_205, 300, .inl (fun j : Nat => zI (w2_205 (j : Int))))), (q_207, .inl (cA_207, 600, .inl (fun j : Nat => zI (a2_stack (j : Int))))), (q_209, .inl (cA_209, 300, .inl (fun j : Nat => zI (a2_post (j : Int))))), (q_210, .inl (cA_210, 300, .inl (fun j : Nat => zI (a2_byPost (j : Int))))), (q_211, .inl (cA_211, 300, .inl (fun j : Nat => zI (w39_211 (j : Int))))), (q_212, .inl (cA_212, 300, .inl (fun j : Nat => zI (w39_212 (j : Int))))), (hc, .inr (0, [.int (zI (B1)), v_1, v_2, v_3, v_4, v_5, v_6, v_7, v_8, v_9, v_10, v_11, v_12, v_13, v_14, v_15, v_16, v_17, v_18]))] H → va_D A [(h0, .inr (2, [.int (zI (z2_reached)), .ref q_201, .ref q_202, v2_3, .ref q_204, .ref q_205, v2_6, .ref q_207, v2_8, .ref q_209, .ref q_210, .ref q_211, .ref q_212])), (q_201, .inl (cA_201, 300, .inl (fun j : Nat => zI (a2_idom (j : Int))))), (q_202, .inl (cA_202, 300, .inl (fun j : Nat => zI (a2_order (j : Int))))), (q_204, .inl (cA_204, 300, .inl (fun j : Nat => zI (w2_204 (j : Int))))), (q_205, .inl (cA_205, 300, .inl (fun j : Nat => zI (w2_205 (j : Int))))), (q_207, .inl (cA_207, 600, .inl (fun j : Nat => zI (a2_stack (j : Int))))), (q_209, .inl (cA_209, 300, .inl (fun j : Nat => zI (a2_post (j : Int))))), (q_210, .inl (cA_210, 300, .inl (fun j : Nat => zI (a2_byPost (j : Int))))), (q_211, .inl (cA_211, 300, .inl (fun j : Nat => zI (w39_211 (j : Int))))), (q_212, .inl (cA_212, 300, .inl (fun j : Nat => zI (w39_212 (j : Int))))), (hc, .inr (0, [.int (zI (B1)), v_1, v_2, v_3, v_4, v_5, v_6, v_7, v_8, v_9, v_10, v_11, v_12, v_13, v_14, v_15, v_16, v_17, v_18]))] → va_S A s.heap H locs → W p l e (headSpec v_X2_makeOrder ({ frames := 0, cells := 0, slots := 0, locals := 0 })).room s m ([.ref h0, .ref hc] : List Value).toArray below meth c H locs 0 0 Q (F0 m 39 ls []) := by
          intro n39
          induction n39 with
          | zero => intro d39_2 w39_211 w39_212 ls H locs jd39_2 jw39_211 jw39_212 jC hm39; exact absurd hm39 (by omega)
          | succ n39 ih39 =>
            intro d39_2 w39_211 w39_212 ls H locs jd39_2 jw39_211 jw39_212 jC hm39 hl hP hD hS
            have hr9 := hX_W.r1
            refine lv_iload_n hx hb dX2_makeOrder_39 rfl (lv_at hl 2 rfl) ?_
            refine lv_aload_n hx hb dX2_makeOrder_40 rfl (lv_at hl 1 rfl) ?_
            refine va_get (D := (dC, dI)) (ci := 0) (v := .int (zI (B1))) (C := RX0) (T := TX0) (N := 19) hx hb hts mem_X2_makeOrder_0 hown hK hP 10 rfl rfl 0 (by decide) (ow (k := 0) rfl) (fun _ h9 => h9) rfl dX2_makeOrder_41 ?_
            refine lv_icmp_ge (tgt := 91) hx hb dX2_makeOrder_44 (by decide) (fun b44 => ?_) (fun b44 => ?_)
            · have yb44 : (B1 : Int) ≤ (d39_2 : Int) := (zI_le (a := B1) (b := d39_2) (by omega) (by omega) (by omega) (by omega)).mp b44
              have e9 : d39_2 = B1 := (by omega)
              rw [e9] at jC
              refine lv_iconst (v := 1) hx hb dX2_makeOrder_91 (by decide) ?_
              refine lv_istore_n (lv' := [(2, .int 1), (0, .ref h0), (1, .ref hc)]) hx hb dX2_makeOrder_92 rfl hl (by decide) rfl (fun ls hl => ?_)
              refine lv_aload_n hx hb dX2_makeOrder_93 rfl (lv_at hl 1 rfl) ?_
              refine va_get (D := (dC, dI)) (ci := 2) (v := .ref q_207) (C := RX2) (T := TX2) (N := 13) hx hb hts mem_X2_makeOrder_1 hown hK hP 0 rfl rfl 7 (by decide) (ow (k := 1) rfl) (fun _ h9 => h9) rfl dX2_makeOrder_94 ?_
              refine lv_iconst (v := 0) hx hb dX2_makeOrder_97 (by decide) ?_
              refine lv_iconst (v := 0) hx hb dX2_makeOrder_98 (by decide) ?_
              refine va_iast (i := zI (0)) hx hb hK hP hD hS 5 4 rfl rfl (zI_in (a := 0) (n := 600) (by omega) (by omega) (by decide)) dX2_makeOrder_99 (fun H locs hP hD hS => ?_)
              have eQ : upd (fun j : Nat => zI (a2_stack (j : Int))) (zI (0)).toNatClampNeg 0 = (fun j : Nat => zI (zup a2_stack (0) (0) (j : Int))) := zI_st a2_stack (e := 0) (v := 0) (by omega) (by omega)
              rw [eQ] at hP hD
              clear eQ
              have ra_2001 : ∀ j : Int, 0 ≤ zup a2_stack (0) (0) j ∧ zup a2_stack (0) (0) j ≤ 299 := zup_P (P := fun x9 => 0 ≤ x9 ∧ x9 ≤ 299) hR_a2_stack (show 0 ≤ (0) ∧ (0) ≤ 299 by omega)
              obtain ⟨a_2001, ea_2001⟩ : ∃ a9 : Int → Int, a9 = zup a2_stack (0) (0) := ⟨_, rfl⟩
              rw [← ea_2001] at hP hD ra_2001
              have hP : va_P (dC, dI) vwP [(h0, .inr (2, [.int (zI (z2_reached)), .ref q_201, .ref q_202, v2_3, .ref q_204, .ref q_205, v2_6, .ref q_207, v2_8, .ref q_209, .ref q_210, .ref q_211, .ref q_212])), (q_201, .inl (cA_201, 300, .inl (fun j : Nat => zI (a2_idom (j : Int))))), (q_202, .inl (cA_202, 300, .inl (fun j : Nat => zI (a2_order (j : Int))))), (q_204, .inl (cA_204, 300, .inl (fun j : Nat => zI (w2_204 (j : Int))))), (q_205, .inl (cA_205, 300, .inl (fun j : Nat => zI (w2_205 (j : Int))))), (q_207, .inl (cA_207, 600, .inl (fun j : Nat => zI (a_2001 (j : Int))))), (q_209, .inl (cA_209, 300, .inl (fun j : Nat => zI (a2_post (j : Int))))), (q_210, .inl (cA_210, 300, .inl (fun j : Nat => zI (a2_byPost (j : Int))))), (q_211, .inl (cA_211, 300, .inl (fun j : Nat => zI (w39_211 (j : Int))))), (q_212, .inl (cA_212, 300, .inl (fun j : Nat => zI (w39_212 (j : Int))))), (hc, .inr (0, [.int (zI (B1)), v_1, v_2, v_3, v_4, v_5, v_6, v_7, v_8, v_9, v_10, v_11, v_12, v_13, v_14, v_15, v_16, v_17, v_18]))] H := hP
              have hD : va_D A [(h0, .inr (2, [.int (zI (z2_reached)), .ref q_201, .ref q_202, v2_3, .ref q_204, .ref q_205, v2_6, .ref q_207, v2_8, .ref q_209, .ref q_210, .ref q_211, .ref q_212])), (q_201, .inl (cA_201, 300, .inl (fun j : Nat => zI (a2_idom (j : Int))))), (q_202, .inl (cA_202, 300, .inl (fun j : Nat => zI (a2_order (j : Int))))), (q_204, .inl (cA_204, 300, .inl (fun j : Nat => zI (w2_204 (j : Int))))), (q_205, .inl (cA_205, 300, .inl (fun j : Nat => zI (w2_205 (j : Int))))), (q_207, .inl (cA_207, 600, .inl (fun j : Nat => zI (a_2001 (j : Int))))), (q_209, .inl (cA_209, 300, .inl (fun j : Nat => zI (a2_post (j : Int))))), (q_210, .inl (cA_210, 300, .inl (fun j : Nat => zI (a2_byPost (j : Int))))), (q_211, .inl (cA_211, 300, .inl (fun j : Nat => zI (w39_211 (j : Int))))), (q_212, .inl (cA_212, 300, .inl (fun j : Nat => zI (w39_212 (j : Int))))), (hc, .inr (0, [.int (zI (B1)), v_1, v_2, v_3, v_4, v_5, v_6, v_7, v_8, v_9, v_10, v_11, v_12, v_13, v_14, v_15, v_16, v_17, v_18]))] := hD
              refine lv_iconst (v := 0) hx hb dX2_makeOrder_100 (by decide) ?_
              refine lv_istore_n (lv' := [(3, .int 0), (2, .int 1), (0, .ref h0), (1, .ref hc)]) hx hb dX2_makeOrder_101 rfl hl (by decide) rfl (fun ls hl => ?_)
              have key102 : ∀ n102 : Nat, ∀ (d102_3 : Int) (d102_2 : Int) (w102_202 : Int → Int) (w102_204 : Int → Int) (w102_207 : Int → Int) (ls : Array Slot) (H : Heap) (locs : List Loc), (0 ≤ d102_3 ∧ d102_3 ≤ z2_reached) → (0 ≤ d102_2 ∧ d102_2 ≤ 300) → (∀ j : Int, 0 ≤ w102_202 j ∧ w102_202 j ≤ 299) → (∀ j : Int, -1 ≤ w102_204 j ∧ w102_204 j ≤ 299) → (∀ j : Int, 0 ≤ w102_207 j ∧ w102_207 j ≤ 299) → (∃ tc9 : Int → Int, MO B1 a2_post a2_idom w102_204 w102_202 w102_207 tc9 d102_2 d102_3 (-1) 0) → (((z2_reached) - (d102_3) : Int).toNat) < n102 → lv_has ls 7 [(0, .ref h0), (1, .ref hc), (2, .int (zI (d102_2))), (3, .int (zI (d102_3)))] → va_P (dC, dI) vwP [(h0, .inr (2, [.int (zI (z2_reached)), .ref q_201, .ref q_202, v2_3, .ref q_204, .ref q_205, v2_6, .ref q_207, v2_8, .ref q_209, .ref q_210, .ref q_211, .ref q_212])), (q_201, .inl (cA_201, 300, .inl (fun j : Nat => zI (a2_idom (j : Int))))), (q_202, .inl (cA_202, 300, .inl (fun j : Nat => zI (w102_202 (j : Int))))), (q_204, .inl (cA_204, 300, .inl (fun j : Nat => zI (w102_204 (j : Int))))), (q_205, .inl (cA_205, 300, .inl (fun j : Nat => zI (w2_205 (j : Int))))), (q_207, .inl (cA_207, 600, .inl (fun j : Nat => zI (w102_207 (j : Int))))), (q_209, .inl (cA_209, 300, .inl (fun j : Nat => zI (a2_post (j : Int))))), (q_210, .inl (cA_210, 300, .inl (fun j : Nat => zI (a2_byPost (j : Int))))), (q_211, .inl (cA_211, 300, .inl (fun j : Nat => zI (w39_211 (j : Int))))), (q_212, .inl (cA_212, 300, .inl (fun j : Nat => zI (w39_212 (j : Int))))), (hc, .inr (0, [.int (zI (B1)), v_1, v_2, v_3, v_4, v_5, v_6, v_7, v_8, v_9, v_10, v_11, v_12, v_13, v_14, v_15, v_16, v_17, v_18]))] H → va_D A [(h0, .inr (2, [.int (zI (z2_reached)), .ref q_201, .ref q_202, v2_3, .ref q_204, .ref q_205, v2_6, .ref q_207, v2_8, .ref q_209, .ref q_210, .ref q_211, .ref q_212])), (q_201, .inl (cA_201, 300, .inl (fun j : Nat => zI (a2_idom (j : Int))))), (q_202, .inl (cA_202, 300, .inl (fun j : Nat => zI (w102_202 (j : Int))))), (q_204, .inl (cA_204, 300, .inl (fun j : Nat => zI (w102_204 (j : Int))))), (q_205, .inl (cA_205, 300, .inl (fun j : Nat => zI (w2_205 (j : Int))))), (q_207, .inl (cA_207, 600, .inl (fun j : Nat => zI (w102_207 (j : Int))))), (q_209, .inl (cA_209, 300, .inl (fun j : Nat => zI (a2_post (j : Int))))), (q_210, .inl (cA_210, 300, .inl (fun j : Nat => zI (a2_byPost (j : Int))))), (q_211, .inl (cA_211, 300, .inl (fun j : Nat => zI (w39_211 (j : Int))))), (q_212, .inl (cA_212, 300, .inl (fun j : Nat => zI (w39_212 (j : Int))))), (hc, .inr (0, [.int (zI (B1)), v_1, v_2, v_3, v_4, v_5, v_6, v_7, v_8, v_9, v_10, v_11, v_12, v_13, v_14, v_15, v_16, v_17, v_18]))] → va_S A s.heap H locs → W p l e (headSpec v_X2_makeOrder ({ frames := 0, cells := 0, slots := 0, locals := 0 })).room s m ([.ref h0, .ref hc] : List Value).toArray below meth c H locs 0 0 Q (F0 m 102 ls []) := by
                intro n102
                induction n102 with
                | zero => intro d102_3 d102_2 w102_202 w102_204 w102_207 ls H locs jd102_3 jd102_2 jw102_202 jw102_204 jw102_207 jM hm102; exact absurd hm102 (by omega)
                | succ n102 ih102 =>
                  intro d102_3 d102_2 w102_202 w102_204 w102_207 ls H locs jd102_3 jd102_2 jw102_202 jw102_204 jw102_207 jM hm102 hl hP hD hS
                  refine lv_iload_n hx hb dX2_makeOrder_102 rfl (lv_at hl 3 rfl) ?_
                  refine lv_aload_n hx hb dX2_makeOrder_103 rfl (lv_at hl 0 rfl) ?_
                  refine va_get (D := (dC, dI)) (ci := 2) (v := .int (zI (z2_reached))) (C := RX2) (T := TX2) (N := 13) hx hb hts mem_X2_makeOrder_1 hown hK hP 0 rfl rfl 0 (by decide) (ow (k := 2) rfl) (fun _ h9 => h9) rfl dX2_makeOrder_104 ?_
                  refine lv_icmp_ge (tgt := 194) hx hb dX2_makeOrder_107 (by decide) (fun b107 => ?_) (fun b107 => ?_)
                  · have yb107 : (z2_reached : Int) ≤ (d102_3 : Int) := (zI_le (a := z2_reached) (b := d102_3) (by omega) (by omega) (by omega) (by omega)).mp b107
                    have hO9 : OD B1 a2_post a2_idom w102_204 w102_202 z2_reached := jM.elim (fun tc9 jm9 => MO.done hX_W hX_T jm9 (by omega))
                    refine lv_aload_n hx hb dX2_makeOrder_194 rfl (lv_at hl 0 rfl) ?_
                    refine va_get (D := (dC, dI)) (ci := 2) (v := .int (zI (z2_reached))) (C := RX2) (T := TX2) (N := 13) hx hb hts mem_X2_makeOrder_1 hown hK hP 0 rfl rfl 0 (by decide) (ow (k := 2) rfl) (fun _ h9 => h9) rfl dX2_makeOrder_195 ?_
                    refine lv_iconst (v := 1) hx hb dX2_makeOrder_198 (by decide) ?_
                    refine lv_isub hx hb dX2_makeOrder_199 ?_
                    refine lv_topi (fun z ez => ?_)
                    obtain rfl : z = zI (z2_reached - 1) := ez.trans (zI_sub (z2_reached) (1))
                    refine lv_istore_n (lv' := [(3, .int (zI (z2_reached - 1))), (0, .ref h0), (1, .ref hc), (2, .int (zI (d102_2)))]) hx hb dX2_makeOrder_200 rfl hl (by decide) rfl (fun ls hl => ?_)
                    have key201 : ∀ n201 : Nat, ∀ (d201_3 : Int) (w201_205 : Int → Int) (ls : Array Slot) (H : Heap) (locs : List Loc), (0 ≤ d201_3 ∧ d201_3 < z2_reached) → (∀ j : Int, 0 ≤ w201_205 j ∧ w201_205 j ≤ 90000) → (SP w102_202 w201_205 z2_reached d201_3) → (((d201_3) - (0) : Int).toNat) < n201 → lv_has ls 7 [(0, .ref h0), (1, .ref hc), (2, .int (zI (d102_2))), (3, .int (zI (d201_3)))] → va_P (dC, dI) vwP [(h0, .inr (2, [.int (zI (z2_reached)), .ref q_201, .ref q_202, v2_3, .ref q_204, .ref q_205, v2_6, .ref q_207, v2_8, .ref q_209, .ref q_210, .ref q_211, .ref q_212])), (q_201, .inl (cA_201, 300, .inl (fun j : Nat => zI (a2_idom (j : Int))))), (q_202, .inl (cA_202, 300, .inl (fun j : Nat => zI (w102_202 (j : Int))))), (q_204, .inl (cA_204, 300, .inl (fun j : Nat => zI (w102_204 (j : Int))))), (q_205, .inl (cA_205, 300, .inl (fun j : Nat => zI (w201_205 (j : Int))))), (q_207, .inl (cA_207, 600, .inl (fun j : Nat => zI (w102_207 (j : Int))))), (q_209, .inl (cA_209, 300, .inl (fun j : Nat => zI (a2_post (j : Int))))), (q_210, .inl (cA_210, 300, .inl (fun j : Nat => zI (a2_byPost (j : Int))))), (q_211, .inl (cA_211, 300, .inl (fun j : Nat => zI (w39_211 (j : Int))))), (q_212, .inl (cA_212, 300, .inl (fun j : Nat => zI (w39_212 (j : Int))))), (hc, .inr (0, [.int (zI (B1)), v_1, v_2, v_3, v_4, v_5, v_6, v_7, v_8, v_9, v_10, v_11, v_12, v_13, v_14, v_15, v_16, v_17, v_18]))] H → va_D A [(h0, .inr (2, [.int (zI (z2_reached)), .ref q_201, .ref q_202, v2_3, .ref q_204, .ref q_205, v2_6, .ref q_207, v2_8, .ref q_209, .ref q_210, .ref q_211, .ref q_212])), (q_201, .inl (cA_201, 300, .inl (fun j : Nat => zI (a2_idom (j : Int))))), (q_202, .inl (cA_202, 300, .inl (fun j : Nat => zI (w102_202 (j : Int))))), (q_204, .inl (cA_204, 300, .inl (fun j : Nat => zI (w102_204 (j : Int))))), (q_205, .inl (cA_205, 300, .inl (fun j : Nat => zI (w201_205 (j : Int))))), (q_207, .inl (cA_207, 600, .inl (fun j : Nat => zI (w102_207 (j : Int))))), (q_209, .inl (cA_209, 300, .inl (fun j : Nat => zI (a2_post (j : Int))))), (q_210, .inl (cA_210, 300, .inl (fun j : Nat => zI (a2_byPost (j : Int))))), (q_211, .inl (cA_211, 300, .inl (fun j : Nat => zI (w39_211 (j : Int))))), (q_212, .inl (cA_212, 300, .inl (fun j : Nat => zI (w39_212 (j : Int))))), (hc, .inr (0, [.int (zI (B1)), v_1, v_2, v_3, v_4, v_5, v_6, v_7, v_8, v_9, v_10, v_11, v_12, v_13, v_14, v_15, v_16, v_17, v_18]))] → va_S A s.heap H locs → W p l e (headSpec v_X2_makeOrder ({ frames := 0, cells := 0, slots := 0, locals := 0 })).room s m ([.ref h0, .ref hc] : List Value).toArray below meth c H locs 0 0 Q (F0 m 201 ls []) := by
                      intro n201
                      induction n201 with
                      | zero => intro d201_3 w201_205 ls H locs jd201_3 jw201_205 jS hm201; exact absurd hm201 (by omega)
                      | succ n201 ih201 =>
                        intro d201_3 w201_205 ls H locs jd201_3 jw201_205 jS hm201 hl hP hD hS
                        refine lv_iload_n hx hb dX2_makeOrder_201 rfl (lv_at hl 3 rfl) ?_
                        refine lv_if_le (tgt := 241) hx hb dX2_makeOrder_202 (by decide) (fun b202 => ?_) (fun b202 => ?_)
                        · have yb202 : (d201_3 : Int) ≤ (0 : Int) := (zI_le (a := d201_3) (b := 0) (by omega) (by omega) (by omega) (by omega)).mp b202
                          subst hQ
                          refine W.widen (k := 0) (n := 0) (Nat.le_of_ble_eq_true rfl) (Nat.le_of_ble_eq_true rfl) ?_
                          exact W.vret hx hb hr (fun t ht hW => ⟨⟨(), rfl, trivial, w102_202, w102_204, w201_205, w102_207, w39_211, w39_212, ⟨jw102_202, jw102_204, jw201_205, jw102_207, jw39_211, jw39_212, hO9⟩, by rw [ht]; exact hP, va_K.moved hW.alike hK, hD⟩, hS.F ht⟩) hS.2.2 dX2_makeOrder_241
                        · have yb202 : ¬ (d201_3 : Int) ≤ (0 : Int) := fun q => b202 ((zI_le (a := d201_3) (b := 0) (by omega) (by omega) (by omega) (by omega)).mpr q)
                          have ho9 := hO9.ord d201_3 (by omega) (by omega)
                          have hz9 := hO9.nz (n := d201_3) (by omega) (by omega)
                          have ha9 := hO9.anc (w102_202 d201_3) (by omega) (by omega) (by omega)
                          have hp9 := SP.step hO9 jS (by omega) (by omega)
                          refine lv_aload_n hx hb dX2_makeOrder_205 rfl (lv_at hl 0 rfl) ?_
                          refine va_get (D := (dC, dI)) (ci := 2) (v := .ref q_205) (C := RX2) (T := TX2) (N := 13) hx hb hts mem_X2_makeOrder_1 hown hK hP 0 rfl rfl 5 (by decide) (ow (k := 3) rfl) (fun _ h9 => h9) rfl dX2_makeOrder_206 ?_
                          refine lv_aload_n hx hb dX2_makeOrder_209 rfl (lv_at hl 0 rfl) ?_
                          refine va_get (D := (dC, dI)) (ci := 2) (v := .ref q_201) (C := RX2) (T := TX2) (N := 13) hx hb hts mem_X2_makeOrder_1 hown hK hP 0 rfl rfl 1 (by decide) (ow (k := 4) rfl) (fun _ h9 => h9) rfl dX2_makeOrder_210 ?_
                          refine lv_aload_n hx hb dX2_makeOrder_213 rfl (lv_at hl 0 rfl) ?_
                          refine va_get (D := (dC, dI)) (ci := 2) (v := .ref q_202) (C := RX2) (T := TX2) (N := 13) hx hb hts mem_X2_makeOrder_1 hown hK hP 0 rfl rfl 2 (by decide) (ow (k := 5) rfl) (fun _ h9 => h9) rfl dX2_makeOrder_214 ?_
                          refine lv_iload_n hx hb dX2_makeOrder_217 rfl (lv_at hl 3 rfl) ?_
                          refine va_iald hx hb hK hP 2 1 rfl rfl (zI_in (a := d201_3) (n := 300) (by omega) (by omega) (by decide)) dX2_makeOrder_218 ?_
                          refine lv_topi (fun z ez => ?_)
                          obtain rfl : z = zI (w102_202 (d201_3)) := ez.trans (zI_ld (w102_202) (by omega) (by omega))
                          have k1 := jw102_202 (d201_3)
                          refine va_iald hx hb hK hP 1 0 rfl rfl (zI_in (a := w102_202 (d201_3)) (n := 300) (by omega) (by omega) (by decide)) dX2_makeOrder_219 ?_
                          refine lv_topi (fun z ez => ?_)
                          obtain rfl : z = zI (a2_idom (w102_202 (d201_3))) := ez.trans (zI_ld (a2_idom) (by omega) (by omega))
                          have k2 := hR_a2_idom (w102_202 (d201_3))
                          refine lv_dup2_11 hx hb dX2_makeOrder_220 rfl rfl ?_
                          refine va_iald hx hb hK hP 4 3 rfl rfl (zI_in (a := a2_idom (w102_202 (d201_3))) (n := 300) (by omega) (by omega) (by decide)) dX2_makeOrder_221 ?_
                          refine lv_topi (fun z ez => ?_)
                          obtain rfl : z = zI (w201_205 (a2_idom (w102_202 (d201_3)))) := ez.trans (zI_ld (w201_205) (by omega) (by omega))
                          have k3 := jw201_205 (a2_idom (w102_202 (d201_3)))
                          refine lv_aload_n hx hb dX2_makeOrder_222 rfl (lv_at hl 0 rfl) ?_
                          refine va_get (D := (dC, dI)) (ci := 2) (v := .ref q_205) (C := RX2) (T := TX2) (N := 13) hx hb hts mem_X2_makeOrder_1 hown hK hP 0 rfl rfl 5 (by decide) (ow (k := 3) rfl) (fun _ h9 => h9) rfl dX2_makeOrder_223 ?_
                          refine lv_aload_n hx hb dX2_makeOrder_226 rfl (lv_at hl 0 rfl) ?_
                          refine va_get (D := (dC, dI)) (ci := 2) (v := .ref q_202) (C := RX2) (T := TX2) (N := 13) hx hb hts mem_X2_makeOrder_1 hown hK hP 0 rfl rfl 2 (by decide) (ow (k := 5) rfl) (fun _ h9 => h9) rfl dX2_makeOrder_227 ?_
                          refine lv_iload_n hx hb dX2_makeOrder_230 rfl (lv_at hl 3 rfl) ?_
                          refine va_iald hx hb hK hP 2 1 rfl rfl (zI_in (a := d201_3) (n := 300) (by omega) (by omega) (by decide)) dX2_makeOrder_231 ?_
                          refine lv_topi (fun z ez => ?_)
                          obtain rfl : z = zI (w102_202 (d201_3)) := ez.trans (zI_ld (w102_202) (by omega) (by omega))
                          have k4 := jw102_202 (d201_3)
                          refine va_iald hx hb hK hP 4 3 rfl rfl (zI_in (a := w102_202 (d201_3)) (n := 300) (by omega) (by omega) (by decide)) dX2_makeOrder_232 ?_
                          refine lv_topi (fun z ez => ?_)
                          obtain rfl : z = zI (w201_205 (w102_202 (d201_3))) := ez.trans (zI_ld (w201_205) (by omega) (by omega))
                          have k5 := jw201_205 (w102_202 (d201_3))
                          refine lv_iadd hx hb dX2_makeOrder_233 ?_
                          refine lv_topi (fun z ez => ?_)
                          obtain rfl : z = zI ((w201_205 (a2_idom (w102_202 (d201_3)))) + (w201_205 (w102_202 (d201_3)))) := ez.trans (zI_add (w201_205 (a2_idom (w102_202 (d201_3)))) (w201_205 (w102_202 (d201_3))))
                          refine va_iast (i := zI (a2_idom (w102_202 (d201_3)))) hx hb hK hP hD hS 4 3 rfl rfl (zI_in (a := a2_idom (w102_202 (d201_3))) (n := 300) (by omega) (by omega) (by decide)) dX2_makeOrder_234 (fun H locs hP hD hS => ?_)
                          have eQ : upd (fun j : Nat => zI (w201_205 (j : Int))) (zI (a2_idom (w102_202 (d201_3)))).toNatClampNeg (zI ((w201_205 (a2_idom (w102_202 (d201_3)))) + (w201_205 (w102_202 (d201_3))))) = (fun j : Nat => zI (zup w201_205 (a2_idom (w102_202 (d201_3))) ((w201_205 (a2_idom (w102_202 (d201_3)))) + (w201_205 (w102_202 (d201_3)))) (j : Int))) := zI_st w201_205 (e := a2_idom (w102_202 (d201_3))) (v := (w201_205 (a2_idom (w102_202 (d201_3)))) + (w201_205 (w102_202 (d201_3)))) (by omega) (by omega)
                          rw [eQ] at hP hD
                          clear eQ
                          have ra_2002 : ∀ j : Int, 0 ≤ zup w201_205 (a2_idom (w102_202 (d201_3))) ((w201_205 (a2_idom (w102_202 (d201_3)))) + (w201_205 (w102_202 (d201_3)))) j ∧ zup w201_205 (a2_idom (w102_202 (d201_3))) ((w201_205 (a2_idom (w102_202 (d201_3)))) + (w201_205 (w102_202 (d201_3)))) j ≤ 90000 := zup_P (P := fun x9 => 0 ≤ x9 ∧ x9 ≤ 90000) jw201_205 (show 0 ≤ ((w201_205 (a2_idom (w102_202 (d201_3)))) + (w201_205 (w102_202 (d201_3)))) ∧ ((w201_205 (a2_idom (w102_202 (d201_3)))) + (w201_205 (w102_202 (d201_3)))) ≤ 90000 by omega)
                          obtain ⟨a_2002, ea_2002⟩ : ∃ a9 : Int → Int, a9 = zup w201_205 (a2_idom (w102_202 (d201_3))) ((w201_205 (a2_idom (w102_202 (d201_3)))) + (w201_205 (w102_202 (d201_3)))) := ⟨_, rfl⟩
                          rw [← ea_2002] at hP hD ra_2002
                          have hP : va_P (dC, dI) vwP [(h0, .inr (2, [.int (zI (z2_reached)), .ref q_201, .ref q_202, v2_3, .ref q_204, .ref q_205, v2_6, .ref q_207, v2_8, .ref q_209, .ref q_210, .ref q_211, .ref q_212])), (q_201, .inl (cA_201, 300, .inl (fun j : Nat => zI (a2_idom (j : Int))))), (q_202, .inl (cA_202, 300, .inl (fun j : Nat => zI (w102_202 (j : Int))))), (q_204, .inl (cA_204, 300, .inl (fun j : Nat => zI (w102_204 (j : Int))))), (q_205, .inl (cA_205, 300, .inl (fun j : Nat => zI (a_2002 (j : Int))))), (q_207, .inl (cA_207, 600, .inl (fun j : Nat => zI (w102_207 (j : Int))))), (q_209, .inl (cA_209, 300, .inl (fun j : Nat => zI (a2_post (j : Int))))), (q_210, .inl (cA_210, 300, .inl (fun j : Nat => zI (a2_byPost (j : Int))))), (q_211, .inl (cA_211, 300, .inl (fun j : Nat => zI (w39_211 (j : Int))))), (q_212, .inl (cA_212, 300, .inl (fun j : Nat => zI (w39_212 (j : Int))))), (hc, .inr (0, [.int (zI (B1)), v_1, v_2, v_3, v_4, v_5, v_6, v_7, v_8, v_9, v_10, v_11, v_12, v_13, v_14, v_15, v_16, v_17, v_18]))] H := hP
                          have hD : va_D A [(h0, .inr (2, [.int (zI (z2_reached)), .ref q_201, .ref q_202, v2_3, .ref q_204, .ref q_205, v2_6, .ref q_207, v2_8, .ref q_209, .ref q_210, .ref q_211, .ref q_212])), (q_201, .inl (cA_201, 300, .inl (fun j : Nat => zI (a2_idom (j : Int))))), (q_202, .inl (cA_202, 300, .inl (fun j : Nat => zI (w102_202 (j : Int))))), (q_204, .inl (cA_204, 300, .inl (fun j : Nat => zI (w102_204 (j : Int))))), (q_205, .inl (cA_205, 300, .inl (fun j : Nat => zI (a_2002 (j : Int))))), (q_207, .inl (cA_207, 600, .inl (fun j : Nat => zI (w102_207 (j : Int))))), (q_209, .inl (cA_209, 300, .inl (fun j : Nat => zI (a2_post (j : Int))))), (q_210, .inl (cA_210, 300, .inl (fun j : Nat => zI (a2_byPost (j : Int))))), (q_211, .inl (cA_211, 300, .inl (fun j : Nat => zI (w39_211 (j : Int))))), (q_212, .inl (cA_212, 300, .inl (fun j : Nat => zI (w39_212 (j : Int))))), (hc, .inr (0, [.int (zI (B1)), v_1, v_2, v_3, v_4, v_5, v_6, v_7, v_8, v_9, v_10, v_11, v_12, v_13, v_14, v_15, v_16, v_17, v_18]))] := hD
                          refine lv_iinc (v := zI (d201_3 - 1)) (lv' := [(3, .int (zI (d201_3 - 1))), (0, .ref h0), (1, .ref hc), (2, .int (zI (d102_2)))]) hx hb dX2_makeOrder_235 hl (k := 3) rfl (zI_dec (d201_3) (1)) (by decide) rfl (fun ls hl => ?_)
                          refine lv_goto (tgt := 201) hx hb dX2_makeOrder_238 (by decide) ?_
                          exact ih201 (d201_3 - 1) a_2002 ls H _ (by omega) ra_2002 (by rw [ea_2002]; exact hp9.2.2) (by omega) (lv_sub hl [1, 2, 3, 0] rfl) hP hD hS
                    exact key201 (((z2_reached - 1) - (0) : Int).toNat + 1) (z2_reached - 1) w2_205 ls H _ (by omega) jw2_205 (SP.init hO9 (fun b h1 h2 => js b h1 (by omega))) (by omega) (lv_sub hl [1, 2, 3, 0] rfl) hP hD hS
                  · have yb107 : ¬ (z2_reached : Int) ≤ (d102_3 : Int) := fun q => b107 ((zI_le (a := z2_reached) (b := d102_3) (by omega) (by omega) (by omega) (by omega)).mpr q)
                    obtain ⟨tc0, jm⟩ := jM
                    have hs9 := MO.some hX_W hX_T jm (by omega)
                    have hl9 := jm.le (by omega)
                    have hk9 := jm.stk (d102_2 - 1) (by omega) (by omega)
                    refine lv_iinc (v := zI (d102_2 - 1)) (lv' := [(2, .int (zI (d102_2 - 1))), (0, .ref h0), (1, .ref hc), (3, .int (zI (d102_3)))]) hx hb dX2_makeOrder_110 hl (k := 2) rfl (zI_dec (d102_2) (1)) (by decide) rfl (fun ls hl => ?_)
                    refine lv_aload_n hx hb dX2_makeOrder_113 rfl (lv_at hl 1 rfl) ?_
                    refine va_get (D := (dC, dI)) (ci := 2) (v := .ref q_207) (C := RX2) (T := TX2) (N := 13) hx hb hts mem_X2_makeOrder_1 hown hK hP 0 rfl rfl 7 (by decide) (ow (k := 1) rfl) (fun _ h9 => h9) rfl dX2_makeOrder_114 ?_
                    refine lv_iload_n hx hb dX2_makeOrder_117 rfl (lv_at hl 0 rfl) ?_
                    refine va_iald hx hb hK hP 5 4 rfl rfl (zI_in (a := d102_2 - 1) (n := 600) (by omega) (by omega) (by decide)) dX2_makeOrder_118 ?_
                    refine lv_topi (fun z ez => ?_)
                    obtain rfl : z = zI (w102_207 (d102_2 - 1)) := ez.trans (zI_ld (w102_207) (by omega) (by omega))
                    have k6 := jw102_207 (d102_2 - 1)
                    refine lv_istore (lv' := [(4, .int (zI (w102_207 (d102_2 - 1)))), (2, .int (zI (d102_2 - 1))), (0, .ref h0), (1, .ref hc), (3, .int (zI (d102_3)))]) hx hb dX2_makeOrder_119 hl (by decide) rfl (fun ls hl => ?_)
                    refine lv_aload_n hx hb dX2_makeOrder_121 rfl (lv_at hl 2 rfl) ?_
                    refine va_get (D := (dC, dI)) (ci := 2) (v := .ref q_202) (C := RX2) (T := TX2) (N := 13) hx hb hts mem_X2_makeOrder_1 hown hK hP 0 rfl rfl 2 (by decide) (ow (k := 5) rfl) (fun _ h9 => h9) rfl dX2_makeOrder_122 ?_
                    refine lv_iload_n hx hb dX2_makeOrder_125 rfl (lv_at hl 4 rfl) ?_
                    refine lv_iload hx hb dX2_makeOrder_126 (lv_at hl 0 rfl) ?_
                    refine va_iast (i := zI (d102_3)) hx hb hK hP hD hS 2 1 rfl rfl (zI_in (a := d102_3) (n := 300) (by omega) (by omega) (by decide)) dX2_makeOrder_128 (fun H locs hP hD hS => ?_)
                    have eQ : upd (fun j : Nat => zI (w102_202 (j : Int))) (zI (d102_3)).toNatClampNeg (zI (w102_207 (d102_2 - 1))) = (fun j : Nat => zI (zup w102_202 (d102_3) (w102_207 (d102_2 - 1)) (j : Int))) := zI_st w102_202 (e := d102_3) (v := w102_207 (d102_2 - 1)) (by omega) (by omega)
                    rw [eQ] at hP hD
                    clear eQ
                    have ra_2003 : ∀ j : Int, 0 ≤ zup w102_202 (d102_3) (w102_207 (d102_2 - 1)) j ∧ zup w102_202 (d102_3) (w102_207 (d102_2 - 1)) j ≤ 299 := zup_P (P := fun x9 => 0 ≤ x9 ∧ x9 ≤ 299) jw102_202 (show 0 ≤ (w102_207 (d102_2 - 1)) ∧ (w102_207 (d102_2 - 1)) ≤ 299 by omega)
                    obtain ⟨a_2003, ea_2003⟩ : ∃ a9 : Int → Int, a9 = zup w102_202 (d102_3) (w102_207 (d102_2 - 1)) := ⟨_, rfl⟩
                    rw [← ea_2003] at hP hD ra_2003
                    have hP : va_P (dC, dI) vwP [(h0, .inr (2, [.int (zI (z2_reached)), .ref q_201, .ref q_202, v2_3, .ref q_204, .ref q_205, v2_6, .ref q_207, v2_8, .ref q_209, .ref q_210, .ref q_211, .ref q_212])), (q_201, .inl (cA_201, 300, .inl (fun j : Nat => zI (a2_idom (j : Int))))), (q_202, .inl (cA_202, 300, .inl (fun j : Nat => zI (a_2003 (j : Int))))), (q_204, .inl (cA_204, 300, .inl (fun j : Nat => zI (w102_204 (j : Int))))), (q_205, .inl (cA_205, 300, .inl (fun j : Nat => zI (w2_205 (j : Int))))), (q_207, .inl (cA_207, 600, .inl (fun j : Nat => zI (w102_207 (j : Int))))), (q_209, .inl (cA_209, 300, .inl (fun j : Nat => zI (a2_post (j : Int))))), (q_210, .inl (cA_210, 300, .inl (fun j : Nat => zI (a2_byPost (j : Int))))), (q_211, .inl (cA_211, 300, .inl (fun j : Nat => zI (w39_211 (j : Int))))), (q_212, .inl (cA_212, 300, .inl (fun j : Nat => zI (w39_212 (j : Int))))), (hc, .inr (0, [.int (zI (B1)), v_1, v_2, v_3, v_4, v_5, v_6, v_7, v_8, v_9, v_10, v_11, v_12, v_13, v_14, v_15, v_16, v_17, v_18]))] H := hP
                    have hD : va_D A [(h0, .inr (2, [.int (zI (z2_reached)), .ref q_201, .ref q_202, v2_3, .ref q_204, .ref q_205, v2_6, .ref q_207, v2_8, .ref q_209, .ref q_210, .ref q_211, .ref q_212])), (q_201, .inl (cA_201, 300, .inl (fun j : Nat => zI (a2_idom (j : Int))))), (q_202, .inl (cA_202, 300, .inl (fun j : Nat => zI (a_2003 (j : Int))))), (q_204, .inl (cA_204, 300, .inl (fun j : Nat => zI (w102_204 (j : Int))))), (q_205, .inl (cA_205, 300, .inl (fun j : Nat => zI (w2_205 (j : Int))))), (q_207, .inl (cA_207, 600, .inl (fun j : Nat => zI (w102_207 (j : Int))))), (q_209, .inl (cA_209, 300, .inl (fun j : Nat => zI (a2_post (j : Int))))), (q_210, .inl (cA_210, 300, .inl (fun j : Nat => zI (a2_byPost (j : Int))))), (q_211, .inl (cA_211, 300, .inl (fun j : Nat => zI (w39_211 (j : Int))))), (q_212, .inl (cA_212, 300, .inl (fun j : Nat => zI (w39_212 (j : Int))))), (hc, .inr (0, [.int (zI (B1)), v_1, v_2, v_3, v_4, v_5, v_6, v_7, v_8, v_9, v_10, v_11, v_12, v_13, v_14, v_15, v_16, v_17, v_18]))] := hD
                    refine lv_aload_n hx hb dX2_makeOrder_129 rfl (lv_at hl 2 rfl) ?_
                    refine va_get (D := (dC, dI)) (ci := 2) (v := .ref q_204) (C := RX2) (T := TX2) (N := 13) hx hb hts mem_X2_makeOrder_1 hown hK hP 0 rfl rfl 4 (by decide) (ow (k := 6) rfl) (fun _ h9 => h9) rfl dX2_makeOrder_130 ?_
                    refine lv_iload hx hb dX2_makeOrder_133 (lv_at hl 0 rfl) ?_
                    refine lv_iload_n hx hb dX2_makeOrder_135 rfl (lv_at hl 4 rfl) ?_
                    refine va_iast (i := zI (w102_207 (d102_2 - 1))) hx hb hK hP hD hS 3 2 rfl rfl (zI_in (a := w102_207 (d102_2 - 1)) (n := 300) (by omega) (by omega) (by decide)) dX2_makeOrder_136 (fun H locs hP hD hS => ?_)
                    have eQ : upd (fun j : Nat => zI (w102_204 (j : Int))) (zI (w102_207 (d102_2 - 1))).toNatClampNeg (zI (d102_3)) = (fun j : Nat => zI (zup w102_204 (w102_207 (d102_2 - 1)) (d102_3) (j : Int))) := zI_st w102_204 (e := w102_207 (d102_2 - 1)) (v := d102_3) (by omega) (by omega)
                    rw [eQ] at hP hD
                    clear eQ
                    have ra_2004 : ∀ j : Int, -1 ≤ zup w102_204 (w102_207 (d102_2 - 1)) (d102_3) j ∧ zup w102_204 (w102_207 (d102_2 - 1)) (d102_3) j ≤ 299 := zup_P (P := fun x9 => -1 ≤ x9 ∧ x9 ≤ 299) jw102_204 (show -1 ≤ (d102_3) ∧ (d102_3) ≤ 299 by omega)
                    obtain ⟨a_2004, ea_2004⟩ : ∃ a9 : Int → Int, a9 = zup w102_204 (w102_207 (d102_2 - 1)) (d102_3) := ⟨_, rfl⟩
                    rw [← ea_2004] at hP hD ra_2004
                    have hP : va_P (dC, dI) vwP [(h0, .inr (2, [.int (zI (z2_reached)), .ref q_201, .ref q_202, v2_3, .ref q_204, .ref q_205, v2_6, .ref q_207, v2_8, .ref q_209, .ref q_210, .ref q_211, .ref q_212])), (q_201, .inl (cA_201, 300, .inl (fun j : Nat => zI (a2_idom (j : Int))))), (q_202, .inl (cA_202, 300, .inl (fun j : Nat => zI (a_2003 (j : Int))))), (q_204, .inl (cA_204, 300, .inl (fun j : Nat => zI (a_2004 (j : Int))))), (q_205, .inl (cA_205, 300, .inl (fun j : Nat => zI (w2_205 (j : Int))))), (q_207, .inl (cA_207, 600, .inl (fun j : Nat => zI (w102_207 (j : Int))))), (q_209, .inl (cA_209, 300, .inl (fun j : Nat => zI (a2_post (j : Int))))), (q_210, .inl (cA_210, 300, .inl (fun j : Nat => zI (a2_byPost (j : Int))))), (q_211, .inl (cA_211, 300, .inl (fun j : Nat => zI (w39_211 (j : Int))))), (q_212, .inl (cA_212, 300, .inl (fun j : Nat => zI (w39_212 (j : Int))))), (hc, .inr (0, [.int (zI (B1)), v_1, v_2, v_3, v_4, v_5, v_6, v_7, v_8, v_9, v_10, v_11, v_12, v_13, v_14, v_15, v_16, v_17, v_18]))] H := hP
                    have hD : va_D A [(h0, .inr (2, [.int (zI (z2_reached)), .ref q_201, .ref q_202, v2_3, .ref q_204, .ref q_205, v2_6, .ref q_207, v2_8, .ref q_209, .ref q_210, .ref q_211, .ref q_212])), (q_201, .inl (cA_201, 300, .inl (fun j : Nat => zI (a2_idom (j : Int))))), (q_202, .inl (cA_202, 300, .inl (fun j : Nat => zI (a_2003 (j : Int))))), (q_204, .inl (cA_204, 300, .inl (fun j : Nat => zI (a_2004 (j : Int))))), (q_205, .inl (cA_205, 300, .inl (fun j : Nat => zI (w2_205 (j : Int))))), (q_207, .inl (cA_207, 600, .inl (fun j : Nat => zI (w102_207 (j : Int))))), (q_209, .inl (cA_209, 300, .inl (fun j : Nat => zI (a2_post (j : Int))))), (q_210, .inl (cA_210, 300, .inl (fun j : Nat => zI (a2_byPost (j : Int))))), (q_211, .inl (cA_211, 300, .inl (fun j : Nat => zI (w39_211 (j : Int))))), (q_212, .inl (cA_212, 300, .inl (fun j : Nat => zI (w39_212 (j : Int))))), (hc, .inr (0, [.int (zI (B1)), v_1, v_2, v_3, v_4, v_5, v_6, v_7, v_8, v_9, v_10, v_11, v_12, v_13, v_14, v_15, v_16, v_17, v_18]))] := hD
                    refine lv_aload_n hx hb dX2_makeOrder_137 rfl (lv_at hl 2 rfl) ?_
                    refine va_get (D := (dC, dI)) (ci := 2) (v := .ref q_211) (C := RX2) (T := TX2) (N := 13) hx hb hts mem_X2_makeOrder_1 hown hK hP 0 rfl rfl 11 (by decide) (ow (k := 7) rfl) (fun _ h9 => h9) rfl dX2_makeOrder_138 ?_
                    refine lv_iload hx hb dX2_makeOrder_141 (lv_at hl 0 rfl) ?_
                    refine va_iald hx hb hK hP 8 7 rfl rfl (zI_in (a := w102_207 (d102_2 - 1)) (n := 300) (by omega) (by omega) (by decide)) dX2_makeOrder_143 ?_
                    refine lv_topi (fun z ez => ?_)
                    obtain rfl : z = zI (w39_211 (w102_207 (d102_2 - 1))) := ez.trans (zI_ld (w39_211) (by omega) (by omega))
                    have k7 := jw39_211 (w102_207 (d102_2 - 1))
                    refine lv_istore (lv' := [(5, .int (zI (w39_211 (w102_207 (d102_2 - 1))))), (4, .int (zI (w102_207 (d102_2 - 1)))), (2, .int (zI (d102_2 - 1))), (0, .ref h0), (1, .ref hc), (3, .int (zI (d102_3)))]) hx hb dX2_makeOrder_144 hl (by decide) rfl (fun ls hl => ?_)
                    have hl8 : a_2003 (d102_3 + 1 - 1) = w102_207 (d102_2 - 1) := (by rw [ea_2003, show d102_3 + 1 - 1 = d102_3 by omega, zup_eq])
                    have hp8 : 0 ≤ a_2004 (w102_207 (d102_2 - 1)) := (by rw [ea_2004, zup_eq]; omega)
                    refine lv_iconst (v := 0) hx hb dX2_makeOrder_146 (by decide) ?_
                    refine lv_istore (lv' := [(6, .int 0), (5, .int (zI (w39_211 (w102_207 (d102_2 - 1))))), (4, .int (zI (w102_207 (d102_2 - 1)))), (2, .int (zI (d102_2 - 1))), (0, .ref h0), (1, .ref hc), (3, .int (zI (d102_3)))]) hx hb dX2_makeOrder_147 hl (by decide) rfl (fun ls hl => ?_)
                    have key149 : ∀ n149 : Nat, ∀ (d149_6 : Int) (d149_5 : Int) (d149_2 : Int) (w149_207 : Int → Int) (ls : Array Slot) (H : Heap) (locs : List Loc), (0 ≤ d149_6 ∧ d149_6 ≤ 1000000000) → (0 ≤ d149_5 ∧ d149_5 ≤ 299) → (0 ≤ d149_2 ∧ d149_2 ≤ 300) → (∀ j : Int, 0 ≤ w149_207 j ∧ w149_207 j ≤ 299) → (∃ tc9 : Int → Int, MO B1 a2_post a2_idom a_2004 a_2003 w149_207 tc9 d149_2 (d102_3 + 1) (w102_207 (d102_2 - 1)) d149_5) → (0 < d149_5 → d149_5 < B1 ∧ a2_idom d149_5 = w102_207 (d102_2 - 1)) → (d149_5 + d149_6 ≤ 299) → ((1000 - d149_6 : Int).toNat) < n149 → lv_has ls 7 [(0, .ref h0), (1, .ref hc), (2, .int (zI (d149_2))), (3, .int (zI (d102_3))), (4, .int (zI (w102_207 (d102_2 - 1)))), (5, .int (zI (d149_5))), (6, .int (zI (d149_6)))] → va_P (dC, dI) vwP [(h0, .inr (2, [.int (zI (z2_reached)), .ref q_201, .ref q_202, v2_3, .ref q_204, .ref q_205, v2_6, .ref q_207, v2_8, .ref q_209, .ref q_210, .ref q_211, .ref q_212])), (q_201, .inl (cA_201, 300, .inl (fun j : Nat => zI (a2_idom (j : Int))))), (q_202, .inl (cA_202, 300, .inl (fun j : Nat => zI (a_2003 (j : Int))))), (q_204, .inl (cA_204, 300, .inl (fun j : Nat => zI (a_2004 (j : Int))))), (q_205, .inl (cA_205, 300, .inl (fun j : Nat => zI (w2_205 (j : Int))))), (q_207, .inl (cA_207, 600, .inl (fun j : Nat => zI (w149_207 (j : Int))))), (q_209, .inl (cA_209, 300, .inl (fun j : Nat => zI (a2_post (j : Int))))), (q_210, .inl (cA_210, 300, .inl (fun j : Nat => zI (a2_byPost (j : Int))))), (q_211, .inl (cA_211, 300, .inl (fun j : Nat => zI (w39_211 (j : Int))))), (q_212, .inl (cA_212, 300, .inl (fun j : Nat => zI (w39_212 (j : Int))))), (hc, .inr (0, [.int (zI (B1)), v_1, v_2, v_3, v_4, v_5, v_6, v_7, v_8, v_9, v_10, v_11, v_12, v_13, v_14, v_15, v_16, v_17, v_18]))] H → va_D A [(h0, .inr (2, [.int (zI (z2_reached)), .ref q_201, .ref q_202, v2_3, .ref q_204, .ref q_205, v2_6, .ref q_207, v2_8, .ref q_209, .ref q_210, .ref q_211, .ref q_212])), (q_201, .inl (cA_201, 300, .inl (fun j : Nat => zI (a2_idom (j : Int))))), (q_202, .inl (cA_202, 300, .inl (fun j : Nat => zI (a_2003 (j : Int))))), (q_204, .inl (cA_204, 300, .inl (fun j : Nat => zI (a_2004 (j : Int))))), (q_205, .inl (cA_205, 300, .inl (fun j : Nat => zI (w2_205 (j : Int))))), (q_207, .inl (cA_207, 600, .inl (fun j : Nat => zI (w149_207 (j : Int))))), (q_209, .inl (cA_209, 300, .inl (fun j : Nat => zI (a2_post (j : Int))))), (q_210, .inl (cA_210, 300, .inl (fun j : Nat => zI (a2_byPost (j : Int))))), (q_211, .inl (cA_211, 300, .inl (fun j : Nat => zI (w39_211 (j : Int))))), (q_212, .inl (cA_212, 300, .inl (fun j : Nat => zI (w39_212 (j : Int))))), (hc, .inr (0, [.int (zI (B1)), v_1, v_2, v_3, v_4, v_5, v_6, v_7, v_8, v_9, v_10, v_11, v_12, v_13, v_14, v_15, v_16, v_17, v_18]))] → va_S A s.heap H locs → W p l e (headSpec v_X2_makeOrder ({ frames := 0, cells := 0, slots := 0, locals := 0 })).room s m ([.ref h0, .ref hc] : List Value).toArray below meth c H locs 0 0 Q (F0 m 149 ls []) := by
                      intro n149
                      induction n149 with
                      | zero => intro d149_6 d149_5 d149_2 w149_207 ls H locs jd149_6 jd149_5 jd149_2 jw149_207 jN jE jk hm149; exact absurd hm149 (by omega)
                      | succ n149 ih149 =>
                        intro d149_6 d149_5 d149_2 w149_207 ls H locs jd149_6 jd149_5 jd149_2 jw149_207 jN jE jk hm149 hl hP hD hS
                        refine lv_iload hx hb dX2_makeOrder_149 (lv_at hl 5 rfl) ?_
                        refine lv_if_le (tgt := 188) hx hb dX2_makeOrder_151 (by decide) (fun b151 => ?_) (fun b151 => ?_)
                        · have yb151 : (d149_5 : Int) ≤ (0 : Int) := (zI_le (a := d149_5) (b := 0) (by omega) (by omega) (by omega) (by omega)).mp b151
                          obtain ⟨tc1, jn1⟩ := id jN
                          have hl7 := jn1.le (by omega)
                          clear jn1
                          refine lv_iinc (v := zI (d102_3 + 1)) (lv' := [(3, .int (zI (d102_3 + 1))), (0, .ref h0), (1, .ref hc), (2, .int (zI (d149_2))), (4, .int (zI (w102_207 (d102_2 - 1)))), (5, .int (zI (d149_5))), (6, .int (zI (d149_6)))]) hx hb dX2_makeOrder_188 hl (k := 3) rfl (zI_add (d102_3) (1)) (by decide) rfl (fun ls hl => ?_)
                          refine lv_goto (tgt := 102) hx hb dX2_makeOrder_191 (by decide) ?_
                          exact ih102 (d102_3 + 1) d149_2 a_2003 a_2004 w149_207 ls H _ (by omega) (by omega) ra_2003 ra_2004 jw149_207 (jN.elim (fun tc9 jn9 => ⟨tc9, MO.close hX_T jn9 (by omega)⟩)) (by omega) (lv_sub hl [1, 2, 3, 0] rfl) hP hD hS
                        · have yb151 : ¬ (d149_5 : Int) ≤ (0 : Int) := fun q => b151 ((zI_le (a := d149_5) (b := 0) (by omega) (by omega) (by omega) (by omega)).mpr q)
                          refine lv_iload hx hb dX2_makeOrder_154 (lv_at hl 6 rfl) ?_
                          refine lv_sipush (v := 300) hx hb dX2_makeOrder_156 (by decide) ?_
                          refine lv_icmp_ge (tgt := 188) hx hb dX2_makeOrder_159 (by decide) (fun b159 => ?_) (fun b159 => ?_)
                          · have yb159 : (300 : Int) ≤ (d149_6 : Int) := (zI_le (a := 300) (b := d149_6) (by omega) (by omega) (by omega) (by omega)).mp b159
                            obtain ⟨tc1, jn1⟩ := id jN
                            have hl7 := jn1.le (by omega)
                            clear jn1
                            refine lv_iinc (v := zI (d102_3 + 1)) (lv' := [(3, .int (zI (d102_3 + 1))), (0, .ref h0), (1, .ref hc), (2, .int (zI (d149_2))), (4, .int (zI (w102_207 (d102_2 - 1)))), (5, .int (zI (d149_5))), (6, .int (zI (d149_6)))]) hx hb dX2_makeOrder_188 hl (k := 3) rfl (zI_add (d102_3) (1)) (by decide) rfl (fun ls hl => ?_)
                            refine lv_goto (tgt := 102) hx hb dX2_makeOrder_191 (by decide) ?_
                            exact ih102 (d102_3 + 1) d149_2 a_2003 a_2004 w149_207 ls H _ (by omega) (by omega) ra_2003 ra_2004 jw149_207 (jN.elim (fun tc9 jn9 => ⟨tc9, MO.close hX_T jn9 (by omega)⟩)) (by omega) (lv_sub hl [1, 2, 3, 0] rfl) hP hD hS
                          · have yb159 : ¬ (300 : Int) ≤ (d149_6 : Int) := fun q => b159 ((zI_le (a := 300) (b := d149_6) (by omega) (by omega) (by omega) (by omega)).mpr q)
                            have hE9 := jE (by omega)
                            have ht9 := hX_T.lt (b := d149_5) (by omega) (by omega) (by omega)
                            obtain ⟨tc1, jn1⟩ := id jN
                            have hl7 := jn1.le (by omega)
                            clear jn1
                            refine lv_aload_n hx hb dX2_makeOrder_162 rfl (lv_at hl 0 rfl) ?_
                            refine va_get (D := (dC, dI)) (ci := 2) (v := .ref q_207) (C := RX2) (T := TX2) (N := 13) hx hb hts mem_X2_makeOrder_1 hown hK hP 0 rfl rfl 7 (by decide) (ow (k := 1) rfl) (fun _ h9 => h9) rfl dX2_makeOrder_163 ?_
                            refine lv_iload_n hx hb dX2_makeOrder_166 rfl (lv_at hl 2 rfl) ?_
                            refine lv_iload hx hb dX2_makeOrder_167 (lv_at hl 5 rfl) ?_
                            refine va_iast (i := zI (d149_2)) hx hb hK hP hD hS 5 4 rfl rfl (zI_in (a := d149_2) (n := 600) (by omega) (by omega) (by decide)) dX2_makeOrder_169 (fun H locs hP hD hS => ?_)
                            have eQ : upd (fun j : Nat => zI (w149_207 (j : Int))) (zI (d149_2)).toNatClampNeg (zI (d149_5)) = (fun j : Nat => zI (zup w149_207 (d149_2) (d149_5) (j : Int))) := zI_st w149_207 (e := d149_2) (v := d149_5) (by omega) (by omega)
                            rw [eQ] at hP hD
                            clear eQ
                            have ra_2005 : ∀ j : Int, 0 ≤ zup w149_207 (d149_2) (d149_5) j ∧ zup w149_207 (d149_2) (d149_5) j ≤ 299 := zup_P (P := fun x9 => 0 ≤ x9 ∧ x9 ≤ 299) jw149_207 (show 0 ≤ (d149_5) ∧ (d149_5) ≤ 299 by omega)
                            obtain ⟨a_2005, ea_2005⟩ : ∃ a9 : Int → Int, a9 = zup w149_207 (d149_2) (d149_5) := ⟨_, rfl⟩
                            rw [← ea_2005] at hP hD ra_2005
                            have hP : va_P (dC, dI) vwP [(h0, .inr (2, [.int (zI (z2_reached)), .ref q_201, .ref q_202, v2_3, .ref q_204, .ref q_205, v2_6, .ref q_207, v2_8, .ref q_209, .ref q_210, .ref q_211, .ref q_212])), (q_201, .inl (cA_201, 300, .inl (fun j : Nat => zI (a2_idom (j : Int))))), (q_202, .inl (cA_202, 300, .inl (fun j : Nat => zI (a_2003 (j : Int))))), (q_204, .inl (cA_204, 300, .inl (fun j : Nat => zI (a_2004 (j : Int))))), (q_205, .inl (cA_205, 300, .inl (fun j : Nat => zI (w2_205 (j : Int))))), (q_207, .inl (cA_207, 600, .inl (fun j : Nat => zI (a_2005 (j : Int))))), (q_209, .inl (cA_209, 300, .inl (fun j : Nat => zI (a2_post (j : Int))))), (q_210, .inl (cA_210, 300, .inl (fun j : Nat => zI (a2_byPost (j : Int))))), (q_211, .inl (cA_211, 300, .inl (fun j : Nat => zI (w39_211 (j : Int))))), (q_212, .inl (cA_212, 300, .inl (fun j : Nat => zI (w39_212 (j : Int))))), (hc, .inr (0, [.int (zI (B1)), v_1, v_2, v_3, v_4, v_5, v_6, v_7, v_8, v_9, v_10, v_11, v_12, v_13, v_14, v_15, v_16, v_17, v_18]))] H := hP
                            have hD : va_D A [(h0, .inr (2, [.int (zI (z2_reached)), .ref q_201, .ref q_202, v2_3, .ref q_204, .ref q_205, v2_6, .ref q_207, v2_8, .ref q_209, .ref q_210, .ref q_211, .ref q_212])), (q_201, .inl (cA_201, 300, .inl (fun j : Nat => zI (a2_idom (j : Int))))), (q_202, .inl (cA_202, 300, .inl (fun j : Nat => zI (a_2003 (j : Int))))), (q_204, .inl (cA_204, 300, .inl (fun j : Nat => zI (a_2004 (j : Int))))), (q_205, .inl (cA_205, 300, .inl (fun j : Nat => zI (w2_205 (j : Int))))), (q_207, .inl (cA_207, 600, .inl (fun j : Nat => zI (a_2005 (j : Int))))), (q_209, .inl (cA_209, 300, .inl (fun j : Nat => zI (a2_post (j : Int))))), (q_210, .inl (cA_210, 300, .inl (fun j : Nat => zI (a2_byPost (j : Int))))), (q_211, .inl (cA_211, 300, .inl (fun j : Nat => zI (w39_211 (j : Int))))), (q_212, .inl (cA_212, 300, .inl (fun j : Nat => zI (w39_212 (j : Int))))), (hc, .inr (0, [.int (zI (B1)), v_1, v_2, v_3, v_4, v_5, v_6, v_7, v_8, v_9, v_10, v_11, v_12, v_13, v_14, v_15, v_16, v_17, v_18]))] := hD
                            refine lv_iinc (v := zI (d149_2 + 1)) (lv' := [(2, .int (zI (d149_2 + 1))), (0, .ref h0), (1, .ref hc), (3, .int (zI (d102_3))), (4, .int (zI (w102_207 (d102_2 - 1)))), (5, .int (zI (d149_5))), (6, .int (zI (d149_6)))]) hx hb dX2_makeOrder_170 hl (k := 2) rfl (zI_add (d149_2) (1)) (by decide) rfl (fun ls hl => ?_)
                            refine lv_aload_n hx hb dX2_makeOrder_173 rfl (lv_at hl 1 rfl) ?_
                            refine va_get (D := (dC, dI)) (ci := 2) (v := .ref q_212) (C := RX2) (T := TX2) (N := 13) hx hb hts mem_X2_makeOrder_1 hown hK hP 0 rfl rfl 12 (by decide) (ow (k := 8) rfl) (fun _ h9 => h9) rfl dX2_makeOrder_174 ?_
                            refine lv_iload hx hb dX2_makeOrder_177 (lv_at hl 5 rfl) ?_
                            refine va_iald hx hb hK hP 9 8 rfl rfl (zI_in (a := d149_5) (n := 300) (by omega) (by omega) (by decide)) dX2_makeOrder_179 ?_
                            refine lv_topi (fun z ez => ?_)
                            obtain rfl : z = zI (w39_212 (d149_5)) := ez.trans (zI_ld (w39_212) (by omega) (by omega))
                            have k8 := jw39_212 (d149_5)
                            refine lv_istore (lv' := [(5, .int (zI (w39_212 (d149_5)))), (2, .int (zI (d149_2 + 1))), (0, .ref h0), (1, .ref hc), (3, .int (zI (d102_3))), (4, .int (zI (w102_207 (d102_2 - 1)))), (6, .int (zI (d149_6)))]) hx hb dX2_makeOrder_180 hl (by decide) rfl (fun ls hl => ?_)
                            refine lv_iinc (v := zI (d149_6 + 1)) (lv' := [(6, .int (zI (d149_6 + 1))), (5, .int (zI (w39_212 (d149_5)))), (2, .int (zI (d149_2 + 1))), (0, .ref h0), (1, .ref hc), (3, .int (zI (d102_3))), (4, .int (zI (w102_207 (d102_2 - 1))))]) hx hb dX2_makeOrder_182 hl (k := 6) rfl (zI_add (d149_6) (1)) (by decide) rfl (fun ls hl => ?_)
                            refine lv_goto (tgt := 149) hx hb dX2_makeOrder_185 (by decide) ?_
                            exact ih149 (d149_6 + 1) (w39_212 (d149_5)) (d149_2 + 1) a_2005 ls H _ (by omega) (by omega) (by omega) ra_2005 (by rw [ea_2005]; exact jN.elim (fun tc9 jn9 => ⟨_, MO.push hX_T jn9 jC (by omega) hl8 (by omega) (by omega) (by omega) (by omega) (by omega) hp8⟩)) (fun h1 => by rcases jC.c2 d149_5 (by omega) (by omega) (by omega) with q9 | q9 <;> omega) (by rcases jC.c2 d149_5 (by omega) (by omega) (by omega) with q9 | q9 <;> omega) (by omega) (lv_sub hl [3, 4, 2, 5, 6, 1, 0] rfl) hP hD hS
                    exact key149 ((1000 - 0 : Int).toNat + 1) 0 (w39_211 (w102_207 (d102_2 - 1))) (d102_2 - 1) w102_207 ls H _ (by omega) (by omega) (by omega) jw102_207 (by rw [ea_2004, ea_2003]; exact ⟨tc0, MO.pop hX_T jm jC (by omega) rfl⟩) (fun h1 => by rcases jC.c1 (w102_207 (d102_2 - 1)) (by omega) (by omega) with q9 | q9 <;> omega) (by omega) (by omega) (lv_sub hl [4, 5, 3, 6, 2, 1, 0] rfl) hP hD hS
              exact key102 (((z2_reached) - (0) : Int).toNat + 1) 0 1 a2_order w2_204 a_2001 ls H _ (by omega) (by omega) hR_a2_order jw2_204 ra_2001 (by rw [ea_2001]; exact ⟨_, MO.init (by omega) hX_T (fun b h1 h2 => jp b h1 (by omega))⟩) (by omega) (lv_sub hl [2, 3, 1, 0] rfl) hP hD hS
            · have yb44 : ¬ (B1 : Int) ≤ (d39_2 : Int) := fun q => b44 ((zI_le (a := B1) (b := d39_2) (by omega) (by omega) (by omega) (by omega)).mpr q)
              refine lv_aload_n hx hb dX2_makeOrder_47 rfl (lv_at hl 0 rfl) ?_
              refine va_get (D := (dC, dI)) (ci := 2) (v := .ref q_201) (C := RX2) (T := TX2) (N := 13) hx hb hts mem_X2_makeOrder_1 hown hK hP 0 rfl rfl 1 (by decide) (ow (k := 4) rfl) (fun _ h9 => h9) rfl dX2_makeOrder_48 ?_
              refine lv_iload_n hx hb dX2_makeOrder_51 rfl (lv_at hl 2 rfl) ?_
              refine va_iald hx hb hK hP 1 0 rfl rfl (zI_in (a := d39_2) (n := 300) (by omega) (by omega) (by decide)) dX2_makeOrder_52 ?_
              refine lv_topi (fun z ez => ?_)
              obtain rfl : z = zI (a2_idom (d39_2)) := ez.trans (zI_ld (a2_idom) (by omega) (by omega))
              have k9 := hR_a2_idom (d39_2)
              refine lv_if_lt (tgt := 85) hx hb dX2_makeOrder_53 (by decide) (fun b53 => ?_) (fun b53 => ?_)
              · have yb53 : (a2_idom (d39_2) : Int) < (0 : Int) := (zI_lt (a := a2_idom (d39_2)) (b := 0) (by omega) (by omega) (by omega) (by omega)).mp b53
                refine lv_iinc (v := zI (d39_2 + 1)) (lv' := [(2, .int (zI (d39_2 + 1))), (0, .ref h0), (1, .ref hc)]) hx hb dX2_makeOrder_85 hl (k := 2) rfl (zI_add (d39_2) (1)) (by decide) rfl (fun ls hl => ?_)
                refine lv_goto (tgt := 39) hx hb dX2_makeOrder_88 (by decide) ?_
                exact ih39 (d39_2 + 1) w39_211 w39_212 ls H _ (by omega) jw39_211 jw39_212 (CH.skip jC (by omega)) (by omega) (lv_sub hl [1, 2, 0] rfl) hP hD hS
              · have yb53 : ¬ (a2_idom (d39_2) : Int) < (0 : Int) := fun q => b53 ((zI_lt (a := a2_idom (d39_2)) (b := 0) (by omega) (by omega) (by omega) (by omega)).mpr q)
                have ht9 := hX_T.lt (b := d39_2) (by omega) (by omega) (by omega)
                refine lv_aload_n hx hb dX2_makeOrder_56 rfl (lv_at hl 0 rfl) ?_
                refine va_get (D := (dC, dI)) (ci := 2) (v := .ref q_212) (C := RX2) (T := TX2) (N := 13) hx hb hts mem_X2_makeOrder_1 hown hK hP 0 rfl rfl 12 (by decide) (ow (k := 8) rfl) (fun _ h9 => h9) rfl dX2_makeOrder_57 ?_
                refine lv_iload_n hx hb dX2_makeOrder_60 rfl (lv_at hl 2 rfl) ?_
                refine lv_aload_n hx hb dX2_makeOrder_61 rfl (lv_at hl 0 rfl) ?_
                refine va_get (D := (dC, dI)) (ci := 2) (v := .ref q_211) (C := RX2) (T := TX2) (N := 13) hx hb hts mem_X2_makeOrder_1 hown hK hP 0 rfl rfl 11 (by decide) (ow (k := 7) rfl) (fun _ h9 => h9) rfl dX2_makeOrder_62 ?_
                refine lv_aload_n hx hb dX2_makeOrder_65 rfl (lv_at hl 0 rfl) ?_
                refine va_get (D := (dC, dI)) (ci := 2) (v := .ref q_201) (C := RX2) (T := TX2) (N := 13) hx hb hts mem_X2_makeOrder_1 hown hK hP 0 rfl rfl 1 (by decide) (ow (k := 4) rfl) (fun _ h9 => h9) rfl dX2_makeOrder_66 ?_
                refine lv_iload_n hx hb dX2_makeOrder_69 rfl (lv_at hl 2 rfl) ?_
                refine va_iald hx hb hK hP 1 0 rfl rfl (zI_in (a := d39_2) (n := 300) (by omega) (by omega) (by decide)) dX2_makeOrder_70 ?_
                refine lv_topi (fun z ez => ?_)
                obtain rfl : z = zI (a2_idom (d39_2)) := ez.trans (zI_ld (a2_idom) (by omega) (by omega))
                have k10 := hR_a2_idom (d39_2)
                refine va_iald hx hb hK hP 8 7 rfl rfl (zI_in (a := a2_idom (d39_2)) (n := 300) (by omega) (by omega) (by decide)) dX2_makeOrder_71 ?_
                refine lv_topi (fun z ez => ?_)
                obtain rfl : z = zI (w39_211 (a2_idom (d39_2))) := ez.trans (zI_ld (w39_211) (by omega) (by omega))
                have k11 := jw39_211 (a2_idom (d39_2))
                refine va_iast (i := zI (d39_2)) hx hb hK hP hD hS 9 8 rfl rfl (zI_in (a := d39_2) (n := 300) (by omega) (by omega) (by decide)) dX2_makeOrder_72 (fun H locs hP hD hS => ?_)
                have eQ : upd (fun j : Nat => zI (w39_212 (j : Int))) (zI (d39_2)).toNatClampNeg (zI (w39_211 (a2_idom (d39_2)))) = (fun j : Nat => zI (zup w39_212 (d39_2) (w39_211 (a2_idom (d39_2))) (j : Int))) := zI_st w39_212 (e := d39_2) (v := w39_211 (a2_idom (d39_2))) (by omega) (by omega)
                rw [eQ] at hP hD
                clear eQ
                have ra_2006 : ∀ j : Int, 0 ≤ zup w39_212 (d39_2) (w39_211 (a2_idom (d39_2))) j ∧ zup w39_212 (d39_2) (w39_211 (a2_idom (d39_2))) j ≤ 299 := zup_P (P := fun x9 => 0 ≤ x9 ∧ x9 ≤ 299) jw39_212 (show 0 ≤ (w39_211 (a2_idom (d39_2))) ∧ (w39_211 (a2_idom (d39_2))) ≤ 299 by omega)
                obtain ⟨a_2006, ea_2006⟩ : ∃ a9 : Int → Int, a9 = zup w39_212 (d39_2) (w39_211 (a2_idom (d39_2))) := ⟨_, rfl⟩
                rw [← ea_2006] at hP hD ra_2006
                have hP : va_P (dC, dI) vwP [(h0, .inr (2, [.int (zI (z2_reached)), .ref q_201, .ref q_202, v2_3, .ref q_204, .ref q_205, v2_6, .ref q_207, v2_8, .ref q_209, .ref q_210, .ref q_211, .ref q_212])), (q_201, .inl (cA_201, 300, .inl (fun j : Nat => zI (a2_idom (j : Int))))), (q_202, .inl (cA_202, 300, .inl (fun j : Nat => zI (a2_order (j : Int))))), (q_204, .inl (cA_204, 300, .inl (fun j : Nat => zI (w2_204 (j : Int))))), (q_205, .inl (cA_205, 300, .inl (fun j : Nat => zI (w2_205 (j : Int))))), (q_207, .inl (cA_207, 600, .inl (fun j : Nat => zI (a2_stack (j : Int))))), (q_209, .inl (cA_209, 300, .inl (fun j : Nat => zI (a2_post (j : Int))))), (q_210, .inl (cA_210, 300, .inl (fun j : Nat => zI (a2_byPost (j : Int))))), (q_211, .inl (cA_211, 300, .inl (fun j : Nat => zI (w39_211 (j : Int))))), (q_212, .inl (cA_212, 300, .inl (fun j : Nat => zI (a_2006 (j : Int))))), (hc, .inr (0, [.int (zI (B1)), v_1, v_2, v_3, v_4, v_5, v_6, v_7, v_8, v_9, v_10, v_11, v_12, v_13, v_14, v_15, v_16, v_17, v_18]))] H := hP
                have hD : va_D A [(h0, .inr (2, [.int (zI (z2_reached)), .ref q_201, .ref q_202, v2_3, .ref q_204, .ref q_205, v2_6, .ref q_207, v2_8, .ref q_209, .ref q_210, .ref q_211, .ref q_212])), (q_201, .inl (cA_201, 300, .inl (fun j : Nat => zI (a2_idom (j : Int))))), (q_202, .inl (cA_202, 300, .inl (fun j : Nat => zI (a2_order (j : Int))))), (q_204, .inl (cA_204, 300, .inl (fun j : Nat => zI (w2_204 (j : Int))))), (q_205, .inl (cA_205, 300, .inl (fun j : Nat => zI (w2_205 (j : Int))))), (q_207, .inl (cA_207, 600, .inl (fun j : Nat => zI (a2_stack (j : Int))))), (q_209, .inl (cA_209, 300, .inl (fun j : Nat => zI (a2_post (j : Int))))), (q_210, .inl (cA_210, 300, .inl (fun j : Nat => zI (a2_byPost (j : Int))))), (q_211, .inl (cA_211, 300, .inl (fun j : Nat => zI (w39_211 (j : Int))))), (q_212, .inl (cA_212, 300, .inl (fun j : Nat => zI (a_2006 (j : Int))))), (hc, .inr (0, [.int (zI (B1)), v_1, v_2, v_3, v_4, v_5, v_6, v_7, v_8, v_9, v_10, v_11, v_12, v_13, v_14, v_15, v_16, v_17, v_18]))] := hD
                refine lv_aload_n hx hb dX2_makeOrder_73 rfl (lv_at hl 0 rfl) ?_
                refine va_get (D := (dC, dI)) (ci := 2) (v := .ref q_211) (C := RX2) (T := TX2) (N := 13) hx hb hts mem_X2_makeOrder_1 hown hK hP 0 rfl rfl 11 (by decide) (ow (k := 7) rfl) (fun _ h9 => h9) rfl dX2_makeOrder_74 ?_
                refine lv_aload_n hx hb dX2_makeOrder_77 rfl (lv_at hl 0 rfl) ?_
                refine va_get (D := (dC, dI)) (ci := 2) (v := .ref q_201) (C := RX2) (T := TX2) (N := 13) hx hb hts mem_X2_makeOrder_1 hown hK hP 0 rfl rfl 1 (by decide) (ow (k := 4) rfl) (fun _ h9 => h9) rfl dX2_makeOrder_78 ?_
                refine lv_iload_n hx hb dX2_makeOrder_81 rfl (lv_at hl 2 rfl) ?_
                refine va_iald hx hb hK hP 1 0 rfl rfl (zI_in (a := d39_2) (n := 300) (by omega) (by omega) (by decide)) dX2_makeOrder_82 ?_
                refine lv_topi (fun z ez => ?_)
                obtain rfl : z = zI (a2_idom (d39_2)) := ez.trans (zI_ld (a2_idom) (by omega) (by omega))
                have k12 := hR_a2_idom (d39_2)
                refine lv_iload_n hx hb dX2_makeOrder_83 rfl (lv_at hl 2 rfl) ?_
                refine va_iast (i := zI (a2_idom (d39_2))) hx hb hK hP hD hS 8 7 rfl rfl (zI_in (a := a2_idom (d39_2)) (n := 300) (by omega) (by omega) (by decide)) dX2_makeOrder_84 (fun H locs hP hD hS => ?_)
                have eQ : upd (fun j : Nat => zI (w39_211 (j : Int))) (zI (a2_idom (d39_2))).toNatClampNeg (zI (d39_2)) = (fun j : Nat => zI (zup w39_211 (a2_idom (d39_2)) (d39_2) (j : Int))) := zI_st w39_211 (e := a2_idom (d39_2)) (v := d39_2) (by omega) (by omega)
                rw [eQ] at hP hD
                clear eQ
                have ra_2007 : ∀ j : Int, 0 ≤ zup w39_211 (a2_idom (d39_2)) (d39_2) j ∧ zup w39_211 (a2_idom (d39_2)) (d39_2) j ≤ 299 := zup_P (P := fun x9 => 0 ≤ x9 ∧ x9 ≤ 299) jw39_211 (show 0 ≤ (d39_2) ∧ (d39_2) ≤ 299 by omega)
                obtain ⟨a_2007, ea_2007⟩ : ∃ a9 : Int → Int, a9 = zup w39_211 (a2_idom (d39_2)) (d39_2) := ⟨_, rfl⟩
                rw [← ea_2007] at hP hD ra_2007
                have hP : va_P (dC, dI) vwP [(h0, .inr (2, [.int (zI (z2_reached)), .ref q_201, .ref q_202, v2_3, .ref q_204, .ref q_205, v2_6, .ref q_207, v2_8, .ref q_209, .ref q_210, .ref q_211, .ref q_212])), (q_201, .inl (cA_201, 300, .inl (fun j : Nat => zI (a2_idom (j : Int))))), (q_202, .inl (cA_202, 300, .inl (fun j : Nat => zI (a2_order (j : Int))))), (q_204, .inl (cA_204, 300, .inl (fun j : Nat => zI (w2_204 (j : Int))))), (q_205, .inl (cA_205, 300, .inl (fun j : Nat => zI (w2_205 (j : Int))))), (q_207, .inl (cA_207, 600, .inl (fun j : Nat => zI (a2_stack (j : Int))))), (q_209, .inl (cA_209, 300, .inl (fun j : Nat => zI (a2_post (j : Int))))), (q_210, .inl (cA_210, 300, .inl (fun j : Nat => zI (a2_byPost (j : Int))))), (q_211, .inl (cA_211, 300, .inl (fun j : Nat => zI (a_2007 (j : Int))))), (q_212, .inl (cA_212, 300, .inl (fun j : Nat => zI (a_2006 (j : Int))))), (hc, .inr (0, [.int (zI (B1)), v_1, v_2, v_3, v_4, v_5, v_6, v_7, v_8, v_9, v_10, v_11, v_12, v_13, v_14, v_15, v_16, v_17, v_18]))] H := hP
                have hD : va_D A [(h0, .inr (2, [.int (zI (z2_reached)), .ref q_201, .ref q_202, v2_3, .ref q_204, .ref q_205, v2_6, .ref q_207, v2_8, .ref q_209, .ref q_210, .ref q_211, .ref q_212])), (q_201, .inl (cA_201, 300, .inl (fun j : Nat => zI (a2_idom (j : Int))))), (q_202, .inl (cA_202, 300, .inl (fun j : Nat => zI (a2_order (j : Int))))), (q_204, .inl (cA_204, 300, .inl (fun j : Nat => zI (w2_204 (j : Int))))), (q_205, .inl (cA_205, 300, .inl (fun j : Nat => zI (w2_205 (j : Int))))), (q_207, .inl (cA_207, 600, .inl (fun j : Nat => zI (a2_stack (j : Int))))), (q_209, .inl (cA_209, 300, .inl (fun j : Nat => zI (a2_post (j : Int))))), (q_210, .inl (cA_210, 300, .inl (fun j : Nat => zI (a2_byPost (j : Int))))), (q_211, .inl (cA_211, 300, .inl (fun j : Nat => zI (a_2007 (j : Int))))), (q_212, .inl (cA_212, 300, .inl (fun j : Nat => zI (a_2006 (j : Int))))), (hc, .inr (0, [.int (zI (B1)), v_1, v_2, v_3, v_4, v_5, v_6, v_7, v_8, v_9, v_10, v_11, v_12, v_13, v_14, v_15, v_16, v_17, v_18]))] := hD
                refine lv_iinc (v := zI (d39_2 + 1)) (lv' := [(2, .int (zI (d39_2 + 1))), (0, .ref h0), (1, .ref hc)]) hx hb dX2_makeOrder_85 hl (k := 2) rfl (zI_add (d39_2) (1)) (by decide) rfl (fun ls hl => ?_)
                refine lv_goto (tgt := 39) hx hb dX2_makeOrder_88 (by decide) ?_
                exact ih39 (d39_2 + 1) a_2007 a_2006 ls H _ (by omega) ra_2007 ra_2006 (by rw [ea_2007, ea_2006]; exact CH.add jC (by omega) (by omega) (by omega)) (by omega) (lv_sub hl [1, 2, 0] rfl) hP hD hS
        exact key39 (((B1) - (1) : Int).toNat + 1) 1 w2_211 a2_nextChild ls H _ (by omega) jw2_211 hR_a2_nextChild (CH.init (fun b h1 h2 => jf b h1 (by omega))) (by omega) (lv_sub hl [1, 2, 0] rfl) hP hD hS
      · have yb7 : ¬ (B1 : Int) ≤ (d2_2 : Int) := fun q => b7 ((zI_le (a := B1) (b := d2_2) (by omega) (by omega) (by omega) (by omega)).mpr q)
        refine lv_aload_n hx hb dX2_makeOrder_10 rfl (lv_at hl 0 rfl) ?_
        refine va_get (D := (dC, dI)) (ci := 2) (v := .ref q_211) (C := RX2) (T := TX2) (N := 13) hx hb hts mem_X2_makeOrder_1 hown hK hP 0 rfl rfl 11 (by decide) (ow (k := 7) rfl) (fun _ h9 => h9) rfl dX2_makeOrder_11 ?_
        refine lv_iload_n hx hb dX2_makeOrder_14 rfl (lv_at hl 2 rfl) ?_
        refine lv_iconst (v := 0) hx hb dX2_makeOrder_15 (by decide) ?_
        refine va_iast (i := zI (d2_2)) hx hb hK hP hD hS 8 7 rfl rfl (zI_in (a := d2_2) (n := 300) (by omega) (by omega) (by decide)) dX2_makeOrder_16 (fun H locs hP hD hS => ?_)
        have eQ : upd (fun j : Nat => zI (w2_211 (j : Int))) (zI (d2_2)).toNatClampNeg 0 = (fun j : Nat => zI (zup w2_211 (d2_2) (0) (j : Int))) := zI_st w2_211 (e := d2_2) (v := 0) (by omega) (by omega)
        rw [eQ] at hP hD
        clear eQ
        have ra_2008 : ∀ j : Int, 0 ≤ zup w2_211 (d2_2) (0) j ∧ zup w2_211 (d2_2) (0) j ≤ 299 := zup_P (P := fun x9 => 0 ≤ x9 ∧ x9 ≤ 299) jw2_211 (show 0 ≤ (0) ∧ (0) ≤ 299 by omega)
        obtain ⟨a_2008, ea_2008⟩ : ∃ a9 : Int → Int, a9 = zup w2_211 (d2_2) (0) := ⟨_, rfl⟩
        rw [← ea_2008] at hP hD ra_2008
        have hP : va_P (dC, dI) vwP [(h0, .inr (2, [.int (zI (z2_reached)), .ref q_201, .ref q_202, v2_3, .ref q_204, .ref q_205, v2_6, .ref q_207, v2_8, .ref q_209, .ref q_210, .ref q_211, .ref q_212])), (q_201, .inl (cA_201, 300, .inl (fun j : Nat => zI (a2_idom (j : Int))))), (q_202, .inl (cA_202, 300, .inl (fun j : Nat => zI (a2_order (j : Int))))), (q_204, .inl (cA_204, 300, .inl (fun j : Nat => zI (w2_204 (j : Int))))), (q_205, .inl (cA_205, 300, .inl (fun j : Nat => zI (w2_205 (j : Int))))), (q_207, .inl (cA_207, 600, .inl (fun j : Nat => zI (a2_stack (j : Int))))), (q_209, .inl (cA_209, 300, .inl (fun j : Nat => zI (a2_post (j : Int))))), (q_210, .inl (cA_210, 300, .inl (fun j : Nat => zI (a2_byPost (j : Int))))), (q_211, .inl (cA_211, 300, .inl (fun j : Nat => zI (a_2008 (j : Int))))), (q_212, .inl (cA_212, 300, .inl (fun j : Nat => zI (a2_nextChild (j : Int))))), (hc, .inr (0, [.int (zI (B1)), v_1, v_2, v_3, v_4, v_5, v_6, v_7, v_8, v_9, v_10, v_11, v_12, v_13, v_14, v_15, v_16, v_17, v_18]))] H := hP
        have hD : va_D A [(h0, .inr (2, [.int (zI (z2_reached)), .ref q_201, .ref q_202, v2_3, .ref q_204, .ref q_205, v2_6, .ref q_207, v2_8, .ref q_209, .ref q_210, .ref q_211, .ref q_212])), (q_201, .inl (cA_201, 300, .inl (fun j : Nat => zI (a2_idom (j : Int))))), (q_202, .inl (cA_202, 300, .inl (fun j : Nat => zI (a2_order (j : Int))))), (q_204, .inl (cA_204, 300, .inl (fun j : Nat => zI (w2_204 (j : Int))))), (q_205, .inl (cA_205, 300, .inl (fun j : Nat => zI (w2_205 (j : Int))))), (q_207, .inl (cA_207, 600, .inl (fun j : Nat => zI (a2_stack (j : Int))))), (q_209, .inl (cA_209, 300, .inl (fun j : Nat => zI (a2_post (j : Int))))), (q_210, .inl (cA_210, 300, .inl (fun j : Nat => zI (a2_byPost (j : Int))))), (q_211, .inl (cA_211, 300, .inl (fun j : Nat => zI (a_2008 (j : Int))))), (q_212, .inl (cA_212, 300, .inl (fun j : Nat => zI (a2_nextChild (j : Int))))), (hc, .inr (0, [.int (zI (B1)), v_1, v_2, v_3, v_4, v_5, v_6, v_7, v_8, v_9, v_10, v_11, v_12, v_13, v_14, v_15, v_16, v_17, v_18]))] := hD
        refine lv_aload_n hx hb dX2_makeOrder_17 rfl (lv_at hl 0 rfl) ?_
        refine va_get (D := (dC, dI)) (ci := 2) (v := .ref q_204) (C := RX2) (T := TX2) (N := 13) hx hb hts mem_X2_makeOrder_1 hown hK hP 0 rfl rfl 4 (by decide) (ow (k := 6) rfl) (fun _ h9 => h9) rfl dX2_makeOrder_18 ?_
        refine lv_iload_n hx hb dX2_makeOrder_21 rfl (lv_at hl 2 rfl) ?_
        refine lv_iconst (v := (-1)) hx hb dX2_makeOrder_22 (by decide) ?_
        refine va_iast (i := zI (d2_2)) hx hb hK hP hD hS 3 2 rfl rfl (zI_in (a := d2_2) (n := 300) (by omega) (by omega) (by decide)) dX2_makeOrder_23 (fun H locs hP hD hS => ?_)
        have eQ : upd (fun j : Nat => zI (w2_204 (j : Int))) (zI (d2_2)).toNatClampNeg (-1) = (fun j : Nat => zI (zup w2_204 (d2_2) (-1) (j : Int))) := (congrArg (upd (fun j : Nat => zI (w2_204 (j : Int))) (zI (d2_2)).toNatClampNeg) (show ((-1) : Int32) = zI (-1) by decide)).trans (zI_st w2_204 (e := d2_2) (v := -1) (by omega) (by omega))
        rw [eQ] at hP hD
        clear eQ
        have ra_2009 : ∀ j : Int, -1 ≤ zup w2_204 (d2_2) (-1) j ∧ zup w2_204 (d2_2) (-1) j ≤ 299 := zup_P (P := fun x9 => -1 ≤ x9 ∧ x9 ≤ 299) jw2_204 (show -1 ≤ (-1) ∧ (-1) ≤ 299 by omega)
        obtain ⟨a_2009, ea_2009⟩ : ∃ a9 : Int → Int, a9 = zup w2_204 (d2_2) (-1) := ⟨_, rfl⟩
        rw [← ea_2009] at hP hD ra_2009
        have hP : va_P (dC, dI) vwP [(h0, .inr (2, [.int (zI (z2_reached)), .ref q_201, .ref q_202, v2_3, .ref q_204, .ref q_205, v2_6, .ref q_207, v2_8, .ref q_209, .ref q_210, .ref q_211, .ref q_212])), (q_201, .inl (cA_201, 300, .inl (fun j : Nat => zI (a2_idom (j : Int))))), (q_202, .inl (cA_202, 300, .inl (fun j : Nat => zI (a2_order (j : Int))))), (q_204, .inl (cA_204, 300, .inl (fun j : Nat => zI (a_2009 (j : Int))))), (q_205, .inl (cA_205, 300, .inl (fun j : Nat => zI (w2_205 (j : Int))))), (q_207, .inl (cA_207, 600, .inl (fun j : Nat => zI (a2_stack (j : Int))))), (q_209, .inl (cA_209, 300, .inl (fun j : Nat => zI (a2_post (j : Int))))), (q_210, .inl (cA_210, 300, .inl (fun j : Nat => zI (a2_byPost (j : Int))))), (q_211, .inl (cA_211, 300, .inl (fun j : Nat => zI (a_2008 (j : Int))))), (q_212, .inl (cA_212, 300, .inl (fun j : Nat => zI (a2_nextChild (j : Int))))), (hc, .inr (0, [.int (zI (B1)), v_1, v_2, v_3, v_4, v_5, v_6, v_7, v_8, v_9, v_10, v_11, v_12, v_13, v_14, v_15, v_16, v_17, v_18]))] H := hP
        have hD : va_D A [(h0, .inr (2, [.int (zI (z2_reached)), .ref q_201, .ref q_202, v2_3, .ref q_204, .ref q_205, v2_6, .ref q_207, v2_8, .ref q_209, .ref q_210, .ref q_211, .ref q_212])), (q_201, .inl (cA_201, 300, .inl (fun j : Nat => zI (a2_idom (j : Int))))), (q_202, .inl (cA_202, 300, .inl (fun j : Nat => zI (a2_order (j : Int))))), (q_204, .inl (cA_204, 300, .inl (fun j : Nat => zI (a_2009 (j : Int))))), (q_205, .inl (cA_205, 300, .inl (fun j : Nat => zI (w2_205 (j : Int))))), (q_207, .inl (cA_207, 600, .inl (fun j : Nat => zI (a2_stack (j : Int))))), (q_209, .inl (cA_209, 300, .inl (fun j : Nat => zI (a2_post (j : Int))))), (q_210, .inl (cA_210, 300, .inl (fun j : Nat => zI (a2_byPost (j : Int))))), (q_211, .inl (cA_211, 300, .inl (fun j : Nat => zI (a_2008 (j : Int))))), (q_212, .inl (cA_212, 300, .inl (fun j : Nat => zI (a2_nextChild (j : Int))))), (hc, .inr (0, [.int (zI (B1)), v_1, v_2, v_3, v_4, v_5, v_6, v_7, v_8, v_9, v_10, v_11, v_12, v_13, v_14, v_15, v_16, v_17, v_18]))] := hD
        refine lv_aload_n hx hb dX2_makeOrder_24 rfl (lv_at hl 0 rfl) ?_
        refine va_get (D := (dC, dI)) (ci := 2) (v := .ref q_205) (C := RX2) (T := TX2) (N := 13) hx hb hts mem_X2_makeOrder_1 hown hK hP 0 rfl rfl 5 (by decide) (ow (k := 3) rfl) (fun _ h9 => h9) rfl dX2_makeOrder_25 ?_
        refine lv_iload_n hx hb dX2_makeOrder_28 rfl (lv_at hl 2 rfl) ?_
        refine lv_iconst (v := 1) hx hb dX2_makeOrder_29 (by decide) ?_
        refine va_iast (i := zI (d2_2)) hx hb hK hP hD hS 4 3 rfl rfl (zI_in (a := d2_2) (n := 300) (by omega) (by omega) (by decide)) dX2_makeOrder_30 (fun H locs hP hD hS => ?_)
        have eQ : upd (fun j : Nat => zI (w2_205 (j : Int))) (zI (d2_2)).toNatClampNeg 1 = (fun j : Nat => zI (zup w2_205 (d2_2) (1) (j : Int))) := zI_st w2_205 (e := d2_2) (v := 1) (by omega) (by omega)
        rw [eQ] at hP hD
        clear eQ
        have ra_2010 : ∀ j : Int, 0 ≤ zup w2_205 (d2_2) (1) j ∧ zup w2_205 (d2_2) (1) j ≤ 90000 := zup_P (P := fun x9 => 0 ≤ x9 ∧ x9 ≤ 90000) jw2_205 (show 0 ≤ (1) ∧ (1) ≤ 90000 by omega)
        obtain ⟨a_2010, ea_2010⟩ : ∃ a9 : Int → Int, a9 = zup w2_205 (d2_2) (1) := ⟨_, rfl⟩
        rw [← ea_2010] at hP hD ra_2010
        have hP : va_P (dC, dI) vwP [(h0, .inr (2, [.int (zI (z2_reached)), .ref q_201, .ref q_202, v2_3, .ref q_204, .ref q_205, v2_6, .ref q_207, v2_8, .ref q_209, .ref q_210, .ref q_211, .ref q_212])), (q_201, .inl (cA_201, 300, .inl (fun j : Nat => zI (a2_idom (j : Int))))), (q_202, .inl (cA_202, 300, .inl (fun j : Nat => zI (a2_order (j : Int))))), (q_204, .inl (cA_204, 300, .inl (fun j : Nat => zI (a_2009 (j : Int))))), (q_205, .inl (cA_205, 300, .inl (fun j : Nat => zI (a_2010 (j : Int))))), (q_207, .inl (cA_207, 600, .inl (fun j : Nat => zI (a2_stack (j : Int))))), (q_209, .inl (cA_209, 300, .inl (fun j : Nat => zI (a2_post (j : Int))))), (q_210, .inl (cA_210, 300, .inl (fun j : Nat => zI (a2_byPost (j : Int))))), (q_211, .inl (cA_211, 300, .inl (fun j : Nat => zI (a_2008 (j : Int))))), (q_212, .inl (cA_212, 300, .inl (fun j : Nat => zI (a2_nextChild (j : Int))))), (hc, .inr (0, [.int (zI (B1)), v_1, v_2, v_3, v_4, v_5, v_6, v_7, v_8, v_9, v_10, v_11, v_12, v_13, v_14, v_15, v_16, v_17, v_18]))] H := hP
        have hD : va_D A [(h0, .inr (2, [.int (zI (z2_reached)), .ref q_201, .ref q_202, v2_3, .ref q_204, .ref q_205, v2_6, .ref q_207, v2_8, .ref q_209, .ref q_210, .ref q_211, .ref q_212])), (q_201, .inl (cA_201, 300, .inl (fun j : Nat => zI (a2_idom (j : Int))))), (q_202, .inl (cA_202, 300, .inl (fun j : Nat => zI (a2_order (j : Int))))), (q_204, .inl (cA_204, 300, .inl (fun j : Nat => zI (a_2009 (j : Int))))), (q_205, .inl (cA_205, 300, .inl (fun j : Nat => zI (a_2010 (j : Int))))), (q_207, .inl (cA_207, 600, .inl (fun j : Nat => zI (a2_stack (j : Int))))), (q_209, .inl (cA_209, 300, .inl (fun j : Nat => zI (a2_post (j : Int))))), (q_210, .inl (cA_210, 300, .inl (fun j : Nat => zI (a2_byPost (j : Int))))), (q_211, .inl (cA_211, 300, .inl (fun j : Nat => zI (a_2008 (j : Int))))), (q_212, .inl (cA_212, 300, .inl (fun j : Nat => zI (a2_nextChild (j : Int))))), (hc, .inr (0, [.int (zI (B1)), v_1, v_2, v_3, v_4, v_5, v_6, v_7, v_8, v_9, v_10, v_11, v_12, v_13, v_14, v_15, v_16, v_17, v_18]))] := hD
        refine lv_iinc (v := zI (d2_2 + 1)) (lv' := [(2, .int (zI (d2_2 + 1))), (0, .ref h0), (1, .ref hc)]) hx hb dX2_makeOrder_31 hl (k := 2) rfl (zI_add (d2_2) (1)) (by decide) rfl (fun ls hl => ?_)
        refine lv_goto (tgt := 2) hx hb dX2_makeOrder_34 (by decide) ?_
        exact ih2 (d2_2 + 1) a_2009 a_2010 a_2008 ls H _ (by omega) ra_2009 ra_2010 ra_2008 (fun j h1 h2 => by rw [ea_2008]; unfold zup; split; rfl; exact jf j h1 (by omega)) (fun j h1 h2 => by rw [ea_2009]; unfold zup; split; rfl; exact jp j h1 (by omega)) (fun j h1 h2 => by rw [ea_2010]; unfold zup; split; rfl; exact js j h1 (by omega)) (by omega) (lv_sub hl [1, 2, 0] rfl) hP hD hS
  exact key2 (((B1) - (0) : Int).toNat + 1) 0 a2_place a2_span a2_firstChild ls H _ (by omega) hR_a2_place hR_a2_span hR_a2_firstChild (fun j h1 h2 => by omega) (fun j h1 h2 => by omega) (fun j h1 h2 => by omega) (by omega) (lv_sub hl [1, 2, 0] rfl) hP hD hS
