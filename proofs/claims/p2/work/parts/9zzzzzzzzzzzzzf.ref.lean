theorem dX19_drop_0 : decode cX19_drop 0 = .ok (.aload_n 0, 1) := by decide +kernel
theorem dX19_drop_1 : decode cX19_drop 1 = .ok (.invokevirtual 31, 3) := by decide +kernel
theorem dX19_drop_4 : decode cX19_drop 4 = .ok (.istore_n 3, 1) := by decide +kernel
theorem dX19_drop_5 : decode cX19_drop 5 = .ok (.iconst 0, 1) := by decide +kernel
theorem dX19_drop_6 : decode cX19_drop 6 = .ok (.istore 4, 2) := by decide +kernel
theorem dX19_drop_8 : decode cX19_drop 8 = .ok (.iconst 0, 1) := by decide +kernel
theorem dX19_drop_9 : decode cX19_drop 9 = .ok (.istore 5, 2) := by decide +kernel
theorem dX19_drop_11 : decode cX19_drop 11 = .ok (.iload 5, 2) := by decide +kernel
theorem dX19_drop_13 : decode cX19_drop 13 = .ok (.iload_n 3, 1) := by decide +kernel
theorem dX19_drop_14 : decode cX19_drop 14 = .ok (.if_icmp .ge 61, 3) := by decide +kernel
theorem dX19_drop_75 : decode cX19_drop 75 = .ok (.aload_n 0, 1) := by decide +kernel
theorem dX19_drop_76 : decode cX19_drop 76 = .ok (.getfield 37, 3) := by decide +kernel
theorem dX19_drop_79 : decode cX19_drop 79 = .ok (.invokevirtual 53, 3) := by decide +kernel
theorem dX19_drop_82 : decode cX19_drop 82 = .ok (.iload 4, 2) := by decide +kernel
theorem dX19_drop_84 : decode cX19_drop 84 = .ok (.if_icmp .le 23, 3) := by decide +kernel
theorem dX19_drop_107 : decode cX19_drop 107 = .ok (.iconst 0, 1) := by decide +kernel
theorem dX19_drop_108 : decode cX19_drop 108 = .ok (.istore 5, 2) := by decide +kernel
theorem dX19_drop_110 : decode cX19_drop 110 = .ok (.iload 5, 2) := by decide +kernel
theorem dX19_drop_112 : decode cX19_drop 112 = .ok (.iload 4, 2) := by decide +kernel
theorem dX19_drop_114 : decode cX19_drop 114 = .ok (.if_icmp .ge 152, 3) := by decide +kernel
theorem dX19_drop_266 : decode cX19_drop 266 = .ok (.return_, 1) := by decide +kernel
theorem dX19_drop_117 : decode cX19_drop 117 = .ok (.aload_n 0, 1) := by decide +kernel
theorem dX19_drop_118 : decode cX19_drop 118 = .ok (.iload 5, 2) := by decide +kernel
theorem dX19_drop_120 : decode cX19_drop 120 = .ok (.invokevirtual 57, 3) := by decide +kernel
theorem dX19_drop_123 : decode cX19_drop 123 = .ok (.astore 6, 2) := by decide +kernel
theorem dX19_drop_125 : decode cX19_drop 125 = .ok (.aload 6, 2) := by decide +kernel
theorem dX19_drop_127 : decode cX19_drop 127 = .ok (.getfield 60, 3) := by decide +kernel
theorem dX19_drop_130 : decode cX19_drop 130 = .ok (.getfield 64, 3) := by decide +kernel
theorem dX19_drop_133 : decode cX19_drop 133 = .ok (.bipush 32, 2) := by decide +kernel
theorem dX19_drop_135 : decode cX19_drop 135 = .ok (.if_icmp .eq 27, 3) := by decide +kernel
theorem dX19_drop_162 : decode cX19_drop 162 = .ok (.iconst 0, 1) := by decide +kernel
theorem dX19_drop_163 : decode cX19_drop 163 = .ok (.istore 7, 2) := by decide +kernel
theorem dX19_drop_165 : decode cX19_drop 165 = .ok (.iload 7, 2) := by decide +kernel
theorem dX19_drop_167 : decode cX19_drop 167 = .ok (.aload 6, 2) := by decide +kernel
theorem dX19_drop_169 : decode cX19_drop 169 = .ok (.getfield 76, 3) := by decide +kernel
theorem dX19_drop_172 : decode cX19_drop 172 = .ok (.invokevirtual 53, 3) := by decide +kernel
theorem dX19_drop_175 : decode cX19_drop 175 = .ok (.if_icmp .ge 85, 3) := by decide +kernel
theorem dX19_drop_260 : decode cX19_drop 260 = .ok (.iinc 5 1, 3) := by decide +kernel
theorem dX19_drop_263 : decode cX19_drop 263 = .ok (.goto (-153), 3) := by decide +kernel
theorem dX19_drop_178 : decode cX19_drop 178 = .ok (.aload 6, 2) := by decide +kernel
theorem dX19_drop_180 : decode cX19_drop 180 = .ok (.getfield 76, 3) := by decide +kernel
theorem dX19_drop_183 : decode cX19_drop 183 = .ok (.iload 7, 2) := by decide +kernel
theorem dX19_drop_185 : decode cX19_drop 185 = .ok (.invokevirtual 41, 3) := by decide +kernel
theorem dX19_drop_188 : decode cX19_drop 188 = .ok (.checkcast 79, 3) := by decide +kernel
theorem dX19_drop_191 : decode cX19_drop 191 = .ok (.astore 8, 2) := by decide +kernel
theorem dX19_drop_193 : decode cX19_drop 193 = .ok (.aload 8, 2) := by decide +kernel
theorem dX19_drop_195 : decode cX19_drop 195 = .ok (.getfield 81, 3) := by decide +kernel
theorem dX19_drop_198 : decode cX19_drop 198 = .ok (.iconst 1, 1) := by decide +kernel
theorem dX19_drop_199 : decode cX19_drop 199 = .ok (.isub, 1) := by decide +kernel
theorem dX19_drop_200 : decode cX19_drop 200 = .ok (.istore 9, 2) := by decide +kernel
theorem dX19_drop_202 : decode cX19_drop 202 = .ok (.iload 9, 2) := by decide +kernel
theorem dX19_drop_204 : decode cX19_drop 204 = .ok (.ifCond .lt 50, 3) := by decide +kernel
theorem dX19_drop_254 : decode cX19_drop 254 = .ok (.iinc 7 1, 3) := by decide +kernel
theorem dX19_drop_257 : decode cX19_drop 257 = .ok (.goto (-92), 3) := by decide +kernel
theorem dX19_drop_207 : decode cX19_drop 207 = .ok (.aload_n 2, 1) := by decide +kernel
theorem dX19_drop_208 : decode cX19_drop 208 = .ok (.aload 8, 2) := by decide +kernel
theorem dX19_drop_210 : decode cX19_drop 210 = .ok (.getfield 84, 3) := by decide +kernel
theorem dX19_drop_213 : decode cX19_drop 213 = .ok (.iload 9, 2) := by decide +kernel
theorem dX19_drop_215 : decode cX19_drop 215 = .ok (.iaload, 1) := by decide +kernel
theorem dX19_drop_216 : decode cX19_drop 216 = .ok (.iaload, 1) := by decide +kernel
theorem dX19_drop_217 : decode cX19_drop 217 = .ok (.ifCond .ge 13, 3) := by decide +kernel
theorem dX19_drop_230 : decode cX19_drop 230 = .ok (.aload 8, 2) := by decide +kernel
theorem dX19_drop_232 : decode cX19_drop 232 = .ok (.getfield 84, 3) := by decide +kernel
theorem dX19_drop_235 : decode cX19_drop 235 = .ok (.iload 9, 2) := by decide +kernel
theorem dX19_drop_237 : decode cX19_drop 237 = .ok (.aload_n 2, 1) := by decide +kernel
theorem dX19_drop_238 : decode cX19_drop 238 = .ok (.aload 8, 2) := by decide +kernel
theorem dX19_drop_240 : decode cX19_drop 240 = .ok (.getfield 84, 3) := by decide +kernel
theorem dX19_drop_243 : decode cX19_drop 243 = .ok (.iload 9, 2) := by decide +kernel
theorem dX19_drop_245 : decode cX19_drop 245 = .ok (.iaload, 1) := by decide +kernel
theorem dX19_drop_246 : decode cX19_drop 246 = .ok (.iaload, 1) := by decide +kernel
theorem dX19_drop_247 : decode cX19_drop 247 = .ok (.iastore, 1) := by decide +kernel
theorem dX19_drop_248 : decode cX19_drop 248 = .ok (.iinc 9 (-1), 3) := by decide +kernel
theorem dX19_drop_251 : decode cX19_drop 251 = .ok (.goto (-49), 3) := by decide +kernel
theorem dX19_drop_220 : decode cX19_drop 220 = .ok (.aload 8, 2) := by decide +kernel
theorem dX19_drop_222 : decode cX19_drop 222 = .ok (.iload 9, 2) := by decide +kernel
theorem dX19_drop_224 : decode cX19_drop 224 = .ok (.invokevirtual 88, 3) := by decide +kernel
theorem dX19_drop_227 : decode cX19_drop 227 = .ok (.goto 21, 3) := by decide +kernel
theorem dX19_drop_138 : decode cX19_drop 138 = .ok (.aload 6, 2) := by decide +kernel
theorem dX19_drop_140 : decode cX19_drop 140 = .ok (.aload_n 2, 1) := by decide +kernel
theorem dX19_drop_141 : decode cX19_drop 141 = .ok (.aload 6, 2) := by decide +kernel
theorem dX19_drop_143 : decode cX19_drop 143 = .ok (.getfield 70, 3) := by decide +kernel
theorem dX19_drop_146 : decode cX19_drop 146 = .ok (.iaload, 1) := by decide +kernel
theorem dX19_drop_147 : decode cX19_drop 147 = .ok (.putfield 70, 3) := by decide +kernel
theorem dX19_drop_150 : decode cX19_drop 150 = .ok (.aload 6, 2) := by decide +kernel
theorem dX19_drop_152 : decode cX19_drop 152 = .ok (.aload_n 2, 1) := by decide +kernel
theorem dX19_drop_153 : decode cX19_drop 153 = .ok (.aload 6, 2) := by decide +kernel
theorem dX19_drop_155 : decode cX19_drop 155 = .ok (.getfield 73, 3) := by decide +kernel
theorem dX19_drop_158 : decode cX19_drop 158 = .ok (.iaload, 1) := by decide +kernel
theorem dX19_drop_159 : decode cX19_drop 159 = .ok (.putfield 73, 3) := by decide +kernel
theorem dX19_drop_87 : decode cX19_drop 87 = .ok (.aload_n 0, 1) := by decide +kernel
theorem dX19_drop_88 : decode cX19_drop 88 = .ok (.getfield 37, 3) := by decide +kernel
theorem dX19_drop_91 : decode cX19_drop 91 = .ok (.aload_n 0, 1) := by decide +kernel
theorem dX19_drop_92 : decode cX19_drop 92 = .ok (.getfield 37, 3) := by decide +kernel
theorem dX19_drop_95 : decode cX19_drop 95 = .ok (.invokevirtual 53, 3) := by decide +kernel
theorem dX19_drop_98 : decode cX19_drop 98 = .ok (.iconst 1, 1) := by decide +kernel
theorem dX19_drop_99 : decode cX19_drop 99 = .ok (.isub, 1) := by decide +kernel
theorem dX19_drop_100 : decode cX19_drop 100 = .ok (.invokevirtual 54, 3) := by decide +kernel
theorem dX19_drop_103 : decode cX19_drop 103 = .ok (.pop, 1) := by decide +kernel
theorem dX19_drop_104 : decode cX19_drop 104 = .ok (.goto (-29), 3) := by decide +kernel
theorem dX19_drop_17 : decode cX19_drop 17 = .ok (.aload_n 2, 1) := by decide +kernel
theorem dX19_drop_18 : decode cX19_drop 18 = .ok (.iload 5, 2) := by decide +kernel
theorem dX19_drop_20 : decode cX19_drop 20 = .ok (.aload_n 1, 1) := by decide +kernel
theorem dX19_drop_21 : decode cX19_drop 21 = .ok (.iload 5, 2) := by decide +kernel
theorem dX19_drop_23 : decode cX19_drop 23 = .ok (.baload, 1) := by decide +kernel
theorem dX19_drop_24 : decode cX19_drop 24 = .ok (.ifCond .eq 8, 3) := by decide +kernel
theorem dX19_drop_32 : decode cX19_drop 32 = .ok (.iconst (-1), 1) := by decide +kernel
theorem dX19_drop_33 : decode cX19_drop 33 = .ok (.iastore, 1) := by decide +kernel
theorem dX19_drop_34 : decode cX19_drop 34 = .ok (.aload_n 1, 1) := by decide +kernel
theorem dX19_drop_35 : decode cX19_drop 35 = .ok (.iload 5, 2) := by decide +kernel
theorem dX19_drop_37 : decode cX19_drop 37 = .ok (.baload, 1) := by decide +kernel
theorem dX19_drop_38 : decode cX19_drop 38 = .ok (.ifCond .ne 6, 3) := by decide +kernel
theorem dX19_drop_44 : decode cX19_drop 44 = .ok (.aload_n 0, 1) := by decide +kernel
theorem dX19_drop_45 : decode cX19_drop 45 = .ok (.getfield 37, 3) := by decide +kernel
theorem dX19_drop_48 : decode cX19_drop 48 = .ok (.iload 4, 2) := by decide +kernel
theorem dX19_drop_50 : decode cX19_drop 50 = .ok (.aload_n 0, 1) := by decide +kernel
theorem dX19_drop_51 : decode cX19_drop 51 = .ok (.getfield 37, 3) := by decide +kernel
theorem dX19_drop_54 : decode cX19_drop 54 = .ok (.iload 5, 2) := by decide +kernel
theorem dX19_drop_56 : decode cX19_drop 56 = .ok (.invokevirtual 41, 3) := by decide +kernel
theorem dX19_drop_59 : decode cX19_drop 59 = .ok (.checkcast 47, 3) := by decide +kernel
theorem dX19_drop_62 : decode cX19_drop 62 = .ok (.invokevirtual 49, 3) := by decide +kernel
theorem dX19_drop_65 : decode cX19_drop 65 = .ok (.pop, 1) := by decide +kernel
theorem dX19_drop_66 : decode cX19_drop 66 = .ok (.iinc 4 1, 3) := by decide +kernel
theorem dX19_drop_69 : decode cX19_drop 69 = .ok (.iinc 5 1, 3) := by decide +kernel
theorem dX19_drop_72 : decode cX19_drop 72 = .ok (.goto (-61), 3) := by decide +kernel
theorem dX19_drop_41 : decode cX19_drop 41 = .ok (.goto 28, 3) := by decide +kernel
theorem dX19_drop_27 : decode cX19_drop 27 = .ok (.iload 4, 2) := by decide +kernel
theorem dX19_drop_29 : decode cX19_drop 29 = .ok (.goto 4, 3) := by decide +kernel
def o_P19_dropE : List Cond := [.methodLink RX19 31 yX13_size, .instanceMethod yX13_size, .selects RX13 yX13_size yX13_size, .initialized RX13, .fieldLink RX19 37 "SsaForgeModel$Code" "all" "Ljava/util/ArrayList;", .methodLink RX19 53 yJx4a65c_size_8abf5, .instanceMethod yJx4a65c_size_8abf5, .selects RJx4a65c yJx4a65c_size_8abf5 yJx4a65c_size_8abf5, .initialized RJx4a65c, .methodLink RX19 57 yX13_get, .instanceMethod yX13_get, .selects RX13 yX13_get yX13_get, .fieldLink RX19 60 "SsaForgeModel$Block" "end" "LSsaForgeModel$Row;", .fieldLink RX19 64 "SsaForgeModel$Row" "op" "I", .fieldLink RX19 76 "SsaForgeModel$Block" "phis" "Ljava/util/ArrayList;", .methodLink RX19 41 yJx4a65c_get_915e3, .instanceMethod yJx4a65c_get_915e3, .selects RJx4a65c yJx4a65c_get_915e3 yJx4a65c_get_915e3, .classLink RX19 79 "SsaForgeModel$Phi", .fieldLink RX19 81 "SsaForgeModel$Phi" "n" "I", .fieldLink RX19 84 "SsaForgeModel$Phi" "preds" "[I", .methodLink RX19 88 yX15_drop, .instanceMethod yX15_drop, .selects RX15 yX15_drop yX15_drop, .initialized RX15, .fieldLink RX19 70 "SsaForgeModel$Block" "first" "I", .fieldLink RX19 73 "SsaForgeModel$Block" "second" "I", .methodLink RX19 54 yJx4a65c_remove_915e3, .instanceMethod yJx4a65c_remove_915e3, .selects RJx4a65c yJx4a65c_remove_915e3 yJx4a65c_remove_915e3, .classLink RX19 47 "SsaForgeModel$Block", .methodLink RX19 49 yJx4a65c_set_bcc79, .instanceMethod yJx4a65c_set_bcc79, .selects RJx4a65c yJx4a65c_set_bcc79 yJx4a65c_set_bcc79]
def v_P19_dropE : List Cond := .code yX19_drop cX19_drop 10 none :: (o_P19_dropE ++ (v_PC_size ++ (wsX130 ++ (v_PL_size ++ (v_PC_get ++ (wsX120 ++ (wsX170 ++ (v_PL_get ++ (wsX150 ++ (v_PP_dropE ++ (v_PL_remove ++ (v_PL_set ++ []))))))))))))
theorem mow_P19_dropE : ∀ w ∈ o_P19_dropE, w ∈ v_P19_dropE := fun _ h => List.mem_cons_of_mem _ (List.mem_append_left _ h)
theorem mem_P19_dropE_0 : ∀ w ∈ v_PC_size, w ∈ v_P19_dropE := fun _ h => List.mem_cons_of_mem _ (List.mem_append_right _ (List.mem_append_left _ h))
theorem mem_P19_dropE_1 : ∀ w ∈ wsX130, w ∈ v_P19_dropE := fun _ h => List.mem_cons_of_mem _ (List.mem_append_right _ (List.mem_append_right _ (List.mem_append_left _ h)))
theorem mem_P19_dropE_2 : ∀ w ∈ v_PL_size, w ∈ v_P19_dropE := fun _ h => List.mem_cons_of_mem _ (List.mem_append_right _ (List.mem_append_right _ (List.mem_append_right _ (List.mem_append_left _ h))))
theorem mem_P19_dropE_3 : ∀ w ∈ v_PC_get, w ∈ v_P19_dropE := fun _ h => List.mem_cons_of_mem _ (List.mem_append_right _ (List.mem_append_right _ (List.mem_append_right _ (List.mem_append_right _ (List.mem_append_left _ h)))))
theorem mem_P19_dropE_4 : ∀ w ∈ wsX120, w ∈ v_P19_dropE := fun _ h => List.mem_cons_of_mem _ (List.mem_append_right _ (List.mem_append_right _ (List.mem_append_right _ (List.mem_append_right _ (List.mem_append_right _ (List.mem_append_left _ h))))))
theorem mem_P19_dropE_5 : ∀ w ∈ wsX170, w ∈ v_P19_dropE := fun _ h => List.mem_cons_of_mem _ (List.mem_append_right _ (List.mem_append_right _ (List.mem_append_right _ (List.mem_append_right _ (List.mem_append_right _ (List.mem_append_right _ (List.mem_append_left _ h)))))))
theorem mem_P19_dropE_6 : ∀ w ∈ v_PL_get, w ∈ v_P19_dropE := fun _ h => List.mem_cons_of_mem _ (List.mem_append_right _ (List.mem_append_right _ (List.mem_append_right _ (List.mem_append_right _ (List.mem_append_right _ (List.mem_append_right _ (List.mem_append_right _ (List.mem_append_left _ h))))))))
theorem mem_P19_dropE_7 : ∀ w ∈ wsX150, w ∈ v_P19_dropE := fun _ h => List.mem_cons_of_mem _ (List.mem_append_right _ (List.mem_append_right _ (List.mem_append_right _ (List.mem_append_right _ (List.mem_append_right _ (List.mem_append_right _ (List.mem_append_right _ (List.mem_append_right _ (List.mem_append_left _ h)))))))))
theorem mem_P19_dropE_8 : ∀ w ∈ v_PP_dropE, w ∈ v_P19_dropE := fun _ h => List.mem_cons_of_mem _ (List.mem_append_right _ (List.mem_append_right _ (List.mem_append_right _ (List.mem_append_right _ (List.mem_append_right _ (List.mem_append_right _ (List.mem_append_right _ (List.mem_append_right _ (List.mem_append_right _ (List.mem_append_left _ h))))))))))
theorem mem_P19_dropE_9 : ∀ w ∈ v_PL_remove, w ∈ v_P19_dropE := fun _ h => List.mem_cons_of_mem _ (List.mem_append_right _ (List.mem_append_right _ (List.mem_append_right _ (List.mem_append_right _ (List.mem_append_right _ (List.mem_append_right _ (List.mem_append_right _ (List.mem_append_right _ (List.mem_append_right _ (List.mem_append_right _ (List.mem_append_left _ h)))))))))))
theorem mem_P19_dropE_10 : ∀ w ∈ v_PL_set, w ∈ v_P19_dropE := fun _ h => List.mem_cons_of_mem _ (List.mem_append_right _ (List.mem_append_right _ (List.mem_append_right _ (List.mem_append_right _ (List.mem_append_right _ (List.mem_append_right _ (List.mem_append_right _ (List.mem_append_right _ (List.mem_append_right _ (List.mem_append_right _ (List.mem_append_right _ (List.mem_append_left _ h))))))))))))
set_option maxRecDepth 20000 in
theorem gw_P19_dropE : v_P19_dropE.all goodWord = true := by decide +kernel
set_option maxRecDepth 20000 in
theorem g_P19_dropE_PC_size : GoodIn v_P19_dropE (wsV RX19 31 RX13 yX13_size v_PC_size) := goodIn_app (goodIn_sub (fun w h => mow_P19_dropE w (by revert w h; decide +kernel)) (by decide +kernel)) (goodIn_sub mem_P19_dropE_0 gw_PC_size)
set_option maxRecDepth 20000 in
theorem g_P19_dropE_PL_size : GoodIn v_P19_dropE (wsV RX19 53 RJx4a65c yJx4a65c_size_8abf5 v_PL_size) := goodIn_app (goodIn_sub (fun w h => mow_P19_dropE w (by revert w h; decide +kernel)) (by decide +kernel)) (goodIn_sub mem_P19_dropE_2 gw_PL_size)
set_option maxRecDepth 20000 in
theorem g_P19_dropE_PC_get : GoodIn v_P19_dropE (wsV RX19 57 RX13 yX13_get v_PC_get) := goodIn_app (goodIn_sub (fun w h => mow_P19_dropE w (by revert w h; decide +kernel)) (by decide +kernel)) (goodIn_sub mem_P19_dropE_3 gw_PC_get)
set_option maxRecDepth 20000 in
theorem g_P19_dropE_PL_get : GoodIn v_P19_dropE (wsV RX19 41 RJx4a65c yJx4a65c_get_915e3 v_PL_get) := goodIn_app (goodIn_sub (fun w h => mow_P19_dropE w (by revert w h; decide +kernel)) (by decide +kernel)) (goodIn_sub mem_P19_dropE_6 gw_PL_get)
set_option maxRecDepth 20000 in
theorem g_P19_dropE_PP_dropE : GoodIn v_P19_dropE (wsV RX19 88 RX15 yX15_drop v_PP_dropE) := goodIn_app (goodIn_sub (fun w h => mow_P19_dropE w (by revert w h; decide +kernel)) (by decide +kernel)) (goodIn_sub mem_P19_dropE_8 gw_PP_dropE)
set_option maxRecDepth 20000 in
theorem g_P19_dropE_PL_remove : GoodIn v_P19_dropE (wsV RX19 54 RJx4a65c yJx4a65c_remove_915e3 v_PL_remove) := goodIn_app (goodIn_sub (fun w h => mow_P19_dropE w (by revert w h; decide +kernel)) (by decide +kernel)) (goodIn_sub mem_P19_dropE_9 gw_PL_remove)
set_option maxRecDepth 20000 in
theorem g_P19_dropE_PL_set : GoodIn v_P19_dropE (wsV RX19 49 RJx4a65c yJx4a65c_set_bcc79 v_PL_set) := goodIn_app (goodIn_sub (fun w h => mow_P19_dropE w (by revert w h; decide +kernel)) (by decide +kernel)) (goodIn_sub mem_P19_dropE_10 gw_PL_set)
set_option maxHeartbeats 4000000 in
set_option maxRecDepth 100000 in
theorem c_P19_dropE (l : Launch) (dC : Nat → ClassId) (dI : Nat → Nat → Nat) (cI : ClassId) (cZ : ClassId) (hc : Nat) (v13_0 : Value) (v13_1 : Value) (v13_2 : Value) (v13_3 : Value) (v13_4 : Value) (v13_6 : Value) (la : Nat) (q_s : Nat) (cS : ClassId) (n_s : Nat) (a_s : Int → Int) (q_n : Nat) (cN : ClassId) (n_n : Nat) (a_n : Int → Int) (cO : ClassId) (L : List Nat) (P : PO) (sx_ed : Nat) (hNn_s : n_s ≤ 1000) (hR_a_s : ∀ j : Int, 0 ≤ a_s j ∧ a_s j ≤ 1) (hNn_n : n_n ≤ 1000) (hR_a_n : ∀ j : Int, -1 ≤ a_n j ∧ a_n j ≤ 299) (hX_a : ALP L P cO cI cZ sx_ed la) (hX_g : GLF L P cO cI cZ sx_ed) (hX_la : la ∈ L ∧ P.kd la = 30 ∧ P.ek la = 12 ∧ P.ow la = la) (hX_K : KST P la a_s) (hNb : P.lz la ≤ n_s ∧ P.lz la ≤ n_n) (sz : Nat) : Met l yX19_drop v_P19_dropE ({ frames := 4, cells := 0, slots := 0, locals := 106 }) (va_Pc [.ref hc, .ref q_s, .ref q_n] (fun U => U.heap.size = sz ∧ va_P (dC, dI) vwQ ([(hc, .inr (12, [v13_0, v13_1, v13_2, v13_3, v13_4, .ref la, v13_6])), (q_s, .inl (cS, n_s, .inl (fun j : Nat => zI (a_s (j : Int))))), (q_n, .inl (cN, n_n, .inl (fun j : Nat => zI (a_n (j : Int)))))] ++ va_pl L (pE P)) U.heap ∧ va_K (dC, dI) vwQ [(cS, .boolean), (cN, .int), (cO, .object "java/lang/Object"), (cI, .int), (cZ, .boolean)] U ∧ va_D (fun _ => True) ([(hc, .inr (12, [v13_0, v13_1, v13_2, v13_3, v13_4, .ref la, v13_6])), (q_s, .inl (cS, n_s, .inl (fun j : Nat => zI (a_s (j : Int))))), (q_n, .inl (cN, n_n, .inl (fun j : Nat => zI (a_n (j : Int)))))] ++ va_pl L (pE P)) ∧ va_Nw (.castable "SsaForgeModel$Block" "SsaForgeModel$Block") U ∧ va_Nw (.castable "SsaForgeModel$Phi" "SsaForgeModel$Phi") U ∧ va_Nw (.castable "SsaForgeModel$Row" "java/lang/Object") U ∧ va_Nw (.castable "SsaForgeModel$Phi" "java/lang/Object") U ∧ va_Nw (.castable "SsaForgeModel$Block" "java/lang/Object") U)) (va_Qv (fun _ : Unit => True) (fun (_ : Unit) (t : State) => ∃ (a0_9 : Int → Int) (Pn_9 : PO), ((∀ j : Int, -1 ≤ a0_9 j ∧ a0_9 j ≤ 299) ∧ (KEG [la] L P L Pn_9 ∧ ALP L Pn_9 cO cI cZ sx_ed la ∧ (Pn_9.tot 2 la ≤ P.tot 2 la ∧ Pn_9.tot 1 la ≤ P.tot 1 la) ∧ DRX P Pn_9 la a_s a0_9)) ∧ va_P (dC, dI) vwQ ([(hc, .inr (12, [v13_0, v13_1, v13_2, v13_3, v13_4, .ref la, v13_6])), (q_s, .inl (cS, n_s, .inl (fun j : Nat => zI (a_s (j : Int))))), (q_n, .inl (cN, n_n, .inl (fun j : Nat => zI (a0_9 (j : Int)))))] ++ va_pl L (pE Pn_9)) t.heap ∧ va_K (dC, dI) vwQ [(cS, .boolean), (cN, .int), (cO, .object "java/lang/Object"), (cI, .int), (cZ, .boolean)] t ∧ va_D (va_A ([(hc, .inr (12, [v13_0, v13_1, v13_2, v13_3, v13_4, .ref la, v13_6])), (q_s, .inl (cS, n_s, .inl (fun j : Nat => zI (a_s (j : Int))))), (q_n, .inl (cN, n_n, .inl (fun j : Nat => zI (a_n (j : Int)))))] ++ va_pl L (pE P)) sz) ([(hc, .inr (12, [v13_0, v13_1, v13_2, v13_3, v13_4, .ref la, v13_6])), (q_s, .inl (cS, n_s, .inl (fun j : Nat => zI (a_s (j : Int))))), (q_n, .inl (cN, n_n, .inl (fun j : Nat => zI (a0_9 (j : Int)))))] ++ va_pl L (pE Pn_9))) (va_A ([(hc, .inr (12, [v13_0, v13_1, v13_2, v13_3, v13_4, .ref la, v13_6])), (q_s, .inl (cS, n_s, .inl (fun j : Nat => zI (a_s (j : Int))))), (q_n, .inl (cN, n_n, .inl (fun j : Nat => zI (a_n (j : Int)))))] ++ va_pl L (pE P)) sz)) 0 0 (va_A ([(hc, .inr (12, [v13_0, v13_1, v13_2, v13_3, v13_4, .ref la, v13_6])), (q_s, .inl (cS, n_s, .inl (fun j : Nat => zI (a_s (j : Int))))), (q_n, .inl (cN, n_n, .inl (fun j : Nat => zI (a_n (j : Int)))))] ++ va_pl L (pE P)) sz) := by
  refine Met.ofW (cc := cX19_drop) (maxL := 10) (ret := none) (by decide) rfl ?_
  intro p e s m args below meth c s₁ B hml hv
  obtain ⟨rfl, hsz, hP, hK, hD0, hp0, hp1, hp2, hp3, hp4⟩ := hv
  have hx := B.exec
  have hb := B.bytes
  have hr := B.returns
  have hts := atoms_spec (ws := v_P19_dropE) B.pre
  have hown : s.vm.findClass RX19 = some m.cls := findClass_of_methodNamed B.named
  have hlocks := B.notSynchronized
  have ow : ∀ {k : Nat} {w : Cond}, o_P19_dropE[k]? = some w → w.before ([.ref hc, .ref q_s, .ref q_n] : List Value).toArray s = true := fun h => hts _ (mow_P19_dropE _ (List.mem_of_getElem? h))
  subst hsz
  have hD := hD0.self (sz := s.heap.size)
  generalize hAe : va_A ([(hc, .inr (12, [v13_0, v13_1, v13_2, v13_3, v13_4, .ref la, v13_6])), (q_s, .inl (cS, n_s, .inl (fun j : Nat => zI (a_s (j : Int))))), (q_n, .inl (cN, n_n, .inl (fun j : Nat => zI (a_n (j : Int)))))] ++ va_pl L (pE P)) s.heap.size = A at hD ⊢
  have hA : ∀ q : Nat, s.heap.size ≤ q → A q := fun q h => by rw [← hAe]; exact Or.inr h
  have hS : va_S A s.heap s.heap [] := va_S.rf
  have hP : va_P (dC, dI) vwQ ([(hc, .inr (12, [v13_0, v13_1, v13_2, v13_3, v13_4, .ref la, v13_6])), (q_s, .inl (cS, n_s, .inl (fun j : Nat => zI (a_s (j : Int))))), (q_n, .inl (cN, n_n, .inl (fun j : Nat => zI (a_n (j : Int)))))] ++ va_pl L (pE P)) s.heap := hP
  have hl := lv_entry ([.ref hc, .ref q_s, .ref q_n]) (n := 10) (Nat.le_of_ble_eq_true rfl)
  rw [lg_entry_eq]
  generalize (lg_sl ([.ref hc, .ref q_s, .ref q_n]) ++ List.replicate (10 - (lg_sl ([.ref hc, .ref q_s, .ref q_n])).length) Slot.unset).toArray = ls at hl ⊢
  have hl : lv_has ls 10 [(0, .ref hc), (1, .ref q_s), (2, .ref q_n)] := hl
  obtain ⟨H, hH⟩ : ∃ H, H = s.heap := ⟨_, rfl⟩
  rw [← hH] at hP
  have hS : va_S A s.heap H [] := by rw [hH]; exact hS
  rw [← hH]
  refine zW_cap (fun Q hQ => ?_)
  have hX_g9 := hX_g
  have hC_la := hX_la
  have hla := hX_a.lok.2.2.1
  have hla2 := hX_a.1.1.2.1
  have hdr0 := DR1.first P la a_s a_n
  refine lv_aload_n hx hb dX19_drop_0 rfl (lv_at hl 0 rfl) ?_
  have hX_l := (show LOK L P cO 12 la from (by have q9 := (hX_g9.gla la hC_la.1 hC_la.2.1).1; rw [hC_la.2.2.1] at q9; exact q9))
  have hlz9 := hX_l.2.2.1
  have hPc := hP.part (X := [(hc, .inr (12, [v13_0, v13_1, v13_2, v13_3, v13_4, .ref la, v13_6])), (q_s, .inl (cS, n_s, .inl (fun j : Nat => zI (a_s (j : Int))))), (q_n, .inl (cN, n_n, .inl (fun j : Nat => zI (a_n (j : Int)))))]) (cx := [(hc, .inr (12, [v13_0, v13_1, v13_2, v13_3, v13_4, .ref la, v13_6]))]) (pl := va_pl L (pE P)) [0] rfl
  have hDc := hD.part (X := [(hc, .inr (12, [v13_0, v13_1, v13_2, v13_3, v13_4, .ref la, v13_6])), (q_s, .inl (cS, n_s, .inl (fun j : Nat => zI (a_s (j : Int))))), (q_n, .inl (cN, n_n, .inl (fun j : Nat => zI (a_n (j : Int)))))]) (cx := [(hc, .inr (12, [v13_0, v13_1, v13_2, v13_3, v13_4, .ref la, v13_6]))]) (pl := va_pl L (pE P)) [0] (by decide) rfl
  have hKc := hK.sub (tys' := [(cO, .object "java/lang/Object")]) [2] rfl
  have hFc := va_freeP (X := [(hc, .inr (12, [v13_0, v13_1, v13_2, v13_3, v13_4, .ref la, v13_6])), (q_s, .inl (cS, n_s, .inl (fun j : Nat => zI (a_s (j : Int))))), (q_n, .inl (cN, n_n, .inl (fun j : Nat => zI (a_n (j : Int)))))]) (cx := [(hc, .inr (12, [v13_0, v13_1, v13_2, v13_3, v13_4, .ref la, v13_6]))]) (pl := va_pl L (pE P)) hD hS hA [0] rfl
  refine va_calli (va_runV (As := []) (rest := []) ⟨hx, hb, hml, hown, hts⟩ (c_PC_size l dC dI hc v13_0 v13_1 v13_2 v13_3 v13_4 v13_6 la cO L P hX_l H.size) (cwV 0 hts g_P19_dropE_PC_size rfl rfl rfl (by decide +kernel) ⟨(Nat.le_of_ble_eq_true rfl), (Nat.le_of_ble_eq_true rfl)⟩) ⟨fun a U g mk q => by obtain ⟨q0, q1, qP, qK, qD⟩ := q; exact ⟨q0, q1, qP, va_K.moved (u := U) (U := U.calling g mk a) (Vm.Alike.refl U.vm) qK, qD⟩, va_recv hKc hPc (ci := 12) (q0 := 0) rfl rfl, fun U hU hW => ⟨rfl, by rw [hU], by rw [hU]; exact hPc, va_K.moved hW.alike hKc, hDc.weaken (fun _ _ _ _ => trivial)⟩⟩ rfl rfl hl.1 rfl (lv_room (Nat.le_of_ble_eq_true rfl)) dX19_drop_1 ⟨(Nat.le_of_ble_eq_true rfl), (Nat.le_of_ble_eq_true rfl)⟩) hS (fun q _ h => hFc q h) hFc (fun r_1 u t H1 locs ht hvm hw hB hz1 hk1 hS => ?_)
  obtain ⟨hP1, hK1, hD1⟩ := hB
  rw [ht] at hP1
  have hK1 := va_K.moved hvm.symm hK1
  obtain ⟨hP, hD⟩ := va_joinP (X := [(hc, .inr (12, [v13_0, v13_1, v13_2, v13_3, v13_4, .ref la, v13_6])), (q_s, .inl (cS, n_s, .inl (fun j : Nat => zI (a_s (j : Int))))), (q_n, .inl (cN, n_n, .inl (fun j : Nat => zI (a_n (j : Int)))))]) (cx := [(hc, .inr (12, [v13_0, v13_1, v13_2, v13_3, v13_4, .ref la, v13_6]))]) (wr := [(q_s, .inl (cS, n_s, .inl (fun j : Nat => zI (a_s (j : Int))))), (q_n, .inl (cN, n_n, .inl (fun j : Nat => zI (a_n (j : Int)))))]) (rx := [(hc, .inr (12, [v13_0, v13_1, v13_2, v13_3, v13_4, .ref la, v13_6]))]) (pl := va_pl L (pE P)) (pl1 := va_pl L (pE P)) hP hD [0] [1, 2] rfl rfl (by decide) (by decide) hk1 hFc hP1 hD1
  have hK := (hK.sub (tys' := [(cS, .boolean), (cN, .int), (cI, .int), (cZ, .boolean)]) [0, 1, 3, 4] rfl).app hK1
  generalize H1 = H at hP hS ⊢
  have hP : va_P (dC, dI) vwQ ([(q_s, .inl (cS, n_s, .inl (fun j : Nat => zI (a_s (j : Int))))), (q_n, .inl (cN, n_n, .inl (fun j : Nat => zI (a_n (j : Int))))), (hc, .inr (12, [v13_0, v13_1, v13_2, v13_3, v13_4, .ref la, v13_6]))] ++ va_pl L (pE P)) H := hP
  have hD : va_D A ([(q_s, .inl (cS, n_s, .inl (fun j : Nat => zI (a_s (j : Int))))), (q_n, .inl (cN, n_n, .inl (fun j : Nat => zI (a_n (j : Int))))), (hc, .inr (12, [v13_0, v13_1, v13_2, v13_3, v13_4, .ref la, v13_6]))] ++ va_pl L (pE P)) := hD
  have hK : va_K (dC, dI) vwQ [(cS, .boolean), (cN, .int), (cI, .int), (cZ, .boolean), (cO, .object "java/lang/Object")] s := hK
  refine W.widen (k := 0) (n := 0) (Nat.le_of_ble_eq_true rfl) (Nat.le_of_ble_eq_true rfl) ?_
  obtain rfl : r_1 = (zI (P.lz la)) := hw
  refine lv_istore_n (lv' := [(3, .int (zI (P.lz la))), (0, .ref hc), (1, .ref q_s), (2, .ref q_n)]) hx hb dX19_drop_4 rfl hl (by decide) rfl (fun ls hl => ?_)
  refine lv_iconst (v := 0) hx hb dX19_drop_5 (by decide) ?_
  refine lv_istore (lv' := [(4, .int 0), (3, .int (zI (P.lz la))), (0, .ref hc), (1, .ref q_s), (2, .ref q_n)]) hx hb dX19_drop_6 hl (by decide) rfl (fun ls hl => ?_)
  refine lv_iconst (v := 0) hx hb dX19_drop_8 (by decide) ?_
  refine lv_istore (lv' := [(5, .int 0), (4, .int 0), (3, .int (zI (P.lz la))), (0, .ref hc), (1, .ref q_s), (2, .ref q_n)]) hx hb dX19_drop_9 hl (by decide) rfl (fun ls hl => ?_)
  have key11 : ∀ n11 : Nat, ∀ (d11_5 : Int) (d11_4 : Int) (w11_n : Int → Int) (P11 : PO) (ls : Array Slot) (H : Heap) (locs : List Loc), (KEG [la] L P L P11) → (GLF L P11 cO cI cZ sx_ed) → (0 ≤ d11_5 ∧ d11_5 ≤ P.lz la) → (0 ≤ d11_4 ∧ d11_4 ≤ d11_5) → (∀ j : Int, -1 ≤ w11_n j ∧ w11_n j ≤ 299) → (DR1 P P11 la a_s w11_n (d11_5) (d11_4) (P.lz la)) → ((400 - d11_5 : Int).toNat) < n11 → lv_has ls 10 [(0, .ref hc), (1, .ref q_s), (2, .ref q_n), (3, .int (zI (P.lz la))), (4, .int (zI (d11_4))), (5, .int (zI (d11_5)))] → va_P (dC, dI) vwQ ([(q_s, .inl (cS, n_s, .inl (fun j : Nat => zI (a_s (j : Int))))), (q_n, .inl (cN, n_n, .inl (fun j : Nat => zI (w11_n (j : Int))))), (hc, .inr (12, [v13_0, v13_1, v13_2, v13_3, v13_4, .ref la, v13_6]))] ++ va_pl L (pE P11)) H → va_D A ([(q_s, .inl (cS, n_s, .inl (fun j : Nat => zI (a_s (j : Int))))), (q_n, .inl (cN, n_n, .inl (fun j : Nat => zI (w11_n (j : Int))))), (hc, .inr (12, [v13_0, v13_1, v13_2, v13_3, v13_4, .ref la, v13_6]))] ++ va_pl L (pE P11)) → va_S A s.heap H locs → W p l e (headSpec v_P19_dropE ({ frames := 4, cells := 0, slots := 0, locals := 106 })).room s m ([.ref hc, .ref q_s, .ref q_n] : List Value).toArray below meth c H locs 0 0 Q (F0 m 11 ls []) := by
    intro n11
    induction n11 with
    | zero => intro d11_5 d11_4 w11_n P11 ls H locs kP11 aP11 jd11_5 jd11_4 jw11_n jd11 hm11; exact absurd hm11 (by omega)
    | succ n11 ih11 =>
      intro d11_5 d11_4 w11_n P11 ls H locs kP11 aP11 jd11_5 jd11_4 jw11_n jd11 hm11 hl hP hD hS
      have hq_2 : la ∈ L ∧ P11.kd la = 30 := kP11.mem hC_la.1 hC_la.2.1 (by decide)
      have hA_3 : KEG [la] L P L P11 := (KEG.refl [la] L P).trans kP11
      have hek_4 : P11.ek la = 12 := (by rw [kP11.ek hC_la.1 hC_la.2.1 (by decide)]; exact hC_la.2.2.1)
      have how_5 : P11.ow la = la := ((kP11.1 la hC_la.1 (by rw [hC_la.2.1]; decide)).2.2.2.1 hC_la.2.1 hC_la.2.2.2).1
      have hj11 := kP11
      have hz11 := jd11.2.1
      refine lv_iload hx hb dX19_drop_11 (lv_at hl 5 rfl) ?_
      refine lv_iload_n hx hb dX19_drop_13 rfl (lv_at hl 3 rfl) ?_
      refine lv_icmp_ge (tgt := 75) hx hb dX19_drop_14 (by decide) (fun b14 => ?_) (fun b14 => ?_)
      · have yb14 : (P.lz la : Int) ≤ (d11_5 : Int) := (zI_le (a := P.lz la) (b := d11_5) (by omega) (by omega) (by omega) (by omega)).mp b14
        have key75 : ∀ n75 : Nat, ∀ (P75 : PO) (ls : Array Slot) (H : Heap) (locs : List Loc), (KEG [la] L P11 L P75) → (GLF L P75 cO cI cZ sx_ed) → (DR1 P P75 la a_s w11_n (P.lz la) (d11_4) (P75.lz la)) → (d11_4 ≤ P75.lz la ∧ P75.lz la ≤ P.lz la) → ((P75.lz la : Int).toNat) < n75 → lv_has ls 10 [(0, .ref hc), (1, .ref q_s), (2, .ref q_n), (3, .int (zI (P.lz la))), (4, .int (zI (d11_4))), (5, .int (zI (d11_5)))] → va_P (dC, dI) vwQ ([(q_s, .inl (cS, n_s, .inl (fun j : Nat => zI (a_s (j : Int))))), (q_n, .inl (cN, n_n, .inl (fun j : Nat => zI (w11_n (j : Int))))), (hc, .inr (12, [v13_0, v13_1, v13_2, v13_3, v13_4, .ref la, v13_6]))] ++ va_pl L (pE P75)) H → va_D A ([(q_s, .inl (cS, n_s, .inl (fun j : Nat => zI (a_s (j : Int))))), (q_n, .inl (cN, n_n, .inl (fun j : Nat => zI (w11_n (j : Int))))), (hc, .inr (12, [v13_0, v13_1, v13_2, v13_3, v13_4, .ref la, v13_6]))] ++ va_pl L (pE P75)) → va_S A s.heap H locs → W p l e (headSpec v_P19_dropE ({ frames := 4, cells := 0, slots := 0, locals := 106 })).room s m ([.ref hc, .ref q_s, .ref q_n] : List Value).toArray below meth c H locs 0 0 Q (F0 m 75 ls []) := by
          intro n75
          induction n75 with
          | zero => intro P75 ls H locs kP75 aP75 jd75 jm75 hm75; exact absurd hm75 (by omega)
          | succ n75 ih75 =>
            intro P75 ls H locs kP75 aP75 jd75 jm75 hm75 hl hP hD hS
            have hq_6 : la ∈ L ∧ P75.kd la = 30 := kP75.mem hq_2.1 hq_2.2 (by decide)
            have hA_7 : KEG [la] L P L P75 := hA_3.trans kP75
            have hA_8 : KEG [la] L P11 L P75 := (KEG.refl [la] L P11).trans kP75
            have hek_9 : P75.ek la = 12 := (by rw [kP75.ek hq_2.1 hq_2.2 (by decide)]; exact hek_4)
            have how_10 : P75.ow la = la := ((kP75.1 la hq_2.1 (by rw [hq_2.2]; decide)).2.2.2.1 hq_2.2 how_5).1
            have hj75 := kP75
            have hz75 := jd75.2.1
            refine lv_aload_n hx hb dX19_drop_75 rfl (lv_at hl 0 rfl) ?_
            refine va_get (D := (dC, dI)) (ci := 12) (v := .ref la) (C := RX13) (T := TX13) (N := 7) hx hb hts mem_P19_dropE_1 hown hK hP 2 rfl rfl 5 (by decide) (ow (k := 4) rfl) (fun _ h9 => h9) rfl dX19_drop_76 ?_
            have hlk_11 := (show LOK L P75 cO 12 la from (by have q9 := (aP75.gla la hq_6.1 hq_6.2).1; rw [hek_9] at q9; exact q9))
            have hX_x := hlk_11.1
            have hX_k := hlk_11.2.1
            have hlz9 := hlk_11.2.2.1
            have hPc := hP.part (X := [(q_s, .inl (cS, n_s, .inl (fun j : Nat => zI (a_s (j : Int))))), (q_n, .inl (cN, n_n, .inl (fun j : Nat => zI (w11_n (j : Int))))), (hc, .inr (12, [v13_0, v13_1, v13_2, v13_3, v13_4, .ref la, v13_6]))]) (cx := []) (pl := va_pl L (pE P75)) [] rfl
            have hDc := hD.part (X := [(q_s, .inl (cS, n_s, .inl (fun j : Nat => zI (a_s (j : Int))))), (q_n, .inl (cN, n_n, .inl (fun j : Nat => zI (w11_n (j : Int))))), (hc, .inr (12, [v13_0, v13_1, v13_2, v13_3, v13_4, .ref la, v13_6]))]) (cx := []) (pl := va_pl L (pE P75)) [] (by decide) rfl
            have hKc := hK.sub (tys' := [(cO, .object "java/lang/Object")]) [4] rfl
            have hFc := va_freeP (X := [(q_s, .inl (cS, n_s, .inl (fun j : Nat => zI (a_s (j : Int))))), (q_n, .inl (cN, n_n, .inl (fun j : Nat => zI (w11_n (j : Int))))), (hc, .inr (12, [v13_0, v13_1, v13_2, v13_3, v13_4, .ref la, v13_6]))]) (cx := []) (pl := va_pl L (pE P75)) hD hS hA [] rfl
            refine va_calli (va_runV (As := []) (rest := []) ⟨hx, hb, hml, hown, hts⟩ (c_PL_size l dC dI cO L P75 la hX_x hX_k (by omega) H.size) (cwV 0 hts g_P19_dropE_PL_size rfl rfl rfl (by decide +kernel) ⟨(Nat.le_of_ble_eq_true rfl), (Nat.le_of_ble_eq_true rfl)⟩) ⟨fun a U g mk q => by obtain ⟨q0, q1, qP, qK, qD⟩ := q; exact ⟨q0, q1, qP, va_K.moved (u := U) (U := U.calling g mk a) (Vm.Alike.refl U.vm) qK, qD⟩, recv_30 hKc hPc hq_6.1 hq_6.2, fun U hU hW => ⟨rfl, by rw [hU], by rw [hU]; exact hPc, va_K.moved hW.alike hKc, hDc.weaken (fun _ _ _ _ => trivial)⟩⟩ rfl rfl hl.1 rfl (lv_room (Nat.le_of_ble_eq_true rfl)) dX19_drop_79 ⟨(Nat.le_of_ble_eq_true rfl), (Nat.le_of_ble_eq_true rfl)⟩) hS (fun q _ h => hFc q h) hFc (fun r_12 u t H1 locs ht hvm hw hB hz1 hk1 hS => ?_)
            obtain ⟨hP1, hK1, hD1⟩ := hB
            rw [ht] at hP1
            have hK1 := va_K.moved hvm.symm hK1
            obtain ⟨hP, hD⟩ := va_joinP (X := [(q_s, .inl (cS, n_s, .inl (fun j : Nat => zI (a_s (j : Int))))), (q_n, .inl (cN, n_n, .inl (fun j : Nat => zI (w11_n (j : Int))))), (hc, .inr (12, [v13_0, v13_1, v13_2, v13_3, v13_4, .ref la, v13_6]))]) (cx := []) (wr := [(q_s, .inl (cS, n_s, .inl (fun j : Nat => zI (a_s (j : Int))))), (q_n, .inl (cN, n_n, .inl (fun j : Nat => zI (w11_n (j : Int))))), (hc, .inr (12, [v13_0, v13_1, v13_2, v13_3, v13_4, .ref la, v13_6]))]) (rx := []) (pl := va_pl L (pE P75)) (pl1 := va_pl L (pE P75)) hP hD [] [0, 1, 2] rfl rfl (by decide) (by decide) hk1 hFc hP1 hD1
            have hK := (hK.sub (tys' := [(cS, .boolean), (cN, .int), (cI, .int), (cZ, .boolean)]) [0, 1, 2, 3] rfl).app hK1
            generalize H1 = H at hP hS ⊢
            have hP : va_P (dC, dI) vwQ ([(q_s, .inl (cS, n_s, .inl (fun j : Nat => zI (a_s (j : Int))))), (q_n, .inl (cN, n_n, .inl (fun j : Nat => zI (w11_n (j : Int))))), (hc, .inr (12, [v13_0, v13_1, v13_2, v13_3, v13_4, .ref la, v13_6]))] ++ va_pl L (pE P75)) H := hP
            have hD : va_D A ([(q_s, .inl (cS, n_s, .inl (fun j : Nat => zI (a_s (j : Int))))), (q_n, .inl (cN, n_n, .inl (fun j : Nat => zI (w11_n (j : Int))))), (hc, .inr (12, [v13_0, v13_1, v13_2, v13_3, v13_4, .ref la, v13_6]))] ++ va_pl L (pE P75)) := hD
            have hK : va_K (dC, dI) vwQ [(cS, .boolean), (cN, .int), (cI, .int), (cZ, .boolean), (cO, .object "java/lang/Object")] s := hK
            refine W.widen (k := 0) (n := 0) (Nat.le_of_ble_eq_true rfl) (Nat.le_of_ble_eq_true rfl) ?_
            obtain rfl : r_12 = (zI (P75.lz la)) := hw
            refine lv_iload hx hb dX19_drop_82 (lv_at hl 4 rfl) ?_
            refine lv_icmp_le (tgt := 107) hx hb dX19_drop_84 (by decide) (fun b84 => ?_) (fun b84 => ?_)
            · have yb84 : (P75.lz la : Int) ≤ (d11_4 : Int) := (zI_le (a := P75.lz la) (b := d11_4) (by omega) (by omega) (by omega) (by omega)).mp b84
              have hd9 : DR1 P P75 la a_s w11_n (P.lz la) (d11_4) (d11_4) := jd75.to rfl (by omega)
              have hbk := hd9.bpk hX_a hX_K
              have hps := hd9.pos hX_K
              have hz9b : P75.lz la = d11_4 := hd9.2.1
              have hv0 := UNV.refl P75 (VDR P75 la 0 0 0)
              have hd0 := DRD.first P75 la w11_n
              refine lv_iconst (v := 0) hx hb dX19_drop_107 (by decide) ?_
              refine lv_istore (lv' := [(5, .int 0), (0, .ref hc), (1, .ref q_s), (2, .ref q_n), (3, .int (zI (P.lz la))), (4, .int (zI (d11_4)))]) hx hb dX19_drop_108 hl (by decide) rfl (fun ls hl => ?_)
              have key110 : ∀ n110 : Nat, ∀ (d110_5 : Int) (P110 : PO) (ls : Array Slot) (H : Heap) (locs : List Loc), (KEG [la] L P75 L P110) → (GLF L P110 cO cI cZ sx_ed) → (0 ≤ d110_5 ∧ d110_5 ≤ d11_4) → (UNV P75 P110 (VDR P75 la (d110_5) (d110_5) 0)) → (DRD P75 P110 la w11_n (d110_5) (d110_5) 0) → ((400 - d110_5 : Int).toNat) < n110 → lv_has ls 10 [(0, .ref hc), (1, .ref q_s), (2, .ref q_n), (3, .int (zI (P.lz la))), (4, .int (zI (d11_4))), (5, .int (zI (d110_5)))] → va_P (dC, dI) vwQ ([(q_s, .inl (cS, n_s, .inl (fun j : Nat => zI (a_s (j : Int))))), (q_n, .inl (cN, n_n, .inl (fun j : Nat => zI (w11_n (j : Int))))), (hc, .inr (12, [v13_0, v13_1, v13_2, v13_3, v13_4, .ref la, v13_6]))] ++ va_pl L (pE P110)) H → va_D A ([(q_s, .inl (cS, n_s, .inl (fun j : Nat => zI (a_s (j : Int))))), (q_n, .inl (cN, n_n, .inl (fun j : Nat => zI (w11_n (j : Int))))), (hc, .inr (12, [v13_0, v13_1, v13_2, v13_3, v13_4, .ref la, v13_6]))] ++ va_pl L (pE P110)) → va_S A s.heap H locs → W p l e (headSpec v_P19_dropE ({ frames := 4, cells := 0, slots := 0, locals := 106 })).room s m ([.ref hc, .ref q_s, .ref q_n] : List Value).toArray below meth c H locs 0 0 Q (F0 m 110 ls []) := by
                intro n110
                induction n110 with
                | zero => intro d110_5 P110 ls H locs kP110 aP110 jd110_5 jv110 jd110 hm110; exact absurd hm110 (by omega)
                | succ n110 ih110 =>
                  intro d110_5 P110 ls H locs kP110 aP110 jd110_5 jv110 jd110 hm110 hl hP hD hS
                  have hq_13 : la ∈ L ∧ P110.kd la = 30 := kP110.mem hq_6.1 hq_6.2 (by decide)
                  have hA_14 : KEG [la] L P L P110 := hA_7.trans kP110
                  have hA_15 : KEG [la] L P11 L P110 := hA_8.trans kP110
                  have hA_16 : KEG [la] L P75 L P110 := (KEG.refl [la] L P75).trans kP110
                  have hek_17 : P110.ek la = 12 := (by rw [kP110.ek hq_6.1 hq_6.2 (by decide)]; exact hek_9)
                  have how_18 : P110.ow la = la := ((kP110.1 la hq_6.1 (by rw [hq_6.2]; decide)).2.2.2.1 hq_6.2 how_10).1
                  have hj110 := kP110
                  have hz110 : P110.lz la = P75.lz la := jv110.1.2.2 la ((jv110.kd la).symm.trans hq_13.2)
                  refine lv_iload hx hb dX19_drop_110 (lv_at hl 5 rfl) ?_
                  refine lv_iload hx hb dX19_drop_112 (lv_at hl 4 rfl) ?_
                  refine lv_icmp_ge (tgt := 266) hx hb dX19_drop_114 (by decide) (fun b114 => ?_) (fun b114 => ?_)
                  · have yb114 : (d11_4 : Int) ≤ (d110_5 : Int) := (zI_le (a := d11_4) (b := d110_5) (by omega) (by omega) (by omega) (by omega)).mp b114
                    have hv9 := jv110
                    rw [show d110_5 = d11_4 from (by omega)] at hv9
                    have hdd9 := jd110
                    rw [show d110_5 = d11_4 from (by omega)] at hdd9
                    have hX9 : DRX P P110 la a_s w11_n := ⟨P75, d11_4, hd9, hv9, hdd9⟩
                    have hal9 := hX9.alp aP110 hX_a hX_K
                    have htt9 := hX9.tot hX_a hX_K
                    subst hQ
                    have hP := hP.part (X := [(q_s, .inl (cS, n_s, .inl (fun j : Nat => zI (a_s (j : Int))))), (q_n, .inl (cN, n_n, .inl (fun j : Nat => zI (w11_n (j : Int))))), (hc, .inr (12, [v13_0, v13_1, v13_2, v13_3, v13_4, .ref la, v13_6]))]) (cx := [(hc, .inr (12, [v13_0, v13_1, v13_2, v13_3, v13_4, .ref la, v13_6])), (q_s, .inl (cS, n_s, .inl (fun j : Nat => zI (a_s (j : Int))))), (q_n, .inl (cN, n_n, .inl (fun j : Nat => zI (w11_n (j : Int)))))]) (pl := va_pl L (pE P110)) [2, 0, 1] rfl
                    have hD := hD.part (X := [(q_s, .inl (cS, n_s, .inl (fun j : Nat => zI (a_s (j : Int))))), (q_n, .inl (cN, n_n, .inl (fun j : Nat => zI (w11_n (j : Int))))), (hc, .inr (12, [v13_0, v13_1, v13_2, v13_3, v13_4, .ref la, v13_6]))]) (cx := [(hc, .inr (12, [v13_0, v13_1, v13_2, v13_3, v13_4, .ref la, v13_6])), (q_s, .inl (cS, n_s, .inl (fun j : Nat => zI (a_s (j : Int))))), (q_n, .inl (cN, n_n, .inl (fun j : Nat => zI (w11_n (j : Int)))))]) (pl := va_pl L (pE P110)) [2, 0, 1] (by decide) rfl
                    have hK := hK.sub (tys' := [(cS, .boolean), (cN, .int), (cO, .object "java/lang/Object"), (cI, .int), (cZ, .boolean)]) [0, 1, 4, 2, 3] rfl
                    refine W.widen (k := 0) (n := 0) (Nat.le_of_ble_eq_true rfl) (Nat.le_of_ble_eq_true rfl) ?_
                    exact W.vret hx hb hr (fun t ht hW => ⟨⟨(), rfl, trivial, w11_n, P110, ⟨jw11_n, ⟨hA_14, hal9, htt9, hX9⟩⟩, by rw [ht]; exact hP, va_K.moved hW.alike hK, hD⟩, hS.F ht⟩) hS.2.2 dX19_drop_266
                  · have yb114 : ¬ (d11_4 : Int) ≤ (d110_5 : Int) := fun q => b114 ((zI_le (a := d11_4) (b := d110_5) (by omega) (by omega) (by omega) (by omega)).mpr q)
                    refine lv_aload_n hx hb dX19_drop_117 rfl (lv_at hl 0 rfl) ?_
                    refine lv_iload hx hb dX19_drop_118 (lv_at hl 5 rfl) ?_
                    have hX_l := (show LOK L P110 cO 12 la from (by have q9 := (aP110.gla la hq_13.1 hq_13.2).1; rw [hek_17] at q9; exact q9))
                    have hlz9 := hX_l.2.2.1
                    obtain ⟨x, ex⟩ : ∃ q9 : Nat, q9 = P110.el la (d110_5) := ⟨_, rfl⟩
                    have hX_el := ex
                    have hPc := hP.part (X := [(q_s, .inl (cS, n_s, .inl (fun j : Nat => zI (a_s (j : Int))))), (q_n, .inl (cN, n_n, .inl (fun j : Nat => zI (w11_n (j : Int))))), (hc, .inr (12, [v13_0, v13_1, v13_2, v13_3, v13_4, .ref la, v13_6]))]) (cx := [(hc, .inr (12, [v13_0, v13_1, v13_2, v13_3, v13_4, .ref la, v13_6]))]) (pl := va_pl L (pE P110)) [2] rfl
                    have hDc := hD.part (X := [(q_s, .inl (cS, n_s, .inl (fun j : Nat => zI (a_s (j : Int))))), (q_n, .inl (cN, n_n, .inl (fun j : Nat => zI (w11_n (j : Int))))), (hc, .inr (12, [v13_0, v13_1, v13_2, v13_3, v13_4, .ref la, v13_6]))]) (cx := [(hc, .inr (12, [v13_0, v13_1, v13_2, v13_3, v13_4, .ref la, v13_6]))]) (pl := va_pl L (pE P110)) [2] (by decide) rfl
                    have hKc := hK.sub (tys' := [(cO, .object "java/lang/Object")]) [4] rfl
                    have hFc := va_freeP (X := [(q_s, .inl (cS, n_s, .inl (fun j : Nat => zI (a_s (j : Int))))), (q_n, .inl (cN, n_n, .inl (fun j : Nat => zI (w11_n (j : Int))))), (hc, .inr (12, [v13_0, v13_1, v13_2, v13_3, v13_4, .ref la, v13_6]))]) (cx := [(hc, .inr (12, [v13_0, v13_1, v13_2, v13_3, v13_4, .ref la, v13_6]))]) (pl := va_pl L (pE P110)) hD hS hA [2] rfl
                    refine va_callr (va_runV (As := [.int (zI (d110_5))]) (rest := []) ⟨hx, hb, hml, hown, hts⟩ (c_PC_get l dC dI hc v13_0 v13_1 v13_2 v13_3 v13_4 v13_6 la cO L P110 d110_5 x hX_l (by omega) hX_el H.size) (cwV 1 hts g_P19_dropE_PC_get rfl rfl rfl (by decide +kernel) ⟨(Nat.le_of_ble_eq_true rfl), (Nat.le_of_ble_eq_true rfl)⟩) ⟨fun a U g mk q => by obtain ⟨q0, q1, qP, qK, qD, e0⟩ := q; exact ⟨q0, q1, qP, va_K.moved (u := U) (U := U.calling g mk a) (Vm.Alike.refl U.vm) qK, qD, va_Nw.same rfl (u := U) (U := U.calling g mk a) rfl e0⟩, va_recv hKc hPc (ci := 12) (q0 := 0) rfl rfl, fun U hU hW => ⟨rfl, by rw [hU], by rw [hU]; exact hPc, va_K.moved hW.alike hKc, hDc.weaken (fun _ _ _ _ => trivial), va_Nw.warmC hW hp0⟩⟩ rfl rfl hl.1 rfl (lv_room (Nat.le_of_ble_eq_true rfl)) dX19_drop_120 ⟨(Nat.le_of_ble_eq_true rfl), (Nat.le_of_ble_eq_true rfl)⟩) hS (fun q _ h => hFc q h) hFc (fun u q_19 t H1 locs ht hvm hw hB hz1 hk1 hS => ?_)
                    obtain ⟨hxt_19, hP1, hK1, hD1⟩ := hB
                    rw [ht] at hP1
                    have hK1 := va_K.moved hvm.symm hK1
                    obtain ⟨hP, hD⟩ := va_joinP (X := [(q_s, .inl (cS, n_s, .inl (fun j : Nat => zI (a_s (j : Int))))), (q_n, .inl (cN, n_n, .inl (fun j : Nat => zI (w11_n (j : Int))))), (hc, .inr (12, [v13_0, v13_1, v13_2, v13_3, v13_4, .ref la, v13_6]))]) (cx := [(hc, .inr (12, [v13_0, v13_1, v13_2, v13_3, v13_4, .ref la, v13_6]))]) (wr := [(q_s, .inl (cS, n_s, .inl (fun j : Nat => zI (a_s (j : Int))))), (q_n, .inl (cN, n_n, .inl (fun j : Nat => zI (w11_n (j : Int)))))]) (rx := [(hc, .inr (12, [v13_0, v13_1, v13_2, v13_3, v13_4, .ref la, v13_6]))]) (pl := va_pl L (pE P110)) (pl1 := va_pl L (pE P110)) hP hD [2] [0, 1] rfl rfl (by decide) (by decide) hk1 hFc hP1 hD1
                    have hK := (hK.sub (tys' := [(cS, .boolean), (cN, .int), (cI, .int), (cZ, .boolean)]) [0, 1, 2, 3] rfl).app hK1
                    generalize H1 = H at hP hS ⊢
                    have hP : va_P (dC, dI) vwQ ([(q_s, .inl (cS, n_s, .inl (fun j : Nat => zI (a_s (j : Int))))), (q_n, .inl (cN, n_n, .inl (fun j : Nat => zI (w11_n (j : Int))))), (hc, .inr (12, [v13_0, v13_1, v13_2, v13_3, v13_4, .ref la, v13_6]))] ++ va_pl L (pE P110)) H := hP
                    have hD : va_D A ([(q_s, .inl (cS, n_s, .inl (fun j : Nat => zI (a_s (j : Int))))), (q_n, .inl (cN, n_n, .inl (fun j : Nat => zI (w11_n (j : Int))))), (hc, .inr (12, [v13_0, v13_1, v13_2, v13_3, v13_4, .ref la, v13_6]))] ++ va_pl L (pE P110)) := hD
                    have hK : va_K (dC, dI) vwQ [(cS, .boolean), (cN, .int), (cI, .int), (cZ, .boolean), (cO, .object "java/lang/Object")] s := hK
                    refine W.widen (k := 0) (n := 0) (Nat.le_of_ble_eq_true rfl) (Nat.le_of_ble_eq_true rfl) ?_
                    rw [hxt_19]
                    obtain ⟨xb_20, h9⟩ : ∃ q9 : Nat, q9 = x := ⟨_, rfl⟩
                    subst h9
                    have hx_21 := ex
                    have hB_22 : xb_20 ∈ L ∧ P110.kd xb_20 = 12 := (by rw [ex]; exact (hX_l.2.2.2.2 (d110_5) (by omega) (by omega)).2)
                    clear hX_el
                    have hyi : xb_20 = P75.el la (d110_5) := hx_21.trans (jv110.el la (d110_5))
                    refine lv_astore (lv' := [(6, .ref xb_20), (0, .ref hc), (1, .ref q_s), (2, .ref q_n), (3, .int (zI (P.lz la))), (4, .int (zI (d11_4))), (5, .int (zI (d110_5)))]) hx hb dX19_drop_123 hl (by decide) rfl (fun ls hl => ?_)
                    refine lv_aload hx hb dX19_drop_125 (lv_at hl 0 rfl) ?_
                    have hfb := (aP110.gb hB_22.1 hB_22.2).2
                    obtain ⟨kp_23, hkp_23⟩ := va_pl_get (X := [(q_s, .inl (cS, n_s, .inl (fun j : Nat => zI (a_s (j : Int))))), (q_n, .inl (cN, n_n, .inl (fun j : Nat => zI (w11_n (j : Int))))), (hc, .inr (12, [v13_0, v13_1, v13_2, v13_3, v13_4, .ref la, v13_6]))]) (f := pE P110) hB_22.1
                    rw [pE_block hB_22.2] at hkp_23
                    refine va_get (D := (dC, dI)) (ci := 19) (v := .ref (P110.be xb_20)) (C := RX12) (T := TX12) (N := 5) hx hb hts mem_P19_dropE_4 hown hK hP kp_23 hkp_23 rfl 2 (by decide) (ow (k := 12) rfl) (fun _ h9 => h9) rfl dX19_drop_127 ?_
                    obtain ⟨pr_24, epr_24⟩ : ∃ q9 : Nat, q9 = P110.be xb_20 := ⟨_, rfl⟩
                    rw [← epr_24]
                    have hbe_25 : pr_24 ∈ L ∧ P110.kd pr_24 = 17 ∧ P110.ek pr_24 = 1 := (by rw [epr_24]; exact (aP110.gb hB_22.1 hB_22.2).1)
                    have hE_26 : P110.ek pr_24 = 1 := hbe_25.2.2
                    have ⟨hr1, hr2, hr3, hr4, hr5, hr6, hr7, hr8, hr9⟩ := aP110.rok hbe_25.1 hbe_25.2.1
                    obtain ⟨kp_27, hkp_27⟩ := va_pl_get (X := [(q_s, .inl (cS, n_s, .inl (fun j : Nat => zI (a_s (j : Int))))), (q_n, .inl (cN, n_n, .inl (fun j : Nat => zI (w11_n (j : Int))))), (hc, .inr (12, [v13_0, v13_1, v13_2, v13_3, v13_4, .ref la, v13_6]))]) (f := pE P110) hbe_25.1
                    rw [pE_row hbe_25.2.1] at hkp_27
                    refine va_get (D := (dC, dI)) (ci := 21) (v := .int (zI (P110.ro pr_24))) (C := RX17) (T := TX17) (N := 7) hx hb hts mem_P19_dropE_5 hown hK hP kp_27 hkp_27 rfl 0 (by decide) (ow (k := 13) rfl) (fun _ h9 => h9) rfl dX19_drop_130 ?_
                    refine lv_bipush (v := 32) hx hb dX19_drop_133 (by decide) ?_
                    have hnb9 : ¬ VDR P75 la (d110_5) (d110_5) 0 xb_20 := (by rw [hyi]; exact VDR.nblk hbk (by omega) (by omega) (Int.le_refl _))
                    have hkb9 : P75.kd (P75.be xb_20) = 17 := (by rw [hyi]; exact (hbk.1 (d110_5) (by omega) (by omega)).2.1)
                    have hro9 : P110.ro pr_24 = P75.ro (P75.be xb_20) := (by rw [← epr_24.symm, jv110.be]; exact jv110.2.1 _ (fun q9 => by rcases q9.kd hbk with h9 | h9 <;> omega) 0)
                    have hbf9 : P110.bf xb_20 = P75.bf xb_20 ∧ P110.bs xb_20 = P75.bs xb_20 := ⟨jv110.2.1 xb_20 hnb9 0, jv110.2.1 xb_20 hnb9 1⟩
                    have hgo9 := hd9.goal hX_a hX_K (b := d110_5) (by omega) (by omega) hyi
                    have hgr9 := hgo9.2.2
                    refine lv_icmp_eq (tgt := 162) hx hb dX19_drop_135 (by decide) (fun b135 => ?_) (fun b135 => ?_)
                    · have yb135 : (P110.ro pr_24 : Int) = (32 : Int) := (zI_eq (a := P110.ro pr_24) (b := 32) (by omega) (by omega) (by omega) (by omega)).mp b135
                      have huv_28 : UNV P75 P110 (VDR P75 la (d110_5 + 1) (d110_5) 0) := jv110.wk (fun z q => q.mono (by omega) (by omega))
                      have hld_29 : DRD P75 P110 la w11_n (d110_5 + 1) (d110_5) 0 := jd110.goal0 hyi ⟨fun q9 => absurd (show P75.ro (P75.be xb_20) = 32 from (by omega)) q9, fun _ => hbf9⟩
                      clear hgo9
                      refine lv_iconst (v := 0) hx hb dX19_drop_162 (by decide) ?_
                      refine lv_istore (lv' := [(7, .int 0), (6, .ref xb_20), (0, .ref hc), (1, .ref q_s), (2, .ref q_n), (3, .int (zI (P.lz la))), (4, .int (zI (d11_4))), (5, .int (zI (d110_5)))]) hx hb dX19_drop_163 hl (by decide) rfl (fun ls hl => ?_)
                      have key165 : ∀ n165 : Nat, ∀ (d165_7 : Int) (P165 : PO) (ls : Array Slot) (H : Heap) (locs : List Loc), (KEG [la] L P110 L P165) → (GLF L P165 cO cI cZ sx_ed) → (0 ≤ d165_7 ∧ d165_7 ≤ 40000) → (UNV P75 P165 (VDR P75 la (d110_5 + 1) (d110_5) (d165_7))) → (DRD P75 P165 la w11_n (d110_5 + 1) (d110_5) (d165_7)) → ((50000 - d165_7 : Int).toNat) < n165 → lv_has ls 10 [(0, .ref hc), (1, .ref q_s), (2, .ref q_n), (3, .int (zI (P.lz la))), (4, .int (zI (d11_4))), (5, .int (zI (d110_5))), (6, .ref xb_20), (7, .int (zI (d165_7)))] → va_P (dC, dI) vwQ ([(q_s, .inl (cS, n_s, .inl (fun j : Nat => zI (a_s (j : Int))))), (q_n, .inl (cN, n_n, .inl (fun j : Nat => zI (w11_n (j : Int))))), (hc, .inr (12, [v13_0, v13_1, v13_2, v13_3, v13_4, .ref la, v13_6]))] ++ va_pl L (pE P165)) H → va_D A ([(q_s, .inl (cS, n_s, .inl (fun j : Nat => zI (a_s (j : Int))))), (q_n, .inl (cN, n_n, .inl (fun j : Nat => zI (w11_n (j : Int))))), (hc, .inr (12, [v13_0, v13_1, v13_2, v13_3, v13_4, .ref la, v13_6]))] ++ va_pl L (pE P165)) → va_S A s.heap H locs → W p l e (headSpec v_P19_dropE ({ frames := 4, cells := 0, slots := 0, locals := 106 })).room s m ([.ref hc, .ref q_s, .ref q_n] : List Value).toArray below meth c H locs 0 0 Q (F0 m 165 ls []) := by
                        intro n165
                        induction n165 with
                        | zero => intro d165_7 P165 ls H locs kP165 aP165 jd165_7 jv165 jd165 hm165; exact absurd hm165 (by omega)
                        | succ n165 ih165 =>
                          intro d165_7 P165 ls H locs kP165 aP165 jd165_7 jv165 jd165 hm165 hl hP hD hS
                          have hq_30 : la ∈ L ∧ P165.kd la = 30 := kP165.mem hq_13.1 hq_13.2 (by decide)
                          have hq_31 : xb_20 ∈ L ∧ P165.kd xb_20 = 12 := kP165.mem hB_22.1 hB_22.2 (by decide)
                          have hq_32 : pr_24 ∈ L ∧ P165.kd pr_24 = 17 := kP165.mem hbe_25.1 hbe_25.2.1 (by decide)
                          have ha_33 : P165.be xb_20 = pr_24 := kP165.be hB_22.1 hB_22.2 epr_24.symm
                          have hA_34 : KEG [la] L P L P165 := hA_14.trans kP165
                          have hA_35 : KEG [la] L P11 L P165 := hA_15.trans kP165
                          have hA_36 : KEG [la] L P75 L P165 := hA_16.trans kP165
                          have hA_37 : KEG [la] L P110 L P165 := (KEG.refl [la] L P110).trans kP165
                          have hek_38 : P165.ek la = 12 := (by rw [kP165.ek hq_13.1 hq_13.2 (by decide)]; exact hek_17)
                          have how_39 : P165.ow la = la := ((kP165.1 la hq_13.1 (by rw [hq_13.2]; decide)).2.2.2.1 hq_13.2 how_18).1
                          have hE_40 : P165.ek pr_24 = 1 := (by rw [kP165.ek hbe_25.1 hbe_25.2.1 (by decide)]; exact hE_26)
                          have hj165 := kP165
                          skip
                          refine lv_iload hx hb dX19_drop_165 (lv_at hl 7 rfl) ?_
                          refine lv_aload hx hb dX19_drop_167 (lv_at hl 6 rfl) ?_
                          have hfb := (aP165.gb hq_31.1 hq_31.2).2
                          obtain ⟨kp_41, hkp_41⟩ := va_pl_get (X := [(q_s, .inl (cS, n_s, .inl (fun j : Nat => zI (a_s (j : Int))))), (q_n, .inl (cN, n_n, .inl (fun j : Nat => zI (w11_n (j : Int))))), (hc, .inr (12, [v13_0, v13_1, v13_2, v13_3, v13_4, .ref la, v13_6]))]) (f := pE P165) hq_31.1
                          rw [pE_block hq_31.2] at hkp_41
                          refine va_get (D := (dC, dI)) (ci := 19) (v := .ref (P165.bp xb_20)) (C := RX12) (T := TX12) (N := 5) hx hb hts mem_P19_dropE_4 hown hK hP kp_41 hkp_41 rfl 0 (by decide) (ow (k := 14) rfl) (fun _ h9 => h9) rfl dX19_drop_169 ?_
                          obtain ⟨pr_42, epr_42⟩ : ∃ q9 : Nat, q9 = P165.bp xb_20 := ⟨_, rfl⟩
                          rw [← epr_42]
                          have hlk_43 : LOK L P165 cO 15 pr_42 := (by rw [epr_42]; exact aP165.lbp hq_31.1 hq_31.2)
                          have hlz9 := hlk_43.2.2.1
                          have hek_44 : P165.ek pr_42 = 15 := (by rw [epr_42]; exact (aP165.owc xb_20 hq_31.1 hq_31.2).2.1)
                          have hlk_45 := (show LOK L P165 cO 15 pr_42 from (by rw [← epr_42.symm]; exact aP165.lbp hq_31.1 hq_31.2))
                          have hX_x := hlk_45.1
                          have hX_k := hlk_45.2.1
                          have hlz9 := hlk_45.2.2.1
                          have hPc := hP.part (X := [(q_s, .inl (cS, n_s, .inl (fun j : Nat => zI (a_s (j : Int))))), (q_n, .inl (cN, n_n, .inl (fun j : Nat => zI (w11_n (j : Int))))), (hc, .inr (12, [v13_0, v13_1, v13_2, v13_3, v13_4, .ref la, v13_6]))]) (cx := []) (pl := va_pl L (pE P165)) [] rfl
                          have hDc := hD.part (X := [(q_s, .inl (cS, n_s, .inl (fun j : Nat => zI (a_s (j : Int))))), (q_n, .inl (cN, n_n, .inl (fun j : Nat => zI (w11_n (j : Int))))), (hc, .inr (12, [v13_0, v13_1, v13_2, v13_3, v13_4, .ref la, v13_6]))]) (cx := []) (pl := va_pl L (pE P165)) [] (by decide) rfl
                          have hKc := hK.sub (tys' := [(cO, .object "java/lang/Object")]) [4] rfl
                          have hFc := va_freeP (X := [(q_s, .inl (cS, n_s, .inl (fun j : Nat => zI (a_s (j : Int))))), (q_n, .inl (cN, n_n, .inl (fun j : Nat => zI (w11_n (j : Int))))), (hc, .inr (12, [v13_0, v13_1, v13_2, v13_3, v13_4, .ref la, v13_6]))]) (cx := []) (pl := va_pl L (pE P165)) hD hS hA [] rfl
                          refine va_calli (va_runV (As := []) (rest := [.int (zI (d165_7))]) ⟨hx, hb, hml, hown, hts⟩ (c_PL_size l dC dI cO L P165 pr_42 hX_x hX_k (by omega) H.size) (cwV 0 hts g_P19_dropE_PL_size rfl rfl rfl (by decide +kernel) ⟨(Nat.le_of_ble_eq_true rfl), (Nat.le_of_ble_eq_true rfl)⟩) ⟨fun a U g mk q => by obtain ⟨q0, q1, qP, qK, qD⟩ := q; exact ⟨q0, q1, qP, va_K.moved (u := U) (U := U.calling g mk a) (Vm.Alike.refl U.vm) qK, qD⟩, recv_30 hKc hPc hlk_43.1 hlk_43.2.1, fun U hU hW => ⟨rfl, by rw [hU], by rw [hU]; exact hPc, va_K.moved hW.alike hKc, hDc.weaken (fun _ _ _ _ => trivial)⟩⟩ rfl rfl hl.1 rfl (lv_room (Nat.le_of_ble_eq_true rfl)) dX19_drop_172 ⟨(Nat.le_of_ble_eq_true rfl), (Nat.le_of_ble_eq_true rfl)⟩) hS (fun q _ h => hFc q h) hFc (fun r_46 u t H1 locs ht hvm hw hB hz1 hk1 hS => ?_)
                          obtain ⟨hP1, hK1, hD1⟩ := hB
                          rw [ht] at hP1
                          have hK1 := va_K.moved hvm.symm hK1
                          obtain ⟨hP, hD⟩ := va_joinP (X := [(q_s, .inl (cS, n_s, .inl (fun j : Nat => zI (a_s (j : Int))))), (q_n, .inl (cN, n_n, .inl (fun j : Nat => zI (w11_n (j : Int))))), (hc, .inr (12, [v13_0, v13_1, v13_2, v13_3, v13_4, .ref la, v13_6]))]) (cx := []) (wr := [(q_s, .inl (cS, n_s, .inl (fun j : Nat => zI (a_s (j : Int))))), (q_n, .inl (cN, n_n, .inl (fun j : Nat => zI (w11_n (j : Int))))), (hc, .inr (12, [v13_0, v13_1, v13_2, v13_3, v13_4, .ref la, v13_6]))]) (rx := []) (pl := va_pl L (pE P165)) (pl1 := va_pl L (pE P165)) hP hD [] [0, 1, 2] rfl rfl (by decide) (by decide) hk1 hFc hP1 hD1
                          have hK := (hK.sub (tys' := [(cS, .boolean), (cN, .int), (cI, .int), (cZ, .boolean)]) [0, 1, 2, 3] rfl).app hK1
                          generalize H1 = H at hP hS ⊢
                          have hP : va_P (dC, dI) vwQ ([(q_s, .inl (cS, n_s, .inl (fun j : Nat => zI (a_s (j : Int))))), (q_n, .inl (cN, n_n, .inl (fun j : Nat => zI (w11_n (j : Int))))), (hc, .inr (12, [v13_0, v13_1, v13_2, v13_3, v13_4, .ref la, v13_6]))] ++ va_pl L (pE P165)) H := hP
                          have hD : va_D A ([(q_s, .inl (cS, n_s, .inl (fun j : Nat => zI (a_s (j : Int))))), (q_n, .inl (cN, n_n, .inl (fun j : Nat => zI (w11_n (j : Int))))), (hc, .inr (12, [v13_0, v13_1, v13_2, v13_3, v13_4, .ref la, v13_6]))] ++ va_pl L (pE P165)) := hD
                          have hK : va_K (dC, dI) vwQ [(cS, .boolean), (cN, .int), (cI, .int), (cZ, .boolean), (cO, .object "java/lang/Object")] s := hK
                          refine W.widen (k := 0) (n := 0) (Nat.le_of_ble_eq_true rfl) (Nat.le_of_ble_eq_true rfl) ?_
                          obtain rfl : r_46 = (zI (P165.lz pr_42)) := hw
                          refine lv_icmp_ge (tgt := 260) hx hb dX19_drop_175 (by decide) (fun b175 => ?_) (fun b175 => ?_)
                          · have yb175 : (P165.lz pr_42 : Int) ≤ (d165_7 : Int) := (zI_le (a := P165.lz pr_42) (b := d165_7) (by omega) (by omega) (by omega) (by omega)).mp b175
                            have hzl : P75.lz (P75.bp (P75.el la (d110_5))) = P165.lz pr_42 := (by rw [← hyi, ← jv165.bp xb_20, epr_42.symm]; exact (jv165.1.2.2 pr_42 ((jv165.kd pr_42).symm.trans hlk_43.2.1)).symm)
                            skip
                            refine lv_iinc (v := zI (d110_5 + 1)) (lv' := [(5, .int (zI (d110_5 + 1))), (0, .ref hc), (1, .ref q_s), (2, .ref q_n), (3, .int (zI (P.lz la))), (4, .int (zI (d11_4))), (6, .ref xb_20), (7, .int (zI (d165_7)))]) hx hb dX19_drop_260 hl (k := 5) rfl (zI_add (d110_5) (1)) (by decide) rfl (fun ls hl => ?_)
                            refine lv_goto (tgt := 110) hx hb dX19_drop_263 (by decide) ?_
                            exact ih110 (d110_5 + 1) P165 ls H _ (kP110.trans hA_37) aP165 (by omega) (jv165.wk (fun z q => q.next)) (jd165.next (by omega)) (by omega) (lv_sub hl [1, 2, 3, 4, 5, 0] rfl) hP hD hS
                          · have yb175 : ¬ (P165.lz pr_42 : Int) ≤ (d165_7 : Int) := fun q => b175 ((zI_le (a := P165.lz pr_42) (b := d165_7) (by omega) (by omega) (by omega) (by omega)).mpr q)
                            refine lv_aload hx hb dX19_drop_178 (lv_at hl 6 rfl) ?_
                            obtain ⟨kp_47, hkp_47⟩ := va_pl_get (X := [(q_s, .inl (cS, n_s, .inl (fun j : Nat => zI (a_s (j : Int))))), (q_n, .inl (cN, n_n, .inl (fun j : Nat => zI (w11_n (j : Int))))), (hc, .inr (12, [v13_0, v13_1, v13_2, v13_3, v13_4, .ref la, v13_6]))]) (f := pE P165) hq_31.1
                            rw [pE_block hq_31.2] at hkp_47
                            refine va_get (D := (dC, dI)) (ci := 19) (v := .ref (P165.bp xb_20)) (C := RX12) (T := TX12) (N := 5) hx hb hts mem_P19_dropE_4 hown hK hP kp_47 hkp_47 rfl 0 (by decide) (ow (k := 14) rfl) (fun _ h9 => h9) rfl dX19_drop_180 ?_
                            obtain ⟨pr_48, epr_48⟩ : ∃ q9 : Nat, q9 = P165.bp xb_20 := ⟨_, rfl⟩
                            rw [← epr_48]
                            obtain rfl : pr_42 = pr_48 := (by rw [epr_48]; exact epr_42.symm.symm)
                            refine lv_iload hx hb dX19_drop_183 (lv_at hl 7 rfl) ?_
                            have hlk_49 := (show LOK L P165 cO 15 pr_42 from (by rw [← epr_42.symm]; exact aP165.lbp hq_31.1 hq_31.2))
                            obtain ⟨x, ex⟩ : ∃ q9 : Nat, q9 = P165.el pr_42 (d165_7) := ⟨_, rfl⟩
                            have hX_x := hlk_49.1
                            have hX_k := hlk_49.2.1
                            have hq9 := hlk_49.row (i := d165_7) (by omega) (by omega)
                            have hX_q : P165.le pr_42 ∈ L ∧ P165.kd (P165.le pr_42) = 31 ∧ P165.ac (P165.le pr_42) = cO := ⟨hq9.1, hq9.2.1, hq9.2.2.1⟩
                            have hq8 := hq9.2.2.2
                            have hX_e0 : P165.oa (P165.le pr_42) (d165_7).toNat = some x := (by rw [ex]; exact (hlk_49.2.2.2.2 (d165_7) (by omega) (by omega)).1)
                            have hxm : x ∈ L := (by rw [ex]; exact (hlk_49.2.2.2.2 (d165_7) (by omega) (by omega)).2.1)
                            have hxk := (hlk_49.2.2.2.2 (d165_7) (by omega) (by omega)).2.2
                            rw [← ex] at hxk
                            have hPc := hP.part (X := [(q_s, .inl (cS, n_s, .inl (fun j : Nat => zI (a_s (j : Int))))), (q_n, .inl (cN, n_n, .inl (fun j : Nat => zI (w11_n (j : Int))))), (hc, .inr (12, [v13_0, v13_1, v13_2, v13_3, v13_4, .ref la, v13_6]))]) (cx := []) (pl := va_pl L (pE P165)) [] rfl
                            have hDc := hD.part (X := [(q_s, .inl (cS, n_s, .inl (fun j : Nat => zI (a_s (j : Int))))), (q_n, .inl (cN, n_n, .inl (fun j : Nat => zI (w11_n (j : Int))))), (hc, .inr (12, [v13_0, v13_1, v13_2, v13_3, v13_4, .ref la, v13_6]))]) (cx := []) (pl := va_pl L (pE P165)) [] (by decide) rfl
                            have hKc := hK.sub (tys' := [(cO, .object "java/lang/Object")]) [4] rfl
                            have hFc := va_freeP (X := [(q_s, .inl (cS, n_s, .inl (fun j : Nat => zI (a_s (j : Int))))), (q_n, .inl (cN, n_n, .inl (fun j : Nat => zI (w11_n (j : Int))))), (hc, .inr (12, [v13_0, v13_1, v13_2, v13_3, v13_4, .ref la, v13_6]))]) (cx := []) (pl := va_pl L (pE P165)) hD hS hA [] rfl
                            refine va_callr (va_runV (As := [.int (zI (d165_7))]) (rest := []) ⟨hx, hb, hml, hown, hts⟩ (c_PL_get l dC dI cO L P165 pr_42 d165_7 x hX_x hX_k hX_q (by omega) hX_e0 H.size) (cwV 1 hts g_P19_dropE_PL_get rfl rfl rfl (by decide +kernel) ⟨(Nat.le_of_ble_eq_true rfl), (Nat.le_of_ble_eq_true rfl)⟩) ⟨fun a U g mk q => by obtain ⟨q0, q1, qP, qK, qD⟩ := q; exact ⟨q0, q1, qP, va_K.moved (u := U) (U := U.calling g mk a) (Vm.Alike.refl U.vm) qK, qD⟩, recv_30 hKc hPc hlk_43.1 hlk_43.2.1, fun U hU hW => ⟨rfl, by rw [hU], by rw [hU]; exact hPc, va_K.moved hW.alike hKc, hDc.weaken (fun _ _ _ _ => trivial)⟩⟩ rfl rfl hl.1 rfl (lv_room (Nat.le_of_ble_eq_true rfl)) dX19_drop_185 ⟨(Nat.le_of_ble_eq_true rfl), (Nat.le_of_ble_eq_true rfl)⟩) hS (fun q _ h => hFc q h) hFc (fun u q_50 t H1 locs ht hvm hw hB hz1 hk1 hS => ?_)
                            obtain ⟨hxt_50, hP1, hK1, hD1⟩ := hB
                            rw [ht] at hP1
                            have hK1 := va_K.moved hvm.symm hK1
                            obtain ⟨hP, hD⟩ := va_joinP (X := [(q_s, .inl (cS, n_s, .inl (fun j : Nat => zI (a_s (j : Int))))), (q_n, .inl (cN, n_n, .inl (fun j : Nat => zI (w11_n (j : Int))))), (hc, .inr (12, [v13_0, v13_1, v13_2, v13_3, v13_4, .ref la, v13_6]))]) (cx := []) (wr := [(q_s, .inl (cS, n_s, .inl (fun j : Nat => zI (a_s (j : Int))))), (q_n, .inl (cN, n_n, .inl (fun j : Nat => zI (w11_n (j : Int))))), (hc, .inr (12, [v13_0, v13_1, v13_2, v13_3, v13_4, .ref la, v13_6]))]) (rx := []) (pl := va_pl L (pE P165)) (pl1 := va_pl L (pE P165)) hP hD [] [0, 1, 2] rfl rfl (by decide) (by decide) hk1 hFc hP1 hD1
                            have hK := (hK.sub (tys' := [(cS, .boolean), (cN, .int), (cI, .int), (cZ, .boolean)]) [0, 1, 2, 3] rfl).app hK1
                            generalize H1 = H at hP hS ⊢
                            have hP : va_P (dC, dI) vwQ ([(q_s, .inl (cS, n_s, .inl (fun j : Nat => zI (a_s (j : Int))))), (q_n, .inl (cN, n_n, .inl (fun j : Nat => zI (w11_n (j : Int))))), (hc, .inr (12, [v13_0, v13_1, v13_2, v13_3, v13_4, .ref la, v13_6]))] ++ va_pl L (pE P165)) H := hP
                            have hD : va_D A ([(q_s, .inl (cS, n_s, .inl (fun j : Nat => zI (a_s (j : Int))))), (q_n, .inl (cN, n_n, .inl (fun j : Nat => zI (w11_n (j : Int))))), (hc, .inr (12, [v13_0, v13_1, v13_2, v13_3, v13_4, .ref la, v13_6]))] ++ va_pl L (pE P165)) := hD
                            have hK : va_K (dC, dI) vwQ [(cS, .boolean), (cN, .int), (cI, .int), (cZ, .boolean), (cO, .object "java/lang/Object")] s := hK
                            refine W.widen (k := 0) (n := 0) (Nat.le_of_ble_eq_true rfl) (Nat.le_of_ble_eq_true rfl) ?_
                            rw [hxt_50]
                            clear hX_e0
                            obtain ⟨xp_51, h9⟩ : ∃ q9 : Nat, q9 = x := ⟨_, rfl⟩
                            subst h9
                            have hm_52 := hxm
                            have hk_53 := hxk
                            refine va_castY (C := "SsaForgeModel$Phi") (nm := "SsaForgeModel$Phi") hx hb hown (ow (k := 18) rfl) hp1 (recv_15 hK hP hm_52 hk_53) dX19_drop_188 ?_
                            refine lv_astore (lv' := [(8, .ref xp_51), (0, .ref hc), (1, .ref q_s), (2, .ref q_n), (3, .int (zI (P.lz la))), (4, .int (zI (d11_4))), (5, .int (zI (d110_5))), (6, .ref xb_20), (7, .int (zI (d165_7)))]) hx hb dX19_drop_191 hl (by decide) rfl (fun ls hl => ?_)
                            have hzl : P75.lz (P75.bp (P75.el la (d110_5))) = P165.lz pr_42 := (by rw [← hyi, ← jv165.bp xb_20, epr_42.symm]; exact (jv165.1.2.2 pr_42 ((jv165.kd pr_42).symm.trans hlk_43.2.1)).symm)
                            have hxi_54 : xp_51 = P75.el (P75.bp (P75.el la (d110_5))) (d165_7) := (by rw [← hyi, ← jv165.bp xb_20, epr_42.symm, ← jv165.el pr_42 (d165_7)]; exact ex)
                            have hfr_55 : ¬ VDR P75 la (d110_5 + 1) (d110_5) (d165_7) xp_51 := (by rw [hxi_54]; exact VDR.nphi hbk (by omega) (by omega) (by omega) (by omega))
                            have hpk_56 : PIK L P75 cI cZ xp_51 := (by rw [hxi_54]; exact hbk.2.1 (d110_5) (d165_7) (by omega) (by omega) (by omega) (by omega))
                            have htg0 : P165.pt xp_51 = P75.pt xp_51 ∧ P165.pg xp_51 = P75.pg xp_51 := ⟨jv165.2.1 xp_51 hfr_55 0, jv165.2.1 xp_51 hfr_55 2⟩
                            have hpn9 : P165.pn xp_51 = P75.pn xp_51 := jv165.2.1 xp_51 hfr_55 1
                            skip
                            refine lv_aload hx hb dX19_drop_193 (lv_at hl 0 rfl) ?_
                            have hp9 := aP165.pik hm_52 hk_53
                            have hpn := hp9.2.2.2.2.1
                            have hpt := hp9.2.2.2.2.2.1
                            clear hp9
                            obtain ⟨kp_57, hkp_57⟩ := va_pl_get (X := [(q_s, .inl (cS, n_s, .inl (fun j : Nat => zI (a_s (j : Int))))), (q_n, .inl (cN, n_n, .inl (fun j : Nat => zI (w11_n (j : Int))))), (hc, .inr (12, [v13_0, v13_1, v13_2, v13_3, v13_4, .ref la, v13_6]))]) (f := pE P165) hm_52
                            rw [pE_phi hk_53] at hkp_57
                            refine va_get (D := (dC, dI)) (ci := 20) (v := .int (zI (P165.pn xp_51))) (C := RX15) (T := TX15) (N := 6) hx hb hts mem_P19_dropE_7 hown hK hP kp_57 hkp_57 rfl 1 (by decide) (ow (k := 19) rfl) (fun _ h9 => h9) rfl dX19_drop_195 ?_
                            refine lv_iconst (v := 1) hx hb dX19_drop_198 (by decide) ?_
                            refine lv_isub hx hb dX19_drop_199 ?_
                            refine lv_topi (fun z ez => ?_)
                            obtain rfl : z = zI ((P165.pn xp_51) - 1) := ez.trans (zI_sub (P165.pn xp_51) (1))
                            refine lv_istore (lv' := [(9, .int (zI ((P165.pn xp_51) - 1))), (8, .ref xp_51), (0, .ref hc), (1, .ref q_s), (2, .ref q_n), (3, .int (zI (P.lz la))), (4, .int (zI (d11_4))), (5, .int (zI (d110_5))), (6, .ref xb_20), (7, .int (zI (d165_7)))]) hx hb dX19_drop_200 hl (by decide) rfl (fun ls hl => ?_)
                            have key202 : ∀ n202 : Nat, ∀ (d202_9 : Int) (P202 : PO) (ls : Array Slot) (H : Heap) (locs : List Loc), (KEG [la] L P165 L P202) → (GLF L P202 cO cI cZ sx_ed) → (-1 ≤ d202_9 ∧ d202_9 < 300 ∧ d202_9 < P202.pn xp_51) → (UNV P75 P202 (VDR P75 la (d110_5 + 1) (d110_5) (d165_7 + 1))) → (DRD P75 P202 la w11_n (d110_5 + 1) (d110_5) (d165_7)) → (LSN P75 P202 w11_n xp_51 (d202_9)) → (P202.pt xp_51 = P75.pt xp_51 ∧ P202.pg xp_51 = P75.pg xp_51) → ((d202_9 + 1 : Int).toNat) < n202 → lv_has ls 10 [(0, .ref hc), (1, .ref q_s), (2, .ref q_n), (3, .int (zI (P.lz la))), (4, .int (zI (d11_4))), (5, .int (zI (d110_5))), (6, .ref xb_20), (7, .int (zI (d165_7))), (8, .ref xp_51), (9, .int (zI (d202_9)))] → va_P (dC, dI) vwQ ([(q_s, .inl (cS, n_s, .inl (fun j : Nat => zI (a_s (j : Int))))), (q_n, .inl (cN, n_n, .inl (fun j : Nat => zI (w11_n (j : Int))))), (hc, .inr (12, [v13_0, v13_1, v13_2, v13_3, v13_4, .ref la, v13_6]))] ++ va_pl L (pE P202)) H → va_D A ([(q_s, .inl (cS, n_s, .inl (fun j : Nat => zI (a_s (j : Int))))), (q_n, .inl (cN, n_n, .inl (fun j : Nat => zI (w11_n (j : Int))))), (hc, .inr (12, [v13_0, v13_1, v13_2, v13_3, v13_4, .ref la, v13_6]))] ++ va_pl L (pE P202)) → va_S A s.heap H locs → W p l e (headSpec v_P19_dropE ({ frames := 4, cells := 0, slots := 0, locals := 106 })).room s m ([.ref hc, .ref q_s, .ref q_n] : List Value).toArray below meth c H locs 0 0 Q (F0 m 202 ls []) := by
                              intro n202
                              induction n202 with
                              | zero => intro d202_9 P202 ls H locs kP202 aP202 jd202_9 jv202 jd202 jl202 jt202 hm202; exact absurd hm202 (by omega)
                              | succ n202 ih202 =>
                                intro d202_9 P202 ls H locs kP202 aP202 jd202_9 jv202 jd202 jl202 jt202 hm202 hl hP hD hS
                                have hq_58 : la ∈ L ∧ P202.kd la = 30 := kP202.mem hq_30.1 hq_30.2 (by decide)
                                have hq_59 : xb_20 ∈ L ∧ P202.kd xb_20 = 12 := kP202.mem hq_31.1 hq_31.2 (by decide)
                                have hq_60 : pr_24 ∈ L ∧ P202.kd pr_24 = 17 := kP202.mem hq_32.1 hq_32.2 (by decide)
                                have hq_61 : pr_42 ∈ L ∧ P202.kd pr_42 = 30 := kP202.mem hlk_43.1 hlk_43.2.1 (by decide)
                                have hq_62 : xp_51 ∈ L ∧ P202.kd xp_51 = 15 := kP202.mem hm_52 hk_53 (by decide)
                                have ha_63 : P202.be xb_20 = pr_24 := kP202.be hq_31.1 hq_31.2 ha_33
                                have ha_64 : P202.bp xb_20 = pr_42 := kP202.bp hq_31.1 hq_31.2 epr_42.symm
                                have hA_65 : KEG [la] L P L P202 := hA_34.trans kP202
                                have hA_66 : KEG [la] L P11 L P202 := hA_35.trans kP202
                                have hA_67 : KEG [la] L P75 L P202 := hA_36.trans kP202
                                have hA_68 : KEG [la] L P110 L P202 := hA_37.trans kP202
                                have hA_69 : KEG [la] L P165 L P202 := (KEG.refl [la] L P165).trans kP202
                                have hek_70 : P202.ek la = 12 := (by rw [kP202.ek hq_30.1 hq_30.2 (by decide)]; exact hek_38)
                                have how_71 : P202.ow la = la := ((kP202.1 la hq_30.1 (by rw [hq_30.2]; decide)).2.2.2.1 hq_30.2 how_39).1
                                have hek_72 : P202.ek pr_42 = 15 := (by rw [kP202.ek hlk_43.1 hlk_43.2.1 (by decide)]; exact hek_44)
                                have hE_73 : P202.ek pr_24 = 1 := (by rw [kP202.ek hq_32.1 hq_32.2 (by decide)]; exact hE_40)
                                have hj202 := kP202
                                have hln9 := jl202.le
                                refine lv_iload hx hb dX19_drop_202 (lv_at hl 9 rfl) ?_
                                refine lv_if_lt (tgt := 254) hx hb dX19_drop_204 (by decide) (fun b204 => ?_) (fun b204 => ?_)
                                · have yb204 : (d202_9 : Int) < (0 : Int) := (zI_lt (a := d202_9) (b := 0) (by omega) (by omega) (by omega) (by omega)).mp b204
                                  have hl9 := jl202
                                  rw [show d202_9 = -1 from (by omega), hxi_54] at hl9
                                  have ht9 := jt202
                                  rw [hxi_54] at ht9
                                  have hld9 := jd202.put hl9 ht9.1 ht9.2
                                  refine lv_iinc (v := zI (d165_7 + 1)) (lv' := [(7, .int (zI (d165_7 + 1))), (0, .ref hc), (1, .ref q_s), (2, .ref q_n), (3, .int (zI (P.lz la))), (4, .int (zI (d11_4))), (5, .int (zI (d110_5))), (6, .ref xb_20), (8, .ref xp_51), (9, .int (zI (d202_9)))]) hx hb dX19_drop_254 hl (k := 7) rfl (zI_add (d165_7) (1)) (by decide) rfl (fun ls hl => ?_)
                                  refine lv_goto (tgt := 165) hx hb dX19_drop_257 (by decide) ?_
                                  exact ih165 (d165_7 + 1) P202 ls H _ (kP165.trans hA_69) aP202 (by omega) jv202 hld9 (by omega) (lv_sub hl [1, 2, 3, 4, 5, 6, 7, 0] rfl) hP hD hS
                                · have yb204 : ¬ (d202_9 : Int) < (0 : Int) := fun q => b204 ((zI_lt (a := d202_9) (b := 0) (by omega) (by omega) (by omega) (by omega)).mpr q)
                                  refine lv_aload_n hx hb dX19_drop_207 rfl (lv_at hl 2 rfl) ?_
                                  refine lv_aload hx hb dX19_drop_208 (lv_at hl 8 rfl) ?_
                                  have hp9 := aP202.pik hq_62.1 hq_62.2
                                  have hpn := hp9.2.2.2.2.1
                                  have hpt := hp9.2.2.2.2.2.1
                                  clear hp9
                                  obtain ⟨kp_74, hkp_74⟩ := va_pl_get (X := [(q_s, .inl (cS, n_s, .inl (fun j : Nat => zI (a_s (j : Int))))), (q_n, .inl (cN, n_n, .inl (fun j : Nat => zI (w11_n (j : Int))))), (hc, .inr (12, [v13_0, v13_1, v13_2, v13_3, v13_4, .ref la, v13_6]))]) (f := pE P202) hq_62.1
                                  rw [pE_phi hq_62.2] at hkp_74
                                  refine va_get (D := (dC, dI)) (ci := 20) (v := .ref (P202.pp xp_51)) (C := RX15) (T := TX15) (N := 6) hx hb hts mem_P19_dropE_7 hown hK hP kp_74 hkp_74 rfl 2 (by decide) (ow (k := 20) rfl) (fun _ h9 => h9) rfl dX19_drop_210 ?_
                                  obtain ⟨pr_75, epr_75⟩ : ∃ q9 : Nat, q9 = P202.pp xp_51 := ⟨_, rfl⟩
                                  rw [← epr_75]
                                  have hpk_76 := aP202.pik hq_62.1 hq_62.2
                                  have hopr_75 : pr_75 ∈ L ∧ P202.kd pr_75 = 40 ∧ P202.ac pr_75 = cI ∧ P202.ow pr_75 = xp_51 := (by rw [epr_75]; exact hpk_76.2.1)
                                  have hnpr_75 : P202.an pr_75 = P202.an (P202.pp xp_51) := (by rw [epr_75])
                                  have hipr_75 : P202.ia pr_75 = P202.ia (P202.pp xp_51) := (by rw [epr_75])
                                  refine lv_iload hx hb dX19_drop_213 (lv_at hl 9 rfl) ?_
                                  obtain ⟨kp_77, hkp_77⟩ := va_pl_get (X := [(q_s, .inl (cS, n_s, .inl (fun j : Nat => zI (a_s (j : Int))))), (q_n, .inl (cN, n_n, .inl (fun j : Nat => zI (w11_n (j : Int))))), (hc, .inr (12, [v13_0, v13_1, v13_2, v13_3, v13_4, .ref la, v13_6]))]) (f := pE P202) hopr_75.1
                                  rw [pE_n40 hopr_75.2.1, hopr_75.2.2.1] at hkp_77
                                  refine va_iald hx hb hK hP kp_77 2 hkp_77 rfl (zI_in (a := d202_9) (n := P202.an pr_75) (by omega) (by omega) (by omega)) dX19_drop_215 ?_
                                  refine lv_topi (fun z ez => ?_)
                                  obtain rfl : z = zI (P202.ia pr_75 (d202_9)) := ez.trans (zI_ld (P202.ia pr_75) (by omega) (by omega))
                                  have hef9 := hpk_76.ef (i := d202_9) (by omega) (by omega)
                                  unfold PEF EF at hef9
                                  have : P202.ia pr_75 (d202_9) = P202.ia (P202.pp xp_51) (d202_9) := (by rw [hipr_75])
                                  have hpr9 := hd9.prb hX_a (b := d110_5) (j := d165_7) (by omega) (by omega) (by omega) (by omega) hxi_54 (i := d202_9) (by omega) (by omega)
                                  have hqp9 : pr_75 = P75.pp xp_51 := epr_75.symm.symm.trans (jv202.pp xp_51)
                                  have hee9 : P202.ia pr_75 (d202_9) = P75.ia (P75.pp xp_51) (d202_9) := (by rw [hqp9]; exact jl202.here (by omega))
                                  have hca9 : w11_n (P202.ia pr_75 (d202_9)) = w11_n (P75.ia (P75.pp xp_51) (d202_9)) := congrArg w11_n hee9
                                  refine va_iald hx hb hK hP 1 1 rfl rfl (zI_in (a := P202.ia pr_75 (d202_9)) (n := n_n) (by omega) (by omega) (by omega)) dX19_drop_216 ?_
                                  refine lv_topi (fun z ez => ?_)
                                  obtain rfl : z = zI (w11_n (P202.ia pr_75 (d202_9))) := ez.trans (zI_ld (w11_n) (by omega) (by omega))
                                  have k1 := jw11_n (P202.ia pr_75 (d202_9))
                                  refine lv_if_ge (tgt := 230) hx hb dX19_drop_217 (by decide) (fun b217 => ?_) (fun b217 => ?_)
                                  · have yb217 : (0 : Int) ≤ (w11_n (P202.ia pr_75 (d202_9)) : Int) := (zI_le (a := 0) (b := w11_n (P202.ia pr_75 (d202_9))) (by omega) (by omega) (by omega) (by omega)).mp b217
                                    refine lv_aload hx hb dX19_drop_230 (lv_at hl 8 rfl) ?_
                                    obtain ⟨kp_78, hkp_78⟩ := va_pl_get (X := [(q_s, .inl (cS, n_s, .inl (fun j : Nat => zI (a_s (j : Int))))), (q_n, .inl (cN, n_n, .inl (fun j : Nat => zI (w11_n (j : Int))))), (hc, .inr (12, [v13_0, v13_1, v13_2, v13_3, v13_4, .ref la, v13_6]))]) (f := pE P202) hq_62.1
                                    rw [pE_phi hq_62.2] at hkp_78
                                    refine va_get (D := (dC, dI)) (ci := 20) (v := .ref (P202.pp xp_51)) (C := RX15) (T := TX15) (N := 6) hx hb hts mem_P19_dropE_7 hown hK hP kp_78 hkp_78 rfl 2 (by decide) (ow (k := 20) rfl) (fun _ h9 => h9) rfl dX19_drop_232 ?_
                                    obtain ⟨pr_79, epr_79⟩ : ∃ q9 : Nat, q9 = P202.pp xp_51 := ⟨_, rfl⟩
                                    rw [← epr_79]
                                    obtain rfl : pr_75 = pr_79 := (by rw [epr_79]; exact epr_75.symm.symm)
                                    refine lv_iload hx hb dX19_drop_235 (lv_at hl 9 rfl) ?_
                                    refine lv_aload_n hx hb dX19_drop_237 rfl (lv_at hl 2 rfl) ?_
                                    refine lv_aload hx hb dX19_drop_238 (lv_at hl 8 rfl) ?_
                                    obtain ⟨kp_80, hkp_80⟩ := va_pl_get (X := [(q_s, .inl (cS, n_s, .inl (fun j : Nat => zI (a_s (j : Int))))), (q_n, .inl (cN, n_n, .inl (fun j : Nat => zI (w11_n (j : Int))))), (hc, .inr (12, [v13_0, v13_1, v13_2, v13_3, v13_4, .ref la, v13_6]))]) (f := pE P202) hq_62.1
                                    rw [pE_phi hq_62.2] at hkp_80
                                    refine va_get (D := (dC, dI)) (ci := 20) (v := .ref (P202.pp xp_51)) (C := RX15) (T := TX15) (N := 6) hx hb hts mem_P19_dropE_7 hown hK hP kp_80 hkp_80 rfl 2 (by decide) (ow (k := 20) rfl) (fun _ h9 => h9) rfl dX19_drop_240 ?_
                                    obtain ⟨pr_81, epr_81⟩ : ∃ q9 : Nat, q9 = P202.pp xp_51 := ⟨_, rfl⟩
                                    rw [← epr_81]
                                    obtain rfl : pr_75 = pr_81 := (by rw [epr_81]; exact epr_75.symm.symm)
                                    refine lv_iload hx hb dX19_drop_243 (lv_at hl 9 rfl) ?_
                                    obtain ⟨kp_82, hkp_82⟩ := va_pl_get (X := [(q_s, .inl (cS, n_s, .inl (fun j : Nat => zI (a_s (j : Int))))), (q_n, .inl (cN, n_n, .inl (fun j : Nat => zI (w11_n (j : Int))))), (hc, .inr (12, [v13_0, v13_1, v13_2, v13_3, v13_4, .ref la, v13_6]))]) (f := pE P202) hopr_75.1
                                    rw [pE_n40 hopr_75.2.1, hopr_75.2.2.1] at hkp_82
                                    refine va_iald hx hb hK hP kp_82 2 hkp_82 rfl (zI_in (a := d202_9) (n := P202.an pr_75) (by omega) (by omega) (by omega)) dX19_drop_245 ?_
                                    refine lv_topi (fun z ez => ?_)
                                    obtain rfl : z = zI (P202.ia pr_75 (d202_9)) := ez.trans (zI_ld (P202.ia pr_75) (by omega) (by omega))
                                    have hef9 := hpk_76.ef (i := d202_9) (by omega) (by omega)
                                    unfold PEF EF at hef9
                                    have : P202.ia pr_75 (d202_9) = P202.ia (P202.pp xp_51) (d202_9) := (by rw [hipr_75])
                                    refine va_iald hx hb hK hP 1 1 rfl rfl (zI_in (a := P202.ia pr_75 (d202_9)) (n := n_n) (by omega) (by omega) (by omega)) dX19_drop_246 ?_
                                    refine lv_topi (fun z ez => ?_)
                                    obtain rfl : z = zI (w11_n (P202.ia pr_75 (d202_9))) := ez.trans (zI_ld (w11_n) (by omega) (by omega))
                                    have k2 := jw11_n (P202.ia pr_75 (d202_9))
                                    obtain ⟨kp_83, gkp_83⟩ := va_pl_get (X := [(q_s, .inl (cS, n_s, .inl (fun j : Nat => zI (a_s (j : Int))))), (q_n, .inl (cN, n_n, .inl (fun j : Nat => zI (w11_n (j : Int))))), (hc, .inr (12, [v13_0, v13_1, v13_2, v13_3, v13_4, .ref la, v13_6]))]) (f := pE P202) hopr_75.1
                                    have hkp_83 := gkp_83
                                    rw [pE_n40 hopr_75.2.1, hopr_75.2.2.1] at hkp_83
                                    have hD0 := hD
                                    refine va_iast (i := zI (d202_9)) hx hb hK hP hD hS kp_83 2 hkp_83 rfl (zI_in (a := d202_9) (n := P202.an pr_75) (by omega) (by omega) (by omega)) dX19_drop_247 (fun H locs hP hD hS => ?_)
                                    obtain ⟨Pw_84, ePw_84⟩ : ∃ q9 : PO, q9 = P202.ri9 pr_75 (zup (P202.ia pr_75) (d202_9) (w11_n (P202.ia pr_75 (d202_9)))) := ⟨_, rfl⟩
                                    have eQ : upd (fun j : Nat => zI (P202.ia pr_75 (j : Int))) (zI (d202_9)).toNatClampNeg (zI (w11_n (P202.ia pr_75 (d202_9)))) = (fun j : Nat => zI ((zup (P202.ia pr_75) (d202_9) (w11_n (P202.ia pr_75 (d202_9)))) (j : Int))) := zI_st (P202.ia pr_75) (e := d202_9) (v := w11_n (P202.ia pr_75 (d202_9))) (by omega) (by omega)
                                    have eU : (([(q_s, .inl (cS, n_s, .inl (fun j : Nat => zI (a_s (j : Int))))), (q_n, .inl (cN, n_n, .inl (fun j : Nat => zI (w11_n (j : Int))))), (hc, .inr (12, [v13_0, v13_1, v13_2, v13_3, v13_4, .ref la, v13_6]))] : va_W) ++ va_pl L (pE P202)).set kp_83 (pr_75, (.inl (cI, P202.an pr_75, .inl (upd (fun j : Nat => zI (P202.ia pr_75 (j : Int))) (zI (d202_9)).toNatClampNeg (zI (w11_n (P202.ia pr_75 (d202_9)))))) : va_E)) = ([(q_s, .inl (cS, n_s, .inl (fun j : Nat => zI (a_s (j : Int))))), (q_n, .inl (cN, n_n, .inl (fun j : Nat => zI (w11_n (j : Int))))), (hc, .inr (12, [v13_0, v13_1, v13_2, v13_3, v13_4, .ref la, v13_6]))] : va_W) ++ va_pl L (pE Pw_84) := (by rw [eQ, va_pl_set hD0 hopr_75.1 gkp_83, ePw_84]; exact congrArg (fun f9 => ([(q_s, .inl (cS, n_s, .inl (fun j : Nat => zI (a_s (j : Int))))), (q_n, .inl (cN, n_n, .inl (fun j : Nat => zI (w11_n (j : Int))))), (hc, .inr (12, [v13_0, v13_1, v13_2, v13_3, v13_4, .ref la, v13_6]))] : va_W) ++ va_pl L f9) (by have h9 := putnum (P := P202) (x := pr_75) (a := zup (P202.ia pr_75) (d202_9) (w11_n (P202.ia pr_75 (d202_9)))) (by omega); rw [hopr_75.2.2.1] at h9; exact h9))
                                    have hP : va_P (dC, dI) vwQ ([(q_s, .inl (cS, n_s, .inl (fun j : Nat => zI (a_s (j : Int))))), (q_n, .inl (cN, n_n, .inl (fun j : Nat => zI (w11_n (j : Int))))), (hc, .inr (12, [v13_0, v13_1, v13_2, v13_3, v13_4, .ref la, v13_6]))] ++ va_pl L (pE Pw_84)) H := (by rw [← eU]; exact hP)
                                    have hD : va_D A ([(q_s, .inl (cS, n_s, .inl (fun j : Nat => zI (a_s (j : Int))))), (q_n, .inl (cN, n_n, .inl (fun j : Nat => zI (w11_n (j : Int))))), (hc, .inr (12, [v13_0, v13_1, v13_2, v13_3, v13_4, .ref la, v13_6]))] ++ va_pl L (pE Pw_84)) := (by rw [← eU]; exact hD)
                                    clear eU eQ hD0 gkp_83 hkp_83
                                    have wPw_84 : PH1 xp_51 P202 Pw_84 := (by rw [ePw_84]; exact PH1.num hopr_75.2.2.2)
                                    have hi_85 : Pw_84.ia pr_75 = zup (P202.ia pr_75) (d202_9) (w11_n (P202.ia pr_75 (d202_9))) := (by rw [ePw_84]; exact ri9_at _ _ _)
                                    have hy_86 : Pw_84.kd la = 30 := (by rw [ePw_84]; exact hq_58.2)
                                    have hy_87 : Pw_84.kd xb_20 = 12 := (by rw [ePw_84]; exact hq_59.2)
                                    have : Pw_84.bf xb_20 = P202.bf xb_20 := (by rw [ePw_84]; rfl)
                                    have : Pw_84.bs xb_20 = P202.bs xb_20 := (by rw [ePw_84]; rfl)
                                    have hy_88 : Pw_84.kd pr_24 = 17 := (by rw [ePw_84]; exact hq_60.2)
                                    have : Pw_84.ro pr_24 = P202.ro pr_24 := (by rw [ePw_84]; rfl)
                                    have : Pw_84.rt pr_24 = P202.rt pr_24 := (by rw [ePw_84]; rfl)
                                    have : Pw_84.ra pr_24 = P202.ra pr_24 := (by rw [ePw_84]; rfl)
                                    have : Pw_84.rb pr_24 = P202.rb pr_24 := (by rw [ePw_84]; rfl)
                                    have : Pw_84.rA pr_24 = P202.rA pr_24 := (by rw [ePw_84]; rfl)
                                    have : Pw_84.rB pr_24 = P202.rB pr_24 := (by rw [ePw_84]; rfl)
                                    have : Pw_84.rg pr_24 = P202.rg pr_24 := (by rw [ePw_84]; rfl)
                                    have hy_89 : Pw_84.kd pr_42 = 30 := (by rw [ePw_84]; exact hq_61.2)
                                    have hy_90 : Pw_84.kd xp_51 = 15 := (by rw [ePw_84]; exact hq_62.2)
                                    have : Pw_84.pt xp_51 = P202.pt xp_51 := (by rw [ePw_84]; rfl)
                                    have : Pw_84.pn xp_51 = P202.pn xp_51 := (by rw [ePw_84]; rfl)
                                    have : Pw_84.pg xp_51 = P202.pg xp_51 := (by rw [ePw_84]; rfl)
                                    have hy_91 : Pw_84.kd pr_75 = 40 := (by rw [ePw_84]; exact hopr_75.2.1)
                                    have hc_92 : Pw_84.ac pr_75 = cI := (by rw [ePw_84]; exact hopr_75.2.2.1)
                                    have : Pw_84.an pr_75 = P202.an pr_75 := (by rw [ePw_84]; rfl)
                                    have ha_93 : Pw_84.be xb_20 = pr_24 := (by rw [ePw_84]; exact ha_63)
                                    have ha_94 : Pw_84.bp xb_20 = pr_42 := (by rw [ePw_84]; exact ha_64)
                                    have ha_95 : Pw_84.pp xp_51 = pr_75 := (by rw [ePw_84]; exact epr_75.symm)
                                    have ho_96 : Pw_84.ow pr_75 = xp_51 := (by rw [ePw_84]; exact hopr_75.2.2.2)
                                    have hpt_97 := PIK.putp (aP202.pik hq_62.1 hq_62.2) epr_75.symm (i := d202_9) (v := w11_n (P202.ia pr_75 (d202_9))) (by omega) (by omega) (by omega) (by omega) ePw_84
                                    have hrw_98 : RWD P202 Pw_84 := hpt_97.1.rwd hq_62.2
                                    have hke_99 : KEG [la] L P202 L Pw_84 := hrw_98.keg _ hq_58.2
                                    have hak_100 : GLF L Pw_84 cO cI cZ sx_ed := aP202.phi hpt_97.1 hq_62.2 hpt_97.2.1
                                    have hq_101 : la ∈ L ∧ Pw_84.kd la = 30 := hke_99.mem hq_58.1 hq_58.2 (by decide)
                                    have hq_102 : xb_20 ∈ L ∧ Pw_84.kd xb_20 = 12 := hke_99.mem hq_59.1 hq_59.2 (by decide)
                                    have hq_103 : pr_24 ∈ L ∧ Pw_84.kd pr_24 = 17 := hke_99.mem hq_60.1 hq_60.2 (by decide)
                                    have hq_104 : pr_42 ∈ L ∧ Pw_84.kd pr_42 = 30 := hke_99.mem hq_61.1 hq_61.2 (by decide)
                                    have hq_105 : xp_51 ∈ L ∧ Pw_84.kd xp_51 = 15 := hke_99.mem hq_62.1 hq_62.2 (by decide)
                                    have ha_106 : Pw_84.be xb_20 = pr_24 := hke_99.be hq_59.1 hq_59.2 ha_63
                                    have ha_107 : Pw_84.bp xb_20 = pr_42 := hke_99.bp hq_59.1 hq_59.2 ha_64
                                    have hA_108 : KEG [la] L P L Pw_84 := hA_65.trans hke_99
                                    have hA_109 : KEG [la] L P11 L Pw_84 := hA_66.trans hke_99
                                    have hA_110 : KEG [la] L P75 L Pw_84 := hA_67.trans hke_99
                                    have hA_111 : KEG [la] L P110 L Pw_84 := hA_68.trans hke_99
                                    have hA_112 : KEG [la] L P165 L Pw_84 := hA_69.trans hke_99
                                    have hA_113 : KEG [la] L P202 L Pw_84 := (KEG.refl [la] L P202).trans hke_99
                                    have : Pw_84.lz la = P202.lz la := hrw_98.lz hq_58.2
                                    have : Pw_84.lz pr_42 = P202.lz pr_42 := hrw_98.lz hq_61.2
                                    have hpn9 := hpt_97.2.2.1.1
                                    have hek_114 : Pw_84.ek la = 12 := (by rw [hke_99.ek hq_58.1 hq_58.2 (by decide)]; exact hek_70)
                                    have how_115 : Pw_84.ow la = la := ((hke_99.1 la hq_58.1 (by rw [hq_58.2]; decide)).2.2.2.1 hq_58.2 how_71).1
                                    have hek_116 : Pw_84.ek pr_42 = 15 := (by rw [hke_99.ek hq_61.1 hq_61.2 (by decide)]; exact hek_72)
                                    have hE_117 : Pw_84.ek pr_24 = 1 := (by rw [hke_99.ek hq_60.1 hq_60.2 (by decide)]; exact hE_73)
                                    have huv_118 : UNV P75 Pw_84 (VDR P75 la (d110_5 + 1) (d110_5) (d165_7 + 1)) := jv202.step hpt_97.1 (by rw [((jv202.kd xp_51).symm.trans hq_62.2)]; decide) (fun z q => q) (by rw [hxi_54]; exact VDR.aphi (by omega) (by omega) (by omega) (by omega))
                                    have hld_119 : DRD P75 Pw_84 la w11_n (d110_5 + 1) (d110_5) (d165_7) := jd202.keep hpt_97.1 jv202 hbk (by omega) (by omega) (by omega) (by omega) hxi_54
                                    have hlp_120 : LSN P75 Pw_84 w11_n xp_51 (d202_9 - 1) := jl202.put (by omega) (by rw [← hca9]; omega) hpt_97.2.2.1.1 (by have q9 := hpt_97.2.2.2.2.2; rw [jv202.pp] at q9; rw [← hca9]; exact q9) (by have q9 := hpt_97.2.2.2.1; rw [jv202.pu] at q9; exact q9) (by have q9 := hpt_97.2.2.2.2.1; rw [jv202.pr] at q9; exact q9)
                                    have htg_121 : Pw_84.pt xp_51 = P75.pt xp_51 ∧ Pw_84.pg xp_51 = P75.pg xp_51 := ⟨hpt_97.2.2.1.2.1.trans jt202.1, hpt_97.2.2.1.2.2.trans jt202.2⟩
                                    refine lv_iinc (v := zI (d202_9 - 1)) (lv' := [(9, .int (zI (d202_9 - 1))), (0, .ref hc), (1, .ref q_s), (2, .ref q_n), (3, .int (zI (P.lz la))), (4, .int (zI (d11_4))), (5, .int (zI (d110_5))), (6, .ref xb_20), (7, .int (zI (d165_7))), (8, .ref xp_51)]) hx hb dX19_drop_248 hl (k := 9) rfl (zI_dec (d202_9) (1)) (by decide) rfl (fun ls hl => ?_)
                                    refine lv_goto (tgt := 202) hx hb dX19_drop_251 (by decide) ?_
                                    exact ih202 (d202_9 - 1) Pw_84 ls H _ (kP202.trans hA_113) hak_100 (by omega) huv_118 hld_119 (hlp_120.to (by omega)) htg_121 (by omega) (lv_sub hl [1, 2, 3, 4, 5, 6, 7, 8, 9, 0] rfl) hP hD hS
                                  · have yb217 : ¬ (0 : Int) ≤ (w11_n (P202.ia pr_75 (d202_9)) : Int) := fun q => b217 ((zI_le (a := 0) (b := w11_n (P202.ia pr_75 (d202_9))) (by omega) (by omega) (by omega) (by omega)).mpr q)
                                    have hnk9 : ¬ 0 ≤ w11_n (P75.ia (P75.pp xp_51) (d202_9)) := (by omega)
                                    refine lv_aload hx hb dX19_drop_220 (lv_at hl 8 rfl) ?_
                                    refine lv_iload hx hb dX19_drop_222 (lv_at hl 9 rfl) ?_
                                    have hX_p := aP202.pik hq_62.1 hq_62.2
                                    have hPc := hP.part (X := [(q_s, .inl (cS, n_s, .inl (fun j : Nat => zI (a_s (j : Int))))), (q_n, .inl (cN, n_n, .inl (fun j : Nat => zI (w11_n (j : Int))))), (hc, .inr (12, [v13_0, v13_1, v13_2, v13_3, v13_4, .ref la, v13_6]))]) (cx := []) (pl := va_pl L (pE P202)) [] rfl
                                    have hDc := hD.part (X := [(q_s, .inl (cS, n_s, .inl (fun j : Nat => zI (a_s (j : Int))))), (q_n, .inl (cN, n_n, .inl (fun j : Nat => zI (w11_n (j : Int))))), (hc, .inr (12, [v13_0, v13_1, v13_2, v13_3, v13_4, .ref la, v13_6]))]) (cx := []) (pl := va_pl L (pE P202)) [] (by decide) rfl
                                    have hKc := hK.sub (tys' := [(cO, .object "java/lang/Object"), (cI, .int), (cZ, .boolean)]) [4, 2, 3] rfl
                                    have hFc := va_freeP (X := [(q_s, .inl (cS, n_s, .inl (fun j : Nat => zI (a_s (j : Int))))), (q_n, .inl (cN, n_n, .inl (fun j : Nat => zI (w11_n (j : Int))))), (hc, .inr (12, [v13_0, v13_1, v13_2, v13_3, v13_4, .ref la, v13_6]))]) (cx := []) (pl := va_pl L (pE P202)) hD hS hA [] rfl
                                    refine va_callv (va_runV (As := [.int (zI (d202_9))]) (rest := []) ⟨hx, hb, hml, hown, hts⟩ (c_PP_dropE l dC dI cO cI cZ L P202 xp_51 d202_9 hX_p (by omega) H.size) (cwV 1 hts g_P19_dropE_PP_dropE rfl rfl rfl (by decide +kernel) ⟨(Nat.le_of_ble_eq_true rfl), (Nat.le_of_ble_eq_true rfl)⟩) ⟨fun a U g mk q => by obtain ⟨q0, q1, qP, qK, qD⟩ := q; exact ⟨q0, q1, qP, va_K.moved (u := U) (U := U.calling g mk a) (Vm.Alike.refl U.vm) qK, qD⟩, recv_15 hKc hPc hq_62.1 hq_62.2, fun U hU hW => ⟨rfl, by rw [hU], by rw [hU]; exact hPc, va_K.moved hW.alike hKc, hDc.weaken (fun _ _ _ _ => trivial)⟩⟩ rfl rfl hl.1 rfl (lv_room (Nat.le_of_ble_eq_true rfl)) dX19_drop_224 ⟨(Nat.le_of_ble_eq_true rfl), (Nat.le_of_ble_eq_true rfl)⟩) hS (fun q _ h => hFc q h) hFc (fun  u t H1 locs ht hvm hw hB hz1 hk1 hS => ?_)
                                    obtain ⟨Pn_122, hxt_122, hP1, hK1, hD1⟩ := hB
                                    rw [ht] at hP1
                                    have hK1 := va_K.moved hvm.symm hK1
                                    obtain ⟨hP, hD⟩ := va_joinP (X := [(q_s, .inl (cS, n_s, .inl (fun j : Nat => zI (a_s (j : Int))))), (q_n, .inl (cN, n_n, .inl (fun j : Nat => zI (w11_n (j : Int))))), (hc, .inr (12, [v13_0, v13_1, v13_2, v13_3, v13_4, .ref la, v13_6]))]) (cx := []) (wr := [(q_s, .inl (cS, n_s, .inl (fun j : Nat => zI (a_s (j : Int))))), (q_n, .inl (cN, n_n, .inl (fun j : Nat => zI (w11_n (j : Int))))), (hc, .inr (12, [v13_0, v13_1, v13_2, v13_3, v13_4, .ref la, v13_6]))]) (rx := []) (pl := va_pl L (pE P202)) (pl1 := va_pl L (pE Pn_122)) hP hD [] [0, 1, 2] rfl rfl (by decide) (by decide) hk1 hFc hP1 hD1
                                    have hK := (hK.sub (tys' := [(cS, .boolean), (cN, .int)]) [0, 1] rfl).app hK1
                                    generalize H1 = H at hP hS ⊢
                                    have hP : va_P (dC, dI) vwQ ([(q_s, .inl (cS, n_s, .inl (fun j : Nat => zI (a_s (j : Int))))), (q_n, .inl (cN, n_n, .inl (fun j : Nat => zI (w11_n (j : Int))))), (hc, .inr (12, [v13_0, v13_1, v13_2, v13_3, v13_4, .ref la, v13_6]))] ++ va_pl L (pE Pn_122)) H := hP
                                    have hD : va_D A ([(q_s, .inl (cS, n_s, .inl (fun j : Nat => zI (a_s (j : Int))))), (q_n, .inl (cN, n_n, .inl (fun j : Nat => zI (w11_n (j : Int))))), (hc, .inr (12, [v13_0, v13_1, v13_2, v13_3, v13_4, .ref la, v13_6]))] ++ va_pl L (pE Pn_122)) := hD
                                    have hK : va_K (dC, dI) vwQ [(cS, .boolean), (cN, .int), (cO, .object "java/lang/Object"), (cI, .int), (cZ, .boolean)] s := hK
                                    refine W.widen (k := 0) (n := 0) (Nat.le_of_ble_eq_true rfl) (Nat.le_of_ble_eq_true rfl) ?_
                                    have hu_123 := hxt_122
                                    have hrw_124 : RWD P202 Pn_122 := hu_123.1.rwd hq_62.2
                                    have hke_125 : KEG [la] L P202 L Pn_122 := hrw_124.keg _ hq_58.2
                                    have hak_126 : GLF L Pn_122 cO cI cZ sx_ed := aP202.phi hu_123.1 hq_62.2 hu_123.2.1
                                    have hq_127 : la ∈ L ∧ Pn_122.kd la = 30 := hke_125.mem hq_58.1 hq_58.2 (by decide)
                                    have hq_128 : xb_20 ∈ L ∧ Pn_122.kd xb_20 = 12 := hke_125.mem hq_59.1 hq_59.2 (by decide)
                                    have hq_129 : pr_24 ∈ L ∧ Pn_122.kd pr_24 = 17 := hke_125.mem hq_60.1 hq_60.2 (by decide)
                                    have hq_130 : pr_42 ∈ L ∧ Pn_122.kd pr_42 = 30 := hke_125.mem hq_61.1 hq_61.2 (by decide)
                                    have hq_131 : xp_51 ∈ L ∧ Pn_122.kd xp_51 = 15 := hke_125.mem hq_62.1 hq_62.2 (by decide)
                                    have ha_132 : Pn_122.be xb_20 = pr_24 := hke_125.be hq_59.1 hq_59.2 ha_63
                                    have ha_133 : Pn_122.bp xb_20 = pr_42 := hke_125.bp hq_59.1 hq_59.2 ha_64
                                    have hA_134 : KEG [la] L P L Pn_122 := hA_65.trans hke_125
                                    have hA_135 : KEG [la] L P11 L Pn_122 := hA_66.trans hke_125
                                    have hA_136 : KEG [la] L P75 L Pn_122 := hA_67.trans hke_125
                                    have hA_137 : KEG [la] L P110 L Pn_122 := hA_68.trans hke_125
                                    have hA_138 : KEG [la] L P165 L Pn_122 := hA_69.trans hke_125
                                    have hA_139 : KEG [la] L P202 L Pn_122 := (KEG.refl [la] L P202).trans hke_125
                                    have : Pn_122.lz la = P202.lz la := hrw_124.lz hq_58.2
                                    have : Pn_122.lz pr_42 = P202.lz pr_42 := hrw_124.lz hq_61.2
                                    have hpn9 := hu_123.2.2.1
                                    have : Pn_122.cap la = P202.cap la := hrw_124.cap la
                                    have hek_140 : Pn_122.ek la = 12 := (by rw [hke_125.ek hq_58.1 hq_58.2 (by decide)]; exact hek_70)
                                    have how_141 : Pn_122.ow la = la := ((hke_125.1 la hq_58.1 (by rw [hq_58.2]; decide)).2.2.2.1 hq_58.2 how_71).1
                                    have hek_142 : Pn_122.ek pr_42 = 15 := (by rw [hke_125.ek hq_61.1 hq_61.2 (by decide)]; exact hek_72)
                                    have hE_143 : Pn_122.ek pr_24 = 1 := (by rw [hke_125.ek hq_60.1 hq_60.2 (by decide)]; exact hE_73)
                                    have huv_144 : UNV P75 Pn_122 (VDR P75 la (d110_5 + 1) (d110_5) (d165_7 + 1)) := jv202.step hu_123.1 (by rw [((jv202.kd xp_51).symm.trans hq_62.2)]; decide) (fun z q => q) (by rw [hxi_54]; exact VDR.aphi (by omega) (by omega) (by omega) (by omega))
                                    have hld_145 : DRD P75 Pn_122 la w11_n (d110_5 + 1) (d110_5) (d165_7) := jd202.keep hu_123.1 jv202 hbk (by omega) (by omega) (by omega) (by omega) hxi_54
                                    have hlp_146 : LSN P75 Pn_122 w11_n xp_51 (d202_9 - 1) := jl202.drop (by omega) hu_123.2.2.2.1.2.2 (jv202.pp xp_51) (jv202.pu xp_51) (jv202.pr xp_51) hnk9
                                    have htg_147 : Pn_122.pt xp_51 = P75.pt xp_51 ∧ Pn_122.pg xp_51 = P75.pg xp_51 := ⟨hu_123.2.2.2.1.1.trans jt202.1, hu_123.2.2.2.1.2.1.trans jt202.2⟩
                                    refine lv_goto (tgt := 248) hx hb dX19_drop_227 (by decide) ?_
                                    refine lv_iinc (v := zI (d202_9 - 1)) (lv' := [(9, .int (zI (d202_9 - 1))), (0, .ref hc), (1, .ref q_s), (2, .ref q_n), (3, .int (zI (P.lz la))), (4, .int (zI (d11_4))), (5, .int (zI (d110_5))), (6, .ref xb_20), (7, .int (zI (d165_7))), (8, .ref xp_51)]) hx hb dX19_drop_248 hl (k := 9) rfl (zI_dec (d202_9) (1)) (by decide) rfl (fun ls hl => ?_)
                                    refine lv_goto (tgt := 202) hx hb dX19_drop_251 (by decide) ?_
                                    exact ih202 (d202_9 - 1) Pn_122 ls H _ (kP202.trans hA_139) hak_126 (by omega) huv_144 hld_145 (hlp_146.to (by omega)) htg_147 (by omega) (lv_sub hl [1, 2, 3, 4, 5, 6, 7, 8, 9, 0] rfl) hP hD hS
                            exact key202 (((P165.pn xp_51) - 1 + 1 : Int).toNat + 1) ((P165.pn xp_51) - 1) P165 ls H _ (KEG.refl _ _ _) aP165 (by omega) (jv165.wk (fun z q => q.mono (by omega) (by omega))) jd165 ((LSN.first P75 w11_n xp_51 (by omega)).same hpn9 (jv165.2.2 _ (by rw [hpk_56.2.1.2.2.2]; exact hfr_55)) (jv165.2.2 _ (by rw [hpk_56.2.2.1.2.2.2]; exact hfr_55)) (jv165.2.2 _ (by rw [hpk_56.2.2.2.1.2.2.2]; exact hfr_55))) htg0 (by omega) (lv_sub hl [2, 3, 4, 5, 6, 7, 8, 9, 1, 0] rfl) hP hD hS
                      exact key165 ((50000 - 0 : Int).toNat + 1) 0 P110 ls H _ (KEG.refl _ _ _) aP110 (by omega) huv_28 hld_29 (by omega) (lv_sub hl [2, 3, 4, 5, 6, 7, 1, 0] rfl) hP hD hS
                    · have yb135 : ¬ (P110.ro pr_24 : Int) = (32 : Int) := fun q => b135 ((zI_eq (a := P110.ro pr_24) (b := 32) (by omega) (by omega) (by omega) (by omega)).mpr q)
                      have hg1 := hgo9.1 (by omega)
                      have hcb9 : w11_n (P110.bf xb_20) = w11_n (P75.bf xb_20) := congrArg w11_n hbf9.1
                      refine lv_aload hx hb dX19_drop_138 (lv_at hl 0 rfl) ?_
                      refine lv_aload_n hx hb dX19_drop_140 rfl (lv_at hl 3 rfl) ?_
                      refine lv_aload hx hb dX19_drop_141 (lv_at hl 0 rfl) ?_
                      obtain ⟨kp_148, hkp_148⟩ := va_pl_get (X := [(q_s, .inl (cS, n_s, .inl (fun j : Nat => zI (a_s (j : Int))))), (q_n, .inl (cN, n_n, .inl (fun j : Nat => zI (w11_n (j : Int))))), (hc, .inr (12, [v13_0, v13_1, v13_2, v13_3, v13_4, .ref la, v13_6]))]) (f := pE P110) hB_22.1
                      rw [pE_block hB_22.2] at hkp_148
                      refine va_get (D := (dC, dI)) (ci := 19) (v := .int (zI (P110.bf xb_20))) (C := RX12) (T := TX12) (N := 5) hx hb hts mem_P19_dropE_4 hown hK hP kp_148 hkp_148 rfl 3 (by decide) (ow (k := 25) rfl) (fun _ h9 => h9) rfl dX19_drop_143 ?_
                      refine va_iald hx hb hK hP 1 1 rfl rfl (zI_in (a := P110.bf xb_20) (n := n_n) (by omega) (by omega) (by omega)) dX19_drop_146 ?_
                      refine lv_topi (fun z ez => ?_)
                      obtain rfl : z = zI (w11_n (P110.bf xb_20)) := ez.trans (zI_ld (w11_n) (by omega) (by omega))
                      have k3 := jw11_n (P110.bf xb_20)
                      obtain ⟨kp_149, gkp_149⟩ := va_pl_get (X := [(q_s, .inl (cS, n_s, .inl (fun j : Nat => zI (a_s (j : Int))))), (q_n, .inl (cN, n_n, .inl (fun j : Nat => zI (w11_n (j : Int))))), (hc, .inr (12, [v13_0, v13_1, v13_2, v13_3, v13_4, .ref la, v13_6]))]) (f := pE P110) hB_22.1
                      have hkp_149 := gkp_149
                      rw [pE_block hB_22.2] at hkp_149
                      have hD0 := hD
                      refine va_put (D := (dC, dI)) (ci := 19) (v := .int (zI (w11_n (P110.bf xb_20)))) (ty := .int) (C := RX12) (T := TX12) (N := 5) hx hb hts mem_P19_dropE_4 tyX12 tyX12_ok nmX12 hown hK hP hD hS kp_149 hkp_149 rfl 3 (by decide) (ow (k := 25) rfl) (fun _ h9 => h9) rfl (by decide +kernel) rfl rfl (Nat.le_of_ble_eq_true rfl) dX19_drop_147 (fun H locs hP hD hS => ?_)
                      obtain ⟨Pw_150, ePw_150⟩ : ∃ q9 : PO, q9 = P110.rw9 0 xb_20 (w11_n (P110.bf xb_20)) := ⟨_, rfl⟩
                      have eU : (([(q_s, .inl (cS, n_s, .inl (fun j : Nat => zI (a_s (j : Int))))), (q_n, .inl (cN, n_n, .inl (fun j : Nat => zI (w11_n (j : Int))))), (hc, .inr (12, [v13_0, v13_1, v13_2, v13_3, v13_4, .ref la, v13_6]))] : va_W) ++ va_pl L (pE P110)).set kp_149 (xb_20, blockE (P110.bp xb_20) (P110.br xb_20) (P110.be xb_20) (w11_n (P110.bf xb_20)) (P110.bs xb_20)) = ([(q_s, .inl (cS, n_s, .inl (fun j : Nat => zI (a_s (j : Int))))), (q_n, .inl (cN, n_n, .inl (fun j : Nat => zI (w11_n (j : Int))))), (hc, .inr (12, [v13_0, v13_1, v13_2, v13_3, v13_4, .ref la, v13_6]))] : va_W) ++ va_pl L (pE Pw_150) := (by rw [va_pl_set hD0 hB_22.1 gkp_149, ePw_150]; exact congrArg (fun f9 => ([(q_s, .inl (cS, n_s, .inl (fun j : Nat => zI (a_s (j : Int))))), (q_n, .inl (cN, n_n, .inl (fun j : Nat => zI (w11_n (j : Int))))), (hc, .inr (12, [v13_0, v13_1, v13_2, v13_3, v13_4, .ref la, v13_6]))] : va_W) ++ va_pl L f9) (put12_0 hB_22.2))
                      have hP : va_P (dC, dI) vwQ ([(q_s, .inl (cS, n_s, .inl (fun j : Nat => zI (a_s (j : Int))))), (q_n, .inl (cN, n_n, .inl (fun j : Nat => zI (w11_n (j : Int))))), (hc, .inr (12, [v13_0, v13_1, v13_2, v13_3, v13_4, .ref la, v13_6]))] ++ va_pl L (pE Pw_150)) H := (by rw [← eU]; exact hP)
                      have hD : va_D A ([(q_s, .inl (cS, n_s, .inl (fun j : Nat => zI (a_s (j : Int))))), (q_n, .inl (cN, n_n, .inl (fun j : Nat => zI (w11_n (j : Int))))), (hc, .inr (12, [v13_0, v13_1, v13_2, v13_3, v13_4, .ref la, v13_6]))] ++ va_pl L (pE Pw_150)) := (by rw [← eU]; exact hD)
                      clear eU hD0 gkp_149 hkp_149
                      have wPw_150 : RW1 xb_20 P110 Pw_150 := (by rw [ePw_150]; exact RW1.put _ _ _ _)
                      have hy_151 : Pw_150.kd la = 30 := (by rw [ePw_150]; exact hq_13.2)
                      have hy_152 : Pw_150.kd xb_20 = 12 := (by rw [ePw_150]; exact hB_22.2)
                      have : Pw_150.bf xb_20 = w11_n (P110.bf xb_20) := (by rw [ePw_150]; exact rw9_at _ _ _ _)
                      have : Pw_150.bs xb_20 = P110.bs xb_20 := (by rw [ePw_150]; exact rw9_of _ (by decide))
                      have hy_153 : Pw_150.kd pr_24 = 17 := (by rw [ePw_150]; exact hbe_25.2.1)
                      have : Pw_150.ro pr_24 = P110.ro pr_24 := wPw_150.2 _ (kd_ne hbe_25.2.1 hB_22.2 (by decide)) _
                      have : Pw_150.rt pr_24 = P110.rt pr_24 := wPw_150.2 _ (kd_ne hbe_25.2.1 hB_22.2 (by decide)) _
                      have : Pw_150.ra pr_24 = P110.ra pr_24 := wPw_150.2 _ (kd_ne hbe_25.2.1 hB_22.2 (by decide)) _
                      have : Pw_150.rb pr_24 = P110.rb pr_24 := wPw_150.2 _ (kd_ne hbe_25.2.1 hB_22.2 (by decide)) _
                      have : Pw_150.rA pr_24 = P110.rA pr_24 := wPw_150.2 _ (kd_ne hbe_25.2.1 hB_22.2 (by decide)) _
                      have : Pw_150.rB pr_24 = P110.rB pr_24 := wPw_150.2 _ (kd_ne hbe_25.2.1 hB_22.2 (by decide)) _
                      have : Pw_150.rg pr_24 = P110.rg pr_24 := wPw_150.2 _ (kd_ne hbe_25.2.1 hB_22.2 (by decide)) _
                      have ha_154 : Pw_150.be xb_20 = pr_24 := (by rw [ePw_150]; exact epr_24.symm)
                      have hW_155 : RW1 xb_20 P110 Pw_150 := wPw_150
                      have hak_157 : GLF L Pw_150 cO cI cZ sx_ed := aP110.goal hW_155 hB_22.2 (by omega)
                      have hke_156 : KEG [la] L P110 L Pw_150 := hW_155.keg _ hq_13.2 (by omega)
                      have hq_159 : la ∈ L ∧ Pw_150.kd la = 30 := hke_156.mem hq_13.1 hq_13.2 (by decide)
                      have hq_160 : xb_20 ∈ L ∧ Pw_150.kd xb_20 = 12 := hke_156.mem hB_22.1 hB_22.2 (by decide)
                      have hq_161 : pr_24 ∈ L ∧ Pw_150.kd pr_24 = 17 := hke_156.mem hbe_25.1 hbe_25.2.1 (by decide)
                      have ha_162 : Pw_150.be xb_20 = pr_24 := hke_156.be hB_22.1 hB_22.2 epr_24.symm
                      have hA_163 : KEG [la] L P L Pw_150 := hA_14.trans hke_156
                      have hA_164 : KEG [la] L P11 L Pw_150 := hA_15.trans hke_156
                      have hA_165 : KEG [la] L P75 L Pw_150 := hA_16.trans hke_156
                      have hA_166 : KEG [la] L P110 L Pw_150 := (KEG.refl [la] L P110).trans hke_156
                      have : Pw_150.cap la = P110.cap la := hW_155.cap la
                      have hek_167 : Pw_150.ek la = 12 := (by rw [hke_156.ek hq_13.1 hq_13.2 (by decide)]; exact hek_17)
                      have how_168 : Pw_150.ow la = la := ((hke_156.1 la hq_13.1 (by rw [hq_13.2]; decide)).2.2.2.1 hq_13.2 how_18).1
                      have hE_169 : Pw_150.ek pr_24 = 1 := (by rw [hke_156.ek hbe_25.1 hbe_25.2.1 (by decide)]; exact hE_26)
                      refine lv_aload hx hb dX19_drop_150 (lv_at hl 0 rfl) ?_
                      refine lv_aload_n hx hb dX19_drop_152 rfl (lv_at hl 3 rfl) ?_
                      refine lv_aload hx hb dX19_drop_153 (lv_at hl 0 rfl) ?_
                      have hfb := (hak_157.gb hq_160.1 hq_160.2).2
                      obtain ⟨kp_170, hkp_170⟩ := va_pl_get (X := [(q_s, .inl (cS, n_s, .inl (fun j : Nat => zI (a_s (j : Int))))), (q_n, .inl (cN, n_n, .inl (fun j : Nat => zI (w11_n (j : Int))))), (hc, .inr (12, [v13_0, v13_1, v13_2, v13_3, v13_4, .ref la, v13_6]))]) (f := pE Pw_150) hq_160.1
                      rw [pE_block hq_160.2] at hkp_170
                      refine va_get (D := (dC, dI)) (ci := 19) (v := .int (zI (Pw_150.bs xb_20))) (C := RX12) (T := TX12) (N := 5) hx hb hts mem_P19_dropE_4 hown hK hP kp_170 hkp_170 rfl 4 (by decide) (ow (k := 26) rfl) (fun _ h9 => h9) rfl dX19_drop_155 ?_
                      have hcs9 : w11_n (Pw_150.bs xb_20) = w11_n (P75.bs xb_20) := congrArg w11_n (show Pw_150.bs xb_20 = P75.bs xb_20 from (by omega))
                      refine va_iald hx hb hK hP 1 1 rfl rfl (zI_in (a := Pw_150.bs xb_20) (n := n_n) (by omega) (by omega) (by omega)) dX19_drop_158 ?_
                      refine lv_topi (fun z ez => ?_)
                      obtain rfl : z = zI (w11_n (Pw_150.bs xb_20)) := ez.trans (zI_ld (w11_n) (by omega) (by omega))
                      have k4 := jw11_n (Pw_150.bs xb_20)
                      obtain ⟨kp_171, gkp_171⟩ := va_pl_get (X := [(q_s, .inl (cS, n_s, .inl (fun j : Nat => zI (a_s (j : Int))))), (q_n, .inl (cN, n_n, .inl (fun j : Nat => zI (w11_n (j : Int))))), (hc, .inr (12, [v13_0, v13_1, v13_2, v13_3, v13_4, .ref la, v13_6]))]) (f := pE Pw_150) hq_160.1
                      have hkp_171 := gkp_171
                      rw [pE_block hq_160.2] at hkp_171
                      have hD0 := hD
                      refine va_put (D := (dC, dI)) (ci := 19) (v := .int (zI (w11_n (Pw_150.bs xb_20)))) (ty := .int) (C := RX12) (T := TX12) (N := 5) hx hb hts mem_P19_dropE_4 tyX12 tyX12_ok nmX12 hown hK hP hD hS kp_171 hkp_171 rfl 4 (by decide) (ow (k := 26) rfl) (fun _ h9 => h9) rfl (by decide +kernel) rfl rfl (Nat.le_of_ble_eq_true rfl) dX19_drop_159 (fun H locs hP hD hS => ?_)
                      obtain ⟨Pw_172, ePw_172⟩ : ∃ q9 : PO, q9 = Pw_150.rw9 1 xb_20 (w11_n (Pw_150.bs xb_20)) := ⟨_, rfl⟩
                      have eU : (([(q_s, .inl (cS, n_s, .inl (fun j : Nat => zI (a_s (j : Int))))), (q_n, .inl (cN, n_n, .inl (fun j : Nat => zI (w11_n (j : Int))))), (hc, .inr (12, [v13_0, v13_1, v13_2, v13_3, v13_4, .ref la, v13_6]))] : va_W) ++ va_pl L (pE Pw_150)).set kp_171 (xb_20, blockE (Pw_150.bp xb_20) (Pw_150.br xb_20) (Pw_150.be xb_20) (Pw_150.bf xb_20) (w11_n (Pw_150.bs xb_20))) = ([(q_s, .inl (cS, n_s, .inl (fun j : Nat => zI (a_s (j : Int))))), (q_n, .inl (cN, n_n, .inl (fun j : Nat => zI (w11_n (j : Int))))), (hc, .inr (12, [v13_0, v13_1, v13_2, v13_3, v13_4, .ref la, v13_6]))] : va_W) ++ va_pl L (pE Pw_172) := (by rw [va_pl_set hD0 hq_160.1 gkp_171, ePw_172]; exact congrArg (fun f9 => ([(q_s, .inl (cS, n_s, .inl (fun j : Nat => zI (a_s (j : Int))))), (q_n, .inl (cN, n_n, .inl (fun j : Nat => zI (w11_n (j : Int))))), (hc, .inr (12, [v13_0, v13_1, v13_2, v13_3, v13_4, .ref la, v13_6]))] : va_W) ++ va_pl L f9) (put12_1 hq_160.2))
                      have hP : va_P (dC, dI) vwQ ([(q_s, .inl (cS, n_s, .inl (fun j : Nat => zI (a_s (j : Int))))), (q_n, .inl (cN, n_n, .inl (fun j : Nat => zI (w11_n (j : Int))))), (hc, .inr (12, [v13_0, v13_1, v13_2, v13_3, v13_4, .ref la, v13_6]))] ++ va_pl L (pE Pw_172)) H := (by rw [← eU]; exact hP)
                      have hD : va_D A ([(q_s, .inl (cS, n_s, .inl (fun j : Nat => zI (a_s (j : Int))))), (q_n, .inl (cN, n_n, .inl (fun j : Nat => zI (w11_n (j : Int))))), (hc, .inr (12, [v13_0, v13_1, v13_2, v13_3, v13_4, .ref la, v13_6]))] ++ va_pl L (pE Pw_172)) := (by rw [← eU]; exact hD)
                      clear eU hD0 gkp_171 hkp_171
                      have wPw_172 : RW1 xb_20 Pw_150 Pw_172 := (by rw [ePw_172]; exact RW1.put _ _ _ _)
                      have hy_173 : Pw_172.kd la = 30 := (by rw [ePw_172]; exact hq_159.2)
                      have hy_174 : Pw_172.kd xb_20 = 12 := (by rw [ePw_172]; exact hq_160.2)
                      have : Pw_172.bf xb_20 = Pw_150.bf xb_20 := (by rw [ePw_172]; exact rw9_of _ (by decide))
                      have : Pw_172.bs xb_20 = w11_n (Pw_150.bs xb_20) := (by rw [ePw_172]; exact rw9_at _ _ _ _)
                      have hy_175 : Pw_172.kd pr_24 = 17 := (by rw [ePw_172]; exact hq_161.2)
                      have : Pw_172.ro pr_24 = Pw_150.ro pr_24 := wPw_172.2 _ (kd_ne hq_161.2 hq_160.2 (by decide)) _
                      have : Pw_172.rt pr_24 = Pw_150.rt pr_24 := wPw_172.2 _ (kd_ne hq_161.2 hq_160.2 (by decide)) _
                      have : Pw_172.ra pr_24 = Pw_150.ra pr_24 := wPw_172.2 _ (kd_ne hq_161.2 hq_160.2 (by decide)) _
                      have : Pw_172.rb pr_24 = Pw_150.rb pr_24 := wPw_172.2 _ (kd_ne hq_161.2 hq_160.2 (by decide)) _
                      have : Pw_172.rA pr_24 = Pw_150.rA pr_24 := wPw_172.2 _ (kd_ne hq_161.2 hq_160.2 (by decide)) _
                      have : Pw_172.rB pr_24 = Pw_150.rB pr_24 := wPw_172.2 _ (kd_ne hq_161.2 hq_160.2 (by decide)) _
                      have : Pw_172.rg pr_24 = Pw_150.rg pr_24 := wPw_172.2 _ (kd_ne hq_161.2 hq_160.2 (by decide)) _
                      have ha_176 : Pw_172.be xb_20 = pr_24 := (by rw [ePw_172]; exact ha_162)
                      have hW_177 : RW1 xb_20 Pw_150 Pw_172 := wPw_172
                      have hak_179 : GLF L Pw_172 cO cI cZ sx_ed := hak_157.goal hW_177 hq_160.2 (by omega)
                      have hke_178 : KEG [la] L Pw_150 L Pw_172 := hW_177.keg _ hq_159.2 (by omega)
                      have hq_181 : la ∈ L ∧ Pw_172.kd la = 30 := hke_178.mem hq_159.1 hq_159.2 (by decide)
                      have hq_182 : xb_20 ∈ L ∧ Pw_172.kd xb_20 = 12 := hke_178.mem hq_160.1 hq_160.2 (by decide)
                      have hq_183 : pr_24 ∈ L ∧ Pw_172.kd pr_24 = 17 := hke_178.mem hq_161.1 hq_161.2 (by decide)
                      have ha_184 : Pw_172.be xb_20 = pr_24 := hke_178.be hq_160.1 hq_160.2 ha_162
                      have hA_185 : KEG [la] L P L Pw_172 := hA_163.trans hke_178
                      have hA_186 : KEG [la] L P11 L Pw_172 := hA_164.trans hke_178
                      have hA_187 : KEG [la] L P75 L Pw_172 := hA_165.trans hke_178
                      have hA_188 : KEG [la] L P110 L Pw_172 := hA_166.trans hke_178
                      have : Pw_172.cap la = Pw_150.cap la := hW_177.cap la
                      have hek_189 : Pw_172.ek la = 12 := (by rw [hke_178.ek hq_159.1 hq_159.2 (by decide)]; exact hek_167)
                      have how_190 : Pw_172.ow la = la := ((hke_178.1 la hq_159.1 (by rw [hq_159.2]; decide)).2.2.2.1 hq_159.2 how_168).1
                      have hE_191 : Pw_172.ek pr_24 = 1 := (by rw [hke_178.ek hq_161.1 hq_161.2 (by decide)]; exact hE_169)
                      have hW9 := (hW_155.trans hW_177)
                      have huv_192 : UNV P75 Pw_172 (VDR P75 la (d110_5 + 1) (d110_5) 0) := jv110.step hW9.ph1 (by rw [hyi, (hbk.1 (d110_5) (by omega) (by omega)).1]; decide) (fun z q => q.mono (by omega) (by omega)) (by rw [hyi]; exact VDR.ablk (by omega) (by omega))
                      have hld_193 : DRD P75 Pw_172 la w11_n (d110_5 + 1) (d110_5) 0 := jd110.goal hW9 hbk (by omega) (by omega) hyi ⟨fun _ => ⟨by omega, by omega⟩, fun q9 => absurd q9 (by omega)⟩
                      clear hgo9
                      refine lv_iconst (v := 0) hx hb dX19_drop_162 (by decide) ?_
                      refine lv_istore (lv' := [(7, .int 0), (6, .ref xb_20), (0, .ref hc), (1, .ref q_s), (2, .ref q_n), (3, .int (zI (P.lz la))), (4, .int (zI (d11_4))), (5, .int (zI (d110_5)))]) hx hb dX19_drop_163 hl (by decide) rfl (fun ls hl => ?_)
                      have key165 : ∀ n165 : Nat, ∀ (d165_7 : Int) (P165 : PO) (ls : Array Slot) (H : Heap) (locs : List Loc), (KEG [la] L Pw_172 L P165) → (GLF L P165 cO cI cZ sx_ed) → (0 ≤ d165_7 ∧ d165_7 ≤ 40000) → (UNV P75 P165 (VDR P75 la (d110_5 + 1) (d110_5) (d165_7))) → (DRD P75 P165 la w11_n (d110_5 + 1) (d110_5) (d165_7)) → ((50000 - d165_7 : Int).toNat) < n165 → lv_has ls 10 [(0, .ref hc), (1, .ref q_s), (2, .ref q_n), (3, .int (zI (P.lz la))), (4, .int (zI (d11_4))), (5, .int (zI (d110_5))), (6, .ref xb_20), (7, .int (zI (d165_7)))] → va_P (dC, dI) vwQ ([(q_s, .inl (cS, n_s, .inl (fun j : Nat => zI (a_s (j : Int))))), (q_n, .inl (cN, n_n, .inl (fun j : Nat => zI (w11_n (j : Int))))), (hc, .inr (12, [v13_0, v13_1, v13_2, v13_3, v13_4, .ref la, v13_6]))] ++ va_pl L (pE P165)) H → va_D A ([(q_s, .inl (cS, n_s, .inl (fun j : Nat => zI (a_s (j : Int))))), (q_n, .inl (cN, n_n, .inl (fun j : Nat => zI (w11_n (j : Int))))), (hc, .inr (12, [v13_0, v13_1, v13_2, v13_3, v13_4, .ref la, v13_6]))] ++ va_pl L (pE P165)) → va_S A s.heap H locs → W p l e (headSpec v_P19_dropE ({ frames := 4, cells := 0, slots := 0, locals := 106 })).room s m ([.ref hc, .ref q_s, .ref q_n] : List Value).toArray below meth c H locs 0 0 Q (F0 m 165 ls []) := by
                        intro n165
                        induction n165 with
                        | zero => intro d165_7 P165 ls H locs kP165 aP165 jd165_7 jv165 jd165 hm165; exact absurd hm165 (by omega)
                        | succ n165 ih165 =>
                          intro d165_7 P165 ls H locs kP165 aP165 jd165_7 jv165 jd165 hm165 hl hP hD hS
                          have hq_194 : la ∈ L ∧ P165.kd la = 30 := kP165.mem hq_181.1 hq_181.2 (by decide)
                          have hq_195 : xb_20 ∈ L ∧ P165.kd xb_20 = 12 := kP165.mem hq_182.1 hq_182.2 (by decide)
                          have hq_196 : pr_24 ∈ L ∧ P165.kd pr_24 = 17 := kP165.mem hq_183.1 hq_183.2 (by decide)
                          have ha_197 : P165.be xb_20 = pr_24 := kP165.be hq_182.1 hq_182.2 ha_184
                          have hA_198 : KEG [la] L P L P165 := hA_185.trans kP165
                          have hA_199 : KEG [la] L P11 L P165 := hA_186.trans kP165
                          have hA_200 : KEG [la] L P75 L P165 := hA_187.trans kP165
                          have hA_201 : KEG [la] L P110 L P165 := hA_188.trans kP165
                          have hek_202 : P165.ek la = 12 := (by rw [kP165.ek hq_181.1 hq_181.2 (by decide)]; exact hek_189)
                          have how_203 : P165.ow la = la := ((kP165.1 la hq_181.1 (by rw [hq_181.2]; decide)).2.2.2.1 hq_181.2 how_190).1
                          have hE_204 : P165.ek pr_24 = 1 := (by rw [kP165.ek hq_183.1 hq_183.2 (by decide)]; exact hE_191)
                          have hj165 := kP165
                          skip
                          refine lv_iload hx hb dX19_drop_165 (lv_at hl 7 rfl) ?_
                          refine lv_aload hx hb dX19_drop_167 (lv_at hl 6 rfl) ?_
                          have hfb := (aP165.gb hq_195.1 hq_195.2).2
                          obtain ⟨kp_205, hkp_205⟩ := va_pl_get (X := [(q_s, .inl (cS, n_s, .inl (fun j : Nat => zI (a_s (j : Int))))), (q_n, .inl (cN, n_n, .inl (fun j : Nat => zI (w11_n (j : Int))))), (hc, .inr (12, [v13_0, v13_1, v13_2, v13_3, v13_4, .ref la, v13_6]))]) (f := pE P165) hq_195.1
                          rw [pE_block hq_195.2] at hkp_205
                          refine va_get (D := (dC, dI)) (ci := 19) (v := .ref (P165.bp xb_20)) (C := RX12) (T := TX12) (N := 5) hx hb hts mem_P19_dropE_4 hown hK hP kp_205 hkp_205 rfl 0 (by decide) (ow (k := 14) rfl) (fun _ h9 => h9) rfl dX19_drop_169 ?_
                          obtain ⟨pr_206, epr_206⟩ : ∃ q9 : Nat, q9 = P165.bp xb_20 := ⟨_, rfl⟩
                          rw [← epr_206]
                          have hlk_207 : LOK L P165 cO 15 pr_206 := (by rw [epr_206]; exact aP165.lbp hq_195.1 hq_195.2)
                          have hlz9 := hlk_207.2.2.1
                          have hek_208 : P165.ek pr_206 = 15 := (by rw [epr_206]; exact (aP165.owc xb_20 hq_195.1 hq_195.2).2.1)
                          have hlk_209 := (show LOK L P165 cO 15 pr_206 from (by rw [← epr_206.symm]; exact aP165.lbp hq_195.1 hq_195.2))
                          have hX_x := hlk_209.1
                          have hX_k := hlk_209.2.1
                          have hlz9 := hlk_209.2.2.1
                          have hPc := hP.part (X := [(q_s, .inl (cS, n_s, .inl (fun j : Nat => zI (a_s (j : Int))))), (q_n, .inl (cN, n_n, .inl (fun j : Nat => zI (w11_n (j : Int))))), (hc, .inr (12, [v13_0, v13_1, v13_2, v13_3, v13_4, .ref la, v13_6]))]) (cx := []) (pl := va_pl L (pE P165)) [] rfl
                          have hDc := hD.part (X := [(q_s, .inl (cS, n_s, .inl (fun j : Nat => zI (a_s (j : Int))))), (q_n, .inl (cN, n_n, .inl (fun j : Nat => zI (w11_n (j : Int))))), (hc, .inr (12, [v13_0, v13_1, v13_2, v13_3, v13_4, .ref la, v13_6]))]) (cx := []) (pl := va_pl L (pE P165)) [] (by decide) rfl
                          have hKc := hK.sub (tys' := [(cO, .object "java/lang/Object")]) [4] rfl
                          have hFc := va_freeP (X := [(q_s, .inl (cS, n_s, .inl (fun j : Nat => zI (a_s (j : Int))))), (q_n, .inl (cN, n_n, .inl (fun j : Nat => zI (w11_n (j : Int))))), (hc, .inr (12, [v13_0, v13_1, v13_2, v13_3, v13_4, .ref la, v13_6]))]) (cx := []) (pl := va_pl L (pE P165)) hD hS hA [] rfl
                          refine va_calli (va_runV (As := []) (rest := [.int (zI (d165_7))]) ⟨hx, hb, hml, hown, hts⟩ (c_PL_size l dC dI cO L P165 pr_206 hX_x hX_k (by omega) H.size) (cwV 0 hts g_P19_dropE_PL_size rfl rfl rfl (by decide +kernel) ⟨(Nat.le_of_ble_eq_true rfl), (Nat.le_of_ble_eq_true rfl)⟩) ⟨fun a U g mk q => by obtain ⟨q0, q1, qP, qK, qD⟩ := q; exact ⟨q0, q1, qP, va_K.moved (u := U) (U := U.calling g mk a) (Vm.Alike.refl U.vm) qK, qD⟩, recv_30 hKc hPc hlk_207.1 hlk_207.2.1, fun U hU hW => ⟨rfl, by rw [hU], by rw [hU]; exact hPc, va_K.moved hW.alike hKc, hDc.weaken (fun _ _ _ _ => trivial)⟩⟩ rfl rfl hl.1 rfl (lv_room (Nat.le_of_ble_eq_true rfl)) dX19_drop_172 ⟨(Nat.le_of_ble_eq_true rfl), (Nat.le_of_ble_eq_true rfl)⟩) hS (fun q _ h => hFc q h) hFc (fun r_210 u t H1 locs ht hvm hw hB hz1 hk1 hS => ?_)
                          obtain ⟨hP1, hK1, hD1⟩ := hB
                          rw [ht] at hP1
                          have hK1 := va_K.moved hvm.symm hK1
                          obtain ⟨hP, hD⟩ := va_joinP (X := [(q_s, .inl (cS, n_s, .inl (fun j : Nat => zI (a_s (j : Int))))), (q_n, .inl (cN, n_n, .inl (fun j : Nat => zI (w11_n (j : Int))))), (hc, .inr (12, [v13_0, v13_1, v13_2, v13_3, v13_4, .ref la, v13_6]))]) (cx := []) (wr := [(q_s, .inl (cS, n_s, .inl (fun j : Nat => zI (a_s (j : Int))))), (q_n, .inl (cN, n_n, .inl (fun j : Nat => zI (w11_n (j : Int))))), (hc, .inr (12, [v13_0, v13_1, v13_2, v13_3, v13_4, .ref la, v13_6]))]) (rx := []) (pl := va_pl L (pE P165)) (pl1 := va_pl L (pE P165)) hP hD [] [0, 1, 2] rfl rfl (by decide) (by decide) hk1 hFc hP1 hD1
                          have hK := (hK.sub (tys' := [(cS, .boolean), (cN, .int), (cI, .int), (cZ, .boolean)]) [0, 1, 2, 3] rfl).app hK1
                          generalize H1 = H at hP hS ⊢
                          have hP : va_P (dC, dI) vwQ ([(q_s, .inl (cS, n_s, .inl (fun j : Nat => zI (a_s (j : Int))))), (q_n, .inl (cN, n_n, .inl (fun j : Nat => zI (w11_n (j : Int))))), (hc, .inr (12, [v13_0, v13_1, v13_2, v13_3, v13_4, .ref la, v13_6]))] ++ va_pl L (pE P165)) H := hP
                          have hD : va_D A ([(q_s, .inl (cS, n_s, .inl (fun j : Nat => zI (a_s (j : Int))))), (q_n, .inl (cN, n_n, .inl (fun j : Nat => zI (w11_n (j : Int))))), (hc, .inr (12, [v13_0, v13_1, v13_2, v13_3, v13_4, .ref la, v13_6]))] ++ va_pl L (pE P165)) := hD
                          have hK : va_K (dC, dI) vwQ [(cS, .boolean), (cN, .int), (cI, .int), (cZ, .boolean), (cO, .object "java/lang/Object")] s := hK
                          refine W.widen (k := 0) (n := 0) (Nat.le_of_ble_eq_true rfl) (Nat.le_of_ble_eq_true rfl) ?_
                          obtain rfl : r_210 = (zI (P165.lz pr_206)) := hw
                          refine lv_icmp_ge (tgt := 260) hx hb dX19_drop_175 (by decide) (fun b175 => ?_) (fun b175 => ?_)
                          · have yb175 : (P165.lz pr_206 : Int) ≤ (d165_7 : Int) := (zI_le (a := P165.lz pr_206) (b := d165_7) (by omega) (by omega) (by omega) (by omega)).mp b175
                            have hzl : P75.lz (P75.bp (P75.el la (d110_5))) = P165.lz pr_206 := (by rw [← hyi, ← jv165.bp xb_20, epr_206.symm]; exact (jv165.1.2.2 pr_206 ((jv165.kd pr_206).symm.trans hlk_207.2.1)).symm)
                            skip
                            refine lv_iinc (v := zI (d110_5 + 1)) (lv' := [(5, .int (zI (d110_5 + 1))), (0, .ref hc), (1, .ref q_s), (2, .ref q_n), (3, .int (zI (P.lz la))), (4, .int (zI (d11_4))), (6, .ref xb_20), (7, .int (zI (d165_7)))]) hx hb dX19_drop_260 hl (k := 5) rfl (zI_add (d110_5) (1)) (by decide) rfl (fun ls hl => ?_)
                            refine lv_goto (tgt := 110) hx hb dX19_drop_263 (by decide) ?_
                            exact ih110 (d110_5 + 1) P165 ls H _ (kP110.trans hA_201) aP165 (by omega) (jv165.wk (fun z q => q.next)) (jd165.next (by omega)) (by omega) (lv_sub hl [1, 2, 3, 4, 5, 0] rfl) hP hD hS
                          · have yb175 : ¬ (P165.lz pr_206 : Int) ≤ (d165_7 : Int) := fun q => b175 ((zI_le (a := P165.lz pr_206) (b := d165_7) (by omega) (by omega) (by omega) (by omega)).mpr q)
                            refine lv_aload hx hb dX19_drop_178 (lv_at hl 6 rfl) ?_
                            obtain ⟨kp_211, hkp_211⟩ := va_pl_get (X := [(q_s, .inl (cS, n_s, .inl (fun j : Nat => zI (a_s (j : Int))))), (q_n, .inl (cN, n_n, .inl (fun j : Nat => zI (w11_n (j : Int))))), (hc, .inr (12, [v13_0, v13_1, v13_2, v13_3, v13_4, .ref la, v13_6]))]) (f := pE P165) hq_195.1
                            rw [pE_block hq_195.2] at hkp_211
                            refine va_get (D := (dC, dI)) (ci := 19) (v := .ref (P165.bp xb_20)) (C := RX12) (T := TX12) (N := 5) hx hb hts mem_P19_dropE_4 hown hK hP kp_211 hkp_211 rfl 0 (by decide) (ow (k := 14) rfl) (fun _ h9 => h9) rfl dX19_drop_180 ?_
                            obtain ⟨pr_212, epr_212⟩ : ∃ q9 : Nat, q9 = P165.bp xb_20 := ⟨_, rfl⟩
                            rw [← epr_212]
                            obtain rfl : pr_206 = pr_212 := (by rw [epr_212]; exact epr_206.symm.symm)
                            refine lv_iload hx hb dX19_drop_183 (lv_at hl 7 rfl) ?_
                            have hlk_213 := (show LOK L P165 cO 15 pr_206 from (by rw [← epr_206.symm]; exact aP165.lbp hq_195.1 hq_195.2))
                            obtain ⟨x, ex⟩ : ∃ q9 : Nat, q9 = P165.el pr_206 (d165_7) := ⟨_, rfl⟩
                            have hX_x := hlk_213.1
                            have hX_k := hlk_213.2.1
                            have hq9 := hlk_213.row (i := d165_7) (by omega) (by omega)
                            have hX_q : P165.le pr_206 ∈ L ∧ P165.kd (P165.le pr_206) = 31 ∧ P165.ac (P165.le pr_206) = cO := ⟨hq9.1, hq9.2.1, hq9.2.2.1⟩
                            have hq8 := hq9.2.2.2
                            have hX_e0 : P165.oa (P165.le pr_206) (d165_7).toNat = some x := (by rw [ex]; exact (hlk_213.2.2.2.2 (d165_7) (by omega) (by omega)).1)
                            have hxm : x ∈ L := (by rw [ex]; exact (hlk_213.2.2.2.2 (d165_7) (by omega) (by omega)).2.1)
                            have hxk := (hlk_213.2.2.2.2 (d165_7) (by omega) (by omega)).2.2
                            rw [← ex] at hxk
                            have hPc := hP.part (X := [(q_s, .inl (cS, n_s, .inl (fun j : Nat => zI (a_s (j : Int))))), (q_n, .inl (cN, n_n, .inl (fun j : Nat => zI (w11_n (j : Int))))), (hc, .inr (12, [v13_0, v13_1, v13_2, v13_3, v13_4, .ref la, v13_6]))]) (cx := []) (pl := va_pl L (pE P165)) [] rfl
                            have hDc := hD.part (X := [(q_s, .inl (cS, n_s, .inl (fun j : Nat => zI (a_s (j : Int))))), (q_n, .inl (cN, n_n, .inl (fun j : Nat => zI (w11_n (j : Int))))), (hc, .inr (12, [v13_0, v13_1, v13_2, v13_3, v13_4, .ref la, v13_6]))]) (cx := []) (pl := va_pl L (pE P165)) [] (by decide) rfl
                            have hKc := hK.sub (tys' := [(cO, .object "java/lang/Object")]) [4] rfl
                            have hFc := va_freeP (X := [(q_s, .inl (cS, n_s, .inl (fun j : Nat => zI (a_s (j : Int))))), (q_n, .inl (cN, n_n, .inl (fun j : Nat => zI (w11_n (j : Int))))), (hc, .inr (12, [v13_0, v13_1, v13_2, v13_3, v13_4, .ref la, v13_6]))]) (cx := []) (pl := va_pl L (pE P165)) hD hS hA [] rfl
                            refine va_callr (va_runV (As := [.int (zI (d165_7))]) (rest := []) ⟨hx, hb, hml, hown, hts⟩ (c_PL_get l dC dI cO L P165 pr_206 d165_7 x hX_x hX_k hX_q (by omega) hX_e0 H.size) (cwV 1 hts g_P19_dropE_PL_get rfl rfl rfl (by decide +kernel) ⟨(Nat.le_of_ble_eq_true rfl), (Nat.le_of_ble_eq_true rfl)⟩) ⟨fun a U g mk q => by obtain ⟨q0, q1, qP, qK, qD⟩ := q; exact ⟨q0, q1, qP, va_K.moved (u := U) (U := U.calling g mk a) (Vm.Alike.refl U.vm) qK, qD⟩, recv_30 hKc hPc hlk_207.1 hlk_207.2.1, fun U hU hW => ⟨rfl, by rw [hU], by rw [hU]; exact hPc, va_K.moved hW.alike hKc, hDc.weaken (fun _ _ _ _ => trivial)⟩⟩ rfl rfl hl.1 rfl (lv_room (Nat.le_of_ble_eq_true rfl)) dX19_drop_185 ⟨(Nat.le_of_ble_eq_true rfl), (Nat.le_of_ble_eq_true rfl)⟩) hS (fun q _ h => hFc q h) hFc (fun u q_214 t H1 locs ht hvm hw hB hz1 hk1 hS => ?_)
                            obtain ⟨hxt_214, hP1, hK1, hD1⟩ := hB
                            rw [ht] at hP1
                            have hK1 := va_K.moved hvm.symm hK1
                            obtain ⟨hP, hD⟩ := va_joinP (X := [(q_s, .inl (cS, n_s, .inl (fun j : Nat => zI (a_s (j : Int))))), (q_n, .inl (cN, n_n, .inl (fun j : Nat => zI (w11_n (j : Int))))), (hc, .inr (12, [v13_0, v13_1, v13_2, v13_3, v13_4, .ref la, v13_6]))]) (cx := []) (wr := [(q_s, .inl (cS, n_s, .inl (fun j : Nat => zI (a_s (j : Int))))), (q_n, .inl (cN, n_n, .inl (fun j : Nat => zI (w11_n (j : Int))))), (hc, .inr (12, [v13_0, v13_1, v13_2, v13_3, v13_4, .ref la, v13_6]))]) (rx := []) (pl := va_pl L (pE P165)) (pl1 := va_pl L (pE P165)) hP hD [] [0, 1, 2] rfl rfl (by decide) (by decide) hk1 hFc hP1 hD1
                            have hK := (hK.sub (tys' := [(cS, .boolean), (cN, .int), (cI, .int), (cZ, .boolean)]) [0, 1, 2, 3] rfl).app hK1
                            generalize H1 = H at hP hS ⊢
                            have hP : va_P (dC, dI) vwQ ([(q_s, .inl (cS, n_s, .inl (fun j : Nat => zI (a_s (j : Int))))), (q_n, .inl (cN, n_n, .inl (fun j : Nat => zI (w11_n (j : Int))))), (hc, .inr (12, [v13_0, v13_1, v13_2, v13_3, v13_4, .ref la, v13_6]))] ++ va_pl L (pE P165)) H := hP
                            have hD : va_D A ([(q_s, .inl (cS, n_s, .inl (fun j : Nat => zI (a_s (j : Int))))), (q_n, .inl (cN, n_n, .inl (fun j : Nat => zI (w11_n (j : Int))))), (hc, .inr (12, [v13_0, v13_1, v13_2, v13_3, v13_4, .ref la, v13_6]))] ++ va_pl L (pE P165)) := hD
                            have hK : va_K (dC, dI) vwQ [(cS, .boolean), (cN, .int), (cI, .int), (cZ, .boolean), (cO, .object "java/lang/Object")] s := hK
                            refine W.widen (k := 0) (n := 0) (Nat.le_of_ble_eq_true rfl) (Nat.le_of_ble_eq_true rfl) ?_
                            rw [hxt_214]
                            clear hX_e0
                            obtain ⟨xp_215, h9⟩ : ∃ q9 : Nat, q9 = x := ⟨_, rfl⟩
                            subst h9
                            have hm_216 := hxm
                            have hk_217 := hxk
                            refine va_castY (C := "SsaForgeModel$Phi") (nm := "SsaForgeModel$Phi") hx hb hown (ow (k := 18) rfl) hp1 (recv_15 hK hP hm_216 hk_217) dX19_drop_188 ?_
                            refine lv_astore (lv' := [(8, .ref xp_215), (0, .ref hc), (1, .ref q_s), (2, .ref q_n), (3, .int (zI (P.lz la))), (4, .int (zI (d11_4))), (5, .int (zI (d110_5))), (6, .ref xb_20), (7, .int (zI (d165_7)))]) hx hb dX19_drop_191 hl (by decide) rfl (fun ls hl => ?_)
                            have hzl : P75.lz (P75.bp (P75.el la (d110_5))) = P165.lz pr_206 := (by rw [← hyi, ← jv165.bp xb_20, epr_206.symm]; exact (jv165.1.2.2 pr_206 ((jv165.kd pr_206).symm.trans hlk_207.2.1)).symm)
                            have hxi_218 : xp_215 = P75.el (P75.bp (P75.el la (d110_5))) (d165_7) := (by rw [← hyi, ← jv165.bp xb_20, epr_206.symm, ← jv165.el pr_206 (d165_7)]; exact ex)
                            have hfr_219 : ¬ VDR P75 la (d110_5 + 1) (d110_5) (d165_7) xp_215 := (by rw [hxi_218]; exact VDR.nphi hbk (by omega) (by omega) (by omega) (by omega))
                            have hpk_220 : PIK L P75 cI cZ xp_215 := (by rw [hxi_218]; exact hbk.2.1 (d110_5) (d165_7) (by omega) (by omega) (by omega) (by omega))
                            have htg0 : P165.pt xp_215 = P75.pt xp_215 ∧ P165.pg xp_215 = P75.pg xp_215 := ⟨jv165.2.1 xp_215 hfr_219 0, jv165.2.1 xp_215 hfr_219 2⟩
                            have hpn9 : P165.pn xp_215 = P75.pn xp_215 := jv165.2.1 xp_215 hfr_219 1
                            skip
                            refine lv_aload hx hb dX19_drop_193 (lv_at hl 0 rfl) ?_
                            have hp9 := aP165.pik hm_216 hk_217
                            have hpn := hp9.2.2.2.2.1
                            have hpt := hp9.2.2.2.2.2.1
                            clear hp9
                            obtain ⟨kp_221, hkp_221⟩ := va_pl_get (X := [(q_s, .inl (cS, n_s, .inl (fun j : Nat => zI (a_s (j : Int))))), (q_n, .inl (cN, n_n, .inl (fun j : Nat => zI (w11_n (j : Int))))), (hc, .inr (12, [v13_0, v13_1, v13_2, v13_3, v13_4, .ref la, v13_6]))]) (f := pE P165) hm_216
                            rw [pE_phi hk_217] at hkp_221
                            refine va_get (D := (dC, dI)) (ci := 20) (v := .int (zI (P165.pn xp_215))) (C := RX15) (T := TX15) (N := 6) hx hb hts mem_P19_dropE_7 hown hK hP kp_221 hkp_221 rfl 1 (by decide) (ow (k := 19) rfl) (fun _ h9 => h9) rfl dX19_drop_195 ?_
                            refine lv_iconst (v := 1) hx hb dX19_drop_198 (by decide) ?_
                            refine lv_isub hx hb dX19_drop_199 ?_
                            refine lv_topi (fun z ez => ?_)
                            obtain rfl : z = zI ((P165.pn xp_215) - 1) := ez.trans (zI_sub (P165.pn xp_215) (1))
                            refine lv_istore (lv' := [(9, .int (zI ((P165.pn xp_215) - 1))), (8, .ref xp_215), (0, .ref hc), (1, .ref q_s), (2, .ref q_n), (3, .int (zI (P.lz la))), (4, .int (zI (d11_4))), (5, .int (zI (d110_5))), (6, .ref xb_20), (7, .int (zI (d165_7)))]) hx hb dX19_drop_200 hl (by decide) rfl (fun ls hl => ?_)
                            have key202 : ∀ n202 : Nat, ∀ (d202_9 : Int) (P202 : PO) (ls : Array Slot) (H : Heap) (locs : List Loc), (KEG [la] L P165 L P202) → (GLF L P202 cO cI cZ sx_ed) → (-1 ≤ d202_9 ∧ d202_9 < 300 ∧ d202_9 < P202.pn xp_215) → (UNV P75 P202 (VDR P75 la (d110_5 + 1) (d110_5) (d165_7 + 1))) → (DRD P75 P202 la w11_n (d110_5 + 1) (d110_5) (d165_7)) → (LSN P75 P202 w11_n xp_215 (d202_9)) → (P202.pt xp_215 = P75.pt xp_215 ∧ P202.pg xp_215 = P75.pg xp_215) → ((d202_9 + 1 : Int).toNat) < n202 → lv_has ls 10 [(0, .ref hc), (1, .ref q_s), (2, .ref q_n), (3, .int (zI (P.lz la))), (4, .int (zI (d11_4))), (5, .int (zI (d110_5))), (6, .ref xb_20), (7, .int (zI (d165_7))), (8, .ref xp_215), (9, .int (zI (d202_9)))] → va_P (dC, dI) vwQ ([(q_s, .inl (cS, n_s, .inl (fun j : Nat => zI (a_s (j : Int))))), (q_n, .inl (cN, n_n, .inl (fun j : Nat => zI (w11_n (j : Int))))), (hc, .inr (12, [v13_0, v13_1, v13_2, v13_3, v13_4, .ref la, v13_6]))] ++ va_pl L (pE P202)) H → va_D A ([(q_s, .inl (cS, n_s, .inl (fun j : Nat => zI (a_s (j : Int))))), (q_n, .inl (cN, n_n, .inl (fun j : Nat => zI (w11_n (j : Int))))), (hc, .inr (12, [v13_0, v13_1, v13_2, v13_3, v13_4, .ref la, v13_6]))] ++ va_pl L (pE P202)) → va_S A s.heap H locs → W p l e (headSpec v_P19_dropE ({ frames := 4, cells := 0, slots := 0, locals := 106 })).room s m ([.ref hc, .ref q_s, .ref q_n] : List Value).toArray below meth c H locs 0 0 Q (F0 m 202 ls []) := by
                              intro n202
                              induction n202 with
                              | zero => intro d202_9 P202 ls H locs kP202 aP202 jd202_9 jv202 jd202 jl202 jt202 hm202; exact absurd hm202 (by omega)
                              | succ n202 ih202 =>
                                intro d202_9 P202 ls H locs kP202 aP202 jd202_9 jv202 jd202 jl202 jt202 hm202 hl hP hD hS
                                have hq_222 : la ∈ L ∧ P202.kd la = 30 := kP202.mem hq_194.1 hq_194.2 (by decide)
                                have hq_223 : xb_20 ∈ L ∧ P202.kd xb_20 = 12 := kP202.mem hq_195.1 hq_195.2 (by decide)
                                have hq_224 : pr_24 ∈ L ∧ P202.kd pr_24 = 17 := kP202.mem hq_196.1 hq_196.2 (by decide)
                                have hq_225 : pr_206 ∈ L ∧ P202.kd pr_206 = 30 := kP202.mem hlk_207.1 hlk_207.2.1 (by decide)
                                have hq_226 : xp_215 ∈ L ∧ P202.kd xp_215 = 15 := kP202.mem hm_216 hk_217 (by decide)
                                have ha_227 : P202.be xb_20 = pr_24 := kP202.be hq_195.1 hq_195.2 ha_197
                                have ha_228 : P202.bp xb_20 = pr_206 := kP202.bp hq_195.1 hq_195.2 epr_206.symm
                                have hA_229 : KEG [la] L P L P202 := hA_198.trans kP202
                                have hA_230 : KEG [la] L P11 L P202 := hA_199.trans kP202
                                have hA_231 : KEG [la] L P75 L P202 := hA_200.trans kP202
                                have hA_232 : KEG [la] L P110 L P202 := hA_201.trans kP202
                                have hA_233 : KEG [la] L P165 L P202 := (KEG.refl [la] L P165).trans kP202
                                have hek_234 : P202.ek la = 12 := (by rw [kP202.ek hq_194.1 hq_194.2 (by decide)]; exact hek_202)
                                have how_235 : P202.ow la = la := ((kP202.1 la hq_194.1 (by rw [hq_194.2]; decide)).2.2.2.1 hq_194.2 how_203).1
                                have hek_236 : P202.ek pr_206 = 15 := (by rw [kP202.ek hlk_207.1 hlk_207.2.1 (by decide)]; exact hek_208)
                                have hE_237 : P202.ek pr_24 = 1 := (by rw [kP202.ek hq_196.1 hq_196.2 (by decide)]; exact hE_204)
                                have hj202 := kP202
                                have hln9 := jl202.le
                                refine lv_iload hx hb dX19_drop_202 (lv_at hl 9 rfl) ?_
                                refine lv_if_lt (tgt := 254) hx hb dX19_drop_204 (by decide) (fun b204 => ?_) (fun b204 => ?_)
                                · have yb204 : (d202_9 : Int) < (0 : Int) := (zI_lt (a := d202_9) (b := 0) (by omega) (by omega) (by omega) (by omega)).mp b204
                                  have hl9 := jl202
                                  rw [show d202_9 = -1 from (by omega), hxi_218] at hl9
                                  have ht9 := jt202
                                  rw [hxi_218] at ht9
                                  have hld9 := jd202.put hl9 ht9.1 ht9.2
                                  refine lv_iinc (v := zI (d165_7 + 1)) (lv' := [(7, .int (zI (d165_7 + 1))), (0, .ref hc), (1, .ref q_s), (2, .ref q_n), (3, .int (zI (P.lz la))), (4, .int (zI (d11_4))), (5, .int (zI (d110_5))), (6, .ref xb_20), (8, .ref xp_215), (9, .int (zI (d202_9)))]) hx hb dX19_drop_254 hl (k := 7) rfl (zI_add (d165_7) (1)) (by decide) rfl (fun ls hl => ?_)
                                  refine lv_goto (tgt := 165) hx hb dX19_drop_257 (by decide) ?_
                                  exact ih165 (d165_7 + 1) P202 ls H _ (kP165.trans hA_233) aP202 (by omega) jv202 hld9 (by omega) (lv_sub hl [1, 2, 3, 4, 5, 6, 7, 0] rfl) hP hD hS
                                · have yb204 : ¬ (d202_9 : Int) < (0 : Int) := fun q => b204 ((zI_lt (a := d202_9) (b := 0) (by omega) (by omega) (by omega) (by omega)).mpr q)
                                  refine lv_aload_n hx hb dX19_drop_207 rfl (lv_at hl 2 rfl) ?_
                                  refine lv_aload hx hb dX19_drop_208 (lv_at hl 8 rfl) ?_
                                  have hp9 := aP202.pik hq_226.1 hq_226.2
                                  have hpn := hp9.2.2.2.2.1
                                  have hpt := hp9.2.2.2.2.2.1
                                  clear hp9
                                  obtain ⟨kp_238, hkp_238⟩ := va_pl_get (X := [(q_s, .inl (cS, n_s, .inl (fun j : Nat => zI (a_s (j : Int))))), (q_n, .inl (cN, n_n, .inl (fun j : Nat => zI (w11_n (j : Int))))), (hc, .inr (12, [v13_0, v13_1, v13_2, v13_3, v13_4, .ref la, v13_6]))]) (f := pE P202) hq_226.1
                                  rw [pE_phi hq_226.2] at hkp_238
                                  refine va_get (D := (dC, dI)) (ci := 20) (v := .ref (P202.pp xp_215)) (C := RX15) (T := TX15) (N := 6) hx hb hts mem_P19_dropE_7 hown hK hP kp_238 hkp_238 rfl 2 (by decide) (ow (k := 20) rfl) (fun _ h9 => h9) rfl dX19_drop_210 ?_
                                  obtain ⟨pr_239, epr_239⟩ : ∃ q9 : Nat, q9 = P202.pp xp_215 := ⟨_, rfl⟩
                                  rw [← epr_239]
                                  have hpk_240 := aP202.pik hq_226.1 hq_226.2
                                  have hopr_239 : pr_239 ∈ L ∧ P202.kd pr_239 = 40 ∧ P202.ac pr_239 = cI ∧ P202.ow pr_239 = xp_215 := (by rw [epr_239]; exact hpk_240.2.1)
                                  have hnpr_239 : P202.an pr_239 = P202.an (P202.pp xp_215) := (by rw [epr_239])
                                  have hipr_239 : P202.ia pr_239 = P202.ia (P202.pp xp_215) := (by rw [epr_239])
                                  refine lv_iload hx hb dX19_drop_213 (lv_at hl 9 rfl) ?_
                                  obtain ⟨kp_241, hkp_241⟩ := va_pl_get (X := [(q_s, .inl (cS, n_s, .inl (fun j : Nat => zI (a_s (j : Int))))), (q_n, .inl (cN, n_n, .inl (fun j : Nat => zI (w11_n (j : Int))))), (hc, .inr (12, [v13_0, v13_1, v13_2, v13_3, v13_4, .ref la, v13_6]))]) (f := pE P202) hopr_239.1
                                  rw [pE_n40 hopr_239.2.1, hopr_239.2.2.1] at hkp_241
                                  refine va_iald hx hb hK hP kp_241 2 hkp_241 rfl (zI_in (a := d202_9) (n := P202.an pr_239) (by omega) (by omega) (by omega)) dX19_drop_215 ?_
                                  refine lv_topi (fun z ez => ?_)
                                  obtain rfl : z = zI (P202.ia pr_239 (d202_9)) := ez.trans (zI_ld (P202.ia pr_239) (by omega) (by omega))
                                  have hef9 := hpk_240.ef (i := d202_9) (by omega) (by omega)
                                  unfold PEF EF at hef9
                                  have : P202.ia pr_239 (d202_9) = P202.ia (P202.pp xp_215) (d202_9) := (by rw [hipr_239])
                                  have hpr9 := hd9.prb hX_a (b := d110_5) (j := d165_7) (by omega) (by omega) (by omega) (by omega) hxi_218 (i := d202_9) (by omega) (by omega)
                                  have hqp9 : pr_239 = P75.pp xp_215 := epr_239.symm.symm.trans (jv202.pp xp_215)
                                  have hee9 : P202.ia pr_239 (d202_9) = P75.ia (P75.pp xp_215) (d202_9) := (by rw [hqp9]; exact jl202.here (by omega))
                                  have hca9 : w11_n (P202.ia pr_239 (d202_9)) = w11_n (P75.ia (P75.pp xp_215) (d202_9)) := congrArg w11_n hee9
                                  refine va_iald hx hb hK hP 1 1 rfl rfl (zI_in (a := P202.ia pr_239 (d202_9)) (n := n_n) (by omega) (by omega) (by omega)) dX19_drop_216 ?_
                                  refine lv_topi (fun z ez => ?_)
                                  obtain rfl : z = zI (w11_n (P202.ia pr_239 (d202_9))) := ez.trans (zI_ld (w11_n) (by omega) (by omega))
                                  have k5 := jw11_n (P202.ia pr_239 (d202_9))
                                  refine lv_if_ge (tgt := 230) hx hb dX19_drop_217 (by decide) (fun b217 => ?_) (fun b217 => ?_)
                                  · have yb217 : (0 : Int) ≤ (w11_n (P202.ia pr_239 (d202_9)) : Int) := (zI_le (a := 0) (b := w11_n (P202.ia pr_239 (d202_9))) (by omega) (by omega) (by omega) (by omega)).mp b217
                                    refine lv_aload hx hb dX19_drop_230 (lv_at hl 8 rfl) ?_
                                    obtain ⟨kp_242, hkp_242⟩ := va_pl_get (X := [(q_s, .inl (cS, n_s, .inl (fun j : Nat => zI (a_s (j : Int))))), (q_n, .inl (cN, n_n, .inl (fun j : Nat => zI (w11_n (j : Int))))), (hc, .inr (12, [v13_0, v13_1, v13_2, v13_3, v13_4, .ref la, v13_6]))]) (f := pE P202) hq_226.1
                                    rw [pE_phi hq_226.2] at hkp_242
                                    refine va_get (D := (dC, dI)) (ci := 20) (v := .ref (P202.pp xp_215)) (C := RX15) (T := TX15) (N := 6) hx hb hts mem_P19_dropE_7 hown hK hP kp_242 hkp_242 rfl 2 (by decide) (ow (k := 20) rfl) (fun _ h9 => h9) rfl dX19_drop_232 ?_
                                    obtain ⟨pr_243, epr_243⟩ : ∃ q9 : Nat, q9 = P202.pp xp_215 := ⟨_, rfl⟩
                                    rw [← epr_243]
                                    obtain rfl : pr_239 = pr_243 := (by rw [epr_243]; exact epr_239.symm.symm)
                                    refine lv_iload hx hb dX19_drop_235 (lv_at hl 9 rfl) ?_
                                    refine lv_aload_n hx hb dX19_drop_237 rfl (lv_at hl 2 rfl) ?_
                                    refine lv_aload hx hb dX19_drop_238 (lv_at hl 8 rfl) ?_
                                    obtain ⟨kp_244, hkp_244⟩ := va_pl_get (X := [(q_s, .inl (cS, n_s, .inl (fun j : Nat => zI (a_s (j : Int))))), (q_n, .inl (cN, n_n, .inl (fun j : Nat => zI (w11_n (j : Int))))), (hc, .inr (12, [v13_0, v13_1, v13_2, v13_3, v13_4, .ref la, v13_6]))]) (f := pE P202) hq_226.1
                                    rw [pE_phi hq_226.2] at hkp_244
                                    refine va_get (D := (dC, dI)) (ci := 20) (v := .ref (P202.pp xp_215)) (C := RX15) (T := TX15) (N := 6) hx hb hts mem_P19_dropE_7 hown hK hP kp_244 hkp_244 rfl 2 (by decide) (ow (k := 20) rfl) (fun _ h9 => h9) rfl dX19_drop_240 ?_
                                    obtain ⟨pr_245, epr_245⟩ : ∃ q9 : Nat, q9 = P202.pp xp_215 := ⟨_, rfl⟩
                                    rw [← epr_245]
                                    obtain rfl : pr_239 = pr_245 := (by rw [epr_245]; exact epr_239.symm.symm)
                                    refine lv_iload hx hb dX19_drop_243 (lv_at hl 9 rfl) ?_
                                    obtain ⟨kp_246, hkp_246⟩ := va_pl_get (X := [(q_s, .inl (cS, n_s, .inl (fun j : Nat => zI (a_s (j : Int))))), (q_n, .inl (cN, n_n, .inl (fun j : Nat => zI (w11_n (j : Int))))), (hc, .inr (12, [v13_0, v13_1, v13_2, v13_3, v13_4, .ref la, v13_6]))]) (f := pE P202) hopr_239.1
                                    rw [pE_n40 hopr_239.2.1, hopr_239.2.2.1] at hkp_246
                                    refine va_iald hx hb hK hP kp_246 2 hkp_246 rfl (zI_in (a := d202_9) (n := P202.an pr_239) (by omega) (by omega) (by omega)) dX19_drop_245 ?_
                                    refine lv_topi (fun z ez => ?_)
                                    obtain rfl : z = zI (P202.ia pr_239 (d202_9)) := ez.trans (zI_ld (P202.ia pr_239) (by omega) (by omega))
                                    have hef9 := hpk_240.ef (i := d202_9) (by omega) (by omega)
                                    unfold PEF EF at hef9
                                    have : P202.ia pr_239 (d202_9) = P202.ia (P202.pp xp_215) (d202_9) := (by rw [hipr_239])
                                    refine va_iald hx hb hK hP 1 1 rfl rfl (zI_in (a := P202.ia pr_239 (d202_9)) (n := n_n) (by omega) (by omega) (by omega)) dX19_drop_246 ?_
                                    refine lv_topi (fun z ez => ?_)
                                    obtain rfl : z = zI (w11_n (P202.ia pr_239 (d202_9))) := ez.trans (zI_ld (w11_n) (by omega) (by omega))
                                    have k6 := jw11_n (P202.ia pr_239 (d202_9))
                                    obtain ⟨kp_247, gkp_247⟩ := va_pl_get (X := [(q_s, .inl (cS, n_s, .inl (fun j : Nat => zI (a_s (j : Int))))), (q_n, .inl (cN, n_n, .inl (fun j : Nat => zI (w11_n (j : Int))))), (hc, .inr (12, [v13_0, v13_1, v13_2, v13_3, v13_4, .ref la, v13_6]))]) (f := pE P202) hopr_239.1
                                    have hkp_247 := gkp_247
                                    rw [pE_n40 hopr_239.2.1, hopr_239.2.2.1] at hkp_247
                                    have hD0 := hD
                                    refine va_iast (i := zI (d202_9)) hx hb hK hP hD hS kp_247 2 hkp_247 rfl (zI_in (a := d202_9) (n := P202.an pr_239) (by omega) (by omega) (by omega)) dX19_drop_247 (fun H locs hP hD hS => ?_)
                                    obtain ⟨Pw_248, ePw_248⟩ : ∃ q9 : PO, q9 = P202.ri9 pr_239 (zup (P202.ia pr_239) (d202_9) (w11_n (P202.ia pr_239 (d202_9)))) := ⟨_, rfl⟩
                                    have eQ : upd (fun j : Nat => zI (P202.ia pr_239 (j : Int))) (zI (d202_9)).toNatClampNeg (zI (w11_n (P202.ia pr_239 (d202_9)))) = (fun j : Nat => zI ((zup (P202.ia pr_239) (d202_9) (w11_n (P202.ia pr_239 (d202_9)))) (j : Int))) := zI_st (P202.ia pr_239) (e := d202_9) (v := w11_n (P202.ia pr_239 (d202_9))) (by omega) (by omega)
                                    have eU : (([(q_s, .inl (cS, n_s, .inl (fun j : Nat => zI (a_s (j : Int))))), (q_n, .inl (cN, n_n, .inl (fun j : Nat => zI (w11_n (j : Int))))), (hc, .inr (12, [v13_0, v13_1, v13_2, v13_3, v13_4, .ref la, v13_6]))] : va_W) ++ va_pl L (pE P202)).set kp_247 (pr_239, (.inl (cI, P202.an pr_239, .inl (upd (fun j : Nat => zI (P202.ia pr_239 (j : Int))) (zI (d202_9)).toNatClampNeg (zI (w11_n (P202.ia pr_239 (d202_9)))))) : va_E)) = ([(q_s, .inl (cS, n_s, .inl (fun j : Nat => zI (a_s (j : Int))))), (q_n, .inl (cN, n_n, .inl (fun j : Nat => zI (w11_n (j : Int))))), (hc, .inr (12, [v13_0, v13_1, v13_2, v13_3, v13_4, .ref la, v13_6]))] : va_W) ++ va_pl L (pE Pw_248) := (by rw [eQ, va_pl_set hD0 hopr_239.1 gkp_247, ePw_248]; exact congrArg (fun f9 => ([(q_s, .inl (cS, n_s, .inl (fun j : Nat => zI (a_s (j : Int))))), (q_n, .inl (cN, n_n, .inl (fun j : Nat => zI (w11_n (j : Int))))), (hc, .inr (12, [v13_0, v13_1, v13_2, v13_3, v13_4, .ref la, v13_6]))] : va_W) ++ va_pl L f9) (by have h9 := putnum (P := P202) (x := pr_239) (a := zup (P202.ia pr_239) (d202_9) (w11_n (P202.ia pr_239 (d202_9)))) (by omega); rw [hopr_239.2.2.1] at h9; exact h9))
                                    have hP : va_P (dC, dI) vwQ ([(q_s, .inl (cS, n_s, .inl (fun j : Nat => zI (a_s (j : Int))))), (q_n, .inl (cN, n_n, .inl (fun j : Nat => zI (w11_n (j : Int))))), (hc, .inr (12, [v13_0, v13_1, v13_2, v13_3, v13_4, .ref la, v13_6]))] ++ va_pl L (pE Pw_248)) H := (by rw [← eU]; exact hP)
                                    have hD : va_D A ([(q_s, .inl (cS, n_s, .inl (fun j : Nat => zI (a_s (j : Int))))), (q_n, .inl (cN, n_n, .inl (fun j : Nat => zI (w11_n (j : Int))))), (hc, .inr (12, [v13_0, v13_1, v13_2, v13_3, v13_4, .ref la, v13_6]))] ++ va_pl L (pE Pw_248)) := (by rw [← eU]; exact hD)
                                    clear eU eQ hD0 gkp_247 hkp_247
                                    have wPw_248 : PH1 xp_215 P202 Pw_248 := (by rw [ePw_248]; exact PH1.num hopr_239.2.2.2)
                                    have hi_249 : Pw_248.ia pr_239 = zup (P202.ia pr_239) (d202_9) (w11_n (P202.ia pr_239 (d202_9))) := (by rw [ePw_248]; exact ri9_at _ _ _)
                                    have hy_250 : Pw_248.kd la = 30 := (by rw [ePw_248]; exact hq_222.2)
                                    have hy_251 : Pw_248.kd xb_20 = 12 := (by rw [ePw_248]; exact hq_223.2)
                                    have : Pw_248.bf xb_20 = P202.bf xb_20 := (by rw [ePw_248]; rfl)
                                    have : Pw_248.bs xb_20 = P202.bs xb_20 := (by rw [ePw_248]; rfl)
                                    have hy_252 : Pw_248.kd pr_24 = 17 := (by rw [ePw_248]; exact hq_224.2)
                                    have : Pw_248.ro pr_24 = P202.ro pr_24 := (by rw [ePw_248]; rfl)
                                    have : Pw_248.rt pr_24 = P202.rt pr_24 := (by rw [ePw_248]; rfl)
                                    have : Pw_248.ra pr_24 = P202.ra pr_24 := (by rw [ePw_248]; rfl)
                                    have : Pw_248.rb pr_24 = P202.rb pr_24 := (by rw [ePw_248]; rfl)
                                    have : Pw_248.rA pr_24 = P202.rA pr_24 := (by rw [ePw_248]; rfl)
                                    have : Pw_248.rB pr_24 = P202.rB pr_24 := (by rw [ePw_248]; rfl)
                                    have : Pw_248.rg pr_24 = P202.rg pr_24 := (by rw [ePw_248]; rfl)
                                    have hy_253 : Pw_248.kd pr_206 = 30 := (by rw [ePw_248]; exact hq_225.2)
                                    have hy_254 : Pw_248.kd xp_215 = 15 := (by rw [ePw_248]; exact hq_226.2)
                                    have : Pw_248.pt xp_215 = P202.pt xp_215 := (by rw [ePw_248]; rfl)
                                    have : Pw_248.pn xp_215 = P202.pn xp_215 := (by rw [ePw_248]; rfl)
                                    have : Pw_248.pg xp_215 = P202.pg xp_215 := (by rw [ePw_248]; rfl)
                                    have hy_255 : Pw_248.kd pr_239 = 40 := (by rw [ePw_248]; exact hopr_239.2.1)
                                    have hc_256 : Pw_248.ac pr_239 = cI := (by rw [ePw_248]; exact hopr_239.2.2.1)
                                    have : Pw_248.an pr_239 = P202.an pr_239 := (by rw [ePw_248]; rfl)
                                    have ha_257 : Pw_248.be xb_20 = pr_24 := (by rw [ePw_248]; exact ha_227)
                                    have ha_258 : Pw_248.bp xb_20 = pr_206 := (by rw [ePw_248]; exact ha_228)
                                    have ha_259 : Pw_248.pp xp_215 = pr_239 := (by rw [ePw_248]; exact epr_239.symm)
                                    have ho_260 : Pw_248.ow pr_239 = xp_215 := (by rw [ePw_248]; exact hopr_239.2.2.2)
                                    have hpt_261 := PIK.putp (aP202.pik hq_226.1 hq_226.2) epr_239.symm (i := d202_9) (v := w11_n (P202.ia pr_239 (d202_9))) (by omega) (by omega) (by omega) (by omega) ePw_248
                                    have hrw_262 : RWD P202 Pw_248 := hpt_261.1.rwd hq_226.2
                                    have hke_263 : KEG [la] L P202 L Pw_248 := hrw_262.keg _ hq_222.2
                                    have hak_264 : GLF L Pw_248 cO cI cZ sx_ed := aP202.phi hpt_261.1 hq_226.2 hpt_261.2.1
                                    have hq_265 : la ∈ L ∧ Pw_248.kd la = 30 := hke_263.mem hq_222.1 hq_222.2 (by decide)
                                    have hq_266 : xb_20 ∈ L ∧ Pw_248.kd xb_20 = 12 := hke_263.mem hq_223.1 hq_223.2 (by decide)
                                    have hq_267 : pr_24 ∈ L ∧ Pw_248.kd pr_24 = 17 := hke_263.mem hq_224.1 hq_224.2 (by decide)
                                    have hq_268 : pr_206 ∈ L ∧ Pw_248.kd pr_206 = 30 := hke_263.mem hq_225.1 hq_225.2 (by decide)
                                    have hq_269 : xp_215 ∈ L ∧ Pw_248.kd xp_215 = 15 := hke_263.mem hq_226.1 hq_226.2 (by decide)
                                    have ha_270 : Pw_248.be xb_20 = pr_24 := hke_263.be hq_223.1 hq_223.2 ha_227
                                    have ha_271 : Pw_248.bp xb_20 = pr_206 := hke_263.bp hq_223.1 hq_223.2 ha_228
                                    have hA_272 : KEG [la] L P L Pw_248 := hA_229.trans hke_263
                                    have hA_273 : KEG [la] L P11 L Pw_248 := hA_230.trans hke_263
                                    have hA_274 : KEG [la] L P75 L Pw_248 := hA_231.trans hke_263
                                    have hA_275 : KEG [la] L P110 L Pw_248 := hA_232.trans hke_263
                                    have hA_276 : KEG [la] L P165 L Pw_248 := hA_233.trans hke_263
                                    have hA_277 : KEG [la] L P202 L Pw_248 := (KEG.refl [la] L P202).trans hke_263
                                    have : Pw_248.lz la = P202.lz la := hrw_262.lz hq_222.2
                                    have : Pw_248.lz pr_206 = P202.lz pr_206 := hrw_262.lz hq_225.2
                                    have hpn9 := hpt_261.2.2.1.1
                                    have hek_278 : Pw_248.ek la = 12 := (by rw [hke_263.ek hq_222.1 hq_222.2 (by decide)]; exact hek_234)
                                    have how_279 : Pw_248.ow la = la := ((hke_263.1 la hq_222.1 (by rw [hq_222.2]; decide)).2.2.2.1 hq_222.2 how_235).1
                                    have hek_280 : Pw_248.ek pr_206 = 15 := (by rw [hke_263.ek hq_225.1 hq_225.2 (by decide)]; exact hek_236)
                                    have hE_281 : Pw_248.ek pr_24 = 1 := (by rw [hke_263.ek hq_224.1 hq_224.2 (by decide)]; exact hE_237)
                                    have huv_282 : UNV P75 Pw_248 (VDR P75 la (d110_5 + 1) (d110_5) (d165_7 + 1)) := jv202.step hpt_261.1 (by rw [((jv202.kd xp_215).symm.trans hq_226.2)]; decide) (fun z q => q) (by rw [hxi_218]; exact VDR.aphi (by omega) (by omega) (by omega) (by omega))
                                    have hld_283 : DRD P75 Pw_248 la w11_n (d110_5 + 1) (d110_5) (d165_7) := jd202.keep hpt_261.1 jv202 hbk (by omega) (by omega) (by omega) (by omega) hxi_218
                                    have hlp_284 : LSN P75 Pw_248 w11_n xp_215 (d202_9 - 1) := jl202.put (by omega) (by rw [← hca9]; omega) hpt_261.2.2.1.1 (by have q9 := hpt_261.2.2.2.2.2; rw [jv202.pp] at q9; rw [← hca9]; exact q9) (by have q9 := hpt_261.2.2.2.1; rw [jv202.pu] at q9; exact q9) (by have q9 := hpt_261.2.2.2.2.1; rw [jv202.pr] at q9; exact q9)
                                    have htg_285 : Pw_248.pt xp_215 = P75.pt xp_215 ∧ Pw_248.pg xp_215 = P75.pg xp_215 := ⟨hpt_261.2.2.1.2.1.trans jt202.1, hpt_261.2.2.1.2.2.trans jt202.2⟩
                                    refine lv_iinc (v := zI (d202_9 - 1)) (lv' := [(9, .int (zI (d202_9 - 1))), (0, .ref hc), (1, .ref q_s), (2, .ref q_n), (3, .int (zI (P.lz la))), (4, .int (zI (d11_4))), (5, .int (zI (d110_5))), (6, .ref xb_20), (7, .int (zI (d165_7))), (8, .ref xp_215)]) hx hb dX19_drop_248 hl (k := 9) rfl (zI_dec (d202_9) (1)) (by decide) rfl (fun ls hl => ?_)
                                    refine lv_goto (tgt := 202) hx hb dX19_drop_251 (by decide) ?_
                                    exact ih202 (d202_9 - 1) Pw_248 ls H _ (kP202.trans hA_277) hak_264 (by omega) huv_282 hld_283 (hlp_284.to (by omega)) htg_285 (by omega) (lv_sub hl [1, 2, 3, 4, 5, 6, 7, 8, 9, 0] rfl) hP hD hS
                                  · have yb217 : ¬ (0 : Int) ≤ (w11_n (P202.ia pr_239 (d202_9)) : Int) := fun q => b217 ((zI_le (a := 0) (b := w11_n (P202.ia pr_239 (d202_9))) (by omega) (by omega) (by omega) (by omega)).mpr q)
                                    have hnk9 : ¬ 0 ≤ w11_n (P75.ia (P75.pp xp_215) (d202_9)) := (by omega)
                                    refine lv_aload hx hb dX19_drop_220 (lv_at hl 8 rfl) ?_
                                    refine lv_iload hx hb dX19_drop_222 (lv_at hl 9 rfl) ?_
                                    have hX_p := aP202.pik hq_226.1 hq_226.2
                                    have hPc := hP.part (X := [(q_s, .inl (cS, n_s, .inl (fun j : Nat => zI (a_s (j : Int))))), (q_n, .inl (cN, n_n, .inl (fun j : Nat => zI (w11_n (j : Int))))), (hc, .inr (12, [v13_0, v13_1, v13_2, v13_3, v13_4, .ref la, v13_6]))]) (cx := []) (pl := va_pl L (pE P202)) [] rfl
                                    have hDc := hD.part (X := [(q_s, .inl (cS, n_s, .inl (fun j : Nat => zI (a_s (j : Int))))), (q_n, .inl (cN, n_n, .inl (fun j : Nat => zI (w11_n (j : Int))))), (hc, .inr (12, [v13_0, v13_1, v13_2, v13_3, v13_4, .ref la, v13_6]))]) (cx := []) (pl := va_pl L (pE P202)) [] (by decide) rfl
                                    have hKc := hK.sub (tys' := [(cO, .object "java/lang/Object"), (cI, .int), (cZ, .boolean)]) [4, 2, 3] rfl
                                    have hFc := va_freeP (X := [(q_s, .inl (cS, n_s, .inl (fun j : Nat => zI (a_s (j : Int))))), (q_n, .inl (cN, n_n, .inl (fun j : Nat => zI (w11_n (j : Int))))), (hc, .inr (12, [v13_0, v13_1, v13_2, v13_3, v13_4, .ref la, v13_6]))]) (cx := []) (pl := va_pl L (pE P202)) hD hS hA [] rfl
                                    refine va_callv (va_runV (As := [.int (zI (d202_9))]) (rest := []) ⟨hx, hb, hml, hown, hts⟩ (c_PP_dropE l dC dI cO cI cZ L P202 xp_215 d202_9 hX_p (by omega) H.size) (cwV 1 hts g_P19_dropE_PP_dropE rfl rfl rfl (by decide +kernel) ⟨(Nat.le_of_ble_eq_true rfl), (Nat.le_of_ble_eq_true rfl)⟩) ⟨fun a U g mk q => by obtain ⟨q0, q1, qP, qK, qD⟩ := q; exact ⟨q0, q1, qP, va_K.moved (u := U) (U := U.calling g mk a) (Vm.Alike.refl U.vm) qK, qD⟩, recv_15 hKc hPc hq_226.1 hq_226.2, fun U hU hW => ⟨rfl, by rw [hU], by rw [hU]; exact hPc, va_K.moved hW.alike hKc, hDc.weaken (fun _ _ _ _ => trivial)⟩⟩ rfl rfl hl.1 rfl (lv_room (Nat.le_of_ble_eq_true rfl)) dX19_drop_224 ⟨(Nat.le_of_ble_eq_true rfl), (Nat.le_of_ble_eq_true rfl)⟩) hS (fun q _ h => hFc q h) hFc (fun  u t H1 locs ht hvm hw hB hz1 hk1 hS => ?_)
                                    obtain ⟨Pn_286, hxt_286, hP1, hK1, hD1⟩ := hB
                                    rw [ht] at hP1
                                    have hK1 := va_K.moved hvm.symm hK1
                                    obtain ⟨hP, hD⟩ := va_joinP (X := [(q_s, .inl (cS, n_s, .inl (fun j : Nat => zI (a_s (j : Int))))), (q_n, .inl (cN, n_n, .inl (fun j : Nat => zI (w11_n (j : Int))))), (hc, .inr (12, [v13_0, v13_1, v13_2, v13_3, v13_4, .ref la, v13_6]))]) (cx := []) (wr := [(q_s, .inl (cS, n_s, .inl (fun j : Nat => zI (a_s (j : Int))))), (q_n, .inl (cN, n_n, .inl (fun j : Nat => zI (w11_n (j : Int))))), (hc, .inr (12, [v13_0, v13_1, v13_2, v13_3, v13_4, .ref la, v13_6]))]) (rx := []) (pl := va_pl L (pE P202)) (pl1 := va_pl L (pE Pn_286)) hP hD [] [0, 1, 2] rfl rfl (by decide) (by decide) hk1 hFc hP1 hD1
                                    have hK := (hK.sub (tys' := [(cS, .boolean), (cN, .int)]) [0, 1] rfl).app hK1
                                    generalize H1 = H at hP hS ⊢
                                    have hP : va_P (dC, dI) vwQ ([(q_s, .inl (cS, n_s, .inl (fun j : Nat => zI (a_s (j : Int))))), (q_n, .inl (cN, n_n, .inl (fun j : Nat => zI (w11_n (j : Int))))), (hc, .inr (12, [v13_0, v13_1, v13_2, v13_3, v13_4, .ref la, v13_6]))] ++ va_pl L (pE Pn_286)) H := hP
                                    have hD : va_D A ([(q_s, .inl (cS, n_s, .inl (fun j : Nat => zI (a_s (j : Int))))), (q_n, .inl (cN, n_n, .inl (fun j : Nat => zI (w11_n (j : Int))))), (hc, .inr (12, [v13_0, v13_1, v13_2, v13_3, v13_4, .ref la, v13_6]))] ++ va_pl L (pE Pn_286)) := hD
                                    have hK : va_K (dC, dI) vwQ [(cS, .boolean), (cN, .int), (cO, .object "java/lang/Object"), (cI, .int), (cZ, .boolean)] s := hK
                                    refine W.widen (k := 0) (n := 0) (Nat.le_of_ble_eq_true rfl) (Nat.le_of_ble_eq_true rfl) ?_
                                    have hu_287 := hxt_286
                                    have hrw_288 : RWD P202 Pn_286 := hu_287.1.rwd hq_226.2
                                    have hke_289 : KEG [la] L P202 L Pn_286 := hrw_288.keg _ hq_222.2
                                    have hak_290 : GLF L Pn_286 cO cI cZ sx_ed := aP202.phi hu_287.1 hq_226.2 hu_287.2.1
                                    have hq_291 : la ∈ L ∧ Pn_286.kd la = 30 := hke_289.mem hq_222.1 hq_222.2 (by decide)
                                    have hq_292 : xb_20 ∈ L ∧ Pn_286.kd xb_20 = 12 := hke_289.mem hq_223.1 hq_223.2 (by decide)
                                    have hq_293 : pr_24 ∈ L ∧ Pn_286.kd pr_24 = 17 := hke_289.mem hq_224.1 hq_224.2 (by decide)
                                    have hq_294 : pr_206 ∈ L ∧ Pn_286.kd pr_206 = 30 := hke_289.mem hq_225.1 hq_225.2 (by decide)
                                    have hq_295 : xp_215 ∈ L ∧ Pn_286.kd xp_215 = 15 := hke_289.mem hq_226.1 hq_226.2 (by decide)
                                    have ha_296 : Pn_286.be xb_20 = pr_24 := hke_289.be hq_223.1 hq_223.2 ha_227
                                    have ha_297 : Pn_286.bp xb_20 = pr_206 := hke_289.bp hq_223.1 hq_223.2 ha_228
                                    have hA_298 : KEG [la] L P L Pn_286 := hA_229.trans hke_289
                                    have hA_299 : KEG [la] L P11 L Pn_286 := hA_230.trans hke_289
                                    have hA_300 : KEG [la] L P75 L Pn_286 := hA_231.trans hke_289
                                    have hA_301 : KEG [la] L P110 L Pn_286 := hA_232.trans hke_289
                                    have hA_302 : KEG [la] L P165 L Pn_286 := hA_233.trans hke_289
                                    have hA_303 : KEG [la] L P202 L Pn_286 := (KEG.refl [la] L P202).trans hke_289
                                    have : Pn_286.lz la = P202.lz la := hrw_288.lz hq_222.2
                                    have : Pn_286.lz pr_206 = P202.lz pr_206 := hrw_288.lz hq_225.2
                                    have hpn9 := hu_287.2.2.1
                                    have : Pn_286.cap la = P202.cap la := hrw_288.cap la
                                    have hek_304 : Pn_286.ek la = 12 := (by rw [hke_289.ek hq_222.1 hq_222.2 (by decide)]; exact hek_234)
                                    have how_305 : Pn_286.ow la = la := ((hke_289.1 la hq_222.1 (by rw [hq_222.2]; decide)).2.2.2.1 hq_222.2 how_235).1
                                    have hek_306 : Pn_286.ek pr_206 = 15 := (by rw [hke_289.ek hq_225.1 hq_225.2 (by decide)]; exact hek_236)
                                    have hE_307 : Pn_286.ek pr_24 = 1 := (by rw [hke_289.ek hq_224.1 hq_224.2 (by decide)]; exact hE_237)
                                    have huv_308 : UNV P75 Pn_286 (VDR P75 la (d110_5 + 1) (d110_5) (d165_7 + 1)) := jv202.step hu_287.1 (by rw [((jv202.kd xp_215).symm.trans hq_226.2)]; decide) (fun z q => q) (by rw [hxi_218]; exact VDR.aphi (by omega) (by omega) (by omega) (by omega))
                                    have hld_309 : DRD P75 Pn_286 la w11_n (d110_5 + 1) (d110_5) (d165_7) := jd202.keep hu_287.1 jv202 hbk (by omega) (by omega) (by omega) (by omega) hxi_218
                                    have hlp_310 : LSN P75 Pn_286 w11_n xp_215 (d202_9 - 1) := jl202.drop (by omega) hu_287.2.2.2.1.2.2 (jv202.pp xp_215) (jv202.pu xp_215) (jv202.pr xp_215) hnk9
                                    have htg_311 : Pn_286.pt xp_215 = P75.pt xp_215 ∧ Pn_286.pg xp_215 = P75.pg xp_215 := ⟨hu_287.2.2.2.1.1.trans jt202.1, hu_287.2.2.2.1.2.1.trans jt202.2⟩
                                    refine lv_goto (tgt := 248) hx hb dX19_drop_227 (by decide) ?_
                                    refine lv_iinc (v := zI (d202_9 - 1)) (lv' := [(9, .int (zI (d202_9 - 1))), (0, .ref hc), (1, .ref q_s), (2, .ref q_n), (3, .int (zI (P.lz la))), (4, .int (zI (d11_4))), (5, .int (zI (d110_5))), (6, .ref xb_20), (7, .int (zI (d165_7))), (8, .ref xp_215)]) hx hb dX19_drop_248 hl (k := 9) rfl (zI_dec (d202_9) (1)) (by decide) rfl (fun ls hl => ?_)
                                    refine lv_goto (tgt := 202) hx hb dX19_drop_251 (by decide) ?_
                                    exact ih202 (d202_9 - 1) Pn_286 ls H _ (kP202.trans hA_303) hak_290 (by omega) huv_308 hld_309 (hlp_310.to (by omega)) htg_311 (by omega) (lv_sub hl [1, 2, 3, 4, 5, 6, 7, 8, 9, 0] rfl) hP hD hS
                            exact key202 (((P165.pn xp_215) - 1 + 1 : Int).toNat + 1) ((P165.pn xp_215) - 1) P165 ls H _ (KEG.refl _ _ _) aP165 (by omega) (jv165.wk (fun z q => q.mono (by omega) (by omega))) jd165 ((LSN.first P75 w11_n xp_215 (by omega)).same hpn9 (jv165.2.2 _ (by rw [hpk_220.2.1.2.2.2]; exact hfr_219)) (jv165.2.2 _ (by rw [hpk_220.2.2.1.2.2.2]; exact hfr_219)) (jv165.2.2 _ (by rw [hpk_220.2.2.2.1.2.2.2]; exact hfr_219))) htg0 (by omega) (lv_sub hl [2, 3, 4, 5, 6, 7, 8, 9, 1, 0] rfl) hP hD hS
                      exact key165 ((50000 - 0 : Int).toNat + 1) 0 Pw_172 ls H _ (KEG.refl _ _ _) hak_179 (by omega) huv_192 hld_193 (by omega) (lv_sub hl [2, 3, 4, 5, 6, 7, 1, 0] rfl) hP hD hS
              exact key110 ((400 - 0 : Int).toNat + 1) 0 P75 ls H _ (KEG.refl _ _ _) aP75 (by omega) hv0 hd0 (by omega) (lv_sub hl [1, 2, 3, 4, 5, 0] rfl) hP hD hS
            · have yb84 : ¬ (P75.lz la : Int) ≤ (d11_4 : Int) := fun q => b84 ((zI_le (a := P75.lz la) (b := d11_4) (by omega) (by omega) (by omega) (by omega)).mpr q)
              refine lv_aload_n hx hb dX19_drop_87 rfl (lv_at hl 0 rfl) ?_
              refine va_get (D := (dC, dI)) (ci := 12) (v := .ref la) (C := RX13) (T := TX13) (N := 7) hx hb hts mem_P19_dropE_1 hown hK hP 2 rfl rfl 5 (by decide) (ow (k := 4) rfl) (fun _ h9 => h9) rfl dX19_drop_88 ?_
              refine lv_aload_n hx hb dX19_drop_91 rfl (lv_at hl 0 rfl) ?_
              refine va_get (D := (dC, dI)) (ci := 12) (v := .ref la) (C := RX13) (T := TX13) (N := 7) hx hb hts mem_P19_dropE_1 hown hK hP 2 rfl rfl 5 (by decide) (ow (k := 4) rfl) (fun _ h9 => h9) rfl dX19_drop_92 ?_
              have hlk_312 := (show LOK L P75 cO 12 la from (by have q9 := (aP75.gla la hq_6.1 hq_6.2).1; rw [hek_9] at q9; exact q9))
              have hX_x := hlk_312.1
              have hX_k := hlk_312.2.1
              have hPc := hP.part (X := [(q_s, .inl (cS, n_s, .inl (fun j : Nat => zI (a_s (j : Int))))), (q_n, .inl (cN, n_n, .inl (fun j : Nat => zI (w11_n (j : Int))))), (hc, .inr (12, [v13_0, v13_1, v13_2, v13_3, v13_4, .ref la, v13_6]))]) (cx := []) (pl := va_pl L (pE P75)) [] rfl
              have hDc := hD.part (X := [(q_s, .inl (cS, n_s, .inl (fun j : Nat => zI (a_s (j : Int))))), (q_n, .inl (cN, n_n, .inl (fun j : Nat => zI (w11_n (j : Int))))), (hc, .inr (12, [v13_0, v13_1, v13_2, v13_3, v13_4, .ref la, v13_6]))]) (cx := []) (pl := va_pl L (pE P75)) [] (by decide) rfl
              have hKc := hK.sub (tys' := [(cO, .object "java/lang/Object")]) [4] rfl
              have hFc := va_freeP (X := [(q_s, .inl (cS, n_s, .inl (fun j : Nat => zI (a_s (j : Int))))), (q_n, .inl (cN, n_n, .inl (fun j : Nat => zI (w11_n (j : Int))))), (hc, .inr (12, [v13_0, v13_1, v13_2, v13_3, v13_4, .ref la, v13_6]))]) (cx := []) (pl := va_pl L (pE P75)) hD hS hA [] rfl
              refine va_calli (va_runV (As := []) (rest := [.ref la]) ⟨hx, hb, hml, hown, hts⟩ (c_PL_size l dC dI cO L P75 la hX_x hX_k (by omega) H.size) (cwV 0 hts g_P19_dropE_PL_size rfl rfl rfl (by decide +kernel) ⟨(Nat.le_of_ble_eq_true rfl), (Nat.le_of_ble_eq_true rfl)⟩) ⟨fun a U g mk q => by obtain ⟨q0, q1, qP, qK, qD⟩ := q; exact ⟨q0, q1, qP, va_K.moved (u := U) (U := U.calling g mk a) (Vm.Alike.refl U.vm) qK, qD⟩, recv_30 hKc hPc hq_6.1 hq_6.2, fun U hU hW => ⟨rfl, by rw [hU], by rw [hU]; exact hPc, va_K.moved hW.alike hKc, hDc.weaken (fun _ _ _ _ => trivial)⟩⟩ rfl rfl hl.1 rfl (lv_room (Nat.le_of_ble_eq_true rfl)) dX19_drop_95 ⟨(Nat.le_of_ble_eq_true rfl), (Nat.le_of_ble_eq_true rfl)⟩) hS (fun q _ h => hFc q h) hFc (fun r_313 u t H1 locs ht hvm hw hB hz1 hk1 hS => ?_)
              obtain ⟨hP1, hK1, hD1⟩ := hB
              rw [ht] at hP1
              have hK1 := va_K.moved hvm.symm hK1
              obtain ⟨hP, hD⟩ := va_joinP (X := [(q_s, .inl (cS, n_s, .inl (fun j : Nat => zI (a_s (j : Int))))), (q_n, .inl (cN, n_n, .inl (fun j : Nat => zI (w11_n (j : Int))))), (hc, .inr (12, [v13_0, v13_1, v13_2, v13_3, v13_4, .ref la, v13_6]))]) (cx := []) (wr := [(q_s, .inl (cS, n_s, .inl (fun j : Nat => zI (a_s (j : Int))))), (q_n, .inl (cN, n_n, .inl (fun j : Nat => zI (w11_n (j : Int))))), (hc, .inr (12, [v13_0, v13_1, v13_2, v13_3, v13_4, .ref la, v13_6]))]) (rx := []) (pl := va_pl L (pE P75)) (pl1 := va_pl L (pE P75)) hP hD [] [0, 1, 2] rfl rfl (by decide) (by decide) hk1 hFc hP1 hD1
              have hK := (hK.sub (tys' := [(cS, .boolean), (cN, .int), (cI, .int), (cZ, .boolean)]) [0, 1, 2, 3] rfl).app hK1
              generalize H1 = H at hP hS ⊢
              have hP : va_P (dC, dI) vwQ ([(q_s, .inl (cS, n_s, .inl (fun j : Nat => zI (a_s (j : Int))))), (q_n, .inl (cN, n_n, .inl (fun j : Nat => zI (w11_n (j : Int))))), (hc, .inr (12, [v13_0, v13_1, v13_2, v13_3, v13_4, .ref la, v13_6]))] ++ va_pl L (pE P75)) H := hP
              have hD : va_D A ([(q_s, .inl (cS, n_s, .inl (fun j : Nat => zI (a_s (j : Int))))), (q_n, .inl (cN, n_n, .inl (fun j : Nat => zI (w11_n (j : Int))))), (hc, .inr (12, [v13_0, v13_1, v13_2, v13_3, v13_4, .ref la, v13_6]))] ++ va_pl L (pE P75)) := hD
              have hK : va_K (dC, dI) vwQ [(cS, .boolean), (cN, .int), (cI, .int), (cZ, .boolean), (cO, .object "java/lang/Object")] s := hK
              refine W.widen (k := 0) (n := 0) (Nat.le_of_ble_eq_true rfl) (Nat.le_of_ble_eq_true rfl) ?_
              obtain rfl : r_313 = (zI (P75.lz la)) := hw
              refine lv_iconst (v := 1) hx hb dX19_drop_98 (by decide) ?_
              refine lv_isub hx hb dX19_drop_99 ?_
              refine lv_topi (fun z ez => ?_)
              obtain rfl : z = zI ((P75.lz la) - 1) := ez.trans (zI_sub (P75.lz la) (1))
              have hlk_314 := (show LOK L P75 cO 12 la from (by have q9 := (aP75.gla la hq_6.1 hq_6.2).1; rw [hek_9] at q9; exact q9))
              obtain ⟨x, ex⟩ : ∃ q9 : Nat, q9 = P75.el la ((P75.lz la) - 1) := ⟨_, rfl⟩
              have hX_x := hlk_314.1
              have hX_k := hlk_314.2.1
              have hq9 := hlk_314.row (i := (P75.lz la) - 1) (by omega) (by omega)
              have hX_q : P75.le la ∈ L ∧ P75.kd (P75.le la) = 31 ∧ P75.ac (P75.le la) = cO := ⟨hq9.1, hq9.2.1, hq9.2.2.1⟩
              have hq8 := hq9.2.2.2
              have hX_e0 : P75.oa (P75.le la) ((P75.lz la) - 1).toNat = some x := (by rw [ex]; exact (hlk_314.2.2.2.2 ((P75.lz la) - 1) (by omega) (by omega)).1)
              have hxm : x ∈ L := (by rw [ex]; exact (hlk_314.2.2.2.2 ((P75.lz la) - 1) (by omega) (by omega)).2.1)
              have hxk := (hlk_314.2.2.2.2 ((P75.lz la) - 1) (by omega) (by omega)).2.2
              rw [← ex] at hxk
              have hfl9 := aP75.owa.fl1 hq_6.1 hq_6.2 (by omega)
              have hX_s := ((aP75.owa la hq_6.1 hq_6.2).2 hfl9).2.2.2.1
              have hPc := hP.part (X := [(q_s, .inl (cS, n_s, .inl (fun j : Nat => zI (a_s (j : Int))))), (q_n, .inl (cN, n_n, .inl (fun j : Nat => zI (w11_n (j : Int))))), (hc, .inr (12, [v13_0, v13_1, v13_2, v13_3, v13_4, .ref la, v13_6]))]) (cx := []) (pl := va_pl L (pE P75)) [] rfl
              have hDc := hD.part (X := [(q_s, .inl (cS, n_s, .inl (fun j : Nat => zI (a_s (j : Int))))), (q_n, .inl (cN, n_n, .inl (fun j : Nat => zI (w11_n (j : Int))))), (hc, .inr (12, [v13_0, v13_1, v13_2, v13_3, v13_4, .ref la, v13_6]))]) (cx := []) (pl := va_pl L (pE P75)) [] (by decide) rfl
              have hKc := hK.sub (tys' := [(cO, .object "java/lang/Object")]) [4] rfl
              have hFc := va_freeP (X := [(q_s, .inl (cS, n_s, .inl (fun j : Nat => zI (a_s (j : Int))))), (q_n, .inl (cN, n_n, .inl (fun j : Nat => zI (w11_n (j : Int))))), (hc, .inr (12, [v13_0, v13_1, v13_2, v13_3, v13_4, .ref la, v13_6]))]) (cx := []) (pl := va_pl L (pE P75)) hD hS hA [] rfl
              refine va_callr (va_runV (As := [.int (zI ((P75.lz la) - 1))]) (rest := []) ⟨hx, hb, hml, hown, hts⟩ (c_PL_remove l dC dI cO L P75 la ((P75.lz la) - 1) x hX_x hX_k hX_q hX_s (by omega) hX_e0 H.size) (cwV 1 hts g_P19_dropE_PL_remove rfl rfl rfl (by decide +kernel) ⟨(Nat.le_of_ble_eq_true rfl), (Nat.le_of_ble_eq_true rfl)⟩) ⟨fun a U g mk q => by obtain ⟨q0, q1, qP, qK, qD, e0, e1, e2⟩ := q; exact ⟨q0, q1, qP, va_K.moved (u := U) (U := U.calling g mk a) (Vm.Alike.refl U.vm) qK, qD, va_Nw.same rfl (u := U) (U := U.calling g mk a) rfl e0, va_Nw.same rfl (u := U) (U := U.calling g mk a) rfl e1, va_Nw.same rfl (u := U) (U := U.calling g mk a) rfl e2⟩, recv_30 hKc hPc hq_6.1 hq_6.2, fun U hU hW => ⟨rfl, by rw [hU], by rw [hU]; exact hPc, va_K.moved hW.alike hKc, hDc.weaken (fun _ _ _ _ => trivial), va_Nw.warmC hW hp2, va_Nw.warmC hW hp3, va_Nw.warmC hW hp4⟩⟩ rfl rfl hl.1 rfl (lv_room (Nat.le_of_ble_eq_true rfl)) dX19_drop_100 ⟨(Nat.le_of_ble_eq_true rfl), (Nat.le_of_ble_eq_true rfl)⟩) hS (fun q _ h => hFc q h) hFc (fun u q_315 t H1 locs ht hvm hw hB hz1 hk1 hS => ?_)
              obtain ⟨Pn_316, hxt_316, hP1, hK1, hD1⟩ := hB
              rw [ht] at hP1
              have hK1 := va_K.moved hvm.symm hK1
              obtain ⟨hP, hD⟩ := va_joinP (X := [(q_s, .inl (cS, n_s, .inl (fun j : Nat => zI (a_s (j : Int))))), (q_n, .inl (cN, n_n, .inl (fun j : Nat => zI (w11_n (j : Int))))), (hc, .inr (12, [v13_0, v13_1, v13_2, v13_3, v13_4, .ref la, v13_6]))]) (cx := []) (wr := [(q_s, .inl (cS, n_s, .inl (fun j : Nat => zI (a_s (j : Int))))), (q_n, .inl (cN, n_n, .inl (fun j : Nat => zI (w11_n (j : Int))))), (hc, .inr (12, [v13_0, v13_1, v13_2, v13_3, v13_4, .ref la, v13_6]))]) (rx := []) (pl := va_pl L (pE P75)) (pl1 := va_pl L (pE Pn_316)) hP hD [] [0, 1, 2] rfl rfl (by decide) (by decide) hk1 hFc hP1 hD1
              have hK := (hK.sub (tys' := [(cS, .boolean), (cN, .int), (cI, .int), (cZ, .boolean)]) [0, 1, 2, 3] rfl).app hK1
              generalize H1 = H at hP hS ⊢
              have hP : va_P (dC, dI) vwQ ([(q_s, .inl (cS, n_s, .inl (fun j : Nat => zI (a_s (j : Int))))), (q_n, .inl (cN, n_n, .inl (fun j : Nat => zI (w11_n (j : Int))))), (hc, .inr (12, [v13_0, v13_1, v13_2, v13_3, v13_4, .ref la, v13_6]))] ++ va_pl L (pE Pn_316)) H := hP
              have hD : va_D A ([(q_s, .inl (cS, n_s, .inl (fun j : Nat => zI (a_s (j : Int))))), (q_n, .inl (cN, n_n, .inl (fun j : Nat => zI (w11_n (j : Int))))), (hc, .inr (12, [v13_0, v13_1, v13_2, v13_3, v13_4, .ref la, v13_6]))] ++ va_pl L (pE Pn_316)) := hD
              have hK : va_K (dC, dI) vwQ [(cS, .boolean), (cN, .int), (cI, .int), (cZ, .boolean), (cO, .object "java/lang/Object")] s := hK
              refine W.widen (k := 0) (n := 0) (Nat.le_of_ble_eq_true rfl) (Nat.le_of_ble_eq_true rfl) ?_
              rw [hxt_316.1]
              have hu_317 := hxt_316.2
              have hlc_318 : LCH la L P75 Pn_316 := LCH.rmv aP75 hu_317.1 hq_6.1 hq_6.2 hfl9 hu_317.2.1 (by omega) hu_317.2.2.1 hu_317.2.2.2
              have hke_319 : KEG [la] L P75 L Pn_316 := hlc_318.keg aP75 hq_6.1 hq_6.2 (Or.inr (by simp))
              have hak_320 : GLF L Pn_316 cO cI cZ sx_ed := hlc_318.glf aP75 hq_6.1 hq_6.2
              have hdr_321 := jd75.cut (by omega) (by omega) hu_317.1 hu_317.2.2.2 (by omega) hu_317.2.1
              clear hX_e0 hX_s hfl9
              have hq_322 : la ∈ L ∧ Pn_316.kd la = 30 := hke_319.mem hq_6.1 hq_6.2 (by decide)
              have hA_323 : KEG [la] L P L Pn_316 := hA_7.trans hke_319
              have hA_324 : KEG [la] L P11 L Pn_316 := hA_8.trans hke_319
              have hA_325 : KEG [la] L P75 L Pn_316 := (KEG.refl [la] L P75).trans hke_319
              have hzl9 := hu_317.2.1
              have hek_326 : Pn_316.ek la = 12 := (by rw [hke_319.ek hq_6.1 hq_6.2 (by decide)]; exact hek_9)
              have how_327 : Pn_316.ow la = la := ((hke_319.1 la hq_6.1 (by rw [hq_6.2]; decide)).2.2.2.1 hq_6.2 how_10).1
              refine lv_pop hx hb dX19_drop_103 rfl ?_
              refine lv_goto (tgt := 75) hx hb dX19_drop_104 (by decide) ?_
              exact ih75 Pn_316 ls H _ (kP75.trans hA_325) hak_320 (hdr_321.to (by omega) (by omega)) (by omega) (by omega) (lv_sub hl [0, 1, 2, 3, 4, 5] rfl) hP hD hS
        exact key75 ((P11.lz la : Int).toNat + 1) P11 ls H _ (KEG.refl _ _ _) aP11 (jd11.to (by omega) (by omega)) (by omega) (by omega) (lv_sub hl [0, 1, 2, 3, 4, 5] rfl) hP hD hS
      · have yb14 : ¬ (P.lz la : Int) ≤ (d11_5 : Int) := fun q => b14 ((zI_le (a := P.lz la) (b := d11_5) (by omega) (by omega) (by omega) (by omega)).mpr q)
        refine lv_aload_n hx hb dX19_drop_17 rfl (lv_at hl 2 rfl) ?_
        refine lv_iload hx hb dX19_drop_18 (lv_at hl 5 rfl) ?_
        refine lv_aload_n hx hb dX19_drop_20 rfl (lv_at hl 1 rfl) ?_
        refine lv_iload hx hb dX19_drop_21 (lv_at hl 5 rfl) ?_
        refine va_zald hx hb hK hP 0 0 rfl rfl (zI_in (a := d11_5) (n := n_s) (by omega) (by omega) (by omega)) dX19_drop_23 ?_
        refine lv_topi (fun z ez => ?_)
        obtain rfl : z = zI (a_s (d11_5)) := ez.trans (zI_ld (a_s) (by omega) (by omega))
        have k7 := hR_a_s (d11_5)
        refine lv_if_eq (tgt := 32) hx hb dX19_drop_24 (by decide) (fun b24 => ?_) (fun b24 => ?_)
        · have yb24 : (a_s (d11_5) : Int) = (0 : Int) := (zI_eq (a := a_s (d11_5)) (b := 0) (by omega) (by omega) (by omega) (by omega)).mp b24
          refine lv_iconst (v := (-1)) hx hb dX19_drop_32 (by decide) ?_
          refine va_iast (i := zI (d11_5)) hx hb hK hP hD hS 1 1 rfl rfl (zI_in (a := d11_5) (n := n_n) (by omega) (by omega) (by omega)) dX19_drop_33 (fun H locs hP hD hS => ?_)
          have eQ : upd (fun j : Nat => zI (w11_n (j : Int))) (zI (d11_5)).toNatClampNeg (-1) = (fun j : Nat => zI (zup w11_n (d11_5) (-1) (j : Int))) := (congrArg (upd (fun j : Nat => zI (w11_n (j : Int))) (zI (d11_5)).toNatClampNeg) (show ((-1) : Int32) = zI (-1) by decide)).trans (zI_st w11_n (e := d11_5) (v := -1) (by omega) (by omega))
          rw [eQ] at hP hD
          clear eQ
          have ra_328 : ∀ j : Int, -1 ≤ zup w11_n (d11_5) (-1) j ∧ zup w11_n (d11_5) (-1) j ≤ 299 := zup_P (P := fun x9 => -1 ≤ x9 ∧ x9 ≤ 299) jw11_n (show -1 ≤ (-1) ∧ (-1) ≤ 299 by omega)
          obtain ⟨a_328, ea_328⟩ : ∃ a9 : Int → Int, a9 = zup w11_n (d11_5) (-1) := ⟨_, rfl⟩
          rw [← ea_328] at hP hD ra_328
          have hP : va_P (dC, dI) vwQ ([(q_s, .inl (cS, n_s, .inl (fun j : Nat => zI (a_s (j : Int))))), (q_n, .inl (cN, n_n, .inl (fun j : Nat => zI (a_328 (j : Int))))), (hc, .inr (12, [v13_0, v13_1, v13_2, v13_3, v13_4, .ref la, v13_6]))] ++ va_pl L (pE P11)) H := hP
          have hD : va_D A ([(q_s, .inl (cS, n_s, .inl (fun j : Nat => zI (a_s (j : Int))))), (q_n, .inl (cN, n_n, .inl (fun j : Nat => zI (a_328 (j : Int))))), (hc, .inr (12, [v13_0, v13_1, v13_2, v13_3, v13_4, .ref la, v13_6]))] ++ va_pl L (pE P11)) := hD
          refine lv_aload_n hx hb dX19_drop_34 rfl (lv_at hl 1 rfl) ?_
          refine lv_iload hx hb dX19_drop_35 (lv_at hl 5 rfl) ?_
          refine va_zald hx hb hK hP 0 0 rfl rfl (zI_in (a := d11_5) (n := n_s) (by omega) (by omega) (by omega)) dX19_drop_37 ?_
          refine lv_topi (fun z ez => ?_)
          obtain rfl : z = zI (a_s (d11_5)) := ez.trans (zI_ld (a_s) (by omega) (by omega))
          have k8 := hR_a_s (d11_5)
          refine lv_if_ne (tgt := 44) hx hb dX19_drop_38 (by decide) (fun b38 => ?_) (fun b38 => ?_)
          · have yb38 : ¬ (a_s (d11_5) : Int) = (0 : Int) := fun q => b38 ((zI_eq (a := a_s (d11_5)) (b := 0) (by omega) (by omega) (by omega) (by omega)).mpr q)
            refine lv_aload_n hx hb dX19_drop_44 rfl (lv_at hl 0 rfl) ?_
            refine va_get (D := (dC, dI)) (ci := 12) (v := .ref la) (C := RX13) (T := TX13) (N := 7) hx hb hts mem_P19_dropE_1 hown hK hP 2 rfl rfl 5 (by decide) (ow (k := 4) rfl) (fun _ h9 => h9) rfl dX19_drop_45 ?_
            refine lv_iload hx hb dX19_drop_48 (lv_at hl 4 rfl) ?_
            refine lv_aload_n hx hb dX19_drop_50 rfl (lv_at hl 0 rfl) ?_
            refine va_get (D := (dC, dI)) (ci := 12) (v := .ref la) (C := RX13) (T := TX13) (N := 7) hx hb hts mem_P19_dropE_1 hown hK hP 2 rfl rfl 5 (by decide) (ow (k := 4) rfl) (fun _ h9 => h9) rfl dX19_drop_51 ?_
            refine lv_iload hx hb dX19_drop_54 (lv_at hl 5 rfl) ?_
            have hlk_329 := (show LOK L P11 cO 12 la from (by have q9 := (aP11.gla la hq_2.1 hq_2.2).1; rw [hek_4] at q9; exact q9))
            obtain ⟨x, ex⟩ : ∃ q9 : Nat, q9 = P11.el la (d11_5) := ⟨_, rfl⟩
            have hX_x := hlk_329.1
            have hX_k := hlk_329.2.1
            have hq9 := hlk_329.row (i := d11_5) (by omega) (by omega)
            have hX_q : P11.le la ∈ L ∧ P11.kd (P11.le la) = 31 ∧ P11.ac (P11.le la) = cO := ⟨hq9.1, hq9.2.1, hq9.2.2.1⟩
            have hq8 := hq9.2.2.2
            have hX_e0 : P11.oa (P11.le la) (d11_5).toNat = some x := (by rw [ex]; exact (hlk_329.2.2.2.2 (d11_5) (by omega) (by omega)).1)
            have hxm : x ∈ L := (by rw [ex]; exact (hlk_329.2.2.2.2 (d11_5) (by omega) (by omega)).2.1)
            have hxk := (hlk_329.2.2.2.2 (d11_5) (by omega) (by omega)).2.2
            rw [← ex] at hxk
            have hPc := hP.part (X := [(q_s, .inl (cS, n_s, .inl (fun j : Nat => zI (a_s (j : Int))))), (q_n, .inl (cN, n_n, .inl (fun j : Nat => zI (a_328 (j : Int))))), (hc, .inr (12, [v13_0, v13_1, v13_2, v13_3, v13_4, .ref la, v13_6]))]) (cx := []) (pl := va_pl L (pE P11)) [] rfl
            have hDc := hD.part (X := [(q_s, .inl (cS, n_s, .inl (fun j : Nat => zI (a_s (j : Int))))), (q_n, .inl (cN, n_n, .inl (fun j : Nat => zI (a_328 (j : Int))))), (hc, .inr (12, [v13_0, v13_1, v13_2, v13_3, v13_4, .ref la, v13_6]))]) (cx := []) (pl := va_pl L (pE P11)) [] (by decide) rfl
            have hKc := hK.sub (tys' := [(cO, .object "java/lang/Object")]) [4] rfl
            have hFc := va_freeP (X := [(q_s, .inl (cS, n_s, .inl (fun j : Nat => zI (a_s (j : Int))))), (q_n, .inl (cN, n_n, .inl (fun j : Nat => zI (a_328 (j : Int))))), (hc, .inr (12, [v13_0, v13_1, v13_2, v13_3, v13_4, .ref la, v13_6]))]) (cx := []) (pl := va_pl L (pE P11)) hD hS hA [] rfl
            refine va_callr (va_runV (As := [.int (zI (d11_5))]) (rest := [.int (zI (d11_4)), .ref la]) ⟨hx, hb, hml, hown, hts⟩ (c_PL_get l dC dI cO L P11 la d11_5 x hX_x hX_k hX_q (by omega) hX_e0 H.size) (cwV 1 hts g_P19_dropE_PL_get rfl rfl rfl (by decide +kernel) ⟨(Nat.le_of_ble_eq_true rfl), (Nat.le_of_ble_eq_true rfl)⟩) ⟨fun a U g mk q => by obtain ⟨q0, q1, qP, qK, qD⟩ := q; exact ⟨q0, q1, qP, va_K.moved (u := U) (U := U.calling g mk a) (Vm.Alike.refl U.vm) qK, qD⟩, recv_30 hKc hPc hq_2.1 hq_2.2, fun U hU hW => ⟨rfl, by rw [hU], by rw [hU]; exact hPc, va_K.moved hW.alike hKc, hDc.weaken (fun _ _ _ _ => trivial)⟩⟩ rfl rfl hl.1 rfl (lv_room (Nat.le_of_ble_eq_true rfl)) dX19_drop_56 ⟨(Nat.le_of_ble_eq_true rfl), (Nat.le_of_ble_eq_true rfl)⟩) hS (fun q _ h => hFc q h) hFc (fun u q_330 t H1 locs ht hvm hw hB hz1 hk1 hS => ?_)
            obtain ⟨hxt_330, hP1, hK1, hD1⟩ := hB
            rw [ht] at hP1
            have hK1 := va_K.moved hvm.symm hK1
            obtain ⟨hP, hD⟩ := va_joinP (X := [(q_s, .inl (cS, n_s, .inl (fun j : Nat => zI (a_s (j : Int))))), (q_n, .inl (cN, n_n, .inl (fun j : Nat => zI (a_328 (j : Int))))), (hc, .inr (12, [v13_0, v13_1, v13_2, v13_3, v13_4, .ref la, v13_6]))]) (cx := []) (wr := [(q_s, .inl (cS, n_s, .inl (fun j : Nat => zI (a_s (j : Int))))), (q_n, .inl (cN, n_n, .inl (fun j : Nat => zI (a_328 (j : Int))))), (hc, .inr (12, [v13_0, v13_1, v13_2, v13_3, v13_4, .ref la, v13_6]))]) (rx := []) (pl := va_pl L (pE P11)) (pl1 := va_pl L (pE P11)) hP hD [] [0, 1, 2] rfl rfl (by decide) (by decide) hk1 hFc hP1 hD1
            have hK := (hK.sub (tys' := [(cS, .boolean), (cN, .int), (cI, .int), (cZ, .boolean)]) [0, 1, 2, 3] rfl).app hK1
            generalize H1 = H at hP hS ⊢
            have hP : va_P (dC, dI) vwQ ([(q_s, .inl (cS, n_s, .inl (fun j : Nat => zI (a_s (j : Int))))), (q_n, .inl (cN, n_n, .inl (fun j : Nat => zI (a_328 (j : Int))))), (hc, .inr (12, [v13_0, v13_1, v13_2, v13_3, v13_4, .ref la, v13_6]))] ++ va_pl L (pE P11)) H := hP
            have hD : va_D A ([(q_s, .inl (cS, n_s, .inl (fun j : Nat => zI (a_s (j : Int))))), (q_n, .inl (cN, n_n, .inl (fun j : Nat => zI (a_328 (j : Int))))), (hc, .inr (12, [v13_0, v13_1, v13_2, v13_3, v13_4, .ref la, v13_6]))] ++ va_pl L (pE P11)) := hD
            have hK : va_K (dC, dI) vwQ [(cS, .boolean), (cN, .int), (cI, .int), (cZ, .boolean), (cO, .object "java/lang/Object")] s := hK
            refine W.widen (k := 0) (n := 0) (Nat.le_of_ble_eq_true rfl) (Nat.le_of_ble_eq_true rfl) ?_
            rw [hxt_330]
            clear hX_e0
            obtain ⟨xb_331, h9⟩ : ∃ q9 : Nat, q9 = x := ⟨_, rfl⟩
            subst h9
            have hm_332 := hxm
            have hk_333 := hxk
            have hel9 := ex
            refine va_castY (C := "SsaForgeModel$Block") (nm := "SsaForgeModel$Block") hx hb hown (ow (k := 30) rfl) hp0 (recv_12 hK hP hm_332 hk_333) dX19_drop_59 ?_
            have hlk_335 := (show LOK L P11 cO 12 la from (by have q9 := (aP11.gla la hq_2.1 hq_2.2).1; rw [hek_4] at q9; exact q9))
            obtain ⟨x, ex⟩ : ∃ q9 : Nat, q9 = P11.el la (d11_4) := ⟨_, rfl⟩
            have hX_x := hlk_335.1
            have hX_k := hlk_335.2.1
            have hq9 := hlk_335.row (i := d11_4) (by omega) (by omega)
            have hX_q : P11.le la ∈ L ∧ P11.kd (P11.le la) = 31 ∧ P11.ac (P11.le la) = cO := ⟨hq9.1, hq9.2.1, hq9.2.2.1⟩
            have hq8 := hq9.2.2.2
            have hX_e0 : P11.oa (P11.le la) (d11_4).toNat = some x := (by rw [ex]; exact (hlk_335.2.2.2.2 (d11_4) (by omega) (by omega)).1)
            have hxm : x ∈ L := (by rw [ex]; exact (hlk_335.2.2.2.2 (d11_4) (by omega) (by omega)).2.1)
            have hxk := (hlk_335.2.2.2.2 (d11_4) (by omega) (by omega)).2.2
            rw [← ex] at hxk
            have hfl9 := aP11.owa.fl1 hq_2.1 hq_2.2 (by omega)
            have hX_s := ((aP11.owa la hq_2.1 hq_2.2).2 hfl9).2.2.2.1
            have hX_y : xb_331 ∈ L ∧ OBK (P11.kd xb_331) := ⟨hm_332, (by rw [hk_333]; unfold OBK; decide)⟩
            have hPc := hP.part (X := [(q_s, .inl (cS, n_s, .inl (fun j : Nat => zI (a_s (j : Int))))), (q_n, .inl (cN, n_n, .inl (fun j : Nat => zI (a_328 (j : Int))))), (hc, .inr (12, [v13_0, v13_1, v13_2, v13_3, v13_4, .ref la, v13_6]))]) (cx := []) (pl := va_pl L (pE P11)) [] rfl
            have hDc := hD.part (X := [(q_s, .inl (cS, n_s, .inl (fun j : Nat => zI (a_s (j : Int))))), (q_n, .inl (cN, n_n, .inl (fun j : Nat => zI (a_328 (j : Int))))), (hc, .inr (12, [v13_0, v13_1, v13_2, v13_3, v13_4, .ref la, v13_6]))]) (cx := []) (pl := va_pl L (pE P11)) [] (by decide) rfl
            have hKc := hK.sub (tys' := [(cO, .object "java/lang/Object")]) [4] rfl
            have hFc := va_freeP (X := [(q_s, .inl (cS, n_s, .inl (fun j : Nat => zI (a_s (j : Int))))), (q_n, .inl (cN, n_n, .inl (fun j : Nat => zI (a_328 (j : Int))))), (hc, .inr (12, [v13_0, v13_1, v13_2, v13_3, v13_4, .ref la, v13_6]))]) (cx := []) (pl := va_pl L (pE P11)) hD hS hA [] rfl
            refine va_callr (va_runV (As := [.int (zI (d11_4)), .ref xb_331]) (rest := []) ⟨hx, hb, hml, hown, hts⟩ (c_PL_set l dC dI cO L P11 la d11_4 x xb_331 hX_x hX_k hX_q hX_s (by omega) hX_e0 hX_y H.size) (cwV 2 hts g_P19_dropE_PL_set rfl rfl rfl (by decide +kernel) ⟨(Nat.le_of_ble_eq_true rfl), (Nat.le_of_ble_eq_true rfl)⟩) ⟨fun a U g mk q => by obtain ⟨q0, q1, qP, qK, qD, e0, e1, e2⟩ := q; exact ⟨q0, q1, qP, va_K.moved (u := U) (U := U.calling g mk a) (Vm.Alike.refl U.vm) qK, qD, va_Nw.same rfl (u := U) (U := U.calling g mk a) rfl e0, va_Nw.same rfl (u := U) (U := U.calling g mk a) rfl e1, va_Nw.same rfl (u := U) (U := U.calling g mk a) rfl e2⟩, recv_30 hKc hPc hq_2.1 hq_2.2, fun U hU hW => ⟨rfl, by rw [hU], by rw [hU]; exact hPc, va_K.moved hW.alike hKc, hDc.weaken (fun _ _ _ _ => trivial), va_Nw.warmC hW hp2, va_Nw.warmC hW hp3, va_Nw.warmC hW hp4⟩⟩ rfl rfl hl.1 rfl (lv_room (Nat.le_of_ble_eq_true rfl)) dX19_drop_62 ⟨(Nat.le_of_ble_eq_true rfl), (Nat.le_of_ble_eq_true rfl)⟩) hS (fun q _ h => hFc q h) hFc (fun u q_336 t H1 locs ht hvm hw hB hz1 hk1 hS => ?_)
            obtain ⟨Pn_337, hxt_337, hP1, hK1, hD1⟩ := hB
            rw [ht] at hP1
            have hK1 := va_K.moved hvm.symm hK1
            obtain ⟨hP, hD⟩ := va_joinP (X := [(q_s, .inl (cS, n_s, .inl (fun j : Nat => zI (a_s (j : Int))))), (q_n, .inl (cN, n_n, .inl (fun j : Nat => zI (a_328 (j : Int))))), (hc, .inr (12, [v13_0, v13_1, v13_2, v13_3, v13_4, .ref la, v13_6]))]) (cx := []) (wr := [(q_s, .inl (cS, n_s, .inl (fun j : Nat => zI (a_s (j : Int))))), (q_n, .inl (cN, n_n, .inl (fun j : Nat => zI (a_328 (j : Int))))), (hc, .inr (12, [v13_0, v13_1, v13_2, v13_3, v13_4, .ref la, v13_6]))]) (rx := []) (pl := va_pl L (pE P11)) (pl1 := va_pl L (pE Pn_337)) hP hD [] [0, 1, 2] rfl rfl (by decide) (by decide) hk1 hFc hP1 hD1
            have hK := (hK.sub (tys' := [(cS, .boolean), (cN, .int), (cI, .int), (cZ, .boolean)]) [0, 1, 2, 3] rfl).app hK1
            generalize H1 = H at hP hS ⊢
            have hP : va_P (dC, dI) vwQ ([(q_s, .inl (cS, n_s, .inl (fun j : Nat => zI (a_s (j : Int))))), (q_n, .inl (cN, n_n, .inl (fun j : Nat => zI (a_328 (j : Int))))), (hc, .inr (12, [v13_0, v13_1, v13_2, v13_3, v13_4, .ref la, v13_6]))] ++ va_pl L (pE Pn_337)) H := hP
            have hD : va_D A ([(q_s, .inl (cS, n_s, .inl (fun j : Nat => zI (a_s (j : Int))))), (q_n, .inl (cN, n_n, .inl (fun j : Nat => zI (a_328 (j : Int))))), (hc, .inr (12, [v13_0, v13_1, v13_2, v13_3, v13_4, .ref la, v13_6]))] ++ va_pl L (pE Pn_337)) := hD
            have hK : va_K (dC, dI) vwQ [(cS, .boolean), (cN, .int), (cI, .int), (cZ, .boolean), (cO, .object "java/lang/Object")] s := hK
            refine W.widen (k := 0) (n := 0) (Nat.le_of_ble_eq_true rfl) (Nat.le_of_ble_eq_true rfl) ?_
            rw [hxt_337.1]
            have hu_338 := hxt_337.2
            have hlc_339 : LCH la L P11 Pn_337 := LCH.set aP11 hu_338.1 hq_2.1 hq_2.2 hfl9 hu_338.2.1 hu_338.2.2.1 hu_338.2.2.2 (by omega) hm_332 (by rw [hk_333, hek_4]) (fun q9 => absurd q9 (by rw [hek_4]; decide))
            have hke_340 : KEG [la] L P11 L Pn_337 := hlc_339.keg aP11 hq_2.1 hq_2.2 (Or.inr (by simp))
            have hak_341 : GLF L Pn_337 cO cI cZ sx_ed := hlc_339.glf aP11 hq_2.1 hq_2.2
            have hdr_342 := jd11.put (by omega) (by omega) (by omega) hu_338.1 hu_338.2.2.2 hel9 hu_338.2.1
            clear hX_e0 hX_s hfl9
            have hq_343 : la ∈ L ∧ Pn_337.kd la = 30 := hke_340.mem hq_2.1 hq_2.2 (by decide)
            have hq_344 : xb_331 ∈ L ∧ Pn_337.kd xb_331 = 12 := hke_340.mem hm_332 hk_333 (by decide)
            have hA_345 : KEG [la] L P L Pn_337 := hA_3.trans hke_340
            have hA_346 : KEG [la] L P11 L Pn_337 := (KEG.refl [la] L P11).trans hke_340
            have hzl9 := hu_338.2.1
            have hek_347 : Pn_337.ek la = 12 := (by rw [hke_340.ek hq_2.1 hq_2.2 (by decide)]; exact hek_4)
            have how_348 : Pn_337.ow la = la := ((hke_340.1 la hq_2.1 (by rw [hq_2.2]; decide)).2.2.2.1 hq_2.2 how_5).1
            refine lv_pop hx hb dX19_drop_65 rfl ?_
            refine lv_iinc (v := zI (d11_4 + 1)) (lv' := [(4, .int (zI (d11_4 + 1))), (0, .ref hc), (1, .ref q_s), (2, .ref q_n), (3, .int (zI (P.lz la))), (5, .int (zI (d11_5)))]) hx hb dX19_drop_66 hl (k := 4) rfl (zI_add (d11_4) (1)) (by decide) rfl (fun ls hl => ?_)
            refine lv_iinc (v := zI (d11_5 + 1)) (lv' := [(5, .int (zI (d11_5 + 1))), (4, .int (zI (d11_4 + 1))), (0, .ref hc), (1, .ref q_s), (2, .ref q_n), (3, .int (zI (P.lz la)))]) hx hb dX19_drop_69 hl (k := 5) rfl (zI_add (d11_5) (1)) (by decide) rfl (fun ls hl => ?_)
            refine lv_goto (tgt := 11) hx hb dX19_drop_72 (by decide) ?_
            exact ih11 (d11_5 + 1) (d11_4 + 1) a_328 Pn_337 ls H _ (kP11.trans hA_346) hak_341 (by omega) (by omega) ra_328 (by first | (rw [ea_328]; exact hdr_342) | (exfalso; omega)) (by omega) (lv_sub hl [2, 3, 4, 5, 1, 0] rfl) hP hD hS
          · have yb38 : (a_s (d11_5) : Int) = (0 : Int) := (zI_eq (a := a_s (d11_5)) (b := 0) (by omega) (by omega) (by omega) (by omega)).mp b38
            refine lv_goto (tgt := 69) hx hb dX19_drop_41 (by decide) ?_
            refine lv_iinc (v := zI (d11_5 + 1)) (lv' := [(5, .int (zI (d11_5 + 1))), (0, .ref hc), (1, .ref q_s), (2, .ref q_n), (3, .int (zI (P.lz la))), (4, .int (zI (d11_4)))]) hx hb dX19_drop_69 hl (k := 5) rfl (zI_add (d11_5) (1)) (by decide) rfl (fun ls hl => ?_)
            refine lv_goto (tgt := 11) hx hb dX19_drop_72 (by decide) ?_
            exact ih11 (d11_5 + 1) d11_4 a_328 P11 ls H _ (kP11.trans (KEG.refl [la] L P11)) aP11 (by omega) (by omega) ra_328 (by first | (rw [ea_328]; exact jd11.skip (by omega)) | (exfalso; omega)) (by omega) (lv_sub hl [1, 2, 3, 4, 5, 0] rfl) hP hD hS
        · have yb24 : ¬ (a_s (d11_5) : Int) = (0 : Int) := fun q => b24 ((zI_eq (a := a_s (d11_5)) (b := 0) (by omega) (by omega) (by omega) (by omega)).mpr q)
          refine lv_iload hx hb dX19_drop_27 (lv_at hl 4 rfl) ?_
          refine lv_goto (tgt := 33) hx hb dX19_drop_29 (by decide) ?_
          refine va_iast (i := zI (d11_5)) hx hb hK hP hD hS 1 1 rfl rfl (zI_in (a := d11_5) (n := n_n) (by omega) (by omega) (by omega)) dX19_drop_33 (fun H locs hP hD hS => ?_)
          have eQ : upd (fun j : Nat => zI (w11_n (j : Int))) (zI (d11_5)).toNatClampNeg (zI (d11_4)) = (fun j : Nat => zI (zup w11_n (d11_5) (d11_4) (j : Int))) := zI_st w11_n (e := d11_5) (v := d11_4) (by omega) (by omega)
          rw [eQ] at hP hD
          clear eQ
          have ra_349 : ∀ j : Int, -1 ≤ zup w11_n (d11_5) (d11_4) j ∧ zup w11_n (d11_5) (d11_4) j ≤ 299 := zup_P (P := fun x9 => -1 ≤ x9 ∧ x9 ≤ 299) jw11_n (show -1 ≤ (d11_4) ∧ (d11_4) ≤ 299 by omega)
          obtain ⟨a_349, ea_349⟩ : ∃ a9 : Int → Int, a9 = zup w11_n (d11_5) (d11_4) := ⟨_, rfl⟩
          rw [← ea_349] at hP hD ra_349
          have hP : va_P (dC, dI) vwQ ([(q_s, .inl (cS, n_s, .inl (fun j : Nat => zI (a_s (j : Int))))), (q_n, .inl (cN, n_n, .inl (fun j : Nat => zI (a_349 (j : Int))))), (hc, .inr (12, [v13_0, v13_1, v13_2, v13_3, v13_4, .ref la, v13_6]))] ++ va_pl L (pE P11)) H := hP
          have hD : va_D A ([(q_s, .inl (cS, n_s, .inl (fun j : Nat => zI (a_s (j : Int))))), (q_n, .inl (cN, n_n, .inl (fun j : Nat => zI (a_349 (j : Int))))), (hc, .inr (12, [v13_0, v13_1, v13_2, v13_3, v13_4, .ref la, v13_6]))] ++ va_pl L (pE P11)) := hD
          refine lv_aload_n hx hb dX19_drop_34 rfl (lv_at hl 1 rfl) ?_
          refine lv_iload hx hb dX19_drop_35 (lv_at hl 5 rfl) ?_
          refine va_zald hx hb hK hP 0 0 rfl rfl (zI_in (a := d11_5) (n := n_s) (by omega) (by omega) (by omega)) dX19_drop_37 ?_
          refine lv_topi (fun z ez => ?_)
          obtain rfl : z = zI (a_s (d11_5)) := ez.trans (zI_ld (a_s) (by omega) (by omega))
          have k9 := hR_a_s (d11_5)
          refine lv_if_ne (tgt := 44) hx hb dX19_drop_38 (by decide) (fun b38 => ?_) (fun b38 => ?_)
          · have yb38 : ¬ (a_s (d11_5) : Int) = (0 : Int) := fun q => b38 ((zI_eq (a := a_s (d11_5)) (b := 0) (by omega) (by omega) (by omega) (by omega)).mpr q)
            refine lv_aload_n hx hb dX19_drop_44 rfl (lv_at hl 0 rfl) ?_
            refine va_get (D := (dC, dI)) (ci := 12) (v := .ref la) (C := RX13) (T := TX13) (N := 7) hx hb hts mem_P19_dropE_1 hown hK hP 2 rfl rfl 5 (by decide) (ow (k := 4) rfl) (fun _ h9 => h9) rfl dX19_drop_45 ?_
            refine lv_iload hx hb dX19_drop_48 (lv_at hl 4 rfl) ?_
            refine lv_aload_n hx hb dX19_drop_50 rfl (lv_at hl 0 rfl) ?_
            refine va_get (D := (dC, dI)) (ci := 12) (v := .ref la) (C := RX13) (T := TX13) (N := 7) hx hb hts mem_P19_dropE_1 hown hK hP 2 rfl rfl 5 (by decide) (ow (k := 4) rfl) (fun _ h9 => h9) rfl dX19_drop_51 ?_
            refine lv_iload hx hb dX19_drop_54 (lv_at hl 5 rfl) ?_
            have hlk_350 := (show LOK L P11 cO 12 la from (by have q9 := (aP11.gla la hq_2.1 hq_2.2).1; rw [hek_4] at q9; exact q9))
            obtain ⟨x, ex⟩ : ∃ q9 : Nat, q9 = P11.el la (d11_5) := ⟨_, rfl⟩
            have hX_x := hlk_350.1
            have hX_k := hlk_350.2.1
            have hq9 := hlk_350.row (i := d11_5) (by omega) (by omega)
            have hX_q : P11.le la ∈ L ∧ P11.kd (P11.le la) = 31 ∧ P11.ac (P11.le la) = cO := ⟨hq9.1, hq9.2.1, hq9.2.2.1⟩
            have hq8 := hq9.2.2.2
            have hX_e0 : P11.oa (P11.le la) (d11_5).toNat = some x := (by rw [ex]; exact (hlk_350.2.2.2.2 (d11_5) (by omega) (by omega)).1)
            have hxm : x ∈ L := (by rw [ex]; exact (hlk_350.2.2.2.2 (d11_5) (by omega) (by omega)).2.1)
            have hxk := (hlk_350.2.2.2.2 (d11_5) (by omega) (by omega)).2.2
            rw [← ex] at hxk
            have hPc := hP.part (X := [(q_s, .inl (cS, n_s, .inl (fun j : Nat => zI (a_s (j : Int))))), (q_n, .inl (cN, n_n, .inl (fun j : Nat => zI (a_349 (j : Int))))), (hc, .inr (12, [v13_0, v13_1, v13_2, v13_3, v13_4, .ref la, v13_6]))]) (cx := []) (pl := va_pl L (pE P11)) [] rfl
            have hDc := hD.part (X := [(q_s, .inl (cS, n_s, .inl (fun j : Nat => zI (a_s (j : Int))))), (q_n, .inl (cN, n_n, .inl (fun j : Nat => zI (a_349 (j : Int))))), (hc, .inr (12, [v13_0, v13_1, v13_2, v13_3, v13_4, .ref la, v13_6]))]) (cx := []) (pl := va_pl L (pE P11)) [] (by decide) rfl
            have hKc := hK.sub (tys' := [(cO, .object "java/lang/Object")]) [4] rfl
            have hFc := va_freeP (X := [(q_s, .inl (cS, n_s, .inl (fun j : Nat => zI (a_s (j : Int))))), (q_n, .inl (cN, n_n, .inl (fun j : Nat => zI (a_349 (j : Int))))), (hc, .inr (12, [v13_0, v13_1, v13_2, v13_3, v13_4, .ref la, v13_6]))]) (cx := []) (pl := va_pl L (pE P11)) hD hS hA [] rfl
            refine va_callr (va_runV (As := [.int (zI (d11_5))]) (rest := [.int (zI (d11_4)), .ref la]) ⟨hx, hb, hml, hown, hts⟩ (c_PL_get l dC dI cO L P11 la d11_5 x hX_x hX_k hX_q (by omega) hX_e0 H.size) (cwV 1 hts g_P19_dropE_PL_get rfl rfl rfl (by decide +kernel) ⟨(Nat.le_of_ble_eq_true rfl), (Nat.le_of_ble_eq_true rfl)⟩) ⟨fun a U g mk q => by obtain ⟨q0, q1, qP, qK, qD⟩ := q; exact ⟨q0, q1, qP, va_K.moved (u := U) (U := U.calling g mk a) (Vm.Alike.refl U.vm) qK, qD⟩, recv_30 hKc hPc hq_2.1 hq_2.2, fun U hU hW => ⟨rfl, by rw [hU], by rw [hU]; exact hPc, va_K.moved hW.alike hKc, hDc.weaken (fun _ _ _ _ => trivial)⟩⟩ rfl rfl hl.1 rfl (lv_room (Nat.le_of_ble_eq_true rfl)) dX19_drop_56 ⟨(Nat.le_of_ble_eq_true rfl), (Nat.le_of_ble_eq_true rfl)⟩) hS (fun q _ h => hFc q h) hFc (fun u q_351 t H1 locs ht hvm hw hB hz1 hk1 hS => ?_)
            obtain ⟨hxt_351, hP1, hK1, hD1⟩ := hB
            rw [ht] at hP1
            have hK1 := va_K.moved hvm.symm hK1
            obtain ⟨hP, hD⟩ := va_joinP (X := [(q_s, .inl (cS, n_s, .inl (fun j : Nat => zI (a_s (j : Int))))), (q_n, .inl (cN, n_n, .inl (fun j : Nat => zI (a_349 (j : Int))))), (hc, .inr (12, [v13_0, v13_1, v13_2, v13_3, v13_4, .ref la, v13_6]))]) (cx := []) (wr := [(q_s, .inl (cS, n_s, .inl (fun j : Nat => zI (a_s (j : Int))))), (q_n, .inl (cN, n_n, .inl (fun j : Nat => zI (a_349 (j : Int))))), (hc, .inr (12, [v13_0, v13_1, v13_2, v13_3, v13_4, .ref la, v13_6]))]) (rx := []) (pl := va_pl L (pE P11)) (pl1 := va_pl L (pE P11)) hP hD [] [0, 1, 2] rfl rfl (by decide) (by decide) hk1 hFc hP1 hD1
            have hK := (hK.sub (tys' := [(cS, .boolean), (cN, .int), (cI, .int), (cZ, .boolean)]) [0, 1, 2, 3] rfl).app hK1
            generalize H1 = H at hP hS ⊢
            have hP : va_P (dC, dI) vwQ ([(q_s, .inl (cS, n_s, .inl (fun j : Nat => zI (a_s (j : Int))))), (q_n, .inl (cN, n_n, .inl (fun j : Nat => zI (a_349 (j : Int))))), (hc, .inr (12, [v13_0, v13_1, v13_2, v13_3, v13_4, .ref la, v13_6]))] ++ va_pl L (pE P11)) H := hP
            have hD : va_D A ([(q_s, .inl (cS, n_s, .inl (fun j : Nat => zI (a_s (j : Int))))), (q_n, .inl (cN, n_n, .inl (fun j : Nat => zI (a_349 (j : Int))))), (hc, .inr (12, [v13_0, v13_1, v13_2, v13_3, v13_4, .ref la, v13_6]))] ++ va_pl L (pE P11)) := hD
            have hK : va_K (dC, dI) vwQ [(cS, .boolean), (cN, .int), (cI, .int), (cZ, .boolean), (cO, .object "java/lang/Object")] s := hK
            refine W.widen (k := 0) (n := 0) (Nat.le_of_ble_eq_true rfl) (Nat.le_of_ble_eq_true rfl) ?_
            rw [hxt_351]
            clear hX_e0
            obtain ⟨xb_352, h9⟩ : ∃ q9 : Nat, q9 = x := ⟨_, rfl⟩
            subst h9
            have hm_353 := hxm
            have hk_354 := hxk
            have hel9 := ex
            refine va_castY (C := "SsaForgeModel$Block") (nm := "SsaForgeModel$Block") hx hb hown (ow (k := 30) rfl) hp0 (recv_12 hK hP hm_353 hk_354) dX19_drop_59 ?_
            have hlk_356 := (show LOK L P11 cO 12 la from (by have q9 := (aP11.gla la hq_2.1 hq_2.2).1; rw [hek_4] at q9; exact q9))
            obtain ⟨x, ex⟩ : ∃ q9 : Nat, q9 = P11.el la (d11_4) := ⟨_, rfl⟩
            have hX_x := hlk_356.1
            have hX_k := hlk_356.2.1
            have hq9 := hlk_356.row (i := d11_4) (by omega) (by omega)
            have hX_q : P11.le la ∈ L ∧ P11.kd (P11.le la) = 31 ∧ P11.ac (P11.le la) = cO := ⟨hq9.1, hq9.2.1, hq9.2.2.1⟩
            have hq8 := hq9.2.2.2
            have hX_e0 : P11.oa (P11.le la) (d11_4).toNat = some x := (by rw [ex]; exact (hlk_356.2.2.2.2 (d11_4) (by omega) (by omega)).1)
            have hxm : x ∈ L := (by rw [ex]; exact (hlk_356.2.2.2.2 (d11_4) (by omega) (by omega)).2.1)
            have hxk := (hlk_356.2.2.2.2 (d11_4) (by omega) (by omega)).2.2
            rw [← ex] at hxk
            have hfl9 := aP11.owa.fl1 hq_2.1 hq_2.2 (by omega)
            have hX_s := ((aP11.owa la hq_2.1 hq_2.2).2 hfl9).2.2.2.1
            have hX_y : xb_352 ∈ L ∧ OBK (P11.kd xb_352) := ⟨hm_353, (by rw [hk_354]; unfold OBK; decide)⟩
            have hPc := hP.part (X := [(q_s, .inl (cS, n_s, .inl (fun j : Nat => zI (a_s (j : Int))))), (q_n, .inl (cN, n_n, .inl (fun j : Nat => zI (a_349 (j : Int))))), (hc, .inr (12, [v13_0, v13_1, v13_2, v13_3, v13_4, .ref la, v13_6]))]) (cx := []) (pl := va_pl L (pE P11)) [] rfl
            have hDc := hD.part (X := [(q_s, .inl (cS, n_s, .inl (fun j : Nat => zI (a_s (j : Int))))), (q_n, .inl (cN, n_n, .inl (fun j : Nat => zI (a_349 (j : Int))))), (hc, .inr (12, [v13_0, v13_1, v13_2, v13_3, v13_4, .ref la, v13_6]))]) (cx := []) (pl := va_pl L (pE P11)) [] (by decide) rfl
            have hKc := hK.sub (tys' := [(cO, .object "java/lang/Object")]) [4] rfl
            have hFc := va_freeP (X := [(q_s, .inl (cS, n_s, .inl (fun j : Nat => zI (a_s (j : Int))))), (q_n, .inl (cN, n_n, .inl (fun j : Nat => zI (a_349 (j : Int))))), (hc, .inr (12, [v13_0, v13_1, v13_2, v13_3, v13_4, .ref la, v13_6]))]) (cx := []) (pl := va_pl L (pE P11)) hD hS hA [] rfl
            refine va_callr (va_runV (As := [.int (zI (d11_4)), .ref xb_352]) (rest := []) ⟨hx, hb, hml, hown, hts⟩ (c_PL_set l dC dI cO L P11 la d11_4 x xb_352 hX_x hX_k hX_q hX_s (by omega) hX_e0 hX_y H.size) (cwV 2 hts g_P19_dropE_PL_set rfl rfl rfl (by decide +kernel) ⟨(Nat.le_of_ble_eq_true rfl), (Nat.le_of_ble_eq_true rfl)⟩) ⟨fun a U g mk q => by obtain ⟨q0, q1, qP, qK, qD, e0, e1, e2⟩ := q; exact ⟨q0, q1, qP, va_K.moved (u := U) (U := U.calling g mk a) (Vm.Alike.refl U.vm) qK, qD, va_Nw.same rfl (u := U) (U := U.calling g mk a) rfl e0, va_Nw.same rfl (u := U) (U := U.calling g mk a) rfl e1, va_Nw.same rfl (u := U) (U := U.calling g mk a) rfl e2⟩, recv_30 hKc hPc hq_2.1 hq_2.2, fun U hU hW => ⟨rfl, by rw [hU], by rw [hU]; exact hPc, va_K.moved hW.alike hKc, hDc.weaken (fun _ _ _ _ => trivial), va_Nw.warmC hW hp2, va_Nw.warmC hW hp3, va_Nw.warmC hW hp4⟩⟩ rfl rfl hl.1 rfl (lv_room (Nat.le_of_ble_eq_true rfl)) dX19_drop_62 ⟨(Nat.le_of_ble_eq_true rfl), (Nat.le_of_ble_eq_true rfl)⟩) hS (fun q _ h => hFc q h) hFc (fun u q_357 t H1 locs ht hvm hw hB hz1 hk1 hS => ?_)
            obtain ⟨Pn_358, hxt_358, hP1, hK1, hD1⟩ := hB
            rw [ht] at hP1
            have hK1 := va_K.moved hvm.symm hK1
            obtain ⟨hP, hD⟩ := va_joinP (X := [(q_s, .inl (cS, n_s, .inl (fun j : Nat => zI (a_s (j : Int))))), (q_n, .inl (cN, n_n, .inl (fun j : Nat => zI (a_349 (j : Int))))), (hc, .inr (12, [v13_0, v13_1, v13_2, v13_3, v13_4, .ref la, v13_6]))]) (cx := []) (wr := [(q_s, .inl (cS, n_s, .inl (fun j : Nat => zI (a_s (j : Int))))), (q_n, .inl (cN, n_n, .inl (fun j : Nat => zI (a_349 (j : Int))))), (hc, .inr (12, [v13_0, v13_1, v13_2, v13_3, v13_4, .ref la, v13_6]))]) (rx := []) (pl := va_pl L (pE P11)) (pl1 := va_pl L (pE Pn_358)) hP hD [] [0, 1, 2] rfl rfl (by decide) (by decide) hk1 hFc hP1 hD1
            have hK := (hK.sub (tys' := [(cS, .boolean), (cN, .int), (cI, .int), (cZ, .boolean)]) [0, 1, 2, 3] rfl).app hK1
            generalize H1 = H at hP hS ⊢
            have hP : va_P (dC, dI) vwQ ([(q_s, .inl (cS, n_s, .inl (fun j : Nat => zI (a_s (j : Int))))), (q_n, .inl (cN, n_n, .inl (fun j : Nat => zI (a_349 (j : Int))))), (hc, .inr (12, [v13_0, v13_1, v13_2, v13_3, v13_4, .ref la, v13_6]))] ++ va_pl L (pE Pn_358)) H := hP
            have hD : va_D A ([(q_s, .inl (cS, n_s, .inl (fun j : Nat => zI (a_s (j : Int))))), (q_n, .inl (cN, n_n, .inl (fun j : Nat => zI (a_349 (j : Int))))), (hc, .inr (12, [v13_0, v13_1, v13_2, v13_3, v13_4, .ref la, v13_6]))] ++ va_pl L (pE Pn_358)) := hD
            have hK : va_K (dC, dI) vwQ [(cS, .boolean), (cN, .int), (cI, .int), (cZ, .boolean), (cO, .object "java/lang/Object")] s := hK
            refine W.widen (k := 0) (n := 0) (Nat.le_of_ble_eq_true rfl) (Nat.le_of_ble_eq_true rfl) ?_
            rw [hxt_358.1]
            have hu_359 := hxt_358.2
            have hlc_360 : LCH la L P11 Pn_358 := LCH.set aP11 hu_359.1 hq_2.1 hq_2.2 hfl9 hu_359.2.1 hu_359.2.2.1 hu_359.2.2.2 (by omega) hm_353 (by rw [hk_354, hek_4]) (fun q9 => absurd q9 (by rw [hek_4]; decide))
            have hke_361 : KEG [la] L P11 L Pn_358 := hlc_360.keg aP11 hq_2.1 hq_2.2 (Or.inr (by simp))
            have hak_362 : GLF L Pn_358 cO cI cZ sx_ed := hlc_360.glf aP11 hq_2.1 hq_2.2
            have hdr_363 := jd11.put (by omega) (by omega) (by omega) hu_359.1 hu_359.2.2.2 hel9 hu_359.2.1
            clear hX_e0 hX_s hfl9
            have hq_364 : la ∈ L ∧ Pn_358.kd la = 30 := hke_361.mem hq_2.1 hq_2.2 (by decide)
            have hq_365 : xb_352 ∈ L ∧ Pn_358.kd xb_352 = 12 := hke_361.mem hm_353 hk_354 (by decide)
            have hA_366 : KEG [la] L P L Pn_358 := hA_3.trans hke_361
            have hA_367 : KEG [la] L P11 L Pn_358 := (KEG.refl [la] L P11).trans hke_361
            have hzl9 := hu_359.2.1
            have hek_368 : Pn_358.ek la = 12 := (by rw [hke_361.ek hq_2.1 hq_2.2 (by decide)]; exact hek_4)
            have how_369 : Pn_358.ow la = la := ((hke_361.1 la hq_2.1 (by rw [hq_2.2]; decide)).2.2.2.1 hq_2.2 how_5).1
            refine lv_pop hx hb dX19_drop_65 rfl ?_
            refine lv_iinc (v := zI (d11_4 + 1)) (lv' := [(4, .int (zI (d11_4 + 1))), (0, .ref hc), (1, .ref q_s), (2, .ref q_n), (3, .int (zI (P.lz la))), (5, .int (zI (d11_5)))]) hx hb dX19_drop_66 hl (k := 4) rfl (zI_add (d11_4) (1)) (by decide) rfl (fun ls hl => ?_)
            refine lv_iinc (v := zI (d11_5 + 1)) (lv' := [(5, .int (zI (d11_5 + 1))), (4, .int (zI (d11_4 + 1))), (0, .ref hc), (1, .ref q_s), (2, .ref q_n), (3, .int (zI (P.lz la)))]) hx hb dX19_drop_69 hl (k := 5) rfl (zI_add (d11_5) (1)) (by decide) rfl (fun ls hl => ?_)
            refine lv_goto (tgt := 11) hx hb dX19_drop_72 (by decide) ?_
            exact ih11 (d11_5 + 1) (d11_4 + 1) a_349 Pn_358 ls H _ (kP11.trans hA_367) hak_362 (by omega) (by omega) ra_349 (by first | (rw [ea_349]; exact hdr_363) | (exfalso; omega)) (by omega) (lv_sub hl [2, 3, 4, 5, 1, 0] rfl) hP hD hS
          · have yb38 : (a_s (d11_5) : Int) = (0 : Int) := (zI_eq (a := a_s (d11_5)) (b := 0) (by omega) (by omega) (by omega) (by omega)).mp b38
            refine lv_goto (tgt := 69) hx hb dX19_drop_41 (by decide) ?_
            refine lv_iinc (v := zI (d11_5 + 1)) (lv' := [(5, .int (zI (d11_5 + 1))), (0, .ref hc), (1, .ref q_s), (2, .ref q_n), (3, .int (zI (P.lz la))), (4, .int (zI (d11_4)))]) hx hb dX19_drop_69 hl (k := 5) rfl (zI_add (d11_5) (1)) (by decide) rfl (fun ls hl => ?_)
            refine lv_goto (tgt := 11) hx hb dX19_drop_72 (by decide) ?_
            exact ih11 (d11_5 + 1) d11_4 a_349 P11 ls H _ (kP11.trans (KEG.refl [la] L P11)) aP11 (by omega) (by omega) ra_349 (by first | (rw [ea_349]; exact jd11.skip (by omega)) | (exfalso; omega)) (by omega) (lv_sub hl [1, 2, 3, 4, 5, 0] rfl) hP hD hS
  exact key11 ((400 - 0 : Int).toNat + 1) 0 0 a_n P ls H _ (KEG.refl _ _ _) hX_g9 (by omega) (by omega) hR_a_n hdr0 (by omega) (lv_sub hl [3, 4, 5, 2, 1, 0] rfl) hP hD hS
