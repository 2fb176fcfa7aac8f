theorem dX14_behind_0 : decode cX14_behind 0 = .ok (.iconst 0, 1) := by decide +kernel
theorem dX14_behind_1 : decode cX14_behind 1 = .ok (.istore_n 2, 1) := by decide +kernel
theorem dX14_behind_2 : decode cX14_behind 2 = .ok (.iload_n 2, 1) := by decide +kernel
theorem dX14_behind_3 : decode cX14_behind 3 = .ok (.sipush 1001, 3) := by decide +kernel
theorem dX14_behind_6 : decode cX14_behind 6 = .ok (.if_icmp .gt 16, 3) := by decide +kernel
theorem dX14_behind_22 : decode cX14_behind 22 = .ok (.aload_n 0, 1) := by decide +kernel
theorem dX14_behind_23 : decode cX14_behind 23 = .ok (.getfield 45, 3) := by decide +kernel
theorem dX14_behind_26 : decode cX14_behind 26 = .ok (.iload_n 1, 1) := by decide +kernel
theorem dX14_behind_27 : decode cX14_behind 27 = .ok (.invokevirtual 75, 3) := by decide +kernel
theorem dX14_behind_30 : decode cX14_behind 30 = .ok (.astore_n 2, 1) := by decide +kernel
theorem dX14_behind_31 : decode cX14_behind 31 = .ok (.iconst 0, 1) := by decide +kernel
theorem dX14_behind_32 : decode cX14_behind 32 = .ok (.istore_n 3, 1) := by decide +kernel
theorem dX14_behind_33 : decode cX14_behind 33 = .ok (.iload_n 3, 1) := by decide +kernel
theorem dX14_behind_34 : decode cX14_behind 34 = .ok (.aload_n 2, 1) := by decide +kernel
theorem dX14_behind_35 : decode cX14_behind 35 = .ok (.invokevirtual 79, 3) := by decide +kernel
theorem dX14_behind_38 : decode cX14_behind 38 = .ok (.if_icmp .ge 177, 3) := by decide +kernel
theorem dX14_behind_215 : decode cX14_behind 215 = .ok (.iconst 0, 1) := by decide +kernel
theorem dX14_behind_216 : decode cX14_behind 216 = .ok (.istore_n 3, 1) := by decide +kernel
theorem dX14_behind_217 : decode cX14_behind 217 = .ok (.iload_n 3, 1) := by decide +kernel
theorem dX14_behind_218 : decode cX14_behind 218 = .ok (.aload_n 2, 1) := by decide +kernel
theorem dX14_behind_219 : decode cX14_behind 219 = .ok (.invokevirtual 79, 3) := by decide +kernel
theorem dX14_behind_222 : decode cX14_behind 222 = .ok (.if_icmp .ge 98, 3) := by decide +kernel
theorem dX14_behind_320 : decode cX14_behind 320 = .ok (.return_, 1) := by decide +kernel
theorem dX14_behind_225 : decode cX14_behind 225 = .ok (.aload_n 0, 1) := by decide +kernel
theorem dX14_behind_226 : decode cX14_behind 226 = .ok (.getfield 45, 3) := by decide +kernel
theorem dX14_behind_229 : decode cX14_behind 229 = .ok (.aload_n 2, 1) := by decide +kernel
theorem dX14_behind_230 : decode cX14_behind 230 = .ok (.iload_n 3, 1) := by decide +kernel
theorem dX14_behind_231 : decode cX14_behind 231 = .ok (.invokevirtual 84, 3) := by decide +kernel
theorem dX14_behind_234 : decode cX14_behind 234 = .ok (.invokevirtual 75, 3) := by decide +kernel
theorem dX14_behind_237 : decode cX14_behind 237 = .ok (.astore 4, 2) := by decide +kernel
theorem dX14_behind_239 : decode cX14_behind 239 = .ok (.iconst 0, 1) := by decide +kernel
theorem dX14_behind_240 : decode cX14_behind 240 = .ok (.istore 5, 2) := by decide +kernel
theorem dX14_behind_242 : decode cX14_behind 242 = .ok (.iload 5, 2) := by decide +kernel
theorem dX14_behind_244 : decode cX14_behind 244 = .ok (.aload 4, 2) := by decide +kernel
theorem dX14_behind_246 : decode cX14_behind 246 = .ok (.getfield 123, 3) := by decide +kernel
theorem dX14_behind_249 : decode cX14_behind 249 = .ok (.invokevirtual 115, 3) := by decide +kernel
theorem dX14_behind_252 : decode cX14_behind 252 = .ok (.if_icmp .ge 62, 3) := by decide +kernel
theorem dX14_behind_314 : decode cX14_behind 314 = .ok (.iinc 3 1, 3) := by decide +kernel
theorem dX14_behind_317 : decode cX14_behind 317 = .ok (.goto (-100), 3) := by decide +kernel
theorem dX14_behind_255 : decode cX14_behind 255 = .ok (.aload 4, 2) := by decide +kernel
theorem dX14_behind_257 : decode cX14_behind 257 = .ok (.getfield 123, 3) := by decide +kernel
theorem dX14_behind_260 : decode cX14_behind 260 = .ok (.iload 5, 2) := by decide +kernel
theorem dX14_behind_262 : decode cX14_behind 262 = .ok (.invokevirtual 118, 3) := by decide +kernel
theorem dX14_behind_265 : decode cX14_behind 265 = .ok (.checkcast 126, 3) := by decide +kernel
theorem dX14_behind_268 : decode cX14_behind 268 = .ok (.astore 6, 2) := by decide +kernel
theorem dX14_behind_270 : decode cX14_behind 270 = .ok (.aload 6, 2) := by decide +kernel
theorem dX14_behind_272 : decode cX14_behind 272 = .ok (.iload_n 1, 1) := by decide +kernel
theorem dX14_behind_273 : decode cX14_behind 273 = .ok (.invokevirtual 131, 3) := by decide +kernel
theorem dX14_behind_276 : decode cX14_behind 276 = .ok (.istore 7, 2) := by decide +kernel
theorem dX14_behind_278 : decode cX14_behind 278 = .ok (.iload 7, 2) := by decide +kernel
theorem dX14_behind_280 : decode cX14_behind 280 = .ok (.ifCond .lt 28, 3) := by decide +kernel
theorem dX14_behind_308 : decode cX14_behind 308 = .ok (.iinc 5 1, 3) := by decide +kernel
theorem dX14_behind_311 : decode cX14_behind 311 = .ok (.goto (-69), 3) := by decide +kernel
theorem dX14_behind_283 : decode cX14_behind 283 = .ok (.aload 6, 2) := by decide +kernel
theorem dX14_behind_285 : decode cX14_behind 285 = .ok (.getfield 134, 3) := by decide +kernel
theorem dX14_behind_288 : decode cX14_behind 288 = .ok (.iload 7, 2) := by decide +kernel
theorem dX14_behind_290 : decode cX14_behind 290 = .ok (.baload, 1) := by decide +kernel
theorem dX14_behind_291 : decode cX14_behind 291 = .ok (.ifCond .eq 17, 3) := by decide +kernel
theorem dX14_behind_294 : decode cX14_behind 294 = .ok (.aload_n 0, 1) := by decide +kernel
theorem dX14_behind_295 : decode cX14_behind 295 = .ok (.getfield 39, 3) := by decide +kernel
theorem dX14_behind_298 : decode cX14_behind 298 = .ok (.aload 6, 2) := by decide +kernel
theorem dX14_behind_300 : decode cX14_behind 300 = .ok (.getfield 137, 3) := by decide +kernel
theorem dX14_behind_303 : decode cX14_behind 303 = .ok (.iload 7, 2) := by decide +kernel
theorem dX14_behind_305 : decode cX14_behind 305 = .ok (.iaload, 1) := by decide +kernel
theorem dX14_behind_306 : decode cX14_behind 306 = .ok (.iconst 1, 1) := by decide +kernel
theorem dX14_behind_307 : decode cX14_behind 307 = .ok (.bastore, 1) := by decide +kernel
theorem dX14_behind_41 : decode cX14_behind 41 = .ok (.aload_n 2, 1) := by decide +kernel
theorem dX14_behind_42 : decode cX14_behind 42 = .ok (.iload_n 3, 1) := by decide +kernel
theorem dX14_behind_43 : decode cX14_behind 43 = .ok (.invokevirtual 84, 3) := by decide +kernel
theorem dX14_behind_46 : decode cX14_behind 46 = .ok (.istore 4, 2) := by decide +kernel
theorem dX14_behind_48 : decode cX14_behind 48 = .ok (.aload_n 0, 1) := by decide +kernel
theorem dX14_behind_49 : decode cX14_behind 49 = .ok (.getfield 45, 3) := by decide +kernel
theorem dX14_behind_52 : decode cX14_behind 52 = .ok (.iload 4, 2) := by decide +kernel
theorem dX14_behind_54 : decode cX14_behind 54 = .ok (.invokevirtual 75, 3) := by decide +kernel
theorem dX14_behind_57 : decode cX14_behind 57 = .ok (.astore 5, 2) := by decide +kernel
theorem dX14_behind_59 : decode cX14_behind 59 = .ok (.iconst 0, 1) := by decide +kernel
theorem dX14_behind_60 : decode cX14_behind 60 = .ok (.istore 6, 2) := by decide +kernel
theorem dX14_behind_62 : decode cX14_behind 62 = .ok (.iload 6, 2) := by decide +kernel
theorem dX14_behind_64 : decode cX14_behind 64 = .ok (.aload 5, 2) := by decide +kernel
theorem dX14_behind_66 : decode cX14_behind 66 = .ok (.getfield 123, 3) := by decide +kernel
theorem dX14_behind_69 : decode cX14_behind 69 = .ok (.invokevirtual 115, 3) := by decide +kernel
theorem dX14_behind_72 : decode cX14_behind 72 = .ok (.if_icmp .ge 31, 3) := by decide +kernel
theorem dX14_behind_103 : decode cX14_behind 103 = .ok (.iconst 0, 1) := by decide +kernel
theorem dX14_behind_104 : decode cX14_behind 104 = .ok (.istore 6, 2) := by decide +kernel
theorem dX14_behind_106 : decode cX14_behind 106 = .ok (.iload 6, 2) := by decide +kernel
theorem dX14_behind_108 : decode cX14_behind 108 = .ok (.sipush 1001, 3) := by decide +kernel
theorem dX14_behind_111 : decode cX14_behind 111 = .ok (.if_icmp .gt 54, 3) := by decide +kernel
theorem dX14_behind_165 : decode cX14_behind 165 = .ok (.iconst 0, 1) := by decide +kernel
theorem dX14_behind_166 : decode cX14_behind 166 = .ok (.istore 6, 2) := by decide +kernel
theorem dX14_behind_168 : decode cX14_behind 168 = .ok (.iload 6, 2) := by decide +kernel
theorem dX14_behind_170 : decode cX14_behind 170 = .ok (.aload 5, 2) := by decide +kernel
theorem dX14_behind_172 : decode cX14_behind 172 = .ok (.getfield 123, 3) := by decide +kernel
theorem dX14_behind_175 : decode cX14_behind 175 = .ok (.invokevirtual 115, 3) := by decide +kernel
theorem dX14_behind_178 : decode cX14_behind 178 = .ok (.if_icmp .ge 31, 3) := by decide +kernel
theorem dX14_behind_209 : decode cX14_behind 209 = .ok (.iinc 3 1, 3) := by decide +kernel
theorem dX14_behind_212 : decode cX14_behind 212 = .ok (.goto (-179), 3) := by decide +kernel
theorem dX14_behind_181 : decode cX14_behind 181 = .ok (.aload_n 0, 1) := by decide +kernel
theorem dX14_behind_182 : decode cX14_behind 182 = .ok (.getfield 42, 3) := by decide +kernel
theorem dX14_behind_185 : decode cX14_behind 185 = .ok (.aload 5, 2) := by decide +kernel
theorem dX14_behind_187 : decode cX14_behind 187 = .ok (.getfield 123, 3) := by decide +kernel
theorem dX14_behind_190 : decode cX14_behind 190 = .ok (.iload 6, 2) := by decide +kernel
theorem dX14_behind_192 : decode cX14_behind 192 = .ok (.invokevirtual 118, 3) := by decide +kernel
theorem dX14_behind_195 : decode cX14_behind 195 = .ok (.checkcast 126, 3) := by decide +kernel
theorem dX14_behind_198 : decode cX14_behind 198 = .ok (.getfield 128, 3) := by decide +kernel
theorem dX14_behind_201 : decode cX14_behind 201 = .ok (.iconst 0, 1) := by decide +kernel
theorem dX14_behind_202 : decode cX14_behind 202 = .ok (.bastore, 1) := by decide +kernel
theorem dX14_behind_203 : decode cX14_behind 203 = .ok (.iinc 6 1, 3) := by decide +kernel
theorem dX14_behind_206 : decode cX14_behind 206 = .ok (.goto (-38), 3) := by decide +kernel
theorem dX14_behind_114 : decode cX14_behind 114 = .ok (.aload_n 0, 1) := by decide +kernel
theorem dX14_behind_115 : decode cX14_behind 115 = .ok (.getfield 39, 3) := by decide +kernel
theorem dX14_behind_118 : decode cX14_behind 118 = .ok (.iload 6, 2) := by decide +kernel
theorem dX14_behind_120 : decode cX14_behind 120 = .ok (.aload_n 0, 1) := by decide +kernel
theorem dX14_behind_121 : decode cX14_behind 121 = .ok (.getfield 39, 3) := by decide +kernel
theorem dX14_behind_124 : decode cX14_behind 124 = .ok (.iload 6, 2) := by decide +kernel
theorem dX14_behind_126 : decode cX14_behind 126 = .ok (.baload, 1) := by decide +kernel
theorem dX14_behind_127 : decode cX14_behind 127 = .ok (.ifCond .ne 26, 3) := by decide +kernel
theorem dX14_behind_158 : decode cX14_behind 158 = .ok (.bastore, 1) := by decide +kernel
theorem dX14_behind_159 : decode cX14_behind 159 = .ok (.iinc 6 1, 3) := by decide +kernel
theorem dX14_behind_162 : decode cX14_behind 162 = .ok (.goto (-56), 3) := by decide +kernel
theorem dX14_behind_153 : decode cX14_behind 153 = .ok (.iconst 1, 1) := by decide +kernel
theorem dX14_behind_154 : decode cX14_behind 154 = .ok (.goto 4, 3) := by decide +kernel
theorem dX14_behind_130 : decode cX14_behind 130 = .ok (.aload_n 0, 1) := by decide +kernel
theorem dX14_behind_131 : decode cX14_behind 131 = .ok (.getfield 36, 3) := by decide +kernel
theorem dX14_behind_134 : decode cX14_behind 134 = .ok (.iload 4, 2) := by decide +kernel
theorem dX14_behind_136 : decode cX14_behind 136 = .ok (.aaload, 1) := by decide +kernel
theorem dX14_behind_137 : decode cX14_behind 137 = .ok (.iload 6, 2) := by decide +kernel
theorem dX14_behind_139 : decode cX14_behind 139 = .ok (.baload, 1) := by decide +kernel
theorem dX14_behind_140 : decode cX14_behind 140 = .ok (.ifCond .eq 17, 3) := by decide +kernel
theorem dX14_behind_157 : decode cX14_behind 157 = .ok (.iconst 0, 1) := by decide +kernel
theorem dX14_behind_143 : decode cX14_behind 143 = .ok (.aload_n 0, 1) := by decide +kernel
theorem dX14_behind_144 : decode cX14_behind 144 = .ok (.getfield 42, 3) := by decide +kernel
theorem dX14_behind_147 : decode cX14_behind 147 = .ok (.iload 6, 2) := by decide +kernel
theorem dX14_behind_149 : decode cX14_behind 149 = .ok (.baload, 1) := by decide +kernel
theorem dX14_behind_150 : decode cX14_behind 150 = .ok (.ifCond .ne 7, 3) := by decide +kernel
theorem dX14_behind_75 : decode cX14_behind 75 = .ok (.aload_n 0, 1) := by decide +kernel
theorem dX14_behind_76 : decode cX14_behind 76 = .ok (.getfield 42, 3) := by decide +kernel
theorem dX14_behind_79 : decode cX14_behind 79 = .ok (.aload 5, 2) := by decide +kernel
theorem dX14_behind_81 : decode cX14_behind 81 = .ok (.getfield 123, 3) := by decide +kernel
theorem dX14_behind_84 : decode cX14_behind 84 = .ok (.iload 6, 2) := by decide +kernel
theorem dX14_behind_86 : decode cX14_behind 86 = .ok (.invokevirtual 118, 3) := by decide +kernel
theorem dX14_behind_89 : decode cX14_behind 89 = .ok (.checkcast 126, 3) := by decide +kernel
theorem dX14_behind_92 : decode cX14_behind 92 = .ok (.getfield 128, 3) := by decide +kernel
theorem dX14_behind_95 : decode cX14_behind 95 = .ok (.iconst 1, 1) := by decide +kernel
theorem dX14_behind_96 : decode cX14_behind 96 = .ok (.bastore, 1) := by decide +kernel
theorem dX14_behind_97 : decode cX14_behind 97 = .ok (.iinc 6 1, 3) := by decide +kernel
theorem dX14_behind_100 : decode cX14_behind 100 = .ok (.goto (-38), 3) := by decide +kernel
theorem dX14_behind_9 : decode cX14_behind 9 = .ok (.aload_n 0, 1) := by decide +kernel
theorem dX14_behind_10 : decode cX14_behind 10 = .ok (.getfield 39, 3) := by decide +kernel
theorem dX14_behind_13 : decode cX14_behind 13 = .ok (.iload_n 2, 1) := by decide +kernel
theorem dX14_behind_14 : decode cX14_behind 14 = .ok (.iconst 0, 1) := by decide +kernel
theorem dX14_behind_15 : decode cX14_behind 15 = .ok (.bastore, 1) := by decide +kernel
theorem dX14_behind_16 : decode cX14_behind 16 = .ok (.iinc 2 1, 3) := by decide +kernel
theorem dX14_behind_19 : decode cX14_behind 19 = .ok (.goto (-17), 3) := by decide +kernel
def o_P14_behind : List Cond := [.fieldLink RX14 45 "SsaForgeModel$Flow" "c" "LSsaForgeModel$Code;", .methodLink RX14 75 yX13_get, .instanceMethod yX13_get, .selects RX13 yX13_get yX13_get, .initialized RX13, .methodLink RX14 79 yX12_ways, .instanceMethod yX12_ways, .selects RX12 yX12_ways yX12_ways, .initialized RX12, .methodLink RX14 84 yX12_way, .instanceMethod yX12_way, .selects RX12 yX12_way yX12_way, .fieldLink RX14 123 "SsaForgeModel$Block" "phis" "Ljava/util/ArrayList;", .methodLink RX14 115 yJx4a65c_size_8abf5, .instanceMethod yJx4a65c_size_8abf5, .selects RJx4a65c yJx4a65c_size_8abf5 yJx4a65c_size_8abf5, .initialized RJx4a65c, .methodLink RX14 118 yJx4a65c_get_915e3, .instanceMethod yJx4a65c_get_915e3, .selects RJx4a65c yJx4a65c_get_915e3 yJx4a65c_get_915e3, .classLink RX14 126 "SsaForgeModel$Phi", .methodLink RX14 131 yX15_place, .instanceMethod yX15_place, .selects RX15 yX15_place yX15_place, .initialized RX15, .fieldLink RX14 134 "SsaForgeModel$Phi" "regs" "[Z", .fieldLink RX14 39 "SsaForgeModel$Flow" "now" "[Z", .fieldLink RX14 137 "SsaForgeModel$Phi" "operands" "[I", .fieldLink RX14 42 "SsaForgeModel$Flow" "phi" "[Z", .fieldLink RX14 128 "SsaForgeModel$Phi" "t" "I", .fieldLink RX14 36 "SsaForgeModel$Flow" "live" "[[Z"]
def v_P14_behind : List Cond := .code yX14_behind cX14_behind 8 none :: (o_P14_behind ++ (wsX140 ++ (v_PC_get ++ (v_PB_ways ++ (v_PB_way ++ (wsX120 ++ (v_PL_size ++ (v_PL_get ++ (v_PP_place ++ (wsX150 ++ []))))))))))
theorem mow_P14_behind : ∀ w ∈ o_P14_behind, w ∈ v_P14_behind := fun _ h => List.mem_cons_of_mem _ (List.mem_append_left _ h)
theorem mem_P14_behind_0 : ∀ w ∈ wsX140, w ∈ v_P14_behind := fun _ h => List.mem_cons_of_mem _ (List.mem_append_right _ (List.mem_append_left _ h))
theorem mem_P14_behind_1 : ∀ w ∈ v_PC_get, w ∈ v_P14_behind := fun _ h => List.mem_cons_of_mem _ (List.mem_append_right _ (List.mem_append_right _ (List.mem_append_left _ h)))
theorem mem_P14_behind_2 : ∀ w ∈ v_PB_ways, w ∈ v_P14_behind := fun _ h => List.mem_cons_of_mem _ (List.mem_append_right _ (List.mem_append_right _ (List.mem_append_right _ (List.mem_append_left _ h))))
theorem mem_P14_behind_3 : ∀ w ∈ v_PB_way, w ∈ v_P14_behind := fun _ h => List.mem_cons_of_mem _ (List.mem_append_right _ (List.mem_append_right _ (List.mem_append_right _ (List.mem_append_right _ (List.mem_append_left _ h)))))
theorem mem_P14_behind_4 : ∀ w ∈ wsX120, w ∈ v_P14_behind := fun _ h => List.mem_cons_of_mem _ (List.mem_append_right _ (List.mem_append_right _ (List.mem_append_right _ (List.mem_append_right _ (List.mem_append_right _ (List.mem_append_left _ h))))))
theorem mem_P14_behind_5 : ∀ w ∈ v_PL_size, w ∈ v_P14_behind := fun _ h => List.mem_cons_of_mem _ (List.mem_append_right _ (List.mem_append_right _ (List.mem_append_right _ (List.mem_append_right _ (List.mem_append_right _ (List.mem_append_right _ (List.mem_append_left _ h)))))))
theorem mem_P14_behind_6 : ∀ w ∈ v_PL_get, w ∈ v_P14_behind := fun _ h => List.mem_cons_of_mem _ (List.mem_append_right _ (List.mem_append_right _ (List.mem_append_right _ (List.mem_append_right _ (List.mem_append_right _ (List.mem_append_right _ (List.mem_append_right _ (List.mem_append_left _ h))))))))
theorem mem_P14_behind_7 : ∀ w ∈ v_PP_place, w ∈ v_P14_behind := fun _ h => List.mem_cons_of_mem _ (List.mem_append_right _ (List.mem_append_right _ (List.mem_append_right _ (List.mem_append_right _ (List.mem_append_right _ (List.mem_append_right _ (List.mem_append_right _ (List.mem_append_right _ (List.mem_append_left _ h)))))))))
theorem mem_P14_behind_8 : ∀ w ∈ wsX150, w ∈ v_P14_behind := fun _ h => List.mem_cons_of_mem _ (List.mem_append_right _ (List.mem_append_right _ (List.mem_append_right _ (List.mem_append_right _ (List.mem_append_right _ (List.mem_append_right _ (List.mem_append_right _ (List.mem_append_right _ (List.mem_append_right _ (List.mem_append_left _ h))))))))))
set_option maxRecDepth 20000 in
theorem gw_P14_behind : v_P14_behind.all goodWord = true := by decide +kernel
set_option maxRecDepth 20000 in
theorem g_P14_behind_PC_get : GoodIn v_P14_behind (wsV RX14 75 RX13 yX13_get v_PC_get) := goodIn_app (goodIn_sub (fun w h => mow_P14_behind w (by revert w h; decide +kernel)) (by decide +kernel)) (goodIn_sub mem_P14_behind_1 gw_PC_get)
set_option maxRecDepth 20000 in
theorem g_P14_behind_PB_ways : GoodIn v_P14_behind (wsV RX14 79 RX12 yX12_ways v_PB_ways) := goodIn_app (goodIn_sub (fun w h => mow_P14_behind w (by revert w h; decide +kernel)) (by decide +kernel)) (goodIn_sub mem_P14_behind_2 gw_PB_ways)
set_option maxRecDepth 20000 in
theorem g_P14_behind_PB_way : GoodIn v_P14_behind (wsV RX14 84 RX12 yX12_way v_PB_way) := goodIn_app (goodIn_sub (fun w h => mow_P14_behind w (by revert w h; decide +kernel)) (by decide +kernel)) (goodIn_sub mem_P14_behind_3 gw_PB_way)
set_option maxRecDepth 20000 in
theorem g_P14_behind_PL_size : GoodIn v_P14_behind (wsV RX14 115 RJx4a65c yJx4a65c_size_8abf5 v_PL_size) := goodIn_app (goodIn_sub (fun w h => mow_P14_behind w (by revert w h; decide +kernel)) (by decide +kernel)) (goodIn_sub mem_P14_behind_5 gw_PL_size)
set_option maxRecDepth 20000 in
theorem g_P14_behind_PL_get : GoodIn v_P14_behind (wsV RX14 118 RJx4a65c yJx4a65c_get_915e3 v_PL_get) := goodIn_app (goodIn_sub (fun w h => mow_P14_behind w (by revert w h; decide +kernel)) (by decide +kernel)) (goodIn_sub mem_P14_behind_6 gw_PL_get)
set_option maxRecDepth 20000 in
theorem g_P14_behind_PP_place : GoodIn v_P14_behind (wsV RX14 131 RX15 yX15_place v_PP_place) := goodIn_app (goodIn_sub (fun w h => mow_P14_behind w (by revert w h; decide +kernel)) (by decide +kernel)) (goodIn_sub mem_P14_behind_7 gw_PP_place)
set_option maxHeartbeats 4000000 in
set_option maxRecDepth 100000 in
theorem c_P14_behind (l : Launch) (dC : Nat → ClassId) (dI : Nat → Nat → Nat) (cI : ClassId) (cZ : ClassId) (h0 : Nat) (v14_1 : Value) (v14_2 : Value) (v14_3 : Value) (v14_4 : Value) (v14_5 : Value) (v14_6 : Value) (v14_7 : Value) (v14_8 : Value) (v14_9 : Value) (q_1411 : Nat) (cA_1411 : ClassId) (a14_now : Int → Int) (q_1412 : Nat) (cA_1412 : ClassId) (a14_phi : Int → Int) (q_v : Nat) (cV : ClassId) (nv : Nat) (fv : Nat → Option Nat) (hc : Nat) (v13_0 : Value) (v13_1 : Value) (v13_2 : Value) (v13_3 : Value) (v13_4 : Value) (v13_6 : Value) (la : Nat) (cO : ClassId) (L : List Nat) (P : PO) (sx_ed : Nat) (b0 : Int) (hR_a14_now : ∀ j : Int, 0 ≤ a14_now j ∧ a14_now j ≤ 1) (hR_a14_phi : ∀ j : Int, 0 ≤ a14_phi j ∧ a14_phi j ≤ 1) (hNnv : nv ≤ 1000) (hX_a : ALP L P cO cI cZ sx_ed la) (hX_T : TBK L P 43 cZ fv (P.lz la) 1002 0 1) (hNb : 0 ≤ b0 ∧ b0 < P.lz la ∧ P.lz la ≤ nv) (sz : Nat) : Met l yX14_behind v_P14_behind ({ frames := 4, cells := 0, slots := 0, locals := 85 }) (va_Pc [.ref h0, .int (zI (b0))] (fun U => U.heap.size = sz ∧ va_P (dC, dI) vwQ ([(h0, .inr (13, [.ref hc, v14_1, v14_2, v14_3, v14_4, v14_5, v14_6, v14_7, v14_8, v14_9, .ref q_v, .ref q_1411, .ref q_1412])), (q_1411, .inl (cA_1411, 1002, .inl (fun j : Nat => zI (a14_now (j : Int))))), (q_1412, .inl (cA_1412, 1002, .inl (fun j : Nat => zI (a14_phi (j : Int))))), (q_v, .inl (cV, nv, .inr (.inr (.inr (.inr fv))))), (hc, .inr (12, [v13_0, v13_1, v13_2, v13_3, v13_4, .ref la, v13_6]))] ++ va_pl L (pE P)) U.heap ∧ va_K (dC, dI) vwQ [(cA_1411, .boolean), (cA_1412, .boolean), (cV, .array .boolean), (cO, .object "java/lang/Object"), (cI, .int), (cZ, .boolean)] U ∧ va_D (fun _ => True) ([(h0, .inr (13, [.ref hc, v14_1, v14_2, v14_3, v14_4, v14_5, v14_6, v14_7, v14_8, v14_9, .ref q_v, .ref q_1411, .ref q_1412])), (q_1411, .inl (cA_1411, 1002, .inl (fun j : Nat => zI (a14_now (j : Int))))), (q_1412, .inl (cA_1412, 1002, .inl (fun j : Nat => zI (a14_phi (j : Int))))), (q_v, .inl (cV, nv, .inr (.inr (.inr (.inr fv))))), (hc, .inr (12, [v13_0, v13_1, v13_2, v13_3, v13_4, .ref la, v13_6]))] ++ va_pl L (pE P)) ∧ va_Nw (.castable "SsaForgeModel$Block" "SsaForgeModel$Block") U ∧ va_Nw (.castable "SsaForgeModel$Phi" "SsaForgeModel$Phi") U)) (va_Qv (fun _ : Unit => True) (fun (_ : Unit) (t : State) => ∃ (a0_9 : Int → Int) (a1_9 : Int → Int), ((∀ j : Int, 0 ≤ a0_9 j ∧ a0_9 j ≤ 1) ∧ (∀ j : Int, 0 ≤ a1_9 j ∧ a1_9 j ≤ 1)) ∧ va_P (dC, dI) vwQ ([(h0, .inr (13, [.ref hc, v14_1, v14_2, v14_3, v14_4, v14_5, v14_6, v14_7, v14_8, v14_9, .ref q_v, .ref q_1411, .ref q_1412])), (q_1411, .inl (cA_1411, 1002, .inl (fun j : Nat => zI (a0_9 (j : Int))))), (q_1412, .inl (cA_1412, 1002, .inl (fun j : Nat => zI (a1_9 (j : Int))))), (q_v, .inl (cV, nv, .inr (.inr (.inr (.inr fv))))), (hc, .inr (12, [v13_0, v13_1, v13_2, v13_3, v13_4, .ref la, v13_6]))] ++ va_pl L (pE P)) t.heap ∧ va_K (dC, dI) vwQ [(cA_1411, .boolean), (cA_1412, .boolean), (cV, .array .boolean), (cO, .object "java/lang/Object"), (cI, .int), (cZ, .boolean)] t ∧ va_D (va_A ([(h0, .inr (13, [.ref hc, v14_1, v14_2, v14_3, v14_4, v14_5, v14_6, v14_7, v14_8, v14_9, .ref q_v, .ref q_1411, .ref q_1412])), (q_1411, .inl (cA_1411, 1002, .inl (fun j : Nat => zI (a14_now (j : Int))))), (q_1412, .inl (cA_1412, 1002, .inl (fun j : Nat => zI (a14_phi (j : Int))))), (q_v, .inl (cV, nv, .inr (.inr (.inr (.inr fv))))), (hc, .inr (12, [v13_0, v13_1, v13_2, v13_3, v13_4, .ref la, v13_6]))] ++ va_pl L (pE P)) sz) ([(h0, .inr (13, [.ref hc, v14_1, v14_2, v14_3, v14_4, v14_5, v14_6, v14_7, v14_8, v14_9, .ref q_v, .ref q_1411, .ref q_1412])), (q_1411, .inl (cA_1411, 1002, .inl (fun j : Nat => zI (a0_9 (j : Int))))), (q_1412, .inl (cA_1412, 1002, .inl (fun j : Nat => zI (a1_9 (j : Int))))), (q_v, .inl (cV, nv, .inr (.inr (.inr (.inr fv))))), (hc, .inr (12, [v13_0, v13_1, v13_2, v13_3, v13_4, .ref la, v13_6]))] ++ va_pl L (pE P))) (va_A ([(h0, .inr (13, [.ref hc, v14_1, v14_2, v14_3, v14_4, v14_5, v14_6, v14_7, v14_8, v14_9, .ref q_v, .ref q_1411, .ref q_1412])), (q_1411, .inl (cA_1411, 1002, .inl (fun j : Nat => zI (a14_now (j : Int))))), (q_1412, .inl (cA_1412, 1002, .inl (fun j : Nat => zI (a14_phi (j : Int))))), (q_v, .inl (cV, nv, .inr (.inr (.inr (.inr fv))))), (hc, .inr (12, [v13_0, v13_1, v13_2, v13_3, v13_4, .ref la, v13_6]))] ++ va_pl L (pE P)) sz)) 0 0 (va_A ([(h0, .inr (13, [.ref hc, v14_1, v14_2, v14_3, v14_4, v14_5, v14_6, v14_7, v14_8, v14_9, .ref q_v, .ref q_1411, .ref q_1412])), (q_1411, .inl (cA_1411, 1002, .inl (fun j : Nat => zI (a14_now (j : Int))))), (q_1412, .inl (cA_1412, 1002, .inl (fun j : Nat => zI (a14_phi (j : Int))))), (q_v, .inl (cV, nv, .inr (.inr (.inr (.inr fv))))), (hc, .inr (12, [v13_0, v13_1, v13_2, v13_3, v13_4, .ref la, v13_6]))] ++ va_pl L (pE P)) sz) := by
  refine Met.ofW (cc := cX14_behind) (maxL := 8) (ret := none) (by decide) rfl ?_
  intro p e s m args below meth c s₁ B hml hv
  obtain ⟨rfl, hsz, hP, hK, hD0, hp0, hp1⟩ := hv
  have hx := B.exec
  have hb := B.bytes
  have hr := B.returns
  have hts := atoms_spec (ws := v_P14_behind) B.pre
  have hown : s.vm.findClass RX14 = some m.cls := findClass_of_methodNamed B.named
  have hlocks := B.notSynchronized
  have ow : ∀ {k : Nat} {w : Cond}, o_P14_behind[k]? = some w → w.before ([.ref h0, .int (zI (b0))] : List Value).toArray s = true := fun h => hts _ (mow_P14_behind _ (List.mem_of_getElem? h))
  subst hsz
  have hD := hD0.self (sz := s.heap.size)
  generalize hAe : va_A ([(h0, .inr (13, [.ref hc, v14_1, v14_2, v14_3, v14_4, v14_5, v14_6, v14_7, v14_8, v14_9, .ref q_v, .ref q_1411, .ref q_1412])), (q_1411, .inl (cA_1411, 1002, .inl (fun j : Nat => zI (a14_now (j : Int))))), (q_1412, .inl (cA_1412, 1002, .inl (fun j : Nat => zI (a14_phi (j : Int))))), (q_v, .inl (cV, nv, .inr (.inr (.inr (.inr fv))))), (hc, .inr (12, [v13_0, v13_1, v13_2, v13_3, v13_4, .ref la, v13_6]))] ++ va_pl L (pE P)) s.heap.size = A at hD ⊢
  have hA : ∀ q : Nat, s.heap.size ≤ q → A q := fun q h => by rw [← hAe]; exact Or.inr h
  have hS : va_S A s.heap s.heap [] := va_S.rf
  have hP : va_P (dC, dI) vwQ ([(h0, .inr (13, [.ref hc, v14_1, v14_2, v14_3, v14_4, v14_5, v14_6, v14_7, v14_8, v14_9, .ref q_v, .ref q_1411, .ref q_1412])), (q_1411, .inl (cA_1411, 1002, .inl (fun j : Nat => zI (a14_now (j : Int))))), (q_1412, .inl (cA_1412, 1002, .inl (fun j : Nat => zI (a14_phi (j : Int))))), (q_v, .inl (cV, nv, .inr (.inr (.inr (.inr fv))))), (hc, .inr (12, [v13_0, v13_1, v13_2, v13_3, v13_4, .ref la, v13_6]))] ++ va_pl L (pE P)) s.heap := hP
  have hl := lv_entry ([.ref h0, .int (zI (b0))]) (n := 8) (Nat.le_of_ble_eq_true rfl)
  rw [lg_entry_eq]
  generalize (lg_sl ([.ref h0, .int (zI (b0))]) ++ List.replicate (8 - (lg_sl ([.ref h0, .int (zI (b0))])).length) Slot.unset).toArray = ls at hl ⊢
  have hl : lv_has ls 8 [(0, .ref h0), (1, .int (zI (b0)))] := hl
  obtain ⟨H, hH⟩ : ∃ H, H = s.heap := ⟨_, rfl⟩
  rw [← hH] at hP
  have hS : va_S A s.heap H [] := by rw [hH]; exact hS
  rw [← hH]
  refine zW_cap (fun Q hQ => ?_)
  have hX_a9 := hX_a
  have hla := hX_a.lok.2.2.1
  have hla2 := hX_a.1.1.2.1
  refine lv_iconst (v := 0) hx hb dX14_behind_0 (by decide) ?_
  refine lv_istore_n (lv' := [(2, .int 0), (0, .ref h0), (1, .int (zI (b0)))]) hx hb dX14_behind_1 rfl hl (by decide) rfl (fun ls hl => ?_)
  have key2 : ∀ n2 : Nat, ∀ (d2_2 : Int) (w2_1411 : Int → Int) (ls : Array Slot) (H : Heap) (locs : List Loc), (0 ≤ d2_2 ∧ d2_2 ≤ 1000000000) → (∀ j : Int, 0 ≤ w2_1411 j ∧ w2_1411 j ≤ 1) → (((1001) - (d2_2) + 1 : Int).toNat) < n2 → lv_has ls 8 [(0, .ref h0), (1, .int (zI (b0))), (2, .int (zI (d2_2)))] → va_P (dC, dI) vwQ ([(h0, .inr (13, [.ref hc, v14_1, v14_2, v14_3, v14_4, v14_5, v14_6, v14_7, v14_8, v14_9, .ref q_v, .ref q_1411, .ref q_1412])), (q_1411, .inl (cA_1411, 1002, .inl (fun j : Nat => zI (w2_1411 (j : Int))))), (q_1412, .inl (cA_1412, 1002, .inl (fun j : Nat => zI (a14_phi (j : Int))))), (q_v, .inl (cV, nv, .inr (.inr (.inr (.inr fv))))), (hc, .inr (12, [v13_0, v13_1, v13_2, v13_3, v13_4, .ref la, v13_6]))] ++ va_pl L (pE P)) H → va_D A ([(h0, .inr (13, [.ref hc, v14_1, v14_2, v14_3, v14_4, v14_5, v14_6, v14_7, v14_8, v14_9, .ref q_v, .ref q_1411, .ref q_1412])), (q_1411, .inl (cA_1411, 1002, .inl (fun j : Nat => zI (w2_1411 (j : Int))))), (q_1412, .inl (cA_1412, 1002, .inl (fun j : Nat => zI (a14_phi (j : Int))))), (q_v, .inl (cV, nv, .inr (.inr (.inr (.inr fv))))), (hc, .inr (12, [v13_0, v13_1, v13_2, v13_3, v13_4, .ref la, v13_6]))] ++ va_pl L (pE P)) → va_S A s.heap H locs → W p l e (headSpec v_P14_behind ({ frames := 4, cells := 0, slots := 0, locals := 85 })).room s m ([.ref h0, .int (zI (b0))] : List Value).toArray below meth c H locs 0 0 Q (F0 m 2 ls []) := by
    intro n2
    induction n2 with
    | zero => intro d2_2 w2_1411 ls H locs jd2_2 jw2_1411 hm2; exact absurd hm2 (by omega)
    | succ n2 ih2 =>
      intro d2_2 w2_1411 ls H locs jd2_2 jw2_1411 hm2 hl hP hD hS
      skip
      refine lv_iload_n hx hb dX14_behind_2 rfl (lv_at hl 2 rfl) ?_
      refine lv_sipush (v := 1001) hx hb dX14_behind_3 (by decide) ?_
      refine lv_icmp_gt (tgt := 22) hx hb dX14_behind_6 (by decide) (fun b6 => ?_) (fun b6 => ?_)
      · have yb6 : (1001 : Int) < (d2_2 : Int) := (zI_lt (a := 1001) (b := d2_2) (by omega) (by omega) (by omega) (by omega)).mp b6
        refine lv_aload_n hx hb dX14_behind_22 rfl (lv_at hl 0 rfl) ?_
        refine va_get (D := (dC, dI)) (ci := 13) (v := .ref hc) (C := RX14) (T := TX14) (N := 13) hx hb hts mem_P14_behind_0 hown hK hP 0 rfl rfl 0 (by decide) (ow (k := 0) rfl) (fun _ h9 => h9) rfl dX14_behind_23 ?_
        refine lv_iload_n hx hb dX14_behind_26 rfl (lv_at hl 1 rfl) ?_
        have hX_l := hX_a9.lok
        have hlz9 := hX_l.2.2.1
        obtain ⟨x, ex⟩ : ∃ q9 : Nat, q9 = P.el la (b0) := ⟨_, rfl⟩
        have hX_el := ex
        have hPc := hP.part (X := [(h0, .inr (13, [.ref hc, v14_1, v14_2, v14_3, v14_4, v14_5, v14_6, v14_7, v14_8, v14_9, .ref q_v, .ref q_1411, .ref q_1412])), (q_1411, .inl (cA_1411, 1002, .inl (fun j : Nat => zI (w2_1411 (j : Int))))), (q_1412, .inl (cA_1412, 1002, .inl (fun j : Nat => zI (a14_phi (j : Int))))), (q_v, .inl (cV, nv, .inr (.inr (.inr (.inr fv))))), (hc, .inr (12, [v13_0, v13_1, v13_2, v13_3, v13_4, .ref la, v13_6]))]) (cx := [(hc, .inr (12, [v13_0, v13_1, v13_2, v13_3, v13_4, .ref la, v13_6]))]) (pl := va_pl L (pE P)) [4] rfl
        have hDc := hD.part (X := [(h0, .inr (13, [.ref hc, v14_1, v14_2, v14_3, v14_4, v14_5, v14_6, v14_7, v14_8, v14_9, .ref q_v, .ref q_1411, .ref q_1412])), (q_1411, .inl (cA_1411, 1002, .inl (fun j : Nat => zI (w2_1411 (j : Int))))), (q_1412, .inl (cA_1412, 1002, .inl (fun j : Nat => zI (a14_phi (j : Int))))), (q_v, .inl (cV, nv, .inr (.inr (.inr (.inr fv))))), (hc, .inr (12, [v13_0, v13_1, v13_2, v13_3, v13_4, .ref la, v13_6]))]) (cx := [(hc, .inr (12, [v13_0, v13_1, v13_2, v13_3, v13_4, .ref la, v13_6]))]) (pl := va_pl L (pE P)) [4] (by decide) rfl
        have hKc := hK.sub (tys' := [(cO, .object "java/lang/Object")]) [3] rfl
        have hFc := va_freeP (X := [(h0, .inr (13, [.ref hc, v14_1, v14_2, v14_3, v14_4, v14_5, v14_6, v14_7, v14_8, v14_9, .ref q_v, .ref q_1411, .ref q_1412])), (q_1411, .inl (cA_1411, 1002, .inl (fun j : Nat => zI (w2_1411 (j : Int))))), (q_1412, .inl (cA_1412, 1002, .inl (fun j : Nat => zI (a14_phi (j : Int))))), (q_v, .inl (cV, nv, .inr (.inr (.inr (.inr fv))))), (hc, .inr (12, [v13_0, v13_1, v13_2, v13_3, v13_4, .ref la, v13_6]))]) (cx := [(hc, .inr (12, [v13_0, v13_1, v13_2, v13_3, v13_4, .ref la, v13_6]))]) (pl := va_pl L (pE P)) hD hS hA [4] rfl
        refine va_callr (va_runV (As := [.int (zI (b0))]) (rest := []) ⟨hx, hb, hml, hown, hts⟩ (c_PC_get l dC dI hc v13_0 v13_1 v13_2 v13_3 v13_4 v13_6 la cO L P b0 x hX_l (by omega) hX_el H.size) (cwV 1 hts g_P14_behind_PC_get rfl rfl rfl (by decide +kernel) ⟨(Nat.le_of_ble_eq_true rfl), (Nat.le_of_ble_eq_true rfl)⟩) ⟨fun a U g mk q => by obtain ⟨q0, q1, qP, qK, qD, e0⟩ := q; exact ⟨q0, q1, qP, va_K.moved (u := U) (U := U.calling g mk a) (Vm.Alike.refl U.vm) qK, qD, va_Nw.same rfl (u := U) (U := U.calling g mk a) rfl e0⟩, va_recv hKc hPc (ci := 12) (q0 := 0) rfl rfl, fun U hU hW => ⟨rfl, by rw [hU], by rw [hU]; exact hPc, va_K.moved hW.alike hKc, hDc.weaken (fun _ _ _ _ => trivial), va_Nw.warmC hW hp0⟩⟩ rfl rfl hl.1 rfl (lv_room (Nat.le_of_ble_eq_true rfl)) dX14_behind_27 ⟨(Nat.le_of_ble_eq_true rfl), (Nat.le_of_ble_eq_true rfl)⟩) hS (fun q _ h => hFc q h) hFc (fun u q_2001 t H1 locs ht hvm hw hB hz1 hk1 hS => ?_)
        obtain ⟨hxt_2001, hP1, hK1, hD1⟩ := hB
        rw [ht] at hP1
        have hK1 := va_K.moved hvm.symm hK1
        obtain ⟨hP, hD⟩ := va_joinP (X := [(h0, .inr (13, [.ref hc, v14_1, v14_2, v14_3, v14_4, v14_5, v14_6, v14_7, v14_8, v14_9, .ref q_v, .ref q_1411, .ref q_1412])), (q_1411, .inl (cA_1411, 1002, .inl (fun j : Nat => zI (w2_1411 (j : Int))))), (q_1412, .inl (cA_1412, 1002, .inl (fun j : Nat => zI (a14_phi (j : Int))))), (q_v, .inl (cV, nv, .inr (.inr (.inr (.inr fv))))), (hc, .inr (12, [v13_0, v13_1, v13_2, v13_3, v13_4, .ref la, v13_6]))]) (cx := [(hc, .inr (12, [v13_0, v13_1, v13_2, v13_3, v13_4, .ref la, v13_6]))]) (wr := [(h0, .inr (13, [.ref hc, v14_1, v14_2, v14_3, v14_4, v14_5, v14_6, v14_7, v14_8, v14_9, .ref q_v, .ref q_1411, .ref q_1412])), (q_1411, .inl (cA_1411, 1002, .inl (fun j : Nat => zI (w2_1411 (j : Int))))), (q_1412, .inl (cA_1412, 1002, .inl (fun j : Nat => zI (a14_phi (j : Int))))), (q_v, .inl (cV, nv, .inr (.inr (.inr (.inr fv)))))]) (rx := [(hc, .inr (12, [v13_0, v13_1, v13_2, v13_3, v13_4, .ref la, v13_6]))]) (pl := va_pl L (pE P)) (pl1 := va_pl L (pE P)) hP hD [4] [0, 1, 2, 3] rfl rfl (by decide) (by decide) hk1 hFc hP1 hD1
        have hK := (hK.sub (tys' := [(cA_1411, .boolean), (cA_1412, .boolean), (cV, .array .boolean), (cI, .int), (cZ, .boolean)]) [0, 1, 2, 4, 5] rfl).app hK1
        generalize H1 = H at hP hS ⊢
        have hP : va_P (dC, dI) vwQ ([(h0, .inr (13, [.ref hc, v14_1, v14_2, v14_3, v14_4, v14_5, v14_6, v14_7, v14_8, v14_9, .ref q_v, .ref q_1411, .ref q_1412])), (q_1411, .inl (cA_1411, 1002, .inl (fun j : Nat => zI (w2_1411 (j : Int))))), (q_1412, .inl (cA_1412, 1002, .inl (fun j : Nat => zI (a14_phi (j : Int))))), (q_v, .inl (cV, nv, .inr (.inr (.inr (.inr fv))))), (hc, .inr (12, [v13_0, v13_1, v13_2, v13_3, v13_4, .ref la, v13_6]))] ++ va_pl L (pE P)) H := hP
        have hD : va_D A ([(h0, .inr (13, [.ref hc, v14_1, v14_2, v14_3, v14_4, v14_5, v14_6, v14_7, v14_8, v14_9, .ref q_v, .ref q_1411, .ref q_1412])), (q_1411, .inl (cA_1411, 1002, .inl (fun j : Nat => zI (w2_1411 (j : Int))))), (q_1412, .inl (cA_1412, 1002, .inl (fun j : Nat => zI (a14_phi (j : Int))))), (q_v, .inl (cV, nv, .inr (.inr (.inr (.inr fv))))), (hc, .inr (12, [v13_0, v13_1, v13_2, v13_3, v13_4, .ref la, v13_6]))] ++ va_pl L (pE P)) := hD
        have hK : va_K (dC, dI) vwQ [(cA_1411, .boolean), (cA_1412, .boolean), (cV, .array .boolean), (cI, .int), (cZ, .boolean), (cO, .object "java/lang/Object")] s := hK
        refine W.widen (k := 0) (n := 0) (Nat.le_of_ble_eq_true rfl) (Nat.le_of_ble_eq_true rfl) ?_
        rw [hxt_2001]
        obtain ⟨xb_2002, h9⟩ : ∃ q9 : Nat, q9 = x := ⟨_, rfl⟩
        subst h9
        have hi_2003 : INB P la xb_2002 := ⟨b0, by omega, by omega, ex⟩
        clear hX_el
        have hx_2005 := ex
        have hB_2004 := hX_a9.inb hi_2003
        have hfb := hB_2004.2.2.2.2
        refine lv_astore_n (lv' := [(2, .ref xb_2002), (0, .ref h0), (1, .int (zI (b0)))]) hx hb dX14_behind_30 rfl hl (by decide) rfl (fun ls hl => ?_)
        refine lv_iconst (v := 0) hx hb dX14_behind_31 (by decide) ?_
        refine lv_istore_n (lv' := [(3, .int 0), (2, .ref xb_2002), (0, .ref h0), (1, .int (zI (b0)))]) hx hb dX14_behind_32 rfl hl (by decide) rfl (fun ls hl => ?_)
        have key33 : ∀ n33 : Nat, ∀ (d33_3 : Int) (w33_1411 : Int → Int) (w33_1412 : Int → Int) (ls : Array Slot) (H : Heap) (locs : List Loc), (0 ≤ d33_3 ∧ d33_3 ≤ 2) → (∀ j : Int, 0 ≤ w33_1411 j ∧ w33_1411 j ≤ 1) → (∀ j : Int, 0 ≤ w33_1412 j ∧ w33_1412 j ≤ 1) → ((10 - d33_3 : Int).toNat) < n33 → lv_has ls 8 [(0, .ref h0), (1, .int (zI (b0))), (2, .ref xb_2002), (3, .int (zI (d33_3)))] → va_P (dC, dI) vwQ ([(h0, .inr (13, [.ref hc, v14_1, v14_2, v14_3, v14_4, v14_5, v14_6, v14_7, v14_8, v14_9, .ref q_v, .ref q_1411, .ref q_1412])), (q_1411, .inl (cA_1411, 1002, .inl (fun j : Nat => zI (w33_1411 (j : Int))))), (q_1412, .inl (cA_1412, 1002, .inl (fun j : Nat => zI (w33_1412 (j : Int))))), (q_v, .inl (cV, nv, .inr (.inr (.inr (.inr fv))))), (hc, .inr (12, [v13_0, v13_1, v13_2, v13_3, v13_4, .ref la, v13_6]))] ++ va_pl L (pE P)) H → va_D A ([(h0, .inr (13, [.ref hc, v14_1, v14_2, v14_3, v14_4, v14_5, v14_6, v14_7, v14_8, v14_9, .ref q_v, .ref q_1411, .ref q_1412])), (q_1411, .inl (cA_1411, 1002, .inl (fun j : Nat => zI (w33_1411 (j : Int))))), (q_1412, .inl (cA_1412, 1002, .inl (fun j : Nat => zI (w33_1412 (j : Int))))), (q_v, .inl (cV, nv, .inr (.inr (.inr (.inr fv))))), (hc, .inr (12, [v13_0, v13_1, v13_2, v13_3, v13_4, .ref la, v13_6]))] ++ va_pl L (pE P)) → va_S A s.heap H locs → W p l e (headSpec v_P14_behind ({ frames := 4, cells := 0, slots := 0, locals := 85 })).room s m ([.ref h0, .int (zI (b0))] : List Value).toArray below meth c H locs 0 0 Q (F0 m 33 ls []) := by
          intro n33
          induction n33 with
          | zero => intro d33_3 w33_1411 w33_1412 ls H locs jd33_3 jw33_1411 jw33_1412 hm33; exact absurd hm33 (by omega)
          | succ n33 ih33 =>
            intro d33_3 w33_1411 w33_1412 ls H locs jd33_3 jw33_1411 jw33_1412 hm33 hl hP hD hS
            skip
            refine lv_iload_n hx hb dX14_behind_33 rfl (lv_at hl 3 rfl) ?_
            refine lv_aload_n hx hb dX14_behind_34 rfl (lv_at hl 2 rfl) ?_
            have hX_ro := hX_a9.1.1.2.2.2
            obtain ⟨nb, enb⟩ : ∃ q9 : Int, q9 = P.lz la := ⟨_, rfl⟩
            have hX_B : BOK L P cO nb xb_2002 := (by rw [enb]; exact (hX_a9.inb hi_2003))
            obtain ⟨xb, exb⟩ : ∃ q9 : Nat, q9 = xb_2002 := ⟨_, rfl⟩
            have hPc := hP.part (X := [(h0, .inr (13, [.ref hc, v14_1, v14_2, v14_3, v14_4, v14_5, v14_6, v14_7, v14_8, v14_9, .ref q_v, .ref q_1411, .ref q_1412])), (q_1411, .inl (cA_1411, 1002, .inl (fun j : Nat => zI (w33_1411 (j : Int))))), (q_1412, .inl (cA_1412, 1002, .inl (fun j : Nat => zI (w33_1412 (j : Int))))), (q_v, .inl (cV, nv, .inr (.inr (.inr (.inr fv))))), (hc, .inr (12, [v13_0, v13_1, v13_2, v13_3, v13_4, .ref la, v13_6]))]) (cx := []) (pl := va_pl L (pE P)) [] rfl
            have hDc := hD.part (X := [(h0, .inr (13, [.ref hc, v14_1, v14_2, v14_3, v14_4, v14_5, v14_6, v14_7, v14_8, v14_9, .ref q_v, .ref q_1411, .ref q_1412])), (q_1411, .inl (cA_1411, 1002, .inl (fun j : Nat => zI (w33_1411 (j : Int))))), (q_1412, .inl (cA_1412, 1002, .inl (fun j : Nat => zI (w33_1412 (j : Int))))), (q_v, .inl (cV, nv, .inr (.inr (.inr (.inr fv))))), (hc, .inr (12, [v13_0, v13_1, v13_2, v13_3, v13_4, .ref la, v13_6]))]) (cx := []) (pl := va_pl L (pE P)) [] (by decide) rfl
            have hKc := hK.sub (tys' := [(cO, .object "java/lang/Object")]) [5] rfl
            have hFc := va_freeP (X := [(h0, .inr (13, [.ref hc, v14_1, v14_2, v14_3, v14_4, v14_5, v14_6, v14_7, v14_8, v14_9, .ref q_v, .ref q_1411, .ref q_1412])), (q_1411, .inl (cA_1411, 1002, .inl (fun j : Nat => zI (w33_1411 (j : Int))))), (q_1412, .inl (cA_1412, 1002, .inl (fun j : Nat => zI (w33_1412 (j : Int))))), (q_v, .inl (cV, nv, .inr (.inr (.inr (.inr fv))))), (hc, .inr (12, [v13_0, v13_1, v13_2, v13_3, v13_4, .ref la, v13_6]))]) (cx := []) (pl := va_pl L (pE P)) hD hS hA [] rfl
            refine va_calli (va_runV (As := []) (rest := [.int (zI (d33_3))]) ⟨hx, hb, hml, hown, hts⟩ (c_PB_ways l dC dI cO L P xb_2002 nb hX_B hX_ro (by omega) H.size) (cwV 0 hts g_P14_behind_PB_ways rfl rfl rfl (by decide +kernel) ⟨(Nat.le_of_ble_eq_true rfl), (Nat.le_of_ble_eq_true rfl)⟩) ⟨fun a U g mk q => by obtain ⟨q0, q1, qP, qK, qD⟩ := q; exact ⟨q0, q1, qP, va_K.moved (u := U) (U := U.calling g mk a) (Vm.Alike.refl U.vm) qK, qD⟩, recv_12 hKc hPc hB_2004.1.1 hB_2004.1.2, fun U hU hW => ⟨rfl, by rw [hU], by rw [hU]; exact hPc, va_K.moved hW.alike hKc, hDc.weaken (fun _ _ _ _ => trivial)⟩⟩ rfl rfl hl.1 rfl (lv_room (Nat.le_of_ble_eq_true rfl)) dX14_behind_35 ⟨(Nat.le_of_ble_eq_true rfl), (Nat.le_of_ble_eq_true rfl)⟩) hS (fun q _ h => hFc q h) hFc (fun r_2006 u t H1 locs ht hvm hw hB hz1 hk1 hS => ?_)
            obtain ⟨hP1, hK1, hD1⟩ := hB
            rw [ht] at hP1
            have hK1 := va_K.moved hvm.symm hK1
            obtain ⟨hP, hD⟩ := va_joinP (X := [(h0, .inr (13, [.ref hc, v14_1, v14_2, v14_3, v14_4, v14_5, v14_6, v14_7, v14_8, v14_9, .ref q_v, .ref q_1411, .ref q_1412])), (q_1411, .inl (cA_1411, 1002, .inl (fun j : Nat => zI (w33_1411 (j : Int))))), (q_1412, .inl (cA_1412, 1002, .inl (fun j : Nat => zI (w33_1412 (j : Int))))), (q_v, .inl (cV, nv, .inr (.inr (.inr (.inr fv))))), (hc, .inr (12, [v13_0, v13_1, v13_2, v13_3, v13_4, .ref la, v13_6]))]) (cx := []) (wr := [(h0, .inr (13, [.ref hc, v14_1, v14_2, v14_3, v14_4, v14_5, v14_6, v14_7, v14_8, v14_9, .ref q_v, .ref q_1411, .ref q_1412])), (q_1411, .inl (cA_1411, 1002, .inl (fun j : Nat => zI (w33_1411 (j : Int))))), (q_1412, .inl (cA_1412, 1002, .inl (fun j : Nat => zI (w33_1412 (j : Int))))), (q_v, .inl (cV, nv, .inr (.inr (.inr (.inr fv))))), (hc, .inr (12, [v13_0, v13_1, v13_2, v13_3, v13_4, .ref la, v13_6]))]) (rx := []) (pl := va_pl L (pE P)) (pl1 := va_pl L (pE P)) hP hD [] [0, 1, 2, 3, 4] rfl rfl (by decide) (by decide) hk1 hFc hP1 hD1
            have hK := (hK.sub (tys' := [(cA_1411, .boolean), (cA_1412, .boolean), (cV, .array .boolean), (cI, .int), (cZ, .boolean)]) [0, 1, 2, 3, 4] rfl).app hK1
            generalize H1 = H at hP hS ⊢
            have hP : va_P (dC, dI) vwQ ([(h0, .inr (13, [.ref hc, v14_1, v14_2, v14_3, v14_4, v14_5, v14_6, v14_7, v14_8, v14_9, .ref q_v, .ref q_1411, .ref q_1412])), (q_1411, .inl (cA_1411, 1002, .inl (fun j : Nat => zI (w33_1411 (j : Int))))), (q_1412, .inl (cA_1412, 1002, .inl (fun j : Nat => zI (w33_1412 (j : Int))))), (q_v, .inl (cV, nv, .inr (.inr (.inr (.inr fv))))), (hc, .inr (12, [v13_0, v13_1, v13_2, v13_3, v13_4, .ref la, v13_6]))] ++ va_pl L (pE P)) H := hP
            have hD : va_D A ([(h0, .inr (13, [.ref hc, v14_1, v14_2, v14_3, v14_4, v14_5, v14_6, v14_7, v14_8, v14_9, .ref q_v, .ref q_1411, .ref q_1412])), (q_1411, .inl (cA_1411, 1002, .inl (fun j : Nat => zI (w33_1411 (j : Int))))), (q_1412, .inl (cA_1412, 1002, .inl (fun j : Nat => zI (w33_1412 (j : Int))))), (q_v, .inl (cV, nv, .inr (.inr (.inr (.inr fv))))), (hc, .inr (12, [v13_0, v13_1, v13_2, v13_3, v13_4, .ref la, v13_6]))] ++ va_pl L (pE P)) := hD
            have hK : va_K (dC, dI) vwQ [(cA_1411, .boolean), (cA_1412, .boolean), (cV, .array .boolean), (cI, .int), (cZ, .boolean), (cO, .object "java/lang/Object")] s := hK
            refine W.widen (k := 0) (n := 0) (Nat.le_of_ble_eq_true rfl) (Nat.le_of_ble_eq_true rfl) ?_
            obtain rfl : r_2006 = (zI (rWays (P.ro (P.be xb_2002)) (P.bf xb_2002) (P.bs xb_2002))) := hw
            have := rWays_spec (P.ro (P.be xb_2002)) (P.bf xb_2002) (P.bs xb_2002)
            refine lv_icmp_ge (tgt := 215) hx hb dX14_behind_38 (by decide) (fun b38 => ?_) (fun b38 => ?_)
            · have yb38 : (rWays (P.ro (P.be xb_2002)) (P.bf xb_2002) (P.bs xb_2002) : Int) ≤ (d33_3 : Int) := (zI_le (a := rWays (P.ro (P.be xb_2002)) (P.bf xb_2002) (P.bs xb_2002)) (b := d33_3) (by omega) (by omega) (by omega) (by omega)).mp b38
              refine lv_iconst (v := 0) hx hb dX14_behind_215 (by decide) ?_
              refine lv_istore_n (lv' := [(3, .int 0), (0, .ref h0), (1, .int (zI (b0))), (2, .ref xb_2002)]) hx hb dX14_behind_216 rfl hl (by decide) rfl (fun ls hl => ?_)
              have key217 : ∀ n217 : Nat, ∀ (d217_3 : Int) (w217_1411 : Int → Int) (ls : Array Slot) (H : Heap) (locs : List Loc), (0 ≤ d217_3 ∧ d217_3 ≤ 2) → (∀ j : Int, 0 ≤ w217_1411 j ∧ w217_1411 j ≤ 1) → ((10 - d217_3 : Int).toNat) < n217 → lv_has ls 8 [(0, .ref h0), (1, .int (zI (b0))), (2, .ref xb_2002), (3, .int (zI (d217_3)))] → va_P (dC, dI) vwQ ([(h0, .inr (13, [.ref hc, v14_1, v14_2, v14_3, v14_4, v14_5, v14_6, v14_7, v14_8, v14_9, .ref q_v, .ref q_1411, .ref q_1412])), (q_1411, .inl (cA_1411, 1002, .inl (fun j : Nat => zI (w217_1411 (j : Int))))), (q_1412, .inl (cA_1412, 1002, .inl (fun j : Nat => zI (w33_1412 (j : Int))))), (q_v, .inl (cV, nv, .inr (.inr (.inr (.inr fv))))), (hc, .inr (12, [v13_0, v13_1, v13_2, v13_3, v13_4, .ref la, v13_6]))] ++ va_pl L (pE P)) H → va_D A ([(h0, .inr (13, [.ref hc, v14_1, v14_2, v14_3, v14_4, v14_5, v14_6, v14_7, v14_8, v14_9, .ref q_v, .ref q_1411, .ref q_1412])), (q_1411, .inl (cA_1411, 1002, .inl (fun j : Nat => zI (w217_1411 (j : Int))))), (q_1412, .inl (cA_1412, 1002, .inl (fun j : Nat => zI (w33_1412 (j : Int))))), (q_v, .inl (cV, nv, .inr (.inr (.inr (.inr fv))))), (hc, .inr (12, [v13_0, v13_1, v13_2, v13_3, v13_4, .ref la, v13_6]))] ++ va_pl L (pE P)) → va_S A s.heap H locs → W p l e (headSpec v_P14_behind ({ frames := 4, cells := 0, slots := 0, locals := 85 })).room s m ([.ref h0, .int (zI (b0))] : List Value).toArray below meth c H locs 0 0 Q (F0 m 217 ls []) := by
                intro n217
                induction n217 with
                | zero => intro d217_3 w217_1411 ls H locs jd217_3 jw217_1411 hm217; exact absurd hm217 (by omega)
                | succ n217 ih217 =>
                  intro d217_3 w217_1411 ls H locs jd217_3 jw217_1411 hm217 hl hP hD hS
                  skip
                  refine lv_iload_n hx hb dX14_behind_217 rfl (lv_at hl 3 rfl) ?_
                  refine lv_aload_n hx hb dX14_behind_218 rfl (lv_at hl 2 rfl) ?_
                  have hX_ro := hX_a9.1.1.2.2.2
                  obtain ⟨nb, enb⟩ : ∃ q9 : Int, q9 = P.lz la := ⟨_, rfl⟩
                  have hX_B : BOK L P cO nb xb_2002 := (by rw [enb]; exact (hX_a9.inb hi_2003))
                  obtain ⟨xb, exb⟩ : ∃ q9 : Nat, q9 = xb_2002 := ⟨_, rfl⟩
                  have hPc := hP.part (X := [(h0, .inr (13, [.ref hc, v14_1, v14_2, v14_3, v14_4, v14_5, v14_6, v14_7, v14_8, v14_9, .ref q_v, .ref q_1411, .ref q_1412])), (q_1411, .inl (cA_1411, 1002, .inl (fun j : Nat => zI (w217_1411 (j : Int))))), (q_1412, .inl (cA_1412, 1002, .inl (fun j : Nat => zI (w33_1412 (j : Int))))), (q_v, .inl (cV, nv, .inr (.inr (.inr (.inr fv))))), (hc, .inr (12, [v13_0, v13_1, v13_2, v13_3, v13_4, .ref la, v13_6]))]) (cx := []) (pl := va_pl L (pE P)) [] rfl
                  have hDc := hD.part (X := [(h0, .inr (13, [.ref hc, v14_1, v14_2, v14_3, v14_4, v14_5, v14_6, v14_7, v14_8, v14_9, .ref q_v, .ref q_1411, .ref q_1412])), (q_1411, .inl (cA_1411, 1002, .inl (fun j : Nat => zI (w217_1411 (j : Int))))), (q_1412, .inl (cA_1412, 1002, .inl (fun j : Nat => zI (w33_1412 (j : Int))))), (q_v, .inl (cV, nv, .inr (.inr (.inr (.inr fv))))), (hc, .inr (12, [v13_0, v13_1, v13_2, v13_3, v13_4, .ref la, v13_6]))]) (cx := []) (pl := va_pl L (pE P)) [] (by decide) rfl
                  have hKc := hK.sub (tys' := [(cO, .object "java/lang/Object")]) [5] rfl
                  have hFc := va_freeP (X := [(h0, .inr (13, [.ref hc, v14_1, v14_2, v14_3, v14_4, v14_5, v14_6, v14_7, v14_8, v14_9, .ref q_v, .ref q_1411, .ref q_1412])), (q_1411, .inl (cA_1411, 1002, .inl (fun j : Nat => zI (w217_1411 (j : Int))))), (q_1412, .inl (cA_1412, 1002, .inl (fun j : Nat => zI (w33_1412 (j : Int))))), (q_v, .inl (cV, nv, .inr (.inr (.inr (.inr fv))))), (hc, .inr (12, [v13_0, v13_1, v13_2, v13_3, v13_4, .ref la, v13_6]))]) (cx := []) (pl := va_pl L (pE P)) hD hS hA [] rfl
                  refine va_calli (va_runV (As := []) (rest := [.int (zI (d217_3))]) ⟨hx, hb, hml, hown, hts⟩ (c_PB_ways l dC dI cO L P xb_2002 nb hX_B hX_ro (by omega) H.size) (cwV 0 hts g_P14_behind_PB_ways rfl rfl rfl (by decide +kernel) ⟨(Nat.le_of_ble_eq_true rfl), (Nat.le_of_ble_eq_true rfl)⟩) ⟨fun a U g mk q => by obtain ⟨q0, q1, qP, qK, qD⟩ := q; exact ⟨q0, q1, qP, va_K.moved (u := U) (U := U.calling g mk a) (Vm.Alike.refl U.vm) qK, qD⟩, recv_12 hKc hPc hB_2004.1.1 hB_2004.1.2, fun U hU hW => ⟨rfl, by rw [hU], by rw [hU]; exact hPc, va_K.moved hW.alike hKc, hDc.weaken (fun _ _ _ _ => trivial)⟩⟩ rfl rfl hl.1 rfl (lv_room (Nat.le_of_ble_eq_true rfl)) dX14_behind_219 ⟨(Nat.le_of_ble_eq_true rfl), (Nat.le_of_ble_eq_true rfl)⟩) hS (fun q _ h => hFc q h) hFc (fun r_2007 u t H1 locs ht hvm hw hB hz1 hk1 hS => ?_)
                  obtain ⟨hP1, hK1, hD1⟩ := hB
                  rw [ht] at hP1
                  have hK1 := va_K.moved hvm.symm hK1
                  obtain ⟨hP, hD⟩ := va_joinP (X := [(h0, .inr (13, [.ref hc, v14_1, v14_2, v14_3, v14_4, v14_5, v14_6, v14_7, v14_8, v14_9, .ref q_v, .ref q_1411, .ref q_1412])), (q_1411, .inl (cA_1411, 1002, .inl (fun j : Nat => zI (w217_1411 (j : Int))))), (q_1412, .inl (cA_1412, 1002, .inl (fun j : Nat => zI (w33_1412 (j : Int))))), (q_v, .inl (cV, nv, .inr (.inr (.inr (.inr fv))))), (hc, .inr (12, [v13_0, v13_1, v13_2, v13_3, v13_4, .ref la, v13_6]))]) (cx := []) (wr := [(h0, .inr (13, [.ref hc, v14_1, v14_2, v14_3, v14_4, v14_5, v14_6, v14_7, v14_8, v14_9, .ref q_v, .ref q_1411, .ref q_1412])), (q_1411, .inl (cA_1411, 1002, .inl (fun j : Nat => zI (w217_1411 (j : Int))))), (q_1412, .inl (cA_1412, 1002, .inl (fun j : Nat => zI (w33_1412 (j : Int))))), (q_v, .inl (cV, nv, .inr (.inr (.inr (.inr fv))))), (hc, .inr (12, [v13_0, v13_1, v13_2, v13_3, v13_4, .ref la, v13_6]))]) (rx := []) (pl := va_pl L (pE P)) (pl1 := va_pl L (pE P)) hP hD [] [0, 1, 2, 3, 4] rfl rfl (by decide) (by decide) hk1 hFc hP1 hD1
                  have hK := (hK.sub (tys' := [(cA_1411, .boolean), (cA_1412, .boolean), (cV, .array .boolean), (cI, .int), (cZ, .boolean)]) [0, 1, 2, 3, 4] rfl).app hK1
                  generalize H1 = H at hP hS ⊢
                  have hP : va_P (dC, dI) vwQ ([(h0, .inr (13, [.ref hc, v14_1, v14_2, v14_3, v14_4, v14_5, v14_6, v14_7, v14_8, v14_9, .ref q_v, .ref q_1411, .ref q_1412])), (q_1411, .inl (cA_1411, 1002, .inl (fun j : Nat => zI (w217_1411 (j : Int))))), (q_1412, .inl (cA_1412, 1002, .inl (fun j : Nat => zI (w33_1412 (j : Int))))), (q_v, .inl (cV, nv, .inr (.inr (.inr (.inr fv))))), (hc, .inr (12, [v13_0, v13_1, v13_2, v13_3, v13_4, .ref la, v13_6]))] ++ va_pl L (pE P)) H := hP
                  have hD : va_D A ([(h0, .inr (13, [.ref hc, v14_1, v14_2, v14_3, v14_4, v14_5, v14_6, v14_7, v14_8, v14_9, .ref q_v, .ref q_1411, .ref q_1412])), (q_1411, .inl (cA_1411, 1002, .inl (fun j : Nat => zI (w217_1411 (j : Int))))), (q_1412, .inl (cA_1412, 1002, .inl (fun j : Nat => zI (w33_1412 (j : Int))))), (q_v, .inl (cV, nv, .inr (.inr (.inr (.inr fv))))), (hc, .inr (12, [v13_0, v13_1, v13_2, v13_3, v13_4, .ref la, v13_6]))] ++ va_pl L (pE P)) := hD
                  have hK : va_K (dC, dI) vwQ [(cA_1411, .boolean), (cA_1412, .boolean), (cV, .array .boolean), (cI, .int), (cZ, .boolean), (cO, .object "java/lang/Object")] s := hK
                  refine W.widen (k := 0) (n := 0) (Nat.le_of_ble_eq_true rfl) (Nat.le_of_ble_eq_true rfl) ?_
                  obtain rfl : r_2007 = (zI (rWays (P.ro (P.be xb_2002)) (P.bf xb_2002) (P.bs xb_2002))) := hw
                  have := rWays_spec (P.ro (P.be xb_2002)) (P.bf xb_2002) (P.bs xb_2002)
                  refine lv_icmp_ge (tgt := 320) hx hb dX14_behind_222 (by decide) (fun b222 => ?_) (fun b222 => ?_)
                  · have yb222 : (rWays (P.ro (P.be xb_2002)) (P.bf xb_2002) (P.bs xb_2002) : Int) ≤ (d217_3 : Int) := (zI_le (a := rWays (P.ro (P.be xb_2002)) (P.bf xb_2002) (P.bs xb_2002)) (b := d217_3) (by omega) (by omega) (by omega) (by omega)).mp b222
                    subst hQ
                    have hK := hK.sub (tys' := [(cA_1411, .boolean), (cA_1412, .boolean), (cV, .array .boolean), (cO, .object "java/lang/Object"), (cI, .int), (cZ, .boolean)]) [0, 1, 2, 5, 3, 4] rfl
                    refine W.widen (k := 0) (n := 0) (Nat.le_of_ble_eq_true rfl) (Nat.le_of_ble_eq_true rfl) ?_
                    exact W.vret hx hb hr (fun t ht hW => ⟨⟨(), rfl, trivial, w217_1411, w33_1412, ⟨jw217_1411, jw33_1412⟩, by rw [ht]; exact hP, va_K.moved hW.alike hK, hD⟩, hS.F ht⟩) hS.2.2 dX14_behind_320
                  · have yb222 : ¬ (rWays (P.ro (P.be xb_2002)) (P.bf xb_2002) (P.bs xb_2002) : Int) ≤ (d217_3 : Int) := fun q => b222 ((zI_le (a := rWays (P.ro (P.be xb_2002)) (P.bf xb_2002) (P.bs xb_2002)) (b := d217_3) (by omega) (by omega) (by omega) (by omega)).mpr q)
                    refine lv_aload_n hx hb dX14_behind_225 rfl (lv_at hl 0 rfl) ?_
                    refine va_get (D := (dC, dI)) (ci := 13) (v := .ref hc) (C := RX14) (T := TX14) (N := 13) hx hb hts mem_P14_behind_0 hown hK hP 0 rfl rfl 0 (by decide) (ow (k := 0) rfl) (fun _ h9 => h9) rfl dX14_behind_226 ?_
                    refine lv_aload_n hx hb dX14_behind_229 rfl (lv_at hl 2 rfl) ?_
                    refine lv_iload_n hx hb dX14_behind_230 rfl (lv_at hl 3 rfl) ?_
                    have hX_ro := hX_a9.1.1.2.2.2
                    obtain ⟨nb, enb⟩ : ∃ q9 : Int, q9 = P.lz la := ⟨_, rfl⟩
                    have hX_B : BOK L P cO nb xb_2002 := (by rw [enb]; exact (hX_a9.inb hi_2003))
                    obtain ⟨xb, exb⟩ : ∃ q9 : Nat, q9 = xb_2002 := ⟨_, rfl⟩
                    have hPc := hP.part (X := [(h0, .inr (13, [.ref hc, v14_1, v14_2, v14_3, v14_4, v14_5, v14_6, v14_7, v14_8, v14_9, .ref q_v, .ref q_1411, .ref q_1412])), (q_1411, .inl (cA_1411, 1002, .inl (fun j : Nat => zI (w217_1411 (j : Int))))), (q_1412, .inl (cA_1412, 1002, .inl (fun j : Nat => zI (w33_1412 (j : Int))))), (q_v, .inl (cV, nv, .inr (.inr (.inr (.inr fv))))), (hc, .inr (12, [v13_0, v13_1, v13_2, v13_3, v13_4, .ref la, v13_6]))]) (cx := []) (pl := va_pl L (pE P)) [] rfl
                    have hDc := hD.part (X := [(h0, .inr (13, [.ref hc, v14_1, v14_2, v14_3, v14_4, v14_5, v14_6, v14_7, v14_8, v14_9, .ref q_v, .ref q_1411, .ref q_1412])), (q_1411, .inl (cA_1411, 1002, .inl (fun j : Nat => zI (w217_1411 (j : Int))))), (q_1412, .inl (cA_1412, 1002, .inl (fun j : Nat => zI (w33_1412 (j : Int))))), (q_v, .inl (cV, nv, .inr (.inr (.inr (.inr fv))))), (hc, .inr (12, [v13_0, v13_1, v13_2, v13_3, v13_4, .ref la, v13_6]))]) (cx := []) (pl := va_pl L (pE P)) [] (by decide) rfl
                    have hKc := hK.sub (tys' := [(cO, .object "java/lang/Object")]) [5] rfl
                    have hFc := va_freeP (X := [(h0, .inr (13, [.ref hc, v14_1, v14_2, v14_3, v14_4, v14_5, v14_6, v14_7, v14_8, v14_9, .ref q_v, .ref q_1411, .ref q_1412])), (q_1411, .inl (cA_1411, 1002, .inl (fun j : Nat => zI (w217_1411 (j : Int))))), (q_1412, .inl (cA_1412, 1002, .inl (fun j : Nat => zI (w33_1412 (j : Int))))), (q_v, .inl (cV, nv, .inr (.inr (.inr (.inr fv))))), (hc, .inr (12, [v13_0, v13_1, v13_2, v13_3, v13_4, .ref la, v13_6]))]) (cx := []) (pl := va_pl L (pE P)) hD hS hA [] rfl
                    refine va_calli (va_runV (As := [.int (zI (d217_3))]) (rest := [.ref hc]) ⟨hx, hb, hml, hown, hts⟩ (c_PB_way l dC dI cO L P xb_2002 nb d217_3 hX_B (by omega) H.size) (cwV 1 hts g_P14_behind_PB_way rfl rfl rfl (by decide +kernel) ⟨(Nat.le_of_ble_eq_true rfl), (Nat.le_of_ble_eq_true rfl)⟩) ⟨fun a U g mk q => by obtain ⟨q0, q1, qP, qK, qD⟩ := q; exact ⟨q0, q1, qP, va_K.moved (u := U) (U := U.calling g mk a) (Vm.Alike.refl U.vm) qK, qD⟩, recv_12 hKc hPc hB_2004.1.1 hB_2004.1.2, fun U hU hW => ⟨rfl, by rw [hU], by rw [hU]; exact hPc, va_K.moved hW.alike hKc, hDc.weaken (fun _ _ _ _ => trivial)⟩⟩ rfl rfl hl.1 rfl (lv_room (Nat.le_of_ble_eq_true rfl)) dX14_behind_231 ⟨(Nat.le_of_ble_eq_true rfl), (Nat.le_of_ble_eq_true rfl)⟩) hS (fun q _ h => hFc q h) hFc (fun r_2008 u t H1 locs ht hvm hw hB hz1 hk1 hS => ?_)
                    obtain ⟨hP1, hK1, hD1⟩ := hB
                    rw [ht] at hP1
                    have hK1 := va_K.moved hvm.symm hK1
                    obtain ⟨hP, hD⟩ := va_joinP (X := [(h0, .inr (13, [.ref hc, v14_1, v14_2, v14_3, v14_4, v14_5, v14_6, v14_7, v14_8, v14_9, .ref q_v, .ref q_1411, .ref q_1412])), (q_1411, .inl (cA_1411, 1002, .inl (fun j : Nat => zI (w217_1411 (j : Int))))), (q_1412, .inl (cA_1412, 1002, .inl (fun j : Nat => zI (w33_1412 (j : Int))))), (q_v, .inl (cV, nv, .inr (.inr (.inr (.inr fv))))), (hc, .inr (12, [v13_0, v13_1, v13_2, v13_3, v13_4, .ref la, v13_6]))]) (cx := []) (wr := [(h0, .inr (13, [.ref hc, v14_1, v14_2, v14_3, v14_4, v14_5, v14_6, v14_7, v14_8, v14_9, .ref q_v, .ref q_1411, .ref q_1412])), (q_1411, .inl (cA_1411, 1002, .inl (fun j : Nat => zI (w217_1411 (j : Int))))), (q_1412, .inl (cA_1412, 1002, .inl (fun j : Nat => zI (w33_1412 (j : Int))))), (q_v, .inl (cV, nv, .inr (.inr (.inr (.inr fv))))), (hc, .inr (12, [v13_0, v13_1, v13_2, v13_3, v13_4, .ref la, v13_6]))]) (rx := []) (pl := va_pl L (pE P)) (pl1 := va_pl L (pE P)) hP hD [] [0, 1, 2, 3, 4] rfl rfl (by decide) (by decide) hk1 hFc hP1 hD1
                    have hK := (hK.sub (tys' := [(cA_1411, .boolean), (cA_1412, .boolean), (cV, .array .boolean), (cI, .int), (cZ, .boolean)]) [0, 1, 2, 3, 4] rfl).app hK1
                    generalize H1 = H at hP hS ⊢
                    have hP : va_P (dC, dI) vwQ ([(h0, .inr (13, [.ref hc, v14_1, v14_2, v14_3, v14_4, v14_5, v14_6, v14_7, v14_8, v14_9, .ref q_v, .ref q_1411, .ref q_1412])), (q_1411, .inl (cA_1411, 1002, .inl (fun j : Nat => zI (w217_1411 (j : Int))))), (q_1412, .inl (cA_1412, 1002, .inl (fun j : Nat => zI (w33_1412 (j : Int))))), (q_v, .inl (cV, nv, .inr (.inr (.inr (.inr fv))))), (hc, .inr (12, [v13_0, v13_1, v13_2, v13_3, v13_4, .ref la, v13_6]))] ++ va_pl L (pE P)) H := hP
                    have hD : va_D A ([(h0, .inr (13, [.ref hc, v14_1, v14_2, v14_3, v14_4, v14_5, v14_6, v14_7, v14_8, v14_9, .ref q_v, .ref q_1411, .ref q_1412])), (q_1411, .inl (cA_1411, 1002, .inl (fun j : Nat => zI (w217_1411 (j : Int))))), (q_1412, .inl (cA_1412, 1002, .inl (fun j : Nat => zI (w33_1412 (j : Int))))), (q_v, .inl (cV, nv, .inr (.inr (.inr (.inr fv))))), (hc, .inr (12, [v13_0, v13_1, v13_2, v13_3, v13_4, .ref la, v13_6]))] ++ va_pl L (pE P)) := hD
                    have hK : va_K (dC, dI) vwQ [(cA_1411, .boolean), (cA_1412, .boolean), (cV, .array .boolean), (cI, .int), (cZ, .boolean), (cO, .object "java/lang/Object")] s := hK
                    refine W.widen (k := 0) (n := 0) (Nat.le_of_ble_eq_true rfl) (Nat.le_of_ble_eq_true rfl) ?_
                    obtain rfl : r_2008 = (zI (rWay (P.bf xb_2002) (P.bs xb_2002) (d217_3))) := hw
                    have := rWay_spec (P.bf xb_2002) (P.bs xb_2002) (d217_3)
                    have hX_l := hX_a9.lok
                    obtain ⟨x, ex⟩ : ∃ q9 : Nat, q9 = P.el la (rWay (P.bf xb_2002) (P.bs xb_2002) (d217_3)) := ⟨_, rfl⟩
                    have hX_el := ex
                    have hPc := hP.part (X := [(h0, .inr (13, [.ref hc, v14_1, v14_2, v14_3, v14_4, v14_5, v14_6, v14_7, v14_8, v14_9, .ref q_v, .ref q_1411, .ref q_1412])), (q_1411, .inl (cA_1411, 1002, .inl (fun j : Nat => zI (w217_1411 (j : Int))))), (q_1412, .inl (cA_1412, 1002, .inl (fun j : Nat => zI (w33_1412 (j : Int))))), (q_v, .inl (cV, nv, .inr (.inr (.inr (.inr fv))))), (hc, .inr (12, [v13_0, v13_1, v13_2, v13_3, v13_4, .ref la, v13_6]))]) (cx := [(hc, .inr (12, [v13_0, v13_1, v13_2, v13_3, v13_4, .ref la, v13_6]))]) (pl := va_pl L (pE P)) [4] rfl
                    have hDc := hD.part (X := [(h0, .inr (13, [.ref hc, v14_1, v14_2, v14_3, v14_4, v14_5, v14_6, v14_7, v14_8, v14_9, .ref q_v, .ref q_1411, .ref q_1412])), (q_1411, .inl (cA_1411, 1002, .inl (fun j : Nat => zI (w217_1411 (j : Int))))), (q_1412, .inl (cA_1412, 1002, .inl (fun j : Nat => zI (w33_1412 (j : Int))))), (q_v, .inl (cV, nv, .inr (.inr (.inr (.inr fv))))), (hc, .inr (12, [v13_0, v13_1, v13_2, v13_3, v13_4, .ref la, v13_6]))]) (cx := [(hc, .inr (12, [v13_0, v13_1, v13_2, v13_3, v13_4, .ref la, v13_6]))]) (pl := va_pl L (pE P)) [4] (by decide) rfl
                    have hKc := hK.sub (tys' := [(cO, .object "java/lang/Object")]) [5] rfl
                    have hFc := va_freeP (X := [(h0, .inr (13, [.ref hc, v14_1, v14_2, v14_3, v14_4, v14_5, v14_6, v14_7, v14_8, v14_9, .ref q_v, .ref q_1411, .ref q_1412])), (q_1411, .inl (cA_1411, 1002, .inl (fun j : Nat => zI (w217_1411 (j : Int))))), (q_1412, .inl (cA_1412, 1002, .inl (fun j : Nat => zI (w33_1412 (j : Int))))), (q_v, .inl (cV, nv, .inr (.inr (.inr (.inr fv))))), (hc, .inr (12, [v13_0, v13_1, v13_2, v13_3, v13_4, .ref la, v13_6]))]) (cx := [(hc, .inr (12, [v13_0, v13_1, v13_2, v13_3, v13_4, .ref la, v13_6]))]) (pl := va_pl L (pE P)) hD hS hA [4] rfl
                    refine va_callr (va_runV (As := [.int (zI (rWay (P.bf xb_2002) (P.bs xb_2002) (d217_3)))]) (rest := []) ⟨hx, hb, hml, hown, hts⟩ (c_PC_get l dC dI hc v13_0 v13_1 v13_2 v13_3 v13_4 v13_6 la cO L P (rWay (P.bf xb_2002) (P.bs xb_2002) (d217_3)) x hX_l (by omega) hX_el H.size) (cwV 1 hts g_P14_behind_PC_get rfl rfl rfl (by decide +kernel) ⟨(Nat.le_of_ble_eq_true rfl), (Nat.le_of_ble_eq_true rfl)⟩) ⟨fun a U g mk q => by obtain ⟨q0, q1, qP, qK, qD, e0⟩ := q; exact ⟨q0, q1, qP, va_K.moved (u := U) (U := U.calling g mk a) (Vm.Alike.refl U.vm) qK, qD, va_Nw.same rfl (u := U) (U := U.calling g mk a) rfl e0⟩, va_recv hKc hPc (ci := 12) (q0 := 0) rfl rfl, fun U hU hW => ⟨rfl, by rw [hU], by rw [hU]; exact hPc, va_K.moved hW.alike hKc, hDc.weaken (fun _ _ _ _ => trivial), va_Nw.warmC hW hp0⟩⟩ rfl rfl hl.1 rfl (lv_room (Nat.le_of_ble_eq_true rfl)) dX14_behind_234 ⟨(Nat.le_of_ble_eq_true rfl), (Nat.le_of_ble_eq_true rfl)⟩) hS (fun q _ h => hFc q h) hFc (fun u q_2009 t H1 locs ht hvm hw hB hz1 hk1 hS => ?_)
                    obtain ⟨hxt_2009, hP1, hK1, hD1⟩ := hB
                    rw [ht] at hP1
                    have hK1 := va_K.moved hvm.symm hK1
                    obtain ⟨hP, hD⟩ := va_joinP (X := [(h0, .inr (13, [.ref hc, v14_1, v14_2, v14_3, v14_4, v14_5, v14_6, v14_7, v14_8, v14_9, .ref q_v, .ref q_1411, .ref q_1412])), (q_1411, .inl (cA_1411, 1002, .inl (fun j : Nat => zI (w217_1411 (j : Int))))), (q_1412, .inl (cA_1412, 1002, .inl (fun j : Nat => zI (w33_1412 (j : Int))))), (q_v, .inl (cV, nv, .inr (.inr (.inr (.inr fv))))), (hc, .inr (12, [v13_0, v13_1, v13_2, v13_3, v13_4, .ref la, v13_6]))]) (cx := [(hc, .inr (12, [v13_0, v13_1, v13_2, v13_3, v13_4, .ref la, v13_6]))]) (wr := [(h0, .inr (13, [.ref hc, v14_1, v14_2, v14_3, v14_4, v14_5, v14_6, v14_7, v14_8, v14_9, .ref q_v, .ref q_1411, .ref q_1412])), (q_1411, .inl (cA_1411, 1002, .inl (fun j : Nat => zI (w217_1411 (j : Int))))), (q_1412, .inl (cA_1412, 1002, .inl (fun j : Nat => zI (w33_1412 (j : Int))))), (q_v, .inl (cV, nv, .inr (.inr (.inr (.inr fv)))))]) (rx := [(hc, .inr (12, [v13_0, v13_1, v13_2, v13_3, v13_4, .ref la, v13_6]))]) (pl := va_pl L (pE P)) (pl1 := va_pl L (pE P)) hP hD [4] [0, 1, 2, 3] rfl rfl (by decide) (by decide) hk1 hFc hP1 hD1
                    have hK := (hK.sub (tys' := [(cA_1411, .boolean), (cA_1412, .boolean), (cV, .array .boolean), (cI, .int), (cZ, .boolean)]) [0, 1, 2, 3, 4] rfl).app hK1
                    generalize H1 = H at hP hS ⊢
                    have hP : va_P (dC, dI) vwQ ([(h0, .inr (13, [.ref hc, v14_1, v14_2, v14_3, v14_4, v14_5, v14_6, v14_7, v14_8, v14_9, .ref q_v, .ref q_1411, .ref q_1412])), (q_1411, .inl (cA_1411, 1002, .inl (fun j : Nat => zI (w217_1411 (j : Int))))), (q_1412, .inl (cA_1412, 1002, .inl (fun j : Nat => zI (w33_1412 (j : Int))))), (q_v, .inl (cV, nv, .inr (.inr (.inr (.inr fv))))), (hc, .inr (12, [v13_0, v13_1, v13_2, v13_3, v13_4, .ref la, v13_6]))] ++ va_pl L (pE P)) H := hP
                    have hD : va_D A ([(h0, .inr (13, [.ref hc, v14_1, v14_2, v14_3, v14_4, v14_5, v14_6, v14_7, v14_8, v14_9, .ref q_v, .ref q_1411, .ref q_1412])), (q_1411, .inl (cA_1411, 1002, .inl (fun j : Nat => zI (w217_1411 (j : Int))))), (q_1412, .inl (cA_1412, 1002, .inl (fun j : Nat => zI (w33_1412 (j : Int))))), (q_v, .inl (cV, nv, .inr (.inr (.inr (.inr fv))))), (hc, .inr (12, [v13_0, v13_1, v13_2, v13_3, v13_4, .ref la, v13_6]))] ++ va_pl L (pE P)) := hD
                    have hK : va_K (dC, dI) vwQ [(cA_1411, .boolean), (cA_1412, .boolean), (cV, .array .boolean), (cI, .int), (cZ, .boolean), (cO, .object "java/lang/Object")] s := hK
                    refine W.widen (k := 0) (n := 0) (Nat.le_of_ble_eq_true rfl) (Nat.le_of_ble_eq_true rfl) ?_
                    rw [hxt_2009]
                    obtain ⟨xb_2010, h9⟩ : ∃ q9 : Nat, q9 = x := ⟨_, rfl⟩
                    subst h9
                    have hi_2011 : INB P la xb_2010 := ⟨rWay (P.bf xb_2002) (P.bs xb_2002) (d217_3), by omega, by omega, ex⟩
                    clear hX_el
                    have hx_2013 := ex
                    have hB_2012 := hX_a9.inb hi_2011
                    have hfb := hB_2012.2.2.2.2
                    refine lv_astore (lv' := [(4, .ref xb_2010), (0, .ref h0), (1, .int (zI (b0))), (2, .ref xb_2002), (3, .int (zI (d217_3)))]) hx hb dX14_behind_237 hl (by decide) rfl (fun ls hl => ?_)
                    refine lv_iconst (v := 0) hx hb dX14_behind_239 (by decide) ?_
                    refine lv_istore (lv' := [(5, .int 0), (4, .ref xb_2010), (0, .ref h0), (1, .int (zI (b0))), (2, .ref xb_2002), (3, .int (zI (d217_3)))]) hx hb dX14_behind_240 hl (by decide) rfl (fun ls hl => ?_)
                    have key242 : ∀ n242 : Nat, ∀ (d242_5 : Int) (w242_1411 : Int → Int) (ls : Array Slot) (H : Heap) (locs : List Loc), (0 ≤ d242_5 ∧ d242_5 ≤ 40000) → (∀ j : Int, 0 ≤ w242_1411 j ∧ w242_1411 j ≤ 1) → ((50000 - d242_5 : Int).toNat) < n242 → lv_has ls 8 [(0, .ref h0), (1, .int (zI (b0))), (2, .ref xb_2002), (3, .int (zI (d217_3))), (4, .ref xb_2010), (5, .int (zI (d242_5)))] → va_P (dC, dI) vwQ ([(h0, .inr (13, [.ref hc, v14_1, v14_2, v14_3, v14_4, v14_5, v14_6, v14_7, v14_8, v14_9, .ref q_v, .ref q_1411, .ref q_1412])), (q_1411, .inl (cA_1411, 1002, .inl (fun j : Nat => zI (w242_1411 (j : Int))))), (q_1412, .inl (cA_1412, 1002, .inl (fun j : Nat => zI (w33_1412 (j : Int))))), (q_v, .inl (cV, nv, .inr (.inr (.inr (.inr fv))))), (hc, .inr (12, [v13_0, v13_1, v13_2, v13_3, v13_4, .ref la, v13_6]))] ++ va_pl L (pE P)) H → va_D A ([(h0, .inr (13, [.ref hc, v14_1, v14_2, v14_3, v14_4, v14_5, v14_6, v14_7, v14_8, v14_9, .ref q_v, .ref q_1411, .ref q_1412])), (q_1411, .inl (cA_1411, 1002, .inl (fun j : Nat => zI (w242_1411 (j : Int))))), (q_1412, .inl (cA_1412, 1002, .inl (fun j : Nat => zI (w33_1412 (j : Int))))), (q_v, .inl (cV, nv, .inr (.inr (.inr (.inr fv))))), (hc, .inr (12, [v13_0, v13_1, v13_2, v13_3, v13_4, .ref la, v13_6]))] ++ va_pl L (pE P)) → va_S A s.heap H locs → W p l e (headSpec v_P14_behind ({ frames := 4, cells := 0, slots := 0, locals := 85 })).room s m ([.ref h0, .int (zI (b0))] : List Value).toArray below meth c H locs 0 0 Q (F0 m 242 ls []) := by
                      intro n242
                      induction n242 with
                      | zero => intro d242_5 w242_1411 ls H locs jd242_5 jw242_1411 hm242; exact absurd hm242 (by omega)
                      | succ n242 ih242 =>
                        intro d242_5 w242_1411 ls H locs jd242_5 jw242_1411 hm242 hl hP hD hS
                        skip
                        refine lv_iload hx hb dX14_behind_242 (lv_at hl 5 rfl) ?_
                        refine lv_aload hx hb dX14_behind_244 (lv_at hl 4 rfl) ?_
                        obtain ⟨kp_2014, hkp_2014⟩ := va_pl_get (X := [(h0, .inr (13, [.ref hc, v14_1, v14_2, v14_3, v14_4, v14_5, v14_6, v14_7, v14_8, v14_9, .ref q_v, .ref q_1411, .ref q_1412])), (q_1411, .inl (cA_1411, 1002, .inl (fun j : Nat => zI (w242_1411 (j : Int))))), (q_1412, .inl (cA_1412, 1002, .inl (fun j : Nat => zI (w33_1412 (j : Int))))), (q_v, .inl (cV, nv, .inr (.inr (.inr (.inr fv))))), (hc, .inr (12, [v13_0, v13_1, v13_2, v13_3, v13_4, .ref la, v13_6]))]) (f := pE P) hB_2012.1.1
                        rw [pE_block hB_2012.1.2] at hkp_2014
                        refine va_get (D := (dC, dI)) (ci := 19) (v := .ref (P.bp xb_2010)) (C := RX12) (T := TX12) (N := 5) hx hb hts mem_P14_behind_4 hown hK hP kp_2014 hkp_2014 rfl 0 (by decide) (ow (k := 12) rfl) (fun _ h9 => h9) rfl dX14_behind_246 ?_
                        obtain ⟨pr_2015, epr_2015⟩ : ∃ q9 : Nat, q9 = P.bp xb_2010 := ⟨_, rfl⟩
                        rw [← epr_2015]
                        have hlk_2016 : LOK L P cO 15 pr_2015 := (by rw [epr_2015]; exact (hX_a9.inb hi_2011).2.2.1)
                        have hlz9 := hlk_2016.2.2.1
                        have hlk_2017 := (show LOK L P cO 15 pr_2015 from (by rw [← epr_2015.symm]; exact (hX_a9.inb hi_2011).2.2.1))
                        have hX_x := hlk_2017.1
                        have hX_k := hlk_2017.2.1
                        have hlz9 := hlk_2017.2.2.1
                        have hPc := hP.part (X := [(h0, .inr (13, [.ref hc, v14_1, v14_2, v14_3, v14_4, v14_5, v14_6, v14_7, v14_8, v14_9, .ref q_v, .ref q_1411, .ref q_1412])), (q_1411, .inl (cA_1411, 1002, .inl (fun j : Nat => zI (w242_1411 (j : Int))))), (q_1412, .inl (cA_1412, 1002, .inl (fun j : Nat => zI (w33_1412 (j : Int))))), (q_v, .inl (cV, nv, .inr (.inr (.inr (.inr fv))))), (hc, .inr (12, [v13_0, v13_1, v13_2, v13_3, v13_4, .ref la, v13_6]))]) (cx := []) (pl := va_pl L (pE P)) [] rfl
                        have hDc := hD.part (X := [(h0, .inr (13, [.ref hc, v14_1, v14_2, v14_3, v14_4, v14_5, v14_6, v14_7, v14_8, v14_9, .ref q_v, .ref q_1411, .ref q_1412])), (q_1411, .inl (cA_1411, 1002, .inl (fun j : Nat => zI (w242_1411 (j : Int))))), (q_1412, .inl (cA_1412, 1002, .inl (fun j : Nat => zI (w33_1412 (j : Int))))), (q_v, .inl (cV, nv, .inr (.inr (.inr (.inr fv))))), (hc, .inr (12, [v13_0, v13_1, v13_2, v13_3, v13_4, .ref la, v13_6]))]) (cx := []) (pl := va_pl L (pE P)) [] (by decide) rfl
                        have hKc := hK.sub (tys' := [(cO, .object "java/lang/Object")]) [5] rfl
                        have hFc := va_freeP (X := [(h0, .inr (13, [.ref hc, v14_1, v14_2, v14_3, v14_4, v14_5, v14_6, v14_7, v14_8, v14_9, .ref q_v, .ref q_1411, .ref q_1412])), (q_1411, .inl (cA_1411, 1002, .inl (fun j : Nat => zI (w242_1411 (j : Int))))), (q_1412, .inl (cA_1412, 1002, .inl (fun j : Nat => zI (w33_1412 (j : Int))))), (q_v, .inl (cV, nv, .inr (.inr (.inr (.inr fv))))), (hc, .inr (12, [v13_0, v13_1, v13_2, v13_3, v13_4, .ref la, v13_6]))]) (cx := []) (pl := va_pl L (pE P)) hD hS hA [] rfl
                        refine va_calli (va_runV (As := []) (rest := [.int (zI (d242_5))]) ⟨hx, hb, hml, hown, hts⟩ (c_PL_size l dC dI cO L P pr_2015 hX_x hX_k (by omega) H.size) (cwV 0 hts g_P14_behind_PL_size rfl rfl rfl (by decide +kernel) ⟨(Nat.le_of_ble_eq_true rfl), (Nat.le_of_ble_eq_true rfl)⟩) ⟨fun a U g mk q => by obtain ⟨q0, q1, qP, qK, qD⟩ := q; exact ⟨q0, q1, qP, va_K.moved (u := U) (U := U.calling g mk a) (Vm.Alike.refl U.vm) qK, qD⟩, recv_30 hKc hPc hlk_2016.1 hlk_2016.2.1, fun U hU hW => ⟨rfl, by rw [hU], by rw [hU]; exact hPc, va_K.moved hW.alike hKc, hDc.weaken (fun _ _ _ _ => trivial)⟩⟩ rfl rfl hl.1 rfl (lv_room (Nat.le_of_ble_eq_true rfl)) dX14_behind_249 ⟨(Nat.le_of_ble_eq_true rfl), (Nat.le_of_ble_eq_true rfl)⟩) hS (fun q _ h => hFc q h) hFc (fun r_2018 u t H1 locs ht hvm hw hB hz1 hk1 hS => ?_)
                        obtain ⟨hP1, hK1, hD1⟩ := hB
                        rw [ht] at hP1
                        have hK1 := va_K.moved hvm.symm hK1
                        obtain ⟨hP, hD⟩ := va_joinP (X := [(h0, .inr (13, [.ref hc, v14_1, v14_2, v14_3, v14_4, v14_5, v14_6, v14_7, v14_8, v14_9, .ref q_v, .ref q_1411, .ref q_1412])), (q_1411, .inl (cA_1411, 1002, .inl (fun j : Nat => zI (w242_1411 (j : Int))))), (q_1412, .inl (cA_1412, 1002, .inl (fun j : Nat => zI (w33_1412 (j : Int))))), (q_v, .inl (cV, nv, .inr (.inr (.inr (.inr fv))))), (hc, .inr (12, [v13_0, v13_1, v13_2, v13_3, v13_4, .ref la, v13_6]))]) (cx := []) (wr := [(h0, .inr (13, [.ref hc, v14_1, v14_2, v14_3, v14_4, v14_5, v14_6, v14_7, v14_8, v14_9, .ref q_v, .ref q_1411, .ref q_1412])), (q_1411, .inl (cA_1411, 1002, .inl (fun j : Nat => zI (w242_1411 (j : Int))))), (q_1412, .inl (cA_1412, 1002, .inl (fun j : Nat => zI (w33_1412 (j : Int))))), (q_v, .inl (cV, nv, .inr (.inr (.inr (.inr fv))))), (hc, .inr (12, [v13_0, v13_1, v13_2, v13_3, v13_4, .ref la, v13_6]))]) (rx := []) (pl := va_pl L (pE P)) (pl1 := va_pl L (pE P)) hP hD [] [0, 1, 2, 3, 4] rfl rfl (by decide) (by decide) hk1 hFc hP1 hD1
                        have hK := (hK.sub (tys' := [(cA_1411, .boolean), (cA_1412, .boolean), (cV, .array .boolean), (cI, .int), (cZ, .boolean)]) [0, 1, 2, 3, 4] rfl).app hK1
                        generalize H1 = H at hP hS ⊢
                        have hP : va_P (dC, dI) vwQ ([(h0, .inr (13, [.ref hc, v14_1, v14_2, v14_3, v14_4, v14_5, v14_6, v14_7, v14_8, v14_9, .ref q_v, .ref q_1411, .ref q_1412])), (q_1411, .inl (cA_1411, 1002, .inl (fun j : Nat => zI (w242_1411 (j : Int))))), (q_1412, .inl (cA_1412, 1002, .inl (fun j : Nat => zI (w33_1412 (j : Int))))), (q_v, .inl (cV, nv, .inr (.inr (.inr (.inr fv))))), (hc, .inr (12, [v13_0, v13_1, v13_2, v13_3, v13_4, .ref la, v13_6]))] ++ va_pl L (pE P)) H := hP
                        have hD : va_D A ([(h0, .inr (13, [.ref hc, v14_1, v14_2, v14_3, v14_4, v14_5, v14_6, v14_7, v14_8, v14_9, .ref q_v, .ref q_1411, .ref q_1412])), (q_1411, .inl (cA_1411, 1002, .inl (fun j : Nat => zI (w242_1411 (j : Int))))), (q_1412, .inl (cA_1412, 1002, .inl (fun j : Nat => zI (w33_1412 (j : Int))))), (q_v, .inl (cV, nv, .inr (.inr (.inr (.inr fv))))), (hc, .inr (12, [v13_0, v13_1, v13_2, v13_3, v13_4, .ref la, v13_6]))] ++ va_pl L (pE P)) := hD
                        have hK : va_K (dC, dI) vwQ [(cA_1411, .boolean), (cA_1412, .boolean), (cV, .array .boolean), (cI, .int), (cZ, .boolean), (cO, .object "java/lang/Object")] s := hK
                        refine W.widen (k := 0) (n := 0) (Nat.le_of_ble_eq_true rfl) (Nat.le_of_ble_eq_true rfl) ?_
                        obtain rfl : r_2018 = (zI (P.lz pr_2015)) := hw
                        refine lv_icmp_ge (tgt := 314) hx hb dX14_behind_252 (by decide) (fun b252 => ?_) (fun b252 => ?_)
                        · have yb252 : (P.lz pr_2015 : Int) ≤ (d242_5 : Int) := (zI_le (a := P.lz pr_2015) (b := d242_5) (by omega) (by omega) (by omega) (by omega)).mp b252
                          refine lv_iinc (v := zI (d217_3 + 1)) (lv' := [(3, .int (zI (d217_3 + 1))), (0, .ref h0), (1, .int (zI (b0))), (2, .ref xb_2002), (4, .ref xb_2010), (5, .int (zI (d242_5)))]) hx hb dX14_behind_314 hl (k := 3) rfl (zI_add (d217_3) (1)) (by decide) rfl (fun ls hl => ?_)
                          refine lv_goto (tgt := 217) hx hb dX14_behind_317 (by decide) ?_
                          exact ih217 (d217_3 + 1) w242_1411 ls H _ (by omega) jw242_1411 (by omega) (lv_sub hl [1, 2, 3, 0] rfl) hP hD hS
                        · have yb252 : ¬ (P.lz pr_2015 : Int) ≤ (d242_5 : Int) := fun q => b252 ((zI_le (a := P.lz pr_2015) (b := d242_5) (by omega) (by omega) (by omega) (by omega)).mpr q)
                          refine lv_aload hx hb dX14_behind_255 (lv_at hl 4 rfl) ?_
                          obtain ⟨kp_2019, hkp_2019⟩ := va_pl_get (X := [(h0, .inr (13, [.ref hc, v14_1, v14_2, v14_3, v14_4, v14_5, v14_6, v14_7, v14_8, v14_9, .ref q_v, .ref q_1411, .ref q_1412])), (q_1411, .inl (cA_1411, 1002, .inl (fun j : Nat => zI (w242_1411 (j : Int))))), (q_1412, .inl (cA_1412, 1002, .inl (fun j : Nat => zI (w33_1412 (j : Int))))), (q_v, .inl (cV, nv, .inr (.inr (.inr (.inr fv))))), (hc, .inr (12, [v13_0, v13_1, v13_2, v13_3, v13_4, .ref la, v13_6]))]) (f := pE P) hB_2012.1.1
                          rw [pE_block hB_2012.1.2] at hkp_2019
                          refine va_get (D := (dC, dI)) (ci := 19) (v := .ref (P.bp xb_2010)) (C := RX12) (T := TX12) (N := 5) hx hb hts mem_P14_behind_4 hown hK hP kp_2019 hkp_2019 rfl 0 (by decide) (ow (k := 12) rfl) (fun _ h9 => h9) rfl dX14_behind_257 ?_
                          obtain ⟨pr_2020, epr_2020⟩ : ∃ q9 : Nat, q9 = P.bp xb_2010 := ⟨_, rfl⟩
                          rw [← epr_2020]
                          obtain rfl : pr_2015 = pr_2020 := (by rw [epr_2020]; exact epr_2015.symm.symm)
                          refine lv_iload hx hb dX14_behind_260 (lv_at hl 5 rfl) ?_
                          have hlk_2021 := (show LOK L P cO 15 pr_2015 from (by rw [← epr_2015.symm]; exact (hX_a9.inb hi_2011).2.2.1))
                          obtain ⟨x, ex⟩ : ∃ q9 : Nat, q9 = P.el pr_2015 (d242_5) := ⟨_, rfl⟩
                          have hX_x := hlk_2021.1
                          have hX_k := hlk_2021.2.1
                          have hq9 := hlk_2021.row (i := d242_5) (by omega) (by omega)
                          have hX_q : P.le pr_2015 ∈ L ∧ P.kd (P.le pr_2015) = 31 ∧ P.ac (P.le pr_2015) = cO := ⟨hq9.1, hq9.2.1, hq9.2.2.1⟩
                          have hq8 := hq9.2.2.2
                          have hX_e0 : P.oa (P.le pr_2015) (d242_5).toNat = some x := (by rw [ex]; exact (hlk_2021.2.2.2.2 (d242_5) (by omega) (by omega)).1)
                          have hxm : x ∈ L := (by rw [ex]; exact (hlk_2021.2.2.2.2 (d242_5) (by omega) (by omega)).2.1)
                          have hxk := (hlk_2021.2.2.2.2 (d242_5) (by omega) (by omega)).2.2
                          rw [← ex] at hxk
                          have hPc := hP.part (X := [(h0, .inr (13, [.ref hc, v14_1, v14_2, v14_3, v14_4, v14_5, v14_6, v14_7, v14_8, v14_9, .ref q_v, .ref q_1411, .ref q_1412])), (q_1411, .inl (cA_1411, 1002, .inl (fun j : Nat => zI (w242_1411 (j : Int))))), (q_1412, .inl (cA_1412, 1002, .inl (fun j : Nat => zI (w33_1412 (j : Int))))), (q_v, .inl (cV, nv, .inr (.inr (.inr (.inr fv))))), (hc, .inr (12, [v13_0, v13_1, v13_2, v13_3, v13_4, .ref la, v13_6]))]) (cx := []) (pl := va_pl L (pE P)) [] rfl
                          have hDc := hD.part (X := [(h0, .inr (13, [.ref hc, v14_1, v14_2, v14_3, v14_4, v14_5, v14_6, v14_7, v14_8, v14_9, .ref q_v, .ref q_1411, .ref q_1412])), (q_1411, .inl (cA_1411, 1002, .inl (fun j : Nat => zI (w242_1411 (j : Int))))), (q_1412, .inl (cA_1412, 1002, .inl (fun j : Nat => zI (w33_1412 (j : Int))))), (q_v, .inl (cV, nv, .inr (.inr (.inr (.inr fv))))), (hc, .inr (12, [v13_0, v13_1, v13_2, v13_3, v13_4, .ref la, v13_6]))]) (cx := []) (pl := va_pl L (pE P)) [] (by decide) rfl
                          have hKc := hK.sub (tys' := [(cO, .object "java/lang/Object")]) [5] rfl
                          have hFc := va_freeP (X := [(h0, .inr (13, [.ref hc, v14_1, v14_2, v14_3, v14_4, v14_5, v14_6, v14_7, v14_8, v14_9, .ref q_v, .ref q_1411, .ref q_1412])), (q_1411, .inl (cA_1411, 1002, .inl (fun j : Nat => zI (w242_1411 (j : Int))))), (q_1412, .inl (cA_1412, 1002, .inl (fun j : Nat => zI (w33_1412 (j : Int))))), (q_v, .inl (cV, nv, .inr (.inr (.inr (.inr fv))))), (hc, .inr (12, [v13_0, v13_1, v13_2, v13_3, v13_4, .ref la, v13_6]))]) (cx := []) (pl := va_pl L (pE P)) hD hS hA [] rfl
                          refine va_callr (va_runV (As := [.int (zI (d242_5))]) (rest := []) ⟨hx, hb, hml, hown, hts⟩ (c_PL_get l dC dI cO L P pr_2015 d242_5 x hX_x hX_k hX_q (by omega) hX_e0 H.size) (cwV 1 hts g_P14_behind_PL_get rfl rfl rfl (by decide +kernel) ⟨(Nat.le_of_ble_eq_true rfl), (Nat.le_of_ble_eq_true rfl)⟩) ⟨fun a U g mk q => by obtain ⟨q0, q1, qP, qK, qD⟩ := q; exact ⟨q0, q1, qP, va_K.moved (u := U) (U := U.calling g mk a) (Vm.Alike.refl U.vm) qK, qD⟩, recv_30 hKc hPc hlk_2016.1 hlk_2016.2.1, fun U hU hW => ⟨rfl, by rw [hU], by rw [hU]; exact hPc, va_K.moved hW.alike hKc, hDc.weaken (fun _ _ _ _ => trivial)⟩⟩ rfl rfl hl.1 rfl (lv_room (Nat.le_of_ble_eq_true rfl)) dX14_behind_262 ⟨(Nat.le_of_ble_eq_true rfl), (Nat.le_of_ble_eq_true rfl)⟩) hS (fun q _ h => hFc q h) hFc (fun u q_2022 t H1 locs ht hvm hw hB hz1 hk1 hS => ?_)
                          obtain ⟨hxt_2022, hP1, hK1, hD1⟩ := hB
                          rw [ht] at hP1
                          have hK1 := va_K.moved hvm.symm hK1
                          obtain ⟨hP, hD⟩ := va_joinP (X := [(h0, .inr (13, [.ref hc, v14_1, v14_2, v14_3, v14_4, v14_5, v14_6, v14_7, v14_8, v14_9, .ref q_v, .ref q_1411, .ref q_1412])), (q_1411, .inl (cA_1411, 1002, .inl (fun j : Nat => zI (w242_1411 (j : Int))))), (q_1412, .inl (cA_1412, 1002, .inl (fun j : Nat => zI (w33_1412 (j : Int))))), (q_v, .inl (cV, nv, .inr (.inr (.inr (.inr fv))))), (hc, .inr (12, [v13_0, v13_1, v13_2, v13_3, v13_4, .ref la, v13_6]))]) (cx := []) (wr := [(h0, .inr (13, [.ref hc, v14_1, v14_2, v14_3, v14_4, v14_5, v14_6, v14_7, v14_8, v14_9, .ref q_v, .ref q_1411, .ref q_1412])), (q_1411, .inl (cA_1411, 1002, .inl (fun j : Nat => zI (w242_1411 (j : Int))))), (q_1412, .inl (cA_1412, 1002, .inl (fun j : Nat => zI (w33_1412 (j : Int))))), (q_v, .inl (cV, nv, .inr (.inr (.inr (.inr fv))))), (hc, .inr (12, [v13_0, v13_1, v13_2, v13_3, v13_4, .ref la, v13_6]))]) (rx := []) (pl := va_pl L (pE P)) (pl1 := va_pl L (pE P)) hP hD [] [0, 1, 2, 3, 4] rfl rfl (by decide) (by decide) hk1 hFc hP1 hD1
                          have hK := (hK.sub (tys' := [(cA_1411, .boolean), (cA_1412, .boolean), (cV, .array .boolean), (cI, .int), (cZ, .boolean)]) [0, 1, 2, 3, 4] rfl).app hK1
                          generalize H1 = H at hP hS ⊢
                          have hP : va_P (dC, dI) vwQ ([(h0, .inr (13, [.ref hc, v14_1, v14_2, v14_3, v14_4, v14_5, v14_6, v14_7, v14_8, v14_9, .ref q_v, .ref q_1411, .ref q_1412])), (q_1411, .inl (cA_1411, 1002, .inl (fun j : Nat => zI (w242_1411 (j : Int))))), (q_1412, .inl (cA_1412, 1002, .inl (fun j : Nat => zI (w33_1412 (j : Int))))), (q_v, .inl (cV, nv, .inr (.inr (.inr (.inr fv))))), (hc, .inr (12, [v13_0, v13_1, v13_2, v13_3, v13_4, .ref la, v13_6]))] ++ va_pl L (pE P)) H := hP
                          have hD : va_D A ([(h0, .inr (13, [.ref hc, v14_1, v14_2, v14_3, v14_4, v14_5, v14_6, v14_7, v14_8, v14_9, .ref q_v, .ref q_1411, .ref q_1412])), (q_1411, .inl (cA_1411, 1002, .inl (fun j : Nat => zI (w242_1411 (j : Int))))), (q_1412, .inl (cA_1412, 1002, .inl (fun j : Nat => zI (w33_1412 (j : Int))))), (q_v, .inl (cV, nv, .inr (.inr (.inr (.inr fv))))), (hc, .inr (12, [v13_0, v13_1, v13_2, v13_3, v13_4, .ref la, v13_6]))] ++ va_pl L (pE P)) := hD
                          have hK : va_K (dC, dI) vwQ [(cA_1411, .boolean), (cA_1412, .boolean), (cV, .array .boolean), (cI, .int), (cZ, .boolean), (cO, .object "java/lang/Object")] s := hK
                          refine W.widen (k := 0) (n := 0) (Nat.le_of_ble_eq_true rfl) (Nat.le_of_ble_eq_true rfl) ?_
                          rw [hxt_2022]
                          clear hX_e0
                          obtain ⟨xp_2023, h9⟩ : ∃ q9 : Nat, q9 = x := ⟨_, rfl⟩
                          subst h9
                          have hm_2024 := hxm
                          have hk_2025 := hxk
                          have hpb_2026 : PRB P xp_2023 (P.lz la) := (by have q9 := hX_a9.2.2.1 xb_2010 hi_2011 (d242_5) (by omega) (by rw [epr_2015.symm]; omega); rw [epr_2015.symm, ← ex] at q9; exact q9)
                          refine va_castY (C := "SsaForgeModel$Phi") (nm := "SsaForgeModel$Phi") hx hb hown (ow (k := 20) rfl) hp1 (recv_15 hK hP hm_2024 hk_2025) dX14_behind_265 ?_
                          refine lv_astore (lv' := [(6, .ref xp_2023), (0, .ref h0), (1, .int (zI (b0))), (2, .ref xb_2002), (3, .int (zI (d217_3))), (4, .ref xb_2010), (5, .int (zI (d242_5)))]) hx hb dX14_behind_268 hl (by decide) rfl (fun ls hl => ?_)
                          refine lv_aload hx hb dX14_behind_270 (lv_at hl 0 rfl) ?_
                          refine lv_iload_n hx hb dX14_behind_272 rfl (lv_at hl 2 rfl) ?_
                          have hX_p := hX_a9.pik hm_2024 hk_2025
                          have hp9 := hX_a9.pik hm_2024 hk_2025
                          have hpn := hp9.2.2.2.2.1
                          have hpt := hp9.2.2.2.2.2.1
                          clear hp9
                          have hPc := hP.part (X := [(h0, .inr (13, [.ref hc, v14_1, v14_2, v14_3, v14_4, v14_5, v14_6, v14_7, v14_8, v14_9, .ref q_v, .ref q_1411, .ref q_1412])), (q_1411, .inl (cA_1411, 1002, .inl (fun j : Nat => zI (w242_1411 (j : Int))))), (q_1412, .inl (cA_1412, 1002, .inl (fun j : Nat => zI (w33_1412 (j : Int))))), (q_v, .inl (cV, nv, .inr (.inr (.inr (.inr fv))))), (hc, .inr (12, [v13_0, v13_1, v13_2, v13_3, v13_4, .ref la, v13_6]))]) (cx := []) (pl := va_pl L (pE P)) [] rfl
                          have hDc := hD.part (X := [(h0, .inr (13, [.ref hc, v14_1, v14_2, v14_3, v14_4, v14_5, v14_6, v14_7, v14_8, v14_9, .ref q_v, .ref q_1411, .ref q_1412])), (q_1411, .inl (cA_1411, 1002, .inl (fun j : Nat => zI (w242_1411 (j : Int))))), (q_1412, .inl (cA_1412, 1002, .inl (fun j : Nat => zI (w33_1412 (j : Int))))), (q_v, .inl (cV, nv, .inr (.inr (.inr (.inr fv))))), (hc, .inr (12, [v13_0, v13_1, v13_2, v13_3, v13_4, .ref la, v13_6]))]) (cx := []) (pl := va_pl L (pE P)) [] (by decide) rfl
                          have hKc := hK.sub (tys' := [(cO, .object "java/lang/Object"), (cI, .int), (cZ, .boolean)]) [5, 3, 4] rfl
                          have hFc := va_freeP (X := [(h0, .inr (13, [.ref hc, v14_1, v14_2, v14_3, v14_4, v14_5, v14_6, v14_7, v14_8, v14_9, .ref q_v, .ref q_1411, .ref q_1412])), (q_1411, .inl (cA_1411, 1002, .inl (fun j : Nat => zI (w242_1411 (j : Int))))), (q_1412, .inl (cA_1412, 1002, .inl (fun j : Nat => zI (w33_1412 (j : Int))))), (q_v, .inl (cV, nv, .inr (.inr (.inr (.inr fv))))), (hc, .inr (12, [v13_0, v13_1, v13_2, v13_3, v13_4, .ref la, v13_6]))]) (cx := []) (pl := va_pl L (pE P)) hD hS hA [] rfl
                          refine va_calli (va_runV (As := [.int (zI (b0))]) (rest := []) ⟨hx, hb, hml, hown, hts⟩ (c_PP_place l dC dI cO cI cZ L P xp_2023 b0 hX_p (by omega) H.size) (cwV 1 hts g_P14_behind_PP_place rfl rfl rfl (by decide +kernel) ⟨(Nat.le_of_ble_eq_true rfl), (Nat.le_of_ble_eq_true rfl)⟩) ⟨fun a U g mk q => by obtain ⟨q0, q1, qP, qK, qD⟩ := q; exact ⟨q0, q1, qP, va_K.moved (u := U) (U := U.calling g mk a) (Vm.Alike.refl U.vm) qK, qD⟩, recv_15 hKc hPc hm_2024 hk_2025, fun U hU hW => ⟨rfl, by rw [hU], by rw [hU]; exact hPc, va_K.moved hW.alike hKc, hDc.weaken (fun _ _ _ _ => trivial)⟩⟩ rfl rfl hl.1 rfl (lv_room (Nat.le_of_ble_eq_true rfl)) dX14_behind_273 ⟨(Nat.le_of_ble_eq_true rfl), (Nat.le_of_ble_eq_true rfl)⟩) hS (fun q _ h => hFc q h) hFc (fun r_2027 u t H1 locs ht hvm hw hB hz1 hk1 hS => ?_)
                          obtain ⟨hP1, hK1, hD1⟩ := hB
                          rw [ht] at hP1
                          have hK1 := va_K.moved hvm.symm hK1
                          obtain ⟨hP, hD⟩ := va_joinP (X := [(h0, .inr (13, [.ref hc, v14_1, v14_2, v14_3, v14_4, v14_5, v14_6, v14_7, v14_8, v14_9, .ref q_v, .ref q_1411, .ref q_1412])), (q_1411, .inl (cA_1411, 1002, .inl (fun j : Nat => zI (w242_1411 (j : Int))))), (q_1412, .inl (cA_1412, 1002, .inl (fun j : Nat => zI (w33_1412 (j : Int))))), (q_v, .inl (cV, nv, .inr (.inr (.inr (.inr fv))))), (hc, .inr (12, [v13_0, v13_1, v13_2, v13_3, v13_4, .ref la, v13_6]))]) (cx := []) (wr := [(h0, .inr (13, [.ref hc, v14_1, v14_2, v14_3, v14_4, v14_5, v14_6, v14_7, v14_8, v14_9, .ref q_v, .ref q_1411, .ref q_1412])), (q_1411, .inl (cA_1411, 1002, .inl (fun j : Nat => zI (w242_1411 (j : Int))))), (q_1412, .inl (cA_1412, 1002, .inl (fun j : Nat => zI (w33_1412 (j : Int))))), (q_v, .inl (cV, nv, .inr (.inr (.inr (.inr fv))))), (hc, .inr (12, [v13_0, v13_1, v13_2, v13_3, v13_4, .ref la, v13_6]))]) (rx := []) (pl := va_pl L (pE P)) (pl1 := va_pl L (pE P)) hP hD [] [0, 1, 2, 3, 4] rfl rfl (by decide) (by decide) hk1 hFc hP1 hD1
                          have hK := (hK.sub (tys' := [(cA_1411, .boolean), (cA_1412, .boolean), (cV, .array .boolean)]) [0, 1, 2] rfl).app hK1
                          generalize H1 = H at hP hS ⊢
                          have hP : va_P (dC, dI) vwQ ([(h0, .inr (13, [.ref hc, v14_1, v14_2, v14_3, v14_4, v14_5, v14_6, v14_7, v14_8, v14_9, .ref q_v, .ref q_1411, .ref q_1412])), (q_1411, .inl (cA_1411, 1002, .inl (fun j : Nat => zI (w242_1411 (j : Int))))), (q_1412, .inl (cA_1412, 1002, .inl (fun j : Nat => zI (w33_1412 (j : Int))))), (q_v, .inl (cV, nv, .inr (.inr (.inr (.inr fv))))), (hc, .inr (12, [v13_0, v13_1, v13_2, v13_3, v13_4, .ref la, v13_6]))] ++ va_pl L (pE P)) H := hP
                          have hD : va_D A ([(h0, .inr (13, [.ref hc, v14_1, v14_2, v14_3, v14_4, v14_5, v14_6, v14_7, v14_8, v14_9, .ref q_v, .ref q_1411, .ref q_1412])), (q_1411, .inl (cA_1411, 1002, .inl (fun j : Nat => zI (w242_1411 (j : Int))))), (q_1412, .inl (cA_1412, 1002, .inl (fun j : Nat => zI (w33_1412 (j : Int))))), (q_v, .inl (cV, nv, .inr (.inr (.inr (.inr fv))))), (hc, .inr (12, [v13_0, v13_1, v13_2, v13_3, v13_4, .ref la, v13_6]))] ++ va_pl L (pE P)) := hD
                          have hK : va_K (dC, dI) vwQ [(cA_1411, .boolean), (cA_1412, .boolean), (cV, .array .boolean), (cO, .object "java/lang/Object"), (cI, .int), (cZ, .boolean)] s := hK
                          refine W.widen (k := 0) (n := 0) (Nat.le_of_ble_eq_true rfl) (Nat.le_of_ble_eq_true rfl) ?_
                          have hw_2028 := hw
                          obtain ⟨z_2029, rfl, hzz_2029⟩ := hw_2028
                          refine lv_istore (lv' := [(7, .int (zI (z_2029))), (6, .ref xp_2023), (0, .ref h0), (1, .int (zI (b0))), (2, .ref xb_2002), (3, .int (zI (d217_3))), (4, .ref xb_2010), (5, .int (zI (d242_5)))]) hx hb dX14_behind_276 hl (by decide) rfl (fun ls hl => ?_)
                          refine lv_iload hx hb dX14_behind_278 (lv_at hl 0 rfl) ?_
                          refine lv_if_lt (tgt := 308) hx hb dX14_behind_280 (by decide) (fun b280 => ?_) (fun b280 => ?_)
                          · have yb280 : (z_2029 : Int) < (0 : Int) := (zI_lt (a := z_2029) (b := 0) (by omega) (by omega) (by omega) (by omega)).mp b280
                            refine lv_iinc (v := zI (d242_5 + 1)) (lv' := [(5, .int (zI (d242_5 + 1))), (7, .int (zI (z_2029))), (6, .ref xp_2023), (0, .ref h0), (1, .int (zI (b0))), (2, .ref xb_2002), (3, .int (zI (d217_3))), (4, .ref xb_2010)]) hx hb dX14_behind_308 hl (k := 7) rfl (zI_add (d242_5) (1)) (by decide) rfl (fun ls hl => ?_)
                            refine lv_goto (tgt := 242) hx hb dX14_behind_311 (by decide) ?_
                            exact ih242 (d242_5 + 1) w242_1411 ls H _ (by omega) jw242_1411 (by omega) (lv_sub hl [3, 4, 5, 6, 7, 0] rfl) hP hD hS
                          · have yb280 : ¬ (z_2029 : Int) < (0 : Int) := fun q => b280 ((zI_lt (a := z_2029) (b := 0) (by omega) (by omega) (by omega) (by omega)).mpr q)
                            refine lv_aload hx hb dX14_behind_283 (lv_at hl 1 rfl) ?_
                            obtain ⟨kp_2030, hkp_2030⟩ := va_pl_get (X := [(h0, .inr (13, [.ref hc, v14_1, v14_2, v14_3, v14_4, v14_5, v14_6, v14_7, v14_8, v14_9, .ref q_v, .ref q_1411, .ref q_1412])), (q_1411, .inl (cA_1411, 1002, .inl (fun j : Nat => zI (w242_1411 (j : Int))))), (q_1412, .inl (cA_1412, 1002, .inl (fun j : Nat => zI (w33_1412 (j : Int))))), (q_v, .inl (cV, nv, .inr (.inr (.inr (.inr fv))))), (hc, .inr (12, [v13_0, v13_1, v13_2, v13_3, v13_4, .ref la, v13_6]))]) (f := pE P) hm_2024
                            rw [pE_phi hk_2025] at hkp_2030
                            refine va_get (D := (dC, dI)) (ci := 20) (v := .ref (P.pr xp_2023)) (C := RX15) (T := TX15) (N := 6) hx hb hts mem_P14_behind_8 hown hK hP kp_2030 hkp_2030 rfl 4 (by decide) (ow (k := 25) rfl) (fun _ h9 => h9) rfl dX14_behind_285 ?_
                            obtain ⟨pr_2031, epr_2031⟩ : ∃ q9 : Nat, q9 = P.pr xp_2023 := ⟨_, rfl⟩
                            rw [← epr_2031]
                            have hpk_2032 := hX_a9.pik hm_2024 hk_2025
                            have hopr_2031 : pr_2031 ∈ L ∧ P.kd pr_2031 = 42 ∧ P.ac pr_2031 = cZ ∧ P.ow pr_2031 = xp_2023 := (by rw [epr_2031]; exact hpk_2032.2.2.2.1)
                            have hnpr_2031 : P.an pr_2031 = P.an (P.pr xp_2023) := (by rw [epr_2031])
                            have hipr_2031 : P.ia pr_2031 = P.ia (P.pr xp_2023) := (by rw [epr_2031])
                            refine lv_iload hx hb dX14_behind_288 (lv_at hl 0 rfl) ?_
                            obtain ⟨kp_2033, hkp_2033⟩ := va_pl_get (X := [(h0, .inr (13, [.ref hc, v14_1, v14_2, v14_3, v14_4, v14_5, v14_6, v14_7, v14_8, v14_9, .ref q_v, .ref q_1411, .ref q_1412])), (q_1411, .inl (cA_1411, 1002, .inl (fun j : Nat => zI (w242_1411 (j : Int))))), (q_1412, .inl (cA_1412, 1002, .inl (fun j : Nat => zI (w33_1412 (j : Int))))), (q_v, .inl (cV, nv, .inr (.inr (.inr (.inr fv))))), (hc, .inr (12, [v13_0, v13_1, v13_2, v13_3, v13_4, .ref la, v13_6]))]) (f := pE P) hopr_2031.1
                            rw [pE_n42 hopr_2031.2.1, hopr_2031.2.2.1] at hkp_2033
                            refine va_zald hx hb hK hP kp_2033 5 hkp_2033 rfl (zI_in (a := z_2029) (n := P.an pr_2031) (by omega) (by omega) (by omega)) dX14_behind_290 ?_
                            refine lv_topi (fun z ez => ?_)
                            obtain rfl : z = zI (P.ia pr_2031 (z_2029)) := ez.trans (zI_ld (P.ia pr_2031) (by omega) (by omega))
                            have hef9 := hpk_2032.ef (i := z_2029) (by omega) (by omega)
                            unfold PEF EF at hef9
                            have : P.ia pr_2031 (z_2029) = P.ia (P.pr xp_2023) (z_2029) := (by rw [hipr_2031])
                            refine lv_if_eq (tgt := 308) hx hb dX14_behind_291 (by decide) (fun b291 => ?_) (fun b291 => ?_)
                            · have yb291 : (P.ia pr_2031 (z_2029) : Int) = (0 : Int) := (zI_eq (a := P.ia pr_2031 (z_2029)) (b := 0) (by omega) (by omega) (by omega) (by omega)).mp b291
                              refine lv_iinc (v := zI (d242_5 + 1)) (lv' := [(5, .int (zI (d242_5 + 1))), (7, .int (zI (z_2029))), (6, .ref xp_2023), (0, .ref h0), (1, .int (zI (b0))), (2, .ref xb_2002), (3, .int (zI (d217_3))), (4, .ref xb_2010)]) hx hb dX14_behind_308 hl (k := 7) rfl (zI_add (d242_5) (1)) (by decide) rfl (fun ls hl => ?_)
                              refine lv_goto (tgt := 242) hx hb dX14_behind_311 (by decide) ?_
                              exact ih242 (d242_5 + 1) w242_1411 ls H _ (by omega) jw242_1411 (by omega) (lv_sub hl [3, 4, 5, 6, 7, 0] rfl) hP hD hS
                            · have yb291 : ¬ (P.ia pr_2031 (z_2029) : Int) = (0 : Int) := fun q => b291 ((zI_eq (a := P.ia pr_2031 (z_2029)) (b := 0) (by omega) (by omega) (by omega) (by omega)).mpr q)
                              refine lv_aload_n hx hb dX14_behind_294 rfl (lv_at hl 2 rfl) ?_
                              refine va_get (D := (dC, dI)) (ci := 13) (v := .ref q_1411) (C := RX14) (T := TX14) (N := 13) hx hb hts mem_P14_behind_0 hown hK hP 0 rfl rfl 11 (by decide) (ow (k := 26) rfl) (fun _ h9 => h9) rfl dX14_behind_295 ?_
                              refine lv_aload hx hb dX14_behind_298 (lv_at hl 1 rfl) ?_
                              obtain ⟨kp_2034, hkp_2034⟩ := va_pl_get (X := [(h0, .inr (13, [.ref hc, v14_1, v14_2, v14_3, v14_4, v14_5, v14_6, v14_7, v14_8, v14_9, .ref q_v, .ref q_1411, .ref q_1412])), (q_1411, .inl (cA_1411, 1002, .inl (fun j : Nat => zI (w242_1411 (j : Int))))), (q_1412, .inl (cA_1412, 1002, .inl (fun j : Nat => zI (w33_1412 (j : Int))))), (q_v, .inl (cV, nv, .inr (.inr (.inr (.inr fv))))), (hc, .inr (12, [v13_0, v13_1, v13_2, v13_3, v13_4, .ref la, v13_6]))]) (f := pE P) hm_2024
                              rw [pE_phi hk_2025] at hkp_2034
                              refine va_get (D := (dC, dI)) (ci := 20) (v := .ref (P.pu xp_2023)) (C := RX15) (T := TX15) (N := 6) hx hb hts mem_P14_behind_8 hown hK hP kp_2034 hkp_2034 rfl 3 (by decide) (ow (k := 27) rfl) (fun _ h9 => h9) rfl dX14_behind_300 ?_
                              obtain ⟨pr_2035, epr_2035⟩ : ∃ q9 : Nat, q9 = P.pu xp_2023 := ⟨_, rfl⟩
                              rw [← epr_2035]
                              have hpk_2036 := hX_a9.pik hm_2024 hk_2025
                              have hopr_2035 : pr_2035 ∈ L ∧ P.kd pr_2035 = 41 ∧ P.ac pr_2035 = cI ∧ P.ow pr_2035 = xp_2023 := (by rw [epr_2035]; exact hpk_2036.2.2.1)
                              have hnpr_2035 : P.an pr_2035 = P.an (P.pu xp_2023) := (by rw [epr_2035])
                              have hipr_2035 : P.ia pr_2035 = P.ia (P.pu xp_2023) := (by rw [epr_2035])
                              refine lv_iload hx hb dX14_behind_303 (lv_at hl 0 rfl) ?_
                              obtain ⟨kp_2037, hkp_2037⟩ := va_pl_get (X := [(h0, .inr (13, [.ref hc, v14_1, v14_2, v14_3, v14_4, v14_5, v14_6, v14_7, v14_8, v14_9, .ref q_v, .ref q_1411, .ref q_1412])), (q_1411, .inl (cA_1411, 1002, .inl (fun j : Nat => zI (w242_1411 (j : Int))))), (q_1412, .inl (cA_1412, 1002, .inl (fun j : Nat => zI (w33_1412 (j : Int))))), (q_v, .inl (cV, nv, .inr (.inr (.inr (.inr fv))))), (hc, .inr (12, [v13_0, v13_1, v13_2, v13_3, v13_4, .ref la, v13_6]))]) (f := pE P) hopr_2035.1
                              rw [pE_n41 hopr_2035.2.1, hopr_2035.2.2.1] at hkp_2037
                              refine va_iald hx hb hK hP kp_2037 4 hkp_2037 rfl (zI_in (a := z_2029) (n := P.an pr_2035) (by omega) (by omega) (by omega)) dX14_behind_305 ?_
                              refine lv_topi (fun z ez => ?_)
                              obtain rfl : z = zI (P.ia pr_2035 (z_2029)) := ez.trans (zI_ld (P.ia pr_2035) (by omega) (by omega))
                              have hef9 := hpk_2036.ef (i := z_2029) (by omega) (by omega)
                              unfold PEF EF at hef9
                              have : P.ia pr_2035 (z_2029) = P.ia (P.pu xp_2023) (z_2029) := (by rw [hipr_2035])
                              refine lv_iconst (v := 1) hx hb dX14_behind_306 (by decide) ?_
                              refine va_zast (i := zI (P.ia pr_2035 (z_2029))) hx hb hK hP hD hS 1 0 rfl rfl (zI_in (a := P.ia pr_2035 (z_2029)) (n := 1002) (by omega) (by omega) (by decide)) dX14_behind_307 (fun H locs hP hD hS => ?_)
                              rw [show vp_nar .boolean 1 = 1 from zI_nar (a := 1) (by omega) (by omega)] at hP hD
                              have eQ : upd (fun j : Nat => zI (w242_1411 (j : Int))) (zI (P.ia pr_2035 (z_2029))).toNatClampNeg 1 = (fun j : Nat => zI (zup w242_1411 (P.ia pr_2035 (z_2029)) (1) (j : Int))) := zI_st w242_1411 (e := P.ia pr_2035 (z_2029)) (v := 1) (by omega) (by omega)
                              rw [eQ] at hP hD
                              clear eQ
                              have ra_2038 : ∀ j : Int, 0 ≤ zup w242_1411 (P.ia pr_2035 (z_2029)) (1) j ∧ zup w242_1411 (P.ia pr_2035 (z_2029)) (1) j ≤ 1 := zup_P (P := fun x9 => 0 ≤ x9 ∧ x9 ≤ 1) jw242_1411 (show 0 ≤ (1) ∧ (1) ≤ 1 by omega)
                              generalize zup w242_1411 (P.ia pr_2035 (z_2029)) (1) = a_2038 at hP hD ra_2038
                              have hP : va_P (dC, dI) vwQ ([(h0, .inr (13, [.ref hc, v14_1, v14_2, v14_3, v14_4, v14_5, v14_6, v14_7, v14_8, v14_9, .ref q_v, .ref q_1411, .ref q_1412])), (q_1411, .inl (cA_1411, 1002, .inl (fun j : Nat => zI (a_2038 (j : Int))))), (q_1412, .inl (cA_1412, 1002, .inl (fun j : Nat => zI (w33_1412 (j : Int))))), (q_v, .inl (cV, nv, .inr (.inr (.inr (.inr fv))))), (hc, .inr (12, [v13_0, v13_1, v13_2, v13_3, v13_4, .ref la, v13_6]))] ++ va_pl L (pE P)) H := hP
                              have hD : va_D A ([(h0, .inr (13, [.ref hc, v14_1, v14_2, v14_3, v14_4, v14_5, v14_6, v14_7, v14_8, v14_9, .ref q_v, .ref q_1411, .ref q_1412])), (q_1411, .inl (cA_1411, 1002, .inl (fun j : Nat => zI (a_2038 (j : Int))))), (q_1412, .inl (cA_1412, 1002, .inl (fun j : Nat => zI (w33_1412 (j : Int))))), (q_v, .inl (cV, nv, .inr (.inr (.inr (.inr fv))))), (hc, .inr (12, [v13_0, v13_1, v13_2, v13_3, v13_4, .ref la, v13_6]))] ++ va_pl L (pE P)) := hD
                              refine lv_iinc (v := zI (d242_5 + 1)) (lv' := [(5, .int (zI (d242_5 + 1))), (7, .int (zI (z_2029))), (6, .ref xp_2023), (0, .ref h0), (1, .int (zI (b0))), (2, .ref xb_2002), (3, .int (zI (d217_3))), (4, .ref xb_2010)]) hx hb dX14_behind_308 hl (k := 7) rfl (zI_add (d242_5) (1)) (by decide) rfl (fun ls hl => ?_)
                              refine lv_goto (tgt := 242) hx hb dX14_behind_311 (by decide) ?_
                              exact ih242 (d242_5 + 1) a_2038 ls H _ (by omega) ra_2038 (by omega) (lv_sub hl [3, 4, 5, 6, 7, 0] rfl) hP hD hS
                    exact key242 ((50000 - 0 : Int).toNat + 1) 0 w217_1411 ls H _ (by omega) jw217_1411 (by omega) (lv_sub hl [2, 3, 4, 5, 1, 0] rfl) hP hD hS
              exact key217 ((10 - 0 : Int).toNat + 1) 0 w33_1411 ls H _ (by omega) jw33_1411 (by omega) (lv_sub hl [1, 2, 3, 0] rfl) hP hD hS
            · have yb38 : ¬ (rWays (P.ro (P.be xb_2002)) (P.bf xb_2002) (P.bs xb_2002) : Int) ≤ (d33_3 : Int) := fun q => b38 ((zI_le (a := rWays (P.ro (P.be xb_2002)) (P.bf xb_2002) (P.bs xb_2002)) (b := d33_3) (by omega) (by omega) (by omega) (by omega)).mpr q)
              refine lv_aload_n hx hb dX14_behind_41 rfl (lv_at hl 2 rfl) ?_
              refine lv_iload_n hx hb dX14_behind_42 rfl (lv_at hl 3 rfl) ?_
              have hX_ro := hX_a9.1.1.2.2.2
              obtain ⟨nb, enb⟩ : ∃ q9 : Int, q9 = P.lz la := ⟨_, rfl⟩
              have hX_B : BOK L P cO nb xb_2002 := (by rw [enb]; exact (hX_a9.inb hi_2003))
              obtain ⟨xb, exb⟩ : ∃ q9 : Nat, q9 = xb_2002 := ⟨_, rfl⟩
              have hPc := hP.part (X := [(h0, .inr (13, [.ref hc, v14_1, v14_2, v14_3, v14_4, v14_5, v14_6, v14_7, v14_8, v14_9, .ref q_v, .ref q_1411, .ref q_1412])), (q_1411, .inl (cA_1411, 1002, .inl (fun j : Nat => zI (w33_1411 (j : Int))))), (q_1412, .inl (cA_1412, 1002, .inl (fun j : Nat => zI (w33_1412 (j : Int))))), (q_v, .inl (cV, nv, .inr (.inr (.inr (.inr fv))))), (hc, .inr (12, [v13_0, v13_1, v13_2, v13_3, v13_4, .ref la, v13_6]))]) (cx := []) (pl := va_pl L (pE P)) [] rfl
              have hDc := hD.part (X := [(h0, .inr (13, [.ref hc, v14_1, v14_2, v14_3, v14_4, v14_5, v14_6, v14_7, v14_8, v14_9, .ref q_v, .ref q_1411, .ref q_1412])), (q_1411, .inl (cA_1411, 1002, .inl (fun j : Nat => zI (w33_1411 (j : Int))))), (q_1412, .inl (cA_1412, 1002, .inl (fun j : Nat => zI (w33_1412 (j : Int))))), (q_v, .inl (cV, nv, .inr (.inr (.inr (.inr fv))))), (hc, .inr (12, [v13_0, v13_1, v13_2, v13_3, v13_4, .ref la, v13_6]))]) (cx := []) (pl := va_pl L (pE P)) [] (by decide) rfl
              have hKc := hK.sub (tys' := [(cO, .object "java/lang/Object")]) [5] rfl
              have hFc := va_freeP (X := [(h0, .inr (13, [.ref hc, v14_1, v14_2, v14_3, v14_4, v14_5, v14_6, v14_7, v14_8, v14_9, .ref q_v, .ref q_1411, .ref q_1412])), (q_1411, .inl (cA_1411, 1002, .inl (fun j : Nat => zI (w33_1411 (j : Int))))), (q_1412, .inl (cA_1412, 1002, .inl (fun j : Nat => zI (w33_1412 (j : Int))))), (q_v, .inl (cV, nv, .inr (.inr (.inr (.inr fv))))), (hc, .inr (12, [v13_0, v13_1, v13_2, v13_3, v13_4, .ref la, v13_6]))]) (cx := []) (pl := va_pl L (pE P)) hD hS hA [] rfl
              refine va_calli (va_runV (As := [.int (zI (d33_3))]) (rest := []) ⟨hx, hb, hml, hown, hts⟩ (c_PB_way l dC dI cO L P xb_2002 nb d33_3 hX_B (by omega) H.size) (cwV 1 hts g_P14_behind_PB_way rfl rfl rfl (by decide +kernel) ⟨(Nat.le_of_ble_eq_true rfl), (Nat.le_of_ble_eq_true rfl)⟩) ⟨fun a U g mk q => by obtain ⟨q0, q1, qP, qK, qD⟩ := q; exact ⟨q0, q1, qP, va_K.moved (u := U) (U := U.calling g mk a) (Vm.Alike.refl U.vm) qK, qD⟩, recv_12 hKc hPc hB_2004.1.1 hB_2004.1.2, fun U hU hW => ⟨rfl, by rw [hU], by rw [hU]; exact hPc, va_K.moved hW.alike hKc, hDc.weaken (fun _ _ _ _ => trivial)⟩⟩ rfl rfl hl.1 rfl (lv_room (Nat.le_of_ble_eq_true rfl)) dX14_behind_43 ⟨(Nat.le_of_ble_eq_true rfl), (Nat.le_of_ble_eq_true rfl)⟩) hS (fun q _ h => hFc q h) hFc (fun r_2039 u t H1 locs ht hvm hw hB hz1 hk1 hS => ?_)
              obtain ⟨hP1, hK1, hD1⟩ := hB
              rw [ht] at hP1
              have hK1 := va_K.moved hvm.symm hK1
              obtain ⟨hP, hD⟩ := va_joinP (X := [(h0, .inr (13, [.ref hc, v14_1, v14_2, v14_3, v14_4, v14_5, v14_6, v14_7, v14_8, v14_9, .ref q_v, .ref q_1411, .ref q_1412])), (q_1411, .inl (cA_1411, 1002, .inl (fun j : Nat => zI (w33_1411 (j : Int))))), (q_1412, .inl (cA_1412, 1002, .inl (fun j : Nat => zI (w33_1412 (j : Int))))), (q_v, .inl (cV, nv, .inr (.inr (.inr (.inr fv))))), (hc, .inr (12, [v13_0, v13_1, v13_2, v13_3, v13_4, .ref la, v13_6]))]) (cx := []) (wr := [(h0, .inr (13, [.ref hc, v14_1, v14_2, v14_3, v14_4, v14_5, v14_6, v14_7, v14_8, v14_9, .ref q_v, .ref q_1411, .ref q_1412])), (q_1411, .inl (cA_1411, 1002, .inl (fun j : Nat => zI (w33_1411 (j : Int))))), (q_1412, .inl (cA_1412, 1002, .inl (fun j : Nat => zI (w33_1412 (j : Int))))), (q_v, .inl (cV, nv, .inr (.inr (.inr (.inr fv))))), (hc, .inr (12, [v13_0, v13_1, v13_2, v13_3, v13_4, .ref la, v13_6]))]) (rx := []) (pl := va_pl L (pE P)) (pl1 := va_pl L (pE P)) hP hD [] [0, 1, 2, 3, 4] rfl rfl (by decide) (by decide) hk1 hFc hP1 hD1
              have hK := (hK.sub (tys' := [(cA_1411, .boolean), (cA_1412, .boolean), (cV, .array .boolean), (cI, .int), (cZ, .boolean)]) [0, 1, 2, 3, 4] rfl).app hK1
              generalize H1 = H at hP hS ⊢
              have hP : va_P (dC, dI) vwQ ([(h0, .inr (13, [.ref hc, v14_1, v14_2, v14_3, v14_4, v14_5, v14_6, v14_7, v14_8, v14_9, .ref q_v, .ref q_1411, .ref q_1412])), (q_1411, .inl (cA_1411, 1002, .inl (fun j : Nat => zI (w33_1411 (j : Int))))), (q_1412, .inl (cA_1412, 1002, .inl (fun j : Nat => zI (w33_1412 (j : Int))))), (q_v, .inl (cV, nv, .inr (.inr (.inr (.inr fv))))), (hc, .inr (12, [v13_0, v13_1, v13_2, v13_3, v13_4, .ref la, v13_6]))] ++ va_pl L (pE P)) H := hP
              have hD : va_D A ([(h0, .inr (13, [.ref hc, v14_1, v14_2, v14_3, v14_4, v14_5, v14_6, v14_7, v14_8, v14_9, .ref q_v, .ref q_1411, .ref q_1412])), (q_1411, .inl (cA_1411, 1002, .inl (fun j : Nat => zI (w33_1411 (j : Int))))), (q_1412, .inl (cA_1412, 1002, .inl (fun j : Nat => zI (w33_1412 (j : Int))))), (q_v, .inl (cV, nv, .inr (.inr (.inr (.inr fv))))), (hc, .inr (12, [v13_0, v13_1, v13_2, v13_3, v13_4, .ref la, v13_6]))] ++ va_pl L (pE P)) := hD
              have hK : va_K (dC, dI) vwQ [(cA_1411, .boolean), (cA_1412, .boolean), (cV, .array .boolean), (cI, .int), (cZ, .boolean), (cO, .object "java/lang/Object")] s := hK
              refine W.widen (k := 0) (n := 0) (Nat.le_of_ble_eq_true rfl) (Nat.le_of_ble_eq_true rfl) ?_
              obtain rfl : r_2039 = (zI (rWay (P.bf xb_2002) (P.bs xb_2002) (d33_3))) := hw
              have := rWay_spec (P.bf xb_2002) (P.bs xb_2002) (d33_3)
              refine lv_istore (lv' := [(4, .int (zI (rWay (P.bf xb_2002) (P.bs xb_2002) (d33_3)))), (0, .ref h0), (1, .int (zI (b0))), (2, .ref xb_2002), (3, .int (zI (d33_3)))]) hx hb dX14_behind_46 hl (by decide) rfl (fun ls hl => ?_)
              refine lv_aload_n hx hb dX14_behind_48 rfl (lv_at hl 1 rfl) ?_
              refine va_get (D := (dC, dI)) (ci := 13) (v := .ref hc) (C := RX14) (T := TX14) (N := 13) hx hb hts mem_P14_behind_0 hown hK hP 0 rfl rfl 0 (by decide) (ow (k := 0) rfl) (fun _ h9 => h9) rfl dX14_behind_49 ?_
              refine lv_iload hx hb dX14_behind_52 (lv_at hl 0 rfl) ?_
              have hX_l := hX_a9.lok
              obtain ⟨x, ex⟩ : ∃ q9 : Nat, q9 = P.el la (rWay (P.bf xb_2002) (P.bs xb_2002) (d33_3)) := ⟨_, rfl⟩
              have hX_el := ex
              have hPc := hP.part (X := [(h0, .inr (13, [.ref hc, v14_1, v14_2, v14_3, v14_4, v14_5, v14_6, v14_7, v14_8, v14_9, .ref q_v, .ref q_1411, .ref q_1412])), (q_1411, .inl (cA_1411, 1002, .inl (fun j : Nat => zI (w33_1411 (j : Int))))), (q_1412, .inl (cA_1412, 1002, .inl (fun j : Nat => zI (w33_1412 (j : Int))))), (q_v, .inl (cV, nv, .inr (.inr (.inr (.inr fv))))), (hc, .inr (12, [v13_0, v13_1, v13_2, v13_3, v13_4, .ref la, v13_6]))]) (cx := [(hc, .inr (12, [v13_0, v13_1, v13_2, v13_3, v13_4, .ref la, v13_6]))]) (pl := va_pl L (pE P)) [4] rfl
              have hDc := hD.part (X := [(h0, .inr (13, [.ref hc, v14_1, v14_2, v14_3, v14_4, v14_5, v14_6, v14_7, v14_8, v14_9, .ref q_v, .ref q_1411, .ref q_1412])), (q_1411, .inl (cA_1411, 1002, .inl (fun j : Nat => zI (w33_1411 (j : Int))))), (q_1412, .inl (cA_1412, 1002, .inl (fun j : Nat => zI (w33_1412 (j : Int))))), (q_v, .inl (cV, nv, .inr (.inr (.inr (.inr fv))))), (hc, .inr (12, [v13_0, v13_1, v13_2, v13_3, v13_4, .ref la, v13_6]))]) (cx := [(hc, .inr (12, [v13_0, v13_1, v13_2, v13_3, v13_4, .ref la, v13_6]))]) (pl := va_pl L (pE P)) [4] (by decide) rfl
              have hKc := hK.sub (tys' := [(cO, .object "java/lang/Object")]) [5] rfl
              have hFc := va_freeP (X := [(h0, .inr (13, [.ref hc, v14_1, v14_2, v14_3, v14_4, v14_5, v14_6, v14_7, v14_8, v14_9, .ref q_v, .ref q_1411, .ref q_1412])), (q_1411, .inl (cA_1411, 1002, .inl (fun j : Nat => zI (w33_1411 (j : Int))))), (q_1412, .inl (cA_1412, 1002, .inl (fun j : Nat => zI (w33_1412 (j : Int))))), (q_v, .inl (cV, nv, .inr (.inr (.inr (.inr fv))))), (hc, .inr (12, [v13_0, v13_1, v13_2, v13_3, v13_4, .ref la, v13_6]))]) (cx := [(hc, .inr (12, [v13_0, v13_1, v13_2, v13_3, v13_4, .ref la, v13_6]))]) (pl := va_pl L (pE P)) hD hS hA [4] rfl
              refine va_callr (va_runV (As := [.int (zI (rWay (P.bf xb_2002) (P.bs xb_2002) (d33_3)))]) (rest := []) ⟨hx, hb, hml, hown, hts⟩ (c_PC_get l dC dI hc v13_0 v13_1 v13_2 v13_3 v13_4 v13_6 la cO L P (rWay (P.bf xb_2002) (P.bs xb_2002) (d33_3)) x hX_l (by omega) hX_el H.size) (cwV 1 hts g_P14_behind_PC_get rfl rfl rfl (by decide +kernel) ⟨(Nat.le_of_ble_eq_true rfl), (Nat.le_of_ble_eq_true rfl)⟩) ⟨fun a U g mk q => by obtain ⟨q0, q1, qP, qK, qD, e0⟩ := q; exact ⟨q0, q1, qP, va_K.moved (u := U) (U := U.calling g mk a) (Vm.Alike.refl U.vm) qK, qD, va_Nw.same rfl (u := U) (U := U.calling g mk a) rfl e0⟩, va_recv hKc hPc (ci := 12) (q0 := 0) rfl rfl, fun U hU hW => ⟨rfl, by rw [hU], by rw [hU]; exact hPc, va_K.moved hW.alike hKc, hDc.weaken (fun _ _ _ _ => trivial), va_Nw.warmC hW hp0⟩⟩ rfl rfl hl.1 rfl (lv_room (Nat.le_of_ble_eq_true rfl)) dX14_behind_54 ⟨(Nat.le_of_ble_eq_true rfl), (Nat.le_of_ble_eq_true rfl)⟩) hS (fun q _ h => hFc q h) hFc (fun u q_2040 t H1 locs ht hvm hw hB hz1 hk1 hS => ?_)
              obtain ⟨hxt_2040, hP1, hK1, hD1⟩ := hB
              rw [ht] at hP1
              have hK1 := va_K.moved hvm.symm hK1
              obtain ⟨hP, hD⟩ := va_joinP (X := [(h0, .inr (13, [.ref hc, v14_1, v14_2, v14_3, v14_4, v14_5, v14_6, v14_7, v14_8, v14_9, .ref q_v, .ref q_1411, .ref q_1412])), (q_1411, .inl (cA_1411, 1002, .inl (fun j : Nat => zI (w33_1411 (j : Int))))), (q_1412, .inl (cA_1412, 1002, .inl (fun j : Nat => zI (w33_1412 (j : Int))))), (q_v, .inl (cV, nv, .inr (.inr (.inr (.inr fv))))), (hc, .inr (12, [v13_0, v13_1, v13_2, v13_3, v13_4, .ref la, v13_6]))]) (cx := [(hc, .inr (12, [v13_0, v13_1, v13_2, v13_3, v13_4, .ref la, v13_6]))]) (wr := [(h0, .inr (13, [.ref hc, v14_1, v14_2, v14_3, v14_4, v14_5, v14_6, v14_7, v14_8, v14_9, .ref q_v, .ref q_1411, .ref q_1412])), (q_1411, .inl (cA_1411, 1002, .inl (fun j : Nat => zI (w33_1411 (j : Int))))), (q_1412, .inl (cA_1412, 1002, .inl (fun j : Nat => zI (w33_1412 (j : Int))))), (q_v, .inl (cV, nv, .inr (.inr (.inr (.inr fv)))))]) (rx := [(hc, .inr (12, [v13_0, v13_1, v13_2, v13_3, v13_4, .ref la, v13_6]))]) (pl := va_pl L (pE P)) (pl1 := va_pl L (pE P)) hP hD [4] [0, 1, 2, 3] rfl rfl (by decide) (by decide) hk1 hFc hP1 hD1
              have hK := (hK.sub (tys' := [(cA_1411, .boolean), (cA_1412, .boolean), (cV, .array .boolean), (cI, .int), (cZ, .boolean)]) [0, 1, 2, 3, 4] rfl).app hK1
              generalize H1 = H at hP hS ⊢
              have hP : va_P (dC, dI) vwQ ([(h0, .inr (13, [.ref hc, v14_1, v14_2, v14_3, v14_4, v14_5, v14_6, v14_7, v14_8, v14_9, .ref q_v, .ref q_1411, .ref q_1412])), (q_1411, .inl (cA_1411, 1002, .inl (fun j : Nat => zI (w33_1411 (j : Int))))), (q_1412, .inl (cA_1412, 1002, .inl (fun j : Nat => zI (w33_1412 (j : Int))))), (q_v, .inl (cV, nv, .inr (.inr (.inr (.inr fv))))), (hc, .inr (12, [v13_0, v13_1, v13_2, v13_3, v13_4, .ref la, v13_6]))] ++ va_pl L (pE P)) H := hP
              have hD : va_D A ([(h0, .inr (13, [.ref hc, v14_1, v14_2, v14_3, v14_4, v14_5, v14_6, v14_7, v14_8, v14_9, .ref q_v, .ref q_1411, .ref q_1412])), (q_1411, .inl (cA_1411, 1002, .inl (fun j : Nat => zI (w33_1411 (j : Int))))), (q_1412, .inl (cA_1412, 1002, .inl (fun j : Nat => zI (w33_1412 (j : Int))))), (q_v, .inl (cV, nv, .inr (.inr (.inr (.inr fv))))), (hc, .inr (12, [v13_0, v13_1, v13_2, v13_3, v13_4, .ref la, v13_6]))] ++ va_pl L (pE P)) := hD
              have hK : va_K (dC, dI) vwQ [(cA_1411, .boolean), (cA_1412, .boolean), (cV, .array .boolean), (cI, .int), (cZ, .boolean), (cO, .object "java/lang/Object")] s := hK
              refine W.widen (k := 0) (n := 0) (Nat.le_of_ble_eq_true rfl) (Nat.le_of_ble_eq_true rfl) ?_
              rw [hxt_2040]
              obtain ⟨xb_2041, h9⟩ : ∃ q9 : Nat, q9 = x := ⟨_, rfl⟩
              subst h9
              have hi_2042 : INB P la xb_2041 := ⟨rWay (P.bf xb_2002) (P.bs xb_2002) (d33_3), by omega, by omega, ex⟩
              clear hX_el
              have hx_2044 := ex
              have hB_2043 := hX_a9.inb hi_2042
              have hfb := hB_2043.2.2.2.2
              refine lv_astore (lv' := [(5, .ref xb_2041), (4, .int (zI (rWay (P.bf xb_2002) (P.bs xb_2002) (d33_3)))), (0, .ref h0), (1, .int (zI (b0))), (2, .ref xb_2002), (3, .int (zI (d33_3)))]) hx hb dX14_behind_57 hl (by decide) rfl (fun ls hl => ?_)
              refine lv_iconst (v := 0) hx hb dX14_behind_59 (by decide) ?_
              refine lv_istore (lv' := [(6, .int 0), (5, .ref xb_2041), (4, .int (zI (rWay (P.bf xb_2002) (P.bs xb_2002) (d33_3)))), (0, .ref h0), (1, .int (zI (b0))), (2, .ref xb_2002), (3, .int (zI (d33_3)))]) hx hb dX14_behind_60 hl (by decide) rfl (fun ls hl => ?_)
              have key62 : ∀ n62 : Nat, ∀ (d62_6 : Int) (w62_1412 : Int → Int) (ls : Array Slot) (H : Heap) (locs : List Loc), (0 ≤ d62_6 ∧ d62_6 ≤ 40000) → (∀ j : Int, 0 ≤ w62_1412 j ∧ w62_1412 j ≤ 1) → ((50000 - d62_6 : Int).toNat) < n62 → lv_has ls 8 [(0, .ref h0), (1, .int (zI (b0))), (2, .ref xb_2002), (3, .int (zI (d33_3))), (4, .int (zI (rWay (P.bf xb_2002) (P.bs xb_2002) (d33_3)))), (5, .ref xb_2041), (6, .int (zI (d62_6)))] → va_P (dC, dI) vwQ ([(h0, .inr (13, [.ref hc, v14_1, v14_2, v14_3, v14_4, v14_5, v14_6, v14_7, v14_8, v14_9, .ref q_v, .ref q_1411, .ref q_1412])), (q_1411, .inl (cA_1411, 1002, .inl (fun j : Nat => zI (w33_1411 (j : Int))))), (q_1412, .inl (cA_1412, 1002, .inl (fun j : Nat => zI (w62_1412 (j : Int))))), (q_v, .inl (cV, nv, .inr (.inr (.inr (.inr fv))))), (hc, .inr (12, [v13_0, v13_1, v13_2, v13_3, v13_4, .ref la, v13_6]))] ++ va_pl L (pE P)) H → va_D A ([(h0, .inr (13, [.ref hc, v14_1, v14_2, v14_3, v14_4, v14_5, v14_6, v14_7, v14_8, v14_9, .ref q_v, .ref q_1411, .ref q_1412])), (q_1411, .inl (cA_1411, 1002, .inl (fun j : Nat => zI (w33_1411 (j : Int))))), (q_1412, .inl (cA_1412, 1002, .inl (fun j : Nat => zI (w62_1412 (j : Int))))), (q_v, .inl (cV, nv, .inr (.inr (.inr (.inr fv))))), (hc, .inr (12, [v13_0, v13_1, v13_2, v13_3, v13_4, .ref la, v13_6]))] ++ va_pl L (pE P)) → va_S A s.heap H locs → W p l e (headSpec v_P14_behind ({ frames := 4, cells := 0, slots := 0, locals := 85 })).room s m ([.ref h0, .int (zI (b0))] : List Value).toArray below meth c H locs 0 0 Q (F0 m 62 ls []) := by
                intro n62
                induction n62 with
                | zero => intro d62_6 w62_1412 ls H locs jd62_6 jw62_1412 hm62; exact absurd hm62 (by omega)
                | succ n62 ih62 =>
                  intro d62_6 w62_1412 ls H locs jd62_6 jw62_1412 hm62 hl hP hD hS
                  skip
                  refine lv_iload hx hb dX14_behind_62 (lv_at hl 6 rfl) ?_
                  refine lv_aload hx hb dX14_behind_64 (lv_at hl 5 rfl) ?_
                  obtain ⟨kp_2045, hkp_2045⟩ := va_pl_get (X := [(h0, .inr (13, [.ref hc, v14_1, v14_2, v14_3, v14_4, v14_5, v14_6, v14_7, v14_8, v14_9, .ref q_v, .ref q_1411, .ref q_1412])), (q_1411, .inl (cA_1411, 1002, .inl (fun j : Nat => zI (w33_1411 (j : Int))))), (q_1412, .inl (cA_1412, 1002, .inl (fun j : Nat => zI (w62_1412 (j : Int))))), (q_v, .inl (cV, nv, .inr (.inr (.inr (.inr fv))))), (hc, .inr (12, [v13_0, v13_1, v13_2, v13_3, v13_4, .ref la, v13_6]))]) (f := pE P) hB_2043.1.1
                  rw [pE_block hB_2043.1.2] at hkp_2045
                  refine va_get (D := (dC, dI)) (ci := 19) (v := .ref (P.bp xb_2041)) (C := RX12) (T := TX12) (N := 5) hx hb hts mem_P14_behind_4 hown hK hP kp_2045 hkp_2045 rfl 0 (by decide) (ow (k := 12) rfl) (fun _ h9 => h9) rfl dX14_behind_66 ?_
                  obtain ⟨pr_2046, epr_2046⟩ : ∃ q9 : Nat, q9 = P.bp xb_2041 := ⟨_, rfl⟩
                  rw [← epr_2046]
                  have hlk_2047 : LOK L P cO 15 pr_2046 := (by rw [epr_2046]; exact (hX_a9.inb hi_2042).2.2.1)
                  have hlz9 := hlk_2047.2.2.1
                  have hlk_2048 := (show LOK L P cO 15 pr_2046 from (by rw [← epr_2046.symm]; exact (hX_a9.inb hi_2042).2.2.1))
                  have hX_x := hlk_2048.1
                  have hX_k := hlk_2048.2.1
                  have hlz9 := hlk_2048.2.2.1
                  have hPc := hP.part (X := [(h0, .inr (13, [.ref hc, v14_1, v14_2, v14_3, v14_4, v14_5, v14_6, v14_7, v14_8, v14_9, .ref q_v, .ref q_1411, .ref q_1412])), (q_1411, .inl (cA_1411, 1002, .inl (fun j : Nat => zI (w33_1411 (j : Int))))), (q_1412, .inl (cA_1412, 1002, .inl (fun j : Nat => zI (w62_1412 (j : Int))))), (q_v, .inl (cV, nv, .inr (.inr (.inr (.inr fv))))), (hc, .inr (12, [v13_0, v13_1, v13_2, v13_3, v13_4, .ref la, v13_6]))]) (cx := []) (pl := va_pl L (pE P)) [] rfl
                  have hDc := hD.part (X := [(h0, .inr (13, [.ref hc, v14_1, v14_2, v14_3, v14_4, v14_5, v14_6, v14_7, v14_8, v14_9, .ref q_v, .ref q_1411, .ref q_1412])), (q_1411, .inl (cA_1411, 1002, .inl (fun j : Nat => zI (w33_1411 (j : Int))))), (q_1412, .inl (cA_1412, 1002, .inl (fun j : Nat => zI (w62_1412 (j : Int))))), (q_v, .inl (cV, nv, .inr (.inr (.inr (.inr fv))))), (hc, .inr (12, [v13_0, v13_1, v13_2, v13_3, v13_4, .ref la, v13_6]))]) (cx := []) (pl := va_pl L (pE P)) [] (by decide) rfl
                  have hKc := hK.sub (tys' := [(cO, .object "java/lang/Object")]) [5] rfl
                  have hFc := va_freeP (X := [(h0, .inr (13, [.ref hc, v14_1, v14_2, v14_3, v14_4, v14_5, v14_6, v14_7, v14_8, v14_9, .ref q_v, .ref q_1411, .ref q_1412])), (q_1411, .inl (cA_1411, 1002, .inl (fun j : Nat => zI (w33_1411 (j : Int))))), (q_1412, .inl (cA_1412, 1002, .inl (fun j : Nat => zI (w62_1412 (j : Int))))), (q_v, .inl (cV, nv, .inr (.inr (.inr (.inr fv))))), (hc, .inr (12, [v13_0, v13_1, v13_2, v13_3, v13_4, .ref la, v13_6]))]) (cx := []) (pl := va_pl L (pE P)) hD hS hA [] rfl
                  refine va_calli (va_runV (As := []) (rest := [.int (zI (d62_6))]) ⟨hx, hb, hml, hown, hts⟩ (c_PL_size l dC dI cO L P pr_2046 hX_x hX_k (by omega) H.size) (cwV 0 hts g_P14_behind_PL_size rfl rfl rfl (by decide +kernel) ⟨(Nat.le_of_ble_eq_true rfl), (Nat.le_of_ble_eq_true rfl)⟩) ⟨fun a U g mk q => by obtain ⟨q0, q1, qP, qK, qD⟩ := q; exact ⟨q0, q1, qP, va_K.moved (u := U) (U := U.calling g mk a) (Vm.Alike.refl U.vm) qK, qD⟩, recv_30 hKc hPc hlk_2047.1 hlk_2047.2.1, fun U hU hW => ⟨rfl, by rw [hU], by rw [hU]; exact hPc, va_K.moved hW.alike hKc, hDc.weaken (fun _ _ _ _ => trivial)⟩⟩ rfl rfl hl.1 rfl (lv_room (Nat.le_of_ble_eq_true rfl)) dX14_behind_69 ⟨(Nat.le_of_ble_eq_true rfl), (Nat.le_of_ble_eq_true rfl)⟩) hS (fun q _ h => hFc q h) hFc (fun r_2049 u t H1 locs ht hvm hw hB hz1 hk1 hS => ?_)
                  obtain ⟨hP1, hK1, hD1⟩ := hB
                  rw [ht] at hP1
                  have hK1 := va_K.moved hvm.symm hK1
                  obtain ⟨hP, hD⟩ := va_joinP (X := [(h0, .inr (13, [.ref hc, v14_1, v14_2, v14_3, v14_4, v14_5, v14_6, v14_7, v14_8, v14_9, .ref q_v, .ref q_1411, .ref q_1412])), (q_1411, .inl (cA_1411, 1002, .inl (fun j : Nat => zI (w33_1411 (j : Int))))), (q_1412, .inl (cA_1412, 1002, .inl (fun j : Nat => zI (w62_1412 (j : Int))))), (q_v, .inl (cV, nv, .inr (.inr (.inr (.inr fv))))), (hc, .inr (12, [v13_0, v13_1, v13_2, v13_3, v13_4, .ref la, v13_6]))]) (cx := []) (wr := [(h0, .inr (13, [.ref hc, v14_1, v14_2, v14_3, v14_4, v14_5, v14_6, v14_7, v14_8, v14_9, .ref q_v, .ref q_1411, .ref q_1412])), (q_1411, .inl (cA_1411, 1002, .inl (fun j : Nat => zI (w33_1411 (j : Int))))), (q_1412, .inl (cA_1412, 1002, .inl (fun j : Nat => zI (w62_1412 (j : Int))))), (q_v, .inl (cV, nv, .inr (.inr (.inr (.inr fv))))), (hc, .inr (12, [v13_0, v13_1, v13_2, v13_3, v13_4, .ref la, v13_6]))]) (rx := []) (pl := va_pl L (pE P)) (pl1 := va_pl L (pE P)) hP hD [] [0, 1, 2, 3, 4] rfl rfl (by decide) (by decide) hk1 hFc hP1 hD1
                  have hK := (hK.sub (tys' := [(cA_1411, .boolean), (cA_1412, .boolean), (cV, .array .boolean), (cI, .int), (cZ, .boolean)]) [0, 1, 2, 3, 4] rfl).app hK1
                  generalize H1 = H at hP hS ⊢
                  have hP : va_P (dC, dI) vwQ ([(h0, .inr (13, [.ref hc, v14_1, v14_2, v14_3, v14_4, v14_5, v14_6, v14_7, v14_8, v14_9, .ref q_v, .ref q_1411, .ref q_1412])), (q_1411, .inl (cA_1411, 1002, .inl (fun j : Nat => zI (w33_1411 (j : Int))))), (q_1412, .inl (cA_1412, 1002, .inl (fun j : Nat => zI (w62_1412 (j : Int))))), (q_v, .inl (cV, nv, .inr (.inr (.inr (.inr fv))))), (hc, .inr (12, [v13_0, v13_1, v13_2, v13_3, v13_4, .ref la, v13_6]))] ++ va_pl L (pE P)) H := hP
                  have hD : va_D A ([(h0, .inr (13, [.ref hc, v14_1, v14_2, v14_3, v14_4, v14_5, v14_6, v14_7, v14_8, v14_9, .ref q_v, .ref q_1411, .ref q_1412])), (q_1411, .inl (cA_1411, 1002, .inl (fun j : Nat => zI (w33_1411 (j : Int))))), (q_1412, .inl (cA_1412, 1002, .inl (fun j : Nat => zI (w62_1412 (j : Int))))), (q_v, .inl (cV, nv, .inr (.inr (.inr (.inr fv))))), (hc, .inr (12, [v13_0, v13_1, v13_2, v13_3, v13_4, .ref la, v13_6]))] ++ va_pl L (pE P)) := hD
                  have hK : va_K (dC, dI) vwQ [(cA_1411, .boolean), (cA_1412, .boolean), (cV, .array .boolean), (cI, .int), (cZ, .boolean), (cO, .object "java/lang/Object")] s := hK
                  refine W.widen (k := 0) (n := 0) (Nat.le_of_ble_eq_true rfl) (Nat.le_of_ble_eq_true rfl) ?_
                  obtain rfl : r_2049 = (zI (P.lz pr_2046)) := hw
                  refine lv_icmp_ge (tgt := 103) hx hb dX14_behind_72 (by decide) (fun b72 => ?_) (fun b72 => ?_)
                  · have yb72 : (P.lz pr_2046 : Int) ≤ (d62_6 : Int) := (zI_le (a := P.lz pr_2046) (b := d62_6) (by omega) (by omega) (by omega) (by omega)).mp b72
                    refine lv_iconst (v := 0) hx hb dX14_behind_103 (by decide) ?_
                    refine lv_istore (lv' := [(6, .int 0), (0, .ref h0), (1, .int (zI (b0))), (2, .ref xb_2002), (3, .int (zI (d33_3))), (4, .int (zI (rWay (P.bf xb_2002) (P.bs xb_2002) (d33_3)))), (5, .ref xb_2041)]) hx hb dX14_behind_104 hl (by decide) rfl (fun ls hl => ?_)
                    have key106 : ∀ n106 : Nat, ∀ (d106_6 : Int) (w106_1411 : Int → Int) (ls : Array Slot) (H : Heap) (locs : List Loc), (0 ≤ d106_6 ∧ d106_6 ≤ 1000000000) → (∀ j : Int, 0 ≤ w106_1411 j ∧ w106_1411 j ≤ 1) → (((1001) - (d106_6) + 1 : Int).toNat) < n106 → lv_has ls 8 [(0, .ref h0), (1, .int (zI (b0))), (2, .ref xb_2002), (3, .int (zI (d33_3))), (4, .int (zI (rWay (P.bf xb_2002) (P.bs xb_2002) (d33_3)))), (5, .ref xb_2041), (6, .int (zI (d106_6)))] → va_P (dC, dI) vwQ ([(h0, .inr (13, [.ref hc, v14_1, v14_2, v14_3, v14_4, v14_5, v14_6, v14_7, v14_8, v14_9, .ref q_v, .ref q_1411, .ref q_1412])), (q_1411, .inl (cA_1411, 1002, .inl (fun j : Nat => zI (w106_1411 (j : Int))))), (q_1412, .inl (cA_1412, 1002, .inl (fun j : Nat => zI (w62_1412 (j : Int))))), (q_v, .inl (cV, nv, .inr (.inr (.inr (.inr fv))))), (hc, .inr (12, [v13_0, v13_1, v13_2, v13_3, v13_4, .ref la, v13_6]))] ++ va_pl L (pE P)) H → va_D A ([(h0, .inr (13, [.ref hc, v14_1, v14_2, v14_3, v14_4, v14_5, v14_6, v14_7, v14_8, v14_9, .ref q_v, .ref q_1411, .ref q_1412])), (q_1411, .inl (cA_1411, 1002, .inl (fun j : Nat => zI (w106_1411 (j : Int))))), (q_1412, .inl (cA_1412, 1002, .inl (fun j : Nat => zI (w62_1412 (j : Int))))), (q_v, .inl (cV, nv, .inr (.inr (.inr (.inr fv))))), (hc, .inr (12, [v13_0, v13_1, v13_2, v13_3, v13_4, .ref la, v13_6]))] ++ va_pl L (pE P)) → va_S A s.heap H locs → W p l e (headSpec v_P14_behind ({ frames := 4, cells := 0, slots := 0, locals := 85 })).room s m ([.ref h0, .int (zI (b0))] : List Value).toArray below meth c H locs 0 0 Q (F0 m 106 ls []) := by
                      intro n106
                      induction n106 with
                      | zero => intro d106_6 w106_1411 ls H locs jd106_6 jw106_1411 hm106; exact absurd hm106 (by omega)
                      | succ n106 ih106 =>
                        intro d106_6 w106_1411 ls H locs jd106_6 jw106_1411 hm106 hl hP hD hS
                        skip
                        refine lv_iload hx hb dX14_behind_106 (lv_at hl 6 rfl) ?_
                        refine lv_sipush (v := 1001) hx hb dX14_behind_108 (by decide) ?_
                        refine lv_icmp_gt (tgt := 165) hx hb dX14_behind_111 (by decide) (fun b111 => ?_) (fun b111 => ?_)
                        · have yb111 : (1001 : Int) < (d106_6 : Int) := (zI_lt (a := 1001) (b := d106_6) (by omega) (by omega) (by omega) (by omega)).mp b111
                          refine lv_iconst (v := 0) hx hb dX14_behind_165 (by decide) ?_
                          refine lv_istore (lv' := [(6, .int 0), (0, .ref h0), (1, .int (zI (b0))), (2, .ref xb_2002), (3, .int (zI (d33_3))), (4, .int (zI (rWay (P.bf xb_2002) (P.bs xb_2002) (d33_3)))), (5, .ref xb_2041)]) hx hb dX14_behind_166 hl (by decide) rfl (fun ls hl => ?_)
                          have key168 : ∀ n168 : Nat, ∀ (d168_6 : Int) (w168_1412 : Int → Int) (ls : Array Slot) (H : Heap) (locs : List Loc), (0 ≤ d168_6 ∧ d168_6 ≤ 40000) → (∀ j : Int, 0 ≤ w168_1412 j ∧ w168_1412 j ≤ 1) → ((50000 - d168_6 : Int).toNat) < n168 → lv_has ls 8 [(0, .ref h0), (1, .int (zI (b0))), (2, .ref xb_2002), (3, .int (zI (d33_3))), (4, .int (zI (rWay (P.bf xb_2002) (P.bs xb_2002) (d33_3)))), (5, .ref xb_2041), (6, .int (zI (d168_6)))] → va_P (dC, dI) vwQ ([(h0, .inr (13, [.ref hc, v14_1, v14_2, v14_3, v14_4, v14_5, v14_6, v14_7, v14_8, v14_9, .ref q_v, .ref q_1411, .ref q_1412])), (q_1411, .inl (cA_1411, 1002, .inl (fun j : Nat => zI (w106_1411 (j : Int))))), (q_1412, .inl (cA_1412, 1002, .inl (fun j : Nat => zI (w168_1412 (j : Int))))), (q_v, .inl (cV, nv, .inr (.inr (.inr (.inr fv))))), (hc, .inr (12, [v13_0, v13_1, v13_2, v13_3, v13_4, .ref la, v13_6]))] ++ va_pl L (pE P)) H → va_D A ([(h0, .inr (13, [.ref hc, v14_1, v14_2, v14_3, v14_4, v14_5, v14_6, v14_7, v14_8, v14_9, .ref q_v, .ref q_1411, .ref q_1412])), (q_1411, .inl (cA_1411, 1002, .inl (fun j : Nat => zI (w106_1411 (j : Int))))), (q_1412, .inl (cA_1412, 1002, .inl (fun j : Nat => zI (w168_1412 (j : Int))))), (q_v, .inl (cV, nv, .inr (.inr (.inr (.inr fv))))), (hc, .inr (12, [v13_0, v13_1, v13_2, v13_3, v13_4, .ref la, v13_6]))] ++ va_pl L (pE P)) → va_S A s.heap H locs → W p l e (headSpec v_P14_behind ({ frames := 4, cells := 0, slots := 0, locals := 85 })).room s m ([.ref h0, .int (zI (b0))] : List Value).toArray below meth c H locs 0 0 Q (F0 m 168 ls []) := by
                            intro n168
                            induction n168 with
                            | zero => intro d168_6 w168_1412 ls H locs jd168_6 jw168_1412 hm168; exact absurd hm168 (by omega)
                            | succ n168 ih168 =>
                              intro d168_6 w168_1412 ls H locs jd168_6 jw168_1412 hm168 hl hP hD hS
                              skip
                              refine lv_iload hx hb dX14_behind_168 (lv_at hl 6 rfl) ?_
                              refine lv_aload hx hb dX14_behind_170 (lv_at hl 5 rfl) ?_
                              obtain ⟨kp_2050, hkp_2050⟩ := va_pl_get (X := [(h0, .inr (13, [.ref hc, v14_1, v14_2, v14_3, v14_4, v14_5, v14_6, v14_7, v14_8, v14_9, .ref q_v, .ref q_1411, .ref q_1412])), (q_1411, .inl (cA_1411, 1002, .inl (fun j : Nat => zI (w106_1411 (j : Int))))), (q_1412, .inl (cA_1412, 1002, .inl (fun j : Nat => zI (w168_1412 (j : Int))))), (q_v, .inl (cV, nv, .inr (.inr (.inr (.inr fv))))), (hc, .inr (12, [v13_0, v13_1, v13_2, v13_3, v13_4, .ref la, v13_6]))]) (f := pE P) hB_2043.1.1
                              rw [pE_block hB_2043.1.2] at hkp_2050
                              refine va_get (D := (dC, dI)) (ci := 19) (v := .ref (P.bp xb_2041)) (C := RX12) (T := TX12) (N := 5) hx hb hts mem_P14_behind_4 hown hK hP kp_2050 hkp_2050 rfl 0 (by decide) (ow (k := 12) rfl) (fun _ h9 => h9) rfl dX14_behind_172 ?_
                              obtain ⟨pr_2051, epr_2051⟩ : ∃ q9 : Nat, q9 = P.bp xb_2041 := ⟨_, rfl⟩
                              rw [← epr_2051]
                              obtain rfl : pr_2046 = pr_2051 := (by rw [epr_2051]; exact epr_2046.symm.symm)
                              have hlk_2052 := (show LOK L P cO 15 pr_2046 from (by rw [← epr_2046.symm]; exact (hX_a9.inb hi_2042).2.2.1))
                              have hX_x := hlk_2052.1
                              have hX_k := hlk_2052.2.1
                              have hPc := hP.part (X := [(h0, .inr (13, [.ref hc, v14_1, v14_2, v14_3, v14_4, v14_5, v14_6, v14_7, v14_8, v14_9, .ref q_v, .ref q_1411, .ref q_1412])), (q_1411, .inl (cA_1411, 1002, .inl (fun j : Nat => zI (w106_1411 (j : Int))))), (q_1412, .inl (cA_1412, 1002, .inl (fun j : Nat => zI (w168_1412 (j : Int))))), (q_v, .inl (cV, nv, .inr (.inr (.inr (.inr fv))))), (hc, .inr (12, [v13_0, v13_1, v13_2, v13_3, v13_4, .ref la, v13_6]))]) (cx := []) (pl := va_pl L (pE P)) [] rfl
                              have hDc := hD.part (X := [(h0, .inr (13, [.ref hc, v14_1, v14_2, v14_3, v14_4, v14_5, v14_6, v14_7, v14_8, v14_9, .ref q_v, .ref q_1411, .ref q_1412])), (q_1411, .inl (cA_1411, 1002, .inl (fun j : Nat => zI (w106_1411 (j : Int))))), (q_1412, .inl (cA_1412, 1002, .inl (fun j : Nat => zI (w168_1412 (j : Int))))), (q_v, .inl (cV, nv, .inr (.inr (.inr (.inr fv))))), (hc, .inr (12, [v13_0, v13_1, v13_2, v13_3, v13_4, .ref la, v13_6]))]) (cx := []) (pl := va_pl L (pE P)) [] (by decide) rfl
                              have hKc := hK.sub (tys' := [(cO, .object "java/lang/Object")]) [5] rfl
                              have hFc := va_freeP (X := [(h0, .inr (13, [.ref hc, v14_1, v14_2, v14_3, v14_4, v14_5, v14_6, v14_7, v14_8, v14_9, .ref q_v, .ref q_1411, .ref q_1412])), (q_1411, .inl (cA_1411, 1002, .inl (fun j : Nat => zI (w106_1411 (j : Int))))), (q_1412, .inl (cA_1412, 1002, .inl (fun j : Nat => zI (w168_1412 (j : Int))))), (q_v, .inl (cV, nv, .inr (.inr (.inr (.inr fv))))), (hc, .inr (12, [v13_0, v13_1, v13_2, v13_3, v13_4, .ref la, v13_6]))]) (cx := []) (pl := va_pl L (pE P)) hD hS hA [] rfl
                              refine va_calli (va_runV (As := []) (rest := [.int (zI (d168_6))]) ⟨hx, hb, hml, hown, hts⟩ (c_PL_size l dC dI cO L P pr_2046 hX_x hX_k (by omega) H.size) (cwV 0 hts g_P14_behind_PL_size rfl rfl rfl (by decide +kernel) ⟨(Nat.le_of_ble_eq_true rfl), (Nat.le_of_ble_eq_true rfl)⟩) ⟨fun a U g mk q => by obtain ⟨q0, q1, qP, qK, qD⟩ := q; exact ⟨q0, q1, qP, va_K.moved (u := U) (U := U.calling g mk a) (Vm.Alike.refl U.vm) qK, qD⟩, recv_30 hKc hPc hlk_2047.1 hlk_2047.2.1, fun U hU hW => ⟨rfl, by rw [hU], by rw [hU]; exact hPc, va_K.moved hW.alike hKc, hDc.weaken (fun _ _ _ _ => trivial)⟩⟩ rfl rfl hl.1 rfl (lv_room (Nat.le_of_ble_eq_true rfl)) dX14_behind_175 ⟨(Nat.le_of_ble_eq_true rfl), (Nat.le_of_ble_eq_true rfl)⟩) hS (fun q _ h => hFc q h) hFc (fun r_2053 u t H1 locs ht hvm hw hB hz1 hk1 hS => ?_)
                              obtain ⟨hP1, hK1, hD1⟩ := hB
                              rw [ht] at hP1
                              have hK1 := va_K.moved hvm.symm hK1
                              obtain ⟨hP, hD⟩ := va_joinP (X := [(h0, .inr (13, [.ref hc, v14_1, v14_2, v14_3, v14_4, v14_5, v14_6, v14_7, v14_8, v14_9, .ref q_v, .ref q_1411, .ref q_1412])), (q_1411, .inl (cA_1411, 1002, .inl (fun j : Nat => zI (w106_1411 (j : Int))))), (q_1412, .inl (cA_1412, 1002, .inl (fun j : Nat => zI (w168_1412 (j : Int))))), (q_v, .inl (cV, nv, .inr (.inr (.inr (.inr fv))))), (hc, .inr (12, [v13_0, v13_1, v13_2, v13_3, v13_4, .ref la, v13_6]))]) (cx := []) (wr := [(h0, .inr (13, [.ref hc, v14_1, v14_2, v14_3, v14_4, v14_5, v14_6, v14_7, v14_8, v14_9, .ref q_v, .ref q_1411, .ref q_1412])), (q_1411, .inl (cA_1411, 1002, .inl (fun j : Nat => zI (w106_1411 (j : Int))))), (q_1412, .inl (cA_1412, 1002, .inl (fun j : Nat => zI (w168_1412 (j : Int))))), (q_v, .inl (cV, nv, .inr (.inr (.inr (.inr fv))))), (hc, .inr (12, [v13_0, v13_1, v13_2, v13_3, v13_4, .ref la, v13_6]))]) (rx := []) (pl := va_pl L (pE P)) (pl1 := va_pl L (pE P)) hP hD [] [0, 1, 2, 3, 4] rfl rfl (by decide) (by decide) hk1 hFc hP1 hD1
                              have hK := (hK.sub (tys' := [(cA_1411, .boolean), (cA_1412, .boolean), (cV, .array .boolean), (cI, .int), (cZ, .boolean)]) [0, 1, 2, 3, 4] rfl).app hK1
                              generalize H1 = H at hP hS ⊢
                              have hP : va_P (dC, dI) vwQ ([(h0, .inr (13, [.ref hc, v14_1, v14_2, v14_3, v14_4, v14_5, v14_6, v14_7, v14_8, v14_9, .ref q_v, .ref q_1411, .ref q_1412])), (q_1411, .inl (cA_1411, 1002, .inl (fun j : Nat => zI (w106_1411 (j : Int))))), (q_1412, .inl (cA_1412, 1002, .inl (fun j : Nat => zI (w168_1412 (j : Int))))), (q_v, .inl (cV, nv, .inr (.inr (.inr (.inr fv))))), (hc, .inr (12, [v13_0, v13_1, v13_2, v13_3, v13_4, .ref la, v13_6]))] ++ va_pl L (pE P)) H := hP
                              have hD : va_D A ([(h0, .inr (13, [.ref hc, v14_1, v14_2, v14_3, v14_4, v14_5, v14_6, v14_7, v14_8, v14_9, .ref q_v, .ref q_1411, .ref q_1412])), (q_1411, .inl (cA_1411, 1002, .inl (fun j : Nat => zI (w106_1411 (j : Int))))), (q_1412, .inl (cA_1412, 1002, .inl (fun j : Nat => zI (w168_1412 (j : Int))))), (q_v, .inl (cV, nv, .inr (.inr (.inr (.inr fv))))), (hc, .inr (12, [v13_0, v13_1, v13_2, v13_3, v13_4, .ref la, v13_6]))] ++ va_pl L (pE P)) := hD
                              have hK : va_K (dC, dI) vwQ [(cA_1411, .boolean), (cA_1412, .boolean), (cV, .array .boolean), (cI, .int), (cZ, .boolean), (cO, .object "java/lang/Object")] s := hK
                              refine W.widen (k := 0) (n := 0) (Nat.le_of_ble_eq_true rfl) (Nat.le_of_ble_eq_true rfl) ?_
                              obtain rfl : r_2053 = (zI (P.lz pr_2046)) := hw
                              refine lv_icmp_ge (tgt := 209) hx hb dX14_behind_178 (by decide) (fun b178 => ?_) (fun b178 => ?_)
                              · have yb178 : (P.lz pr_2046 : Int) ≤ (d168_6 : Int) := (zI_le (a := P.lz pr_2046) (b := d168_6) (by omega) (by omega) (by omega) (by omega)).mp b178
                                refine lv_iinc (v := zI (d33_3 + 1)) (lv' := [(3, .int (zI (d33_3 + 1))), (0, .ref h0), (1, .int (zI (b0))), (2, .ref xb_2002), (4, .int (zI (rWay (P.bf xb_2002) (P.bs xb_2002) (d33_3)))), (5, .ref xb_2041), (6, .int (zI (d168_6)))]) hx hb dX14_behind_209 hl (k := 3) rfl (zI_add (d33_3) (1)) (by decide) rfl (fun ls hl => ?_)
                                refine lv_goto (tgt := 33) hx hb dX14_behind_212 (by decide) ?_
                                exact ih33 (d33_3 + 1) w106_1411 w168_1412 ls H _ (by omega) jw106_1411 jw168_1412 (by omega) (lv_sub hl [1, 2, 3, 0] rfl) hP hD hS
                              · have yb178 : ¬ (P.lz pr_2046 : Int) ≤ (d168_6 : Int) := fun q => b178 ((zI_le (a := P.lz pr_2046) (b := d168_6) (by omega) (by omega) (by omega) (by omega)).mpr q)
                                refine lv_aload_n hx hb dX14_behind_181 rfl (lv_at hl 0 rfl) ?_
                                refine va_get (D := (dC, dI)) (ci := 13) (v := .ref q_1412) (C := RX14) (T := TX14) (N := 13) hx hb hts mem_P14_behind_0 hown hK hP 0 rfl rfl 12 (by decide) (ow (k := 28) rfl) (fun _ h9 => h9) rfl dX14_behind_182 ?_
                                refine lv_aload hx hb dX14_behind_185 (lv_at hl 5 rfl) ?_
                                obtain ⟨kp_2054, hkp_2054⟩ := va_pl_get (X := [(h0, .inr (13, [.ref hc, v14_1, v14_2, v14_3, v14_4, v14_5, v14_6, v14_7, v14_8, v14_9, .ref q_v, .ref q_1411, .ref q_1412])), (q_1411, .inl (cA_1411, 1002, .inl (fun j : Nat => zI (w106_1411 (j : Int))))), (q_1412, .inl (cA_1412, 1002, .inl (fun j : Nat => zI (w168_1412 (j : Int))))), (q_v, .inl (cV, nv, .inr (.inr (.inr (.inr fv))))), (hc, .inr (12, [v13_0, v13_1, v13_2, v13_3, v13_4, .ref la, v13_6]))]) (f := pE P) hB_2043.1.1
                                rw [pE_block hB_2043.1.2] at hkp_2054
                                refine va_get (D := (dC, dI)) (ci := 19) (v := .ref (P.bp xb_2041)) (C := RX12) (T := TX12) (N := 5) hx hb hts mem_P14_behind_4 hown hK hP kp_2054 hkp_2054 rfl 0 (by decide) (ow (k := 12) rfl) (fun _ h9 => h9) rfl dX14_behind_187 ?_
                                obtain ⟨pr_2055, epr_2055⟩ : ∃ q9 : Nat, q9 = P.bp xb_2041 := ⟨_, rfl⟩
                                rw [← epr_2055]
                                obtain rfl : pr_2046 = pr_2055 := (by rw [epr_2055]; exact epr_2046.symm.symm)
                                refine lv_iload hx hb dX14_behind_190 (lv_at hl 6 rfl) ?_
                                have hlk_2056 := (show LOK L P cO 15 pr_2046 from (by rw [← epr_2046.symm]; exact (hX_a9.inb hi_2042).2.2.1))
                                obtain ⟨x, ex⟩ : ∃ q9 : Nat, q9 = P.el pr_2046 (d168_6) := ⟨_, rfl⟩
                                have hX_x := hlk_2056.1
                                have hX_k := hlk_2056.2.1
                                have hq9 := hlk_2056.row (i := d168_6) (by omega) (by omega)
                                have hX_q : P.le pr_2046 ∈ L ∧ P.kd (P.le pr_2046) = 31 ∧ P.ac (P.le pr_2046) = cO := ⟨hq9.1, hq9.2.1, hq9.2.2.1⟩
                                have hq8 := hq9.2.2.2
                                have hX_e0 : P.oa (P.le pr_2046) (d168_6).toNat = some x := (by rw [ex]; exact (hlk_2056.2.2.2.2 (d168_6) (by omega) (by omega)).1)
                                have hxm : x ∈ L := (by rw [ex]; exact (hlk_2056.2.2.2.2 (d168_6) (by omega) (by omega)).2.1)
                                have hxk := (hlk_2056.2.2.2.2 (d168_6) (by omega) (by omega)).2.2
                                rw [← ex] at hxk
                                have hPc := hP.part (X := [(h0, .inr (13, [.ref hc, v14_1, v14_2, v14_3, v14_4, v14_5, v14_6, v14_7, v14_8, v14_9, .ref q_v, .ref q_1411, .ref q_1412])), (q_1411, .inl (cA_1411, 1002, .inl (fun j : Nat => zI (w106_1411 (j : Int))))), (q_1412, .inl (cA_1412, 1002, .inl (fun j : Nat => zI (w168_1412 (j : Int))))), (q_v, .inl (cV, nv, .inr (.inr (.inr (.inr fv))))), (hc, .inr (12, [v13_0, v13_1, v13_2, v13_3, v13_4, .ref la, v13_6]))]) (cx := []) (pl := va_pl L (pE P)) [] rfl
                                have hDc := hD.part (X := [(h0, .inr (13, [.ref hc, v14_1, v14_2, v14_3, v14_4, v14_5, v14_6, v14_7, v14_8, v14_9, .ref q_v, .ref q_1411, .ref q_1412])), (q_1411, .inl (cA_1411, 1002, .inl (fun j : Nat => zI (w106_1411 (j : Int))))), (q_1412, .inl (cA_1412, 1002, .inl (fun j : Nat => zI (w168_1412 (j : Int))))), (q_v, .inl (cV, nv, .inr (.inr (.inr (.inr fv))))), (hc, .inr (12, [v13_0, v13_1, v13_2, v13_3, v13_4, .ref la, v13_6]))]) (cx := []) (pl := va_pl L (pE P)) [] (by decide) rfl
                                have hKc := hK.sub (tys' := [(cO, .object "java/lang/Object")]) [5] rfl
                                have hFc := va_freeP (X := [(h0, .inr (13, [.ref hc, v14_1, v14_2, v14_3, v14_4, v14_5, v14_6, v14_7, v14_8, v14_9, .ref q_v, .ref q_1411, .ref q_1412])), (q_1411, .inl (cA_1411, 1002, .inl (fun j : Nat => zI (w106_1411 (j : Int))))), (q_1412, .inl (cA_1412, 1002, .inl (fun j : Nat => zI (w168_1412 (j : Int))))), (q_v, .inl (cV, nv, .inr (.inr (.inr (.inr fv))))), (hc, .inr (12, [v13_0, v13_1, v13_2, v13_3, v13_4, .ref la, v13_6]))]) (cx := []) (pl := va_pl L (pE P)) hD hS hA [] rfl
                                refine va_callr (va_runV (As := [.int (zI (d168_6))]) (rest := [.ref q_1412]) ⟨hx, hb, hml, hown, hts⟩ (c_PL_get l dC dI cO L P pr_2046 d168_6 x hX_x hX_k hX_q (by omega) hX_e0 H.size) (cwV 1 hts g_P14_behind_PL_get rfl rfl rfl (by decide +kernel) ⟨(Nat.le_of_ble_eq_true rfl), (Nat.le_of_ble_eq_true rfl)⟩) ⟨fun a U g mk q => by obtain ⟨q0, q1, qP, qK, qD⟩ := q; exact ⟨q0, q1, qP, va_K.moved (u := U) (U := U.calling g mk a) (Vm.Alike.refl U.vm) qK, qD⟩, recv_30 hKc hPc hlk_2047.1 hlk_2047.2.1, fun U hU hW => ⟨rfl, by rw [hU], by rw [hU]; exact hPc, va_K.moved hW.alike hKc, hDc.weaken (fun _ _ _ _ => trivial)⟩⟩ rfl rfl hl.1 rfl (lv_room (Nat.le_of_ble_eq_true rfl)) dX14_behind_192 ⟨(Nat.le_of_ble_eq_true rfl), (Nat.le_of_ble_eq_true rfl)⟩) hS (fun q _ h => hFc q h) hFc (fun u q_2057 t H1 locs ht hvm hw hB hz1 hk1 hS => ?_)
                                obtain ⟨hxt_2057, hP1, hK1, hD1⟩ := hB
                                rw [ht] at hP1
                                have hK1 := va_K.moved hvm.symm hK1
                                obtain ⟨hP, hD⟩ := va_joinP (X := [(h0, .inr (13, [.ref hc, v14_1, v14_2, v14_3, v14_4, v14_5, v14_6, v14_7, v14_8, v14_9, .ref q_v, .ref q_1411, .ref q_1412])), (q_1411, .inl (cA_1411, 1002, .inl (fun j : Nat => zI (w106_1411 (j : Int))))), (q_1412, .inl (cA_1412, 1002, .inl (fun j : Nat => zI (w168_1412 (j : Int))))), (q_v, .inl (cV, nv, .inr (.inr (.inr (.inr fv))))), (hc, .inr (12, [v13_0, v13_1, v13_2, v13_3, v13_4, .ref la, v13_6]))]) (cx := []) (wr := [(h0, .inr (13, [.ref hc, v14_1, v14_2, v14_3, v14_4, v14_5, v14_6, v14_7, v14_8, v14_9, .ref q_v, .ref q_1411, .ref q_1412])), (q_1411, .inl (cA_1411, 1002, .inl (fun j : Nat => zI (w106_1411 (j : Int))))), (q_1412, .inl (cA_1412, 1002, .inl (fun j : Nat => zI (w168_1412 (j : Int))))), (q_v, .inl (cV, nv, .inr (.inr (.inr (.inr fv))))), (hc, .inr (12, [v13_0, v13_1, v13_2, v13_3, v13_4, .ref la, v13_6]))]) (rx := []) (pl := va_pl L (pE P)) (pl1 := va_pl L (pE P)) hP hD [] [0, 1, 2, 3, 4] rfl rfl (by decide) (by decide) hk1 hFc hP1 hD1
                                have hK := (hK.sub (tys' := [(cA_1411, .boolean), (cA_1412, .boolean), (cV, .array .boolean), (cI, .int), (cZ, .boolean)]) [0, 1, 2, 3, 4] rfl).app hK1
                                generalize H1 = H at hP hS ⊢
                                have hP : va_P (dC, dI) vwQ ([(h0, .inr (13, [.ref hc, v14_1, v14_2, v14_3, v14_4, v14_5, v14_6, v14_7, v14_8, v14_9, .ref q_v, .ref q_1411, .ref q_1412])), (q_1411, .inl (cA_1411, 1002, .inl (fun j : Nat => zI (w106_1411 (j : Int))))), (q_1412, .inl (cA_1412, 1002, .inl (fun j : Nat => zI (w168_1412 (j : Int))))), (q_v, .inl (cV, nv, .inr (.inr (.inr (.inr fv))))), (hc, .inr (12, [v13_0, v13_1, v13_2, v13_3, v13_4, .ref la, v13_6]))] ++ va_pl L (pE P)) H := hP
                                have hD : va_D A ([(h0, .inr (13, [.ref hc, v14_1, v14_2, v14_3, v14_4, v14_5, v14_6, v14_7, v14_8, v14_9, .ref q_v, .ref q_1411, .ref q_1412])), (q_1411, .inl (cA_1411, 1002, .inl (fun j : Nat => zI (w106_1411 (j : Int))))), (q_1412, .inl (cA_1412, 1002, .inl (fun j : Nat => zI (w168_1412 (j : Int))))), (q_v, .inl (cV, nv, .inr (.inr (.inr (.inr fv))))), (hc, .inr (12, [v13_0, v13_1, v13_2, v13_3, v13_4, .ref la, v13_6]))] ++ va_pl L (pE P)) := hD
                                have hK : va_K (dC, dI) vwQ [(cA_1411, .boolean), (cA_1412, .boolean), (cV, .array .boolean), (cI, .int), (cZ, .boolean), (cO, .object "java/lang/Object")] s := hK
                                refine W.widen (k := 0) (n := 0) (Nat.le_of_ble_eq_true rfl) (Nat.le_of_ble_eq_true rfl) ?_
                                rw [hxt_2057]
                                clear hX_e0
                                obtain ⟨xp_2058, h9⟩ : ∃ q9 : Nat, q9 = x := ⟨_, rfl⟩
                                subst h9
                                have hm_2059 := hxm
                                have hk_2060 := hxk
                                have hpb_2061 : PRB P xp_2058 (P.lz la) := (by have q9 := hX_a9.2.2.1 xb_2041 hi_2042 (d168_6) (by omega) (by rw [epr_2046.symm]; omega); rw [epr_2046.symm, ← ex] at q9; exact q9)
                                refine va_castY (C := "SsaForgeModel$Phi") (nm := "SsaForgeModel$Phi") hx hb hown (ow (k := 20) rfl) hp1 (recv_15 hK hP hm_2059 hk_2060) dX14_behind_195 ?_
                                have hp9 := hX_a9.pik hm_2059 hk_2060
                                have hpn := hp9.2.2.2.2.1
                                have hpt := hp9.2.2.2.2.2.1
                                clear hp9
                                obtain ⟨kp_2062, hkp_2062⟩ := va_pl_get (X := [(h0, .inr (13, [.ref hc, v14_1, v14_2, v14_3, v14_4, v14_5, v14_6, v14_7, v14_8, v14_9, .ref q_v, .ref q_1411, .ref q_1412])), (q_1411, .inl (cA_1411, 1002, .inl (fun j : Nat => zI (w106_1411 (j : Int))))), (q_1412, .inl (cA_1412, 1002, .inl (fun j : Nat => zI (w168_1412 (j : Int))))), (q_v, .inl (cV, nv, .inr (.inr (.inr (.inr fv))))), (hc, .inr (12, [v13_0, v13_1, v13_2, v13_3, v13_4, .ref la, v13_6]))]) (f := pE P) hm_2059
                                rw [pE_phi hk_2060] at hkp_2062
                                refine va_get (D := (dC, dI)) (ci := 20) (v := .int (zI (P.pt xp_2058))) (C := RX15) (T := TX15) (N := 6) hx hb hts mem_P14_behind_8 hown hK hP kp_2062 hkp_2062 rfl 0 (by decide) (ow (k := 29) rfl) (fun _ h9 => h9) rfl dX14_behind_198 ?_
                                refine lv_iconst (v := 0) hx hb dX14_behind_201 (by decide) ?_
                                refine va_zast (i := zI (P.pt xp_2058)) hx hb hK hP hD hS 2 1 rfl rfl (zI_in (a := P.pt xp_2058) (n := 1002) (by omega) (by omega) (by decide)) dX14_behind_202 (fun H locs hP hD hS => ?_)
                                rw [show vp_nar .boolean 0 = 0 from zI_nar (a := 0) (by omega) (by omega)] at hP hD
                                have eQ : upd (fun j : Nat => zI (w168_1412 (j : Int))) (zI (P.pt xp_2058)).toNatClampNeg 0 = (fun j : Nat => zI (zup w168_1412 (P.pt xp_2058) (0) (j : Int))) := zI_st w168_1412 (e := P.pt xp_2058) (v := 0) (by omega) (by omega)
                                rw [eQ] at hP hD
                                clear eQ
                                have ra_2063 : ∀ j : Int, 0 ≤ zup w168_1412 (P.pt xp_2058) (0) j ∧ zup w168_1412 (P.pt xp_2058) (0) j ≤ 1 := zup_P (P := fun x9 => 0 ≤ x9 ∧ x9 ≤ 1) jw168_1412 (show 0 ≤ (0) ∧ (0) ≤ 1 by omega)
                                generalize zup w168_1412 (P.pt xp_2058) (0) = a_2063 at hP hD ra_2063
                                have hP : va_P (dC, dI) vwQ ([(h0, .inr (13, [.ref hc, v14_1, v14_2, v14_3, v14_4, v14_5, v14_6, v14_7, v14_8, v14_9, .ref q_v, .ref q_1411, .ref q_1412])), (q_1411, .inl (cA_1411, 1002, .inl (fun j : Nat => zI (w106_1411 (j : Int))))), (q_1412, .inl (cA_1412, 1002, .inl (fun j : Nat => zI (a_2063 (j : Int))))), (q_v, .inl (cV, nv, .inr (.inr (.inr (.inr fv))))), (hc, .inr (12, [v13_0, v13_1, v13_2, v13_3, v13_4, .ref la, v13_6]))] ++ va_pl L (pE P)) H := hP
                                have hD : va_D A ([(h0, .inr (13, [.ref hc, v14_1, v14_2, v14_3, v14_4, v14_5, v14_6, v14_7, v14_8, v14_9, .ref q_v, .ref q_1411, .ref q_1412])), (q_1411, .inl (cA_1411, 1002, .inl (fun j : Nat => zI (w106_1411 (j : Int))))), (q_1412, .inl (cA_1412, 1002, .inl (fun j : Nat => zI (a_2063 (j : Int))))), (q_v, .inl (cV, nv, .inr (.inr (.inr (.inr fv))))), (hc, .inr (12, [v13_0, v13_1, v13_2, v13_3, v13_4, .ref la, v13_6]))] ++ va_pl L (pE P)) := hD
                                refine lv_iinc (v := zI (d168_6 + 1)) (lv' := [(6, .int (zI (d168_6 + 1))), (0, .ref h0), (1, .int (zI (b0))), (2, .ref xb_2002), (3, .int (zI (d33_3))), (4, .int (zI (rWay (P.bf xb_2002) (P.bs xb_2002) (d33_3)))), (5, .ref xb_2041)]) hx hb dX14_behind_203 hl (k := 6) rfl (zI_add (d168_6) (1)) (by decide) rfl (fun ls hl => ?_)
                                refine lv_goto (tgt := 168) hx hb dX14_behind_206 (by decide) ?_
                                exact ih168 (d168_6 + 1) a_2063 ls H _ (by omega) ra_2063 (by omega) (lv_sub hl [1, 2, 3, 4, 5, 6, 0] rfl) hP hD hS
                          exact key168 ((50000 - 0 : Int).toNat + 1) 0 w62_1412 ls H _ (by omega) jw62_1412 (by omega) (lv_sub hl [1, 2, 3, 4, 5, 6, 0] rfl) hP hD hS
                        · have yb111 : ¬ (1001 : Int) < (d106_6 : Int) := fun q => b111 ((zI_lt (a := 1001) (b := d106_6) (by omega) (by omega) (by omega) (by omega)).mpr q)
                          refine lv_aload_n hx hb dX14_behind_114 rfl (lv_at hl 0 rfl) ?_
                          refine va_get (D := (dC, dI)) (ci := 13) (v := .ref q_1411) (C := RX14) (T := TX14) (N := 13) hx hb hts mem_P14_behind_0 hown hK hP 0 rfl rfl 11 (by decide) (ow (k := 26) rfl) (fun _ h9 => h9) rfl dX14_behind_115 ?_
                          refine lv_iload hx hb dX14_behind_118 (lv_at hl 6 rfl) ?_
                          refine lv_aload_n hx hb dX14_behind_120 rfl (lv_at hl 0 rfl) ?_
                          refine va_get (D := (dC, dI)) (ci := 13) (v := .ref q_1411) (C := RX14) (T := TX14) (N := 13) hx hb hts mem_P14_behind_0 hown hK hP 0 rfl rfl 11 (by decide) (ow (k := 26) rfl) (fun _ h9 => h9) rfl dX14_behind_121 ?_
                          refine lv_iload hx hb dX14_behind_124 (lv_at hl 6 rfl) ?_
                          refine va_zald hx hb hK hP 1 0 rfl rfl (zI_in (a := d106_6) (n := 1002) (by omega) (by omega) (by decide)) dX14_behind_126 ?_
                          refine lv_topi (fun z ez => ?_)
                          obtain rfl : z = zI (w106_1411 (d106_6)) := ez.trans (zI_ld (w106_1411) (by omega) (by omega))
                          have k1 := jw106_1411 (d106_6)
                          have key158 : ∀ (ms158_0 : Int) (ls : Array Slot) (H : Heap) (locs : List Loc), (0 ≤ ms158_0 ∧ ms158_0 ≤ 1) → lv_has ls 8 [(0, .ref h0), (1, .int (zI (b0))), (2, .ref xb_2002), (3, .int (zI (d33_3))), (4, .int (zI (rWay (P.bf xb_2002) (P.bs xb_2002) (d33_3)))), (5, .ref xb_2041), (6, .int (zI (d106_6)))] → va_P (dC, dI) vwQ ([(h0, .inr (13, [.ref hc, v14_1, v14_2, v14_3, v14_4, v14_5, v14_6, v14_7, v14_8, v14_9, .ref q_v, .ref q_1411, .ref q_1412])), (q_1411, .inl (cA_1411, 1002, .inl (fun j : Nat => zI (w106_1411 (j : Int))))), (q_1412, .inl (cA_1412, 1002, .inl (fun j : Nat => zI (w62_1412 (j : Int))))), (q_v, .inl (cV, nv, .inr (.inr (.inr (.inr fv))))), (hc, .inr (12, [v13_0, v13_1, v13_2, v13_3, v13_4, .ref la, v13_6]))] ++ va_pl L (pE P)) H → va_D A ([(h0, .inr (13, [.ref hc, v14_1, v14_2, v14_3, v14_4, v14_5, v14_6, v14_7, v14_8, v14_9, .ref q_v, .ref q_1411, .ref q_1412])), (q_1411, .inl (cA_1411, 1002, .inl (fun j : Nat => zI (w106_1411 (j : Int))))), (q_1412, .inl (cA_1412, 1002, .inl (fun j : Nat => zI (w62_1412 (j : Int))))), (q_v, .inl (cV, nv, .inr (.inr (.inr (.inr fv))))), (hc, .inr (12, [v13_0, v13_1, v13_2, v13_3, v13_4, .ref la, v13_6]))] ++ va_pl L (pE P)) → va_S A s.heap H locs → W p l e (headSpec v_P14_behind ({ frames := 4, cells := 0, slots := 0, locals := 85 })).room s m ([.ref h0, .int (zI (b0))] : List Value).toArray below meth c H locs 0 0 Q (F0 m 158 ls [.int (zI (ms158_0)), .int (zI (d106_6)), .ref q_1411]) := by
                            intro ms158_0 ls H locs jms158_0 hl hP hD hS
                            refine va_zast (i := zI (d106_6)) hx hb hK hP hD hS 1 0 rfl rfl (zI_in (a := d106_6) (n := 1002) (by omega) (by omega) (by decide)) dX14_behind_158 (fun H locs hP hD hS => ?_)
                            rw [show vp_nar .boolean (zI (ms158_0)) = (zI (ms158_0)) from zI_nar (a := ms158_0) (by omega) (by omega)] at hP hD
                            have eQ : upd (fun j : Nat => zI (w106_1411 (j : Int))) (zI (d106_6)).toNatClampNeg (zI (ms158_0)) = (fun j : Nat => zI (zup w106_1411 (d106_6) (ms158_0) (j : Int))) := zI_st w106_1411 (e := d106_6) (v := ms158_0) (by omega) (by omega)
                            rw [eQ] at hP hD
                            clear eQ
                            have ra_2064 : ∀ j : Int, 0 ≤ zup w106_1411 (d106_6) (ms158_0) j ∧ zup w106_1411 (d106_6) (ms158_0) j ≤ 1 := zup_P (P := fun x9 => 0 ≤ x9 ∧ x9 ≤ 1) jw106_1411 (show 0 ≤ (ms158_0) ∧ (ms158_0) ≤ 1 by omega)
                            generalize zup w106_1411 (d106_6) (ms158_0) = a_2064 at hP hD ra_2064
                            have hP : va_P (dC, dI) vwQ ([(h0, .inr (13, [.ref hc, v14_1, v14_2, v14_3, v14_4, v14_5, v14_6, v14_7, v14_8, v14_9, .ref q_v, .ref q_1411, .ref q_1412])), (q_1411, .inl (cA_1411, 1002, .inl (fun j : Nat => zI (a_2064 (j : Int))))), (q_1412, .inl (cA_1412, 1002, .inl (fun j : Nat => zI (w62_1412 (j : Int))))), (q_v, .inl (cV, nv, .inr (.inr (.inr (.inr fv))))), (hc, .inr (12, [v13_0, v13_1, v13_2, v13_3, v13_4, .ref la, v13_6]))] ++ va_pl L (pE P)) H := hP
                            have hD : va_D A ([(h0, .inr (13, [.ref hc, v14_1, v14_2, v14_3, v14_4, v14_5, v14_6, v14_7, v14_8, v14_9, .ref q_v, .ref q_1411, .ref q_1412])), (q_1411, .inl (cA_1411, 1002, .inl (fun j : Nat => zI (a_2064 (j : Int))))), (q_1412, .inl (cA_1412, 1002, .inl (fun j : Nat => zI (w62_1412 (j : Int))))), (q_v, .inl (cV, nv, .inr (.inr (.inr (.inr fv))))), (hc, .inr (12, [v13_0, v13_1, v13_2, v13_3, v13_4, .ref la, v13_6]))] ++ va_pl L (pE P)) := hD
                            refine lv_iinc (v := zI (d106_6 + 1)) (lv' := [(6, .int (zI (d106_6 + 1))), (0, .ref h0), (1, .int (zI (b0))), (2, .ref xb_2002), (3, .int (zI (d33_3))), (4, .int (zI (rWay (P.bf xb_2002) (P.bs xb_2002) (d33_3)))), (5, .ref xb_2041)]) hx hb dX14_behind_159 hl (k := 6) rfl (zI_add (d106_6) (1)) (by decide) rfl (fun ls hl => ?_)
                            refine lv_goto (tgt := 106) hx hb dX14_behind_162 (by decide) ?_
                            exact ih106 (d106_6 + 1) a_2064 ls H _ (by omega) ra_2064 (by omega) (lv_sub hl [1, 2, 3, 4, 5, 6, 0] rfl) hP hD hS
                          refine lv_if_ne (tgt := 153) hx hb dX14_behind_127 (by decide) (fun b127 => ?_) (fun b127 => ?_)
                          · have yb127 : ¬ (w106_1411 (d106_6) : Int) = (0 : Int) := fun q => b127 ((zI_eq (a := w106_1411 (d106_6)) (b := 0) (by omega) (by omega) (by omega) (by omega)).mpr q)
                            refine lv_iconst (v := 1) hx hb dX14_behind_153 (by decide) ?_
                            refine lv_goto (tgt := 158) hx hb dX14_behind_154 (by decide) ?_
                            exact key158 1 ls H _ (by omega) (lv_sub hl [0, 1, 2, 3, 4, 5, 6] rfl) hP hD hS
                          · have yb127 : (w106_1411 (d106_6) : Int) = (0 : Int) := (zI_eq (a := w106_1411 (d106_6)) (b := 0) (by omega) (by omega) (by omega) (by omega)).mp b127
                            refine lv_aload_n hx hb dX14_behind_130 rfl (lv_at hl 0 rfl) ?_
                            refine va_get (D := (dC, dI)) (ci := 13) (v := .ref q_v) (C := RX14) (T := TX14) (N := 13) hx hb hts mem_P14_behind_0 hown hK hP 0 rfl rfl 10 (by decide) (ow (k := 30) rfl) (fun _ h9 => h9) rfl dX14_behind_131 ?_
                            refine lv_iload hx hb dX14_behind_134 (lv_at hl 4 rfl) ?_
                            obtain ⟨yt_2065, heyt_2065, hmyt_2065, hnyt_2065, hiyt_2065⟩ := hX_T (rWay (P.bf xb_2002) (P.bs xb_2002) (d33_3)) (by omega) (by omega)
                            refine va_aldr hx hb hK hP 3 2 rfl rfl (zI_in (a := rWay (P.bf xb_2002) (P.bs xb_2002) (d33_3)) (n := nv) (by omega) (by omega) (by omega)) dX14_behind_136 ?_
                            rw [show va_rf (fv (zI (rWay (P.bf xb_2002) (P.bs xb_2002) (d33_3))).toNatClampNeg) = .ref yt_2065 from (by rw [zI_cl (by omega) (by omega), heyt_2065]; rfl)]
                            refine lv_iload hx hb dX14_behind_137 (lv_at hl 6 rfl) ?_
                            obtain ⟨kp_2066, hkp_2066⟩ := va_pl_get (X := [(h0, .inr (13, [.ref hc, v14_1, v14_2, v14_3, v14_4, v14_5, v14_6, v14_7, v14_8, v14_9, .ref q_v, .ref q_1411, .ref q_1412])), (q_1411, .inl (cA_1411, 1002, .inl (fun j : Nat => zI (w106_1411 (j : Int))))), (q_1412, .inl (cA_1412, 1002, .inl (fun j : Nat => zI (w62_1412 (j : Int))))), (q_v, .inl (cV, nv, .inr (.inr (.inr (.inr fv))))), (hc, .inr (12, [v13_0, v13_1, v13_2, v13_3, v13_4, .ref la, v13_6]))]) (f := pE P) hmyt_2065.1
                            rw [pE_n43 hmyt_2065.2.1, hmyt_2065.2.2] at hkp_2066
                            refine va_zald hx hb hK hP kp_2066 4 hkp_2066 rfl (zI_in (a := d106_6) (n := P.an yt_2065) (by omega) (by omega) (by omega)) dX14_behind_139 ?_
                            refine lv_topi (fun z ez => ?_)
                            obtain rfl : z = zI (P.ia yt_2065 (d106_6)) := ez.trans (zI_ld (P.ia yt_2065) (by omega) (by omega))
                            have := hiyt_2065 (d106_6)
                            refine lv_if_eq (tgt := 157) hx hb dX14_behind_140 (by decide) (fun b140 => ?_) (fun b140 => ?_)
                            · have yb140 : (P.ia yt_2065 (d106_6) : Int) = (0 : Int) := (zI_eq (a := P.ia yt_2065 (d106_6)) (b := 0) (by omega) (by omega) (by omega) (by omega)).mp b140
                              refine lv_iconst (v := 0) hx hb dX14_behind_157 (by decide) ?_
                              exact key158 0 ls H _ (by omega) (lv_sub hl [0, 1, 2, 3, 4, 5, 6] rfl) hP hD hS
                            · have yb140 : ¬ (P.ia yt_2065 (d106_6) : Int) = (0 : Int) := fun q => b140 ((zI_eq (a := P.ia yt_2065 (d106_6)) (b := 0) (by omega) (by omega) (by omega) (by omega)).mpr q)
                              refine lv_aload_n hx hb dX14_behind_143 rfl (lv_at hl 0 rfl) ?_
                              refine va_get (D := (dC, dI)) (ci := 13) (v := .ref q_1412) (C := RX14) (T := TX14) (N := 13) hx hb hts mem_P14_behind_0 hown hK hP 0 rfl rfl 12 (by decide) (ow (k := 28) rfl) (fun _ h9 => h9) rfl dX14_behind_144 ?_
                              refine lv_iload hx hb dX14_behind_147 (lv_at hl 6 rfl) ?_
                              refine va_zald hx hb hK hP 2 1 rfl rfl (zI_in (a := d106_6) (n := 1002) (by omega) (by omega) (by decide)) dX14_behind_149 ?_
                              refine lv_topi (fun z ez => ?_)
                              obtain rfl : z = zI (w62_1412 (d106_6)) := ez.trans (zI_ld (w62_1412) (by omega) (by omega))
                              have k2 := jw62_1412 (d106_6)
                              refine lv_if_ne (tgt := 157) hx hb dX14_behind_150 (by decide) (fun b150 => ?_) (fun b150 => ?_)
                              · have yb150 : ¬ (w62_1412 (d106_6) : Int) = (0 : Int) := fun q => b150 ((zI_eq (a := w62_1412 (d106_6)) (b := 0) (by omega) (by omega) (by omega) (by omega)).mpr q)
                                refine lv_iconst (v := 0) hx hb dX14_behind_157 (by decide) ?_
                                exact key158 0 ls H _ (by omega) (lv_sub hl [0, 1, 2, 3, 4, 5, 6] rfl) hP hD hS
                              · have yb150 : (w62_1412 (d106_6) : Int) = (0 : Int) := (zI_eq (a := w62_1412 (d106_6)) (b := 0) (by omega) (by omega) (by omega) (by omega)).mp b150
                                refine lv_iconst (v := 1) hx hb dX14_behind_153 (by decide) ?_
                                refine lv_goto (tgt := 158) hx hb dX14_behind_154 (by decide) ?_
                                exact key158 1 ls H _ (by omega) (lv_sub hl [0, 1, 2, 3, 4, 5, 6] rfl) hP hD hS
                    exact key106 (((1001) - (0) + 1 : Int).toNat + 1) 0 w33_1411 ls H _ (by omega) jw33_1411 (by omega) (lv_sub hl [1, 2, 3, 4, 5, 6, 0] rfl) hP hD hS
                  · have yb72 : ¬ (P.lz pr_2046 : Int) ≤ (d62_6 : Int) := fun q => b72 ((zI_le (a := P.lz pr_2046) (b := d62_6) (by omega) (by omega) (by omega) (by omega)).mpr q)
                    refine lv_aload_n hx hb dX14_behind_75 rfl (lv_at hl 0 rfl) ?_
                    refine va_get (D := (dC, dI)) (ci := 13) (v := .ref q_1412) (C := RX14) (T := TX14) (N := 13) hx hb hts mem_P14_behind_0 hown hK hP 0 rfl rfl 12 (by decide) (ow (k := 28) rfl) (fun _ h9 => h9) rfl dX14_behind_76 ?_
                    refine lv_aload hx hb dX14_behind_79 (lv_at hl 5 rfl) ?_
                    obtain ⟨kp_2067, hkp_2067⟩ := va_pl_get (X := [(h0, .inr (13, [.ref hc, v14_1, v14_2, v14_3, v14_4, v14_5, v14_6, v14_7, v14_8, v14_9, .ref q_v, .ref q_1411, .ref q_1412])), (q_1411, .inl (cA_1411, 1002, .inl (fun j : Nat => zI (w33_1411 (j : Int))))), (q_1412, .inl (cA_1412, 1002, .inl (fun j : Nat => zI (w62_1412 (j : Int))))), (q_v, .inl (cV, nv, .inr (.inr (.inr (.inr fv))))), (hc, .inr (12, [v13_0, v13_1, v13_2, v13_3, v13_4, .ref la, v13_6]))]) (f := pE P) hB_2043.1.1
                    rw [pE_block hB_2043.1.2] at hkp_2067
                    refine va_get (D := (dC, dI)) (ci := 19) (v := .ref (P.bp xb_2041)) (C := RX12) (T := TX12) (N := 5) hx hb hts mem_P14_behind_4 hown hK hP kp_2067 hkp_2067 rfl 0 (by decide) (ow (k := 12) rfl) (fun _ h9 => h9) rfl dX14_behind_81 ?_
                    obtain ⟨pr_2068, epr_2068⟩ : ∃ q9 : Nat, q9 = P.bp xb_2041 := ⟨_, rfl⟩
                    rw [← epr_2068]
                    obtain rfl : pr_2046 = pr_2068 := (by rw [epr_2068]; exact epr_2046.symm.symm)
                    refine lv_iload hx hb dX14_behind_84 (lv_at hl 6 rfl) ?_
                    have hlk_2069 := (show LOK L P cO 15 pr_2046 from (by rw [← epr_2046.symm]; exact (hX_a9.inb hi_2042).2.2.1))
                    obtain ⟨x, ex⟩ : ∃ q9 : Nat, q9 = P.el pr_2046 (d62_6) := ⟨_, rfl⟩
                    have hX_x := hlk_2069.1
                    have hX_k := hlk_2069.2.1
                    have hq9 := hlk_2069.row (i := d62_6) (by omega) (by omega)
                    have hX_q : P.le pr_2046 ∈ L ∧ P.kd (P.le pr_2046) = 31 ∧ P.ac (P.le pr_2046) = cO := ⟨hq9.1, hq9.2.1, hq9.2.2.1⟩
                    have hq8 := hq9.2.2.2
                    have hX_e0 : P.oa (P.le pr_2046) (d62_6).toNat = some x := (by rw [ex]; exact (hlk_2069.2.2.2.2 (d62_6) (by omega) (by omega)).1)
                    have hxm : x ∈ L := (by rw [ex]; exact (hlk_2069.2.2.2.2 (d62_6) (by omega) (by omega)).2.1)
                    have hxk := (hlk_2069.2.2.2.2 (d62_6) (by omega) (by omega)).2.2
                    rw [← ex] at hxk
                    have hPc := hP.part (X := [(h0, .inr (13, [.ref hc, v14_1, v14_2, v14_3, v14_4, v14_5, v14_6, v14_7, v14_8, v14_9, .ref q_v, .ref q_1411, .ref q_1412])), (q_1411, .inl (cA_1411, 1002, .inl (fun j : Nat => zI (w33_1411 (j : Int))))), (q_1412, .inl (cA_1412, 1002, .inl (fun j : Nat => zI (w62_1412 (j : Int))))), (q_v, .inl (cV, nv, .inr (.inr (.inr (.inr fv))))), (hc, .inr (12, [v13_0, v13_1, v13_2, v13_3, v13_4, .ref la, v13_6]))]) (cx := []) (pl := va_pl L (pE P)) [] rfl
                    have hDc := hD.part (X := [(h0, .inr (13, [.ref hc, v14_1, v14_2, v14_3, v14_4, v14_5, v14_6, v14_7, v14_8, v14_9, .ref q_v, .ref q_1411, .ref q_1412])), (q_1411, .inl (cA_1411, 1002, .inl (fun j : Nat => zI (w33_1411 (j : Int))))), (q_1412, .inl (cA_1412, 1002, .inl (fun j : Nat => zI (w62_1412 (j : Int))))), (q_v, .inl (cV, nv, .inr (.inr (.inr (.inr fv))))), (hc, .inr (12, [v13_0, v13_1, v13_2, v13_3, v13_4, .ref la, v13_6]))]) (cx := []) (pl := va_pl L (pE P)) [] (by decide) rfl
                    have hKc := hK.sub (tys' := [(cO, .object "java/lang/Object")]) [5] rfl
                    have hFc := va_freeP (X := [(h0, .inr (13, [.ref hc, v14_1, v14_2, v14_3, v14_4, v14_5, v14_6, v14_7, v14_8, v14_9, .ref q_v, .ref q_1411, .ref q_1412])), (q_1411, .inl (cA_1411, 1002, .inl (fun j : Nat => zI (w33_1411 (j : Int))))), (q_1412, .inl (cA_1412, 1002, .inl (fun j : Nat => zI (w62_1412 (j : Int))))), (q_v, .inl (cV, nv, .inr (.inr (.inr (.inr fv))))), (hc, .inr (12, [v13_0, v13_1, v13_2, v13_3, v13_4, .ref la, v13_6]))]) (cx := []) (pl := va_pl L (pE P)) hD hS hA [] rfl
                    refine va_callr (va_runV (As := [.int (zI (d62_6))]) (rest := [.ref q_1412]) ⟨hx, hb, hml, hown, hts⟩ (c_PL_get l dC dI cO L P pr_2046 d62_6 x hX_x hX_k hX_q (by omega) hX_e0 H.size) (cwV 1 hts g_P14_behind_PL_get rfl rfl rfl (by decide +kernel) ⟨(Nat.le_of_ble_eq_true rfl), (Nat.le_of_ble_eq_true rfl)⟩) ⟨fun a U g mk q => by obtain ⟨q0, q1, qP, qK, qD⟩ := q; exact ⟨q0, q1, qP, va_K.moved (u := U) (U := U.calling g mk a) (Vm.Alike.refl U.vm) qK, qD⟩, recv_30 hKc hPc hlk_2047.1 hlk_2047.2.1, fun U hU hW => ⟨rfl, by rw [hU], by rw [hU]; exact hPc, va_K.moved hW.alike hKc, hDc.weaken (fun _ _ _ _ => trivial)⟩⟩ rfl rfl hl.1 rfl (lv_room (Nat.le_of_ble_eq_true rfl)) dX14_behind_86 ⟨(Nat.le_of_ble_eq_true rfl), (Nat.le_of_ble_eq_true rfl)⟩) hS (fun q _ h => hFc q h) hFc (fun u q_2070 t H1 locs ht hvm hw hB hz1 hk1 hS => ?_)
                    obtain ⟨hxt_2070, hP1, hK1, hD1⟩ := hB
                    rw [ht] at hP1
                    have hK1 := va_K.moved hvm.symm hK1
                    obtain ⟨hP, hD⟩ := va_joinP (X := [(h0, .inr (13, [.ref hc, v14_1, v14_2, v14_3, v14_4, v14_5, v14_6, v14_7, v14_8, v14_9, .ref q_v, .ref q_1411, .ref q_1412])), (q_1411, .inl (cA_1411, 1002, .inl (fun j : Nat => zI (w33_1411 (j : Int))))), (q_1412, .inl (cA_1412, 1002, .inl (fun j : Nat => zI (w62_1412 (j : Int))))), (q_v, .inl (cV, nv, .inr (.inr (.inr (.inr fv))))), (hc, .inr (12, [v13_0, v13_1, v13_2, v13_3, v13_4, .ref la, v13_6]))]) (cx := []) (wr := [(h0, .inr (13, [.ref hc, v14_1, v14_2, v14_3, v14_4, v14_5, v14_6, v14_7, v14_8, v14_9, .ref q_v, .ref q_1411, .ref q_1412])), (q_1411, .inl (cA_1411, 1002, .inl (fun j : Nat => zI (w33_1411 (j : Int))))), (q_1412, .inl (cA_1412, 1002, .inl (fun j : Nat => zI (w62_1412 (j : Int))))), (q_v, .inl (cV, nv, .inr (.inr (.inr (.inr fv))))), (hc, .inr (12, [v13_0, v13_1, v13_2, v13_3, v13_4, .ref la, v13_6]))]) (rx := []) (pl := va_pl L (pE P)) (pl1 := va_pl L (pE P)) hP hD [] [0, 1, 2, 3, 4] rfl rfl (by decide) (by decide) hk1 hFc hP1 hD1
                    have hK := (hK.sub (tys' := [(cA_1411, .boolean), (cA_1412, .boolean), (cV, .array .boolean), (cI, .int), (cZ, .boolean)]) [0, 1, 2, 3, 4] rfl).app hK1
                    generalize H1 = H at hP hS ⊢
                    have hP : va_P (dC, dI) vwQ ([(h0, .inr (13, [.ref hc, v14_1, v14_2, v14_3, v14_4, v14_5, v14_6, v14_7, v14_8, v14_9, .ref q_v, .ref q_1411, .ref q_1412])), (q_1411, .inl (cA_1411, 1002, .inl (fun j : Nat => zI (w33_1411 (j : Int))))), (q_1412, .inl (cA_1412, 1002, .inl (fun j : Nat => zI (w62_1412 (j : Int))))), (q_v, .inl (cV, nv, .inr (.inr (.inr (.inr fv))))), (hc, .inr (12, [v13_0, v13_1, v13_2, v13_3, v13_4, .ref la, v13_6]))] ++ va_pl L (pE P)) H := hP
                    have hD : va_D A ([(h0, .inr (13, [.ref hc, v14_1, v14_2, v14_3, v14_4, v14_5, v14_6, v14_7, v14_8, v14_9, .ref q_v, .ref q_1411, .ref q_1412])), (q_1411, .inl (cA_1411, 1002, .inl (fun j : Nat => zI (w33_1411 (j : Int))))), (q_1412, .inl (cA_1412, 1002, .inl (fun j : Nat => zI (w62_1412 (j : Int))))), (q_v, .inl (cV, nv, .inr (.inr (.inr (.inr fv))))), (hc, .inr (12, [v13_0, v13_1, v13_2, v13_3, v13_4, .ref la, v13_6]))] ++ va_pl L (pE P)) := hD
                    have hK : va_K (dC, dI) vwQ [(cA_1411, .boolean), (cA_1412, .boolean), (cV, .array .boolean), (cI, .int), (cZ, .boolean), (cO, .object "java/lang/Object")] s := hK
                    refine W.widen (k := 0) (n := 0) (Nat.le_of_ble_eq_true rfl) (Nat.le_of_ble_eq_true rfl) ?_
                    rw [hxt_2070]
                    clear hX_e0
                    obtain ⟨xp_2071, h9⟩ : ∃ q9 : Nat, q9 = x := ⟨_, rfl⟩
                    subst h9
                    have hm_2072 := hxm
                    have hk_2073 := hxk
                    have hpb_2074 : PRB P xp_2071 (P.lz la) := (by have q9 := hX_a9.2.2.1 xb_2041 hi_2042 (d62_6) (by omega) (by rw [epr_2046.symm]; omega); rw [epr_2046.symm, ← ex] at q9; exact q9)
                    refine va_castY (C := "SsaForgeModel$Phi") (nm := "SsaForgeModel$Phi") hx hb hown (ow (k := 20) rfl) hp1 (recv_15 hK hP hm_2072 hk_2073) dX14_behind_89 ?_
                    have hp9 := hX_a9.pik hm_2072 hk_2073
                    have hpn := hp9.2.2.2.2.1
                    have hpt := hp9.2.2.2.2.2.1
                    clear hp9
                    obtain ⟨kp_2075, hkp_2075⟩ := va_pl_get (X := [(h0, .inr (13, [.ref hc, v14_1, v14_2, v14_3, v14_4, v14_5, v14_6, v14_7, v14_8, v14_9, .ref q_v, .ref q_1411, .ref q_1412])), (q_1411, .inl (cA_1411, 1002, .inl (fun j : Nat => zI (w33_1411 (j : Int))))), (q_1412, .inl (cA_1412, 1002, .inl (fun j : Nat => zI (w62_1412 (j : Int))))), (q_v, .inl (cV, nv, .inr (.inr (.inr (.inr fv))))), (hc, .inr (12, [v13_0, v13_1, v13_2, v13_3, v13_4, .ref la, v13_6]))]) (f := pE P) hm_2072
                    rw [pE_phi hk_2073] at hkp_2075
                    refine va_get (D := (dC, dI)) (ci := 20) (v := .int (zI (P.pt xp_2071))) (C := RX15) (T := TX15) (N := 6) hx hb hts mem_P14_behind_8 hown hK hP kp_2075 hkp_2075 rfl 0 (by decide) (ow (k := 29) rfl) (fun _ h9 => h9) rfl dX14_behind_92 ?_
                    refine lv_iconst (v := 1) hx hb dX14_behind_95 (by decide) ?_
                    refine va_zast (i := zI (P.pt xp_2071)) hx hb hK hP hD hS 2 1 rfl rfl (zI_in (a := P.pt xp_2071) (n := 1002) (by omega) (by omega) (by decide)) dX14_behind_96 (fun H locs hP hD hS => ?_)
                    rw [show vp_nar .boolean 1 = 1 from zI_nar (a := 1) (by omega) (by omega)] at hP hD
                    have eQ : upd (fun j : Nat => zI (w62_1412 (j : Int))) (zI (P.pt xp_2071)).toNatClampNeg 1 = (fun j : Nat => zI (zup w62_1412 (P.pt xp_2071) (1) (j : Int))) := zI_st w62_1412 (e := P.pt xp_2071) (v := 1) (by omega) (by omega)
                    rw [eQ] at hP hD
                    clear eQ
                    have ra_2076 : ∀ j : Int, 0 ≤ zup w62_1412 (P.pt xp_2071) (1) j ∧ zup w62_1412 (P.pt xp_2071) (1) j ≤ 1 := zup_P (P := fun x9 => 0 ≤ x9 ∧ x9 ≤ 1) jw62_1412 (show 0 ≤ (1) ∧ (1) ≤ 1 by omega)
                    generalize zup w62_1412 (P.pt xp_2071) (1) = a_2076 at hP hD ra_2076
                    have hP : va_P (dC, dI) vwQ ([(h0, .inr (13, [.ref hc, v14_1, v14_2, v14_3, v14_4, v14_5, v14_6, v14_7, v14_8, v14_9, .ref q_v, .ref q_1411, .ref q_1412])), (q_1411, .inl (cA_1411, 1002, .inl (fun j : Nat => zI (w33_1411 (j : Int))))), (q_1412, .inl (cA_1412, 1002, .inl (fun j : Nat => zI (a_2076 (j : Int))))), (q_v, .inl (cV, nv, .inr (.inr (.inr (.inr fv))))), (hc, .inr (12, [v13_0, v13_1, v13_2, v13_3, v13_4, .ref la, v13_6]))] ++ va_pl L (pE P)) H := hP
                    have hD : va_D A ([(h0, .inr (13, [.ref hc, v14_1, v14_2, v14_3, v14_4, v14_5, v14_6, v14_7, v14_8, v14_9, .ref q_v, .ref q_1411, .ref q_1412])), (q_1411, .inl (cA_1411, 1002, .inl (fun j : Nat => zI (w33_1411 (j : Int))))), (q_1412, .inl (cA_1412, 1002, .inl (fun j : Nat => zI (a_2076 (j : Int))))), (q_v, .inl (cV, nv, .inr (.inr (.inr (.inr fv))))), (hc, .inr (12, [v13_0, v13_1, v13_2, v13_3, v13_4, .ref la, v13_6]))] ++ va_pl L (pE P)) := hD
                    refine lv_iinc (v := zI (d62_6 + 1)) (lv' := [(6, .int (zI (d62_6 + 1))), (0, .ref h0), (1, .int (zI (b0))), (2, .ref xb_2002), (3, .int (zI (d33_3))), (4, .int (zI (rWay (P.bf xb_2002) (P.bs xb_2002) (d33_3)))), (5, .ref xb_2041)]) hx hb dX14_behind_97 hl (k := 6) rfl (zI_add (d62_6) (1)) (by decide) rfl (fun ls hl => ?_)
                    refine lv_goto (tgt := 62) hx hb dX14_behind_100 (by decide) ?_
                    exact ih62 (d62_6 + 1) a_2076 ls H _ (by omega) ra_2076 (by omega) (lv_sub hl [1, 2, 3, 4, 5, 6, 0] rfl) hP hD hS
              exact key62 ((50000 - 0 : Int).toNat + 1) 0 w33_1412 ls H _ (by omega) jw33_1412 (by omega) (lv_sub hl [3, 4, 5, 6, 2, 1, 0] rfl) hP hD hS
        exact key33 ((10 - 0 : Int).toNat + 1) 0 w2_1411 a14_phi ls H _ (by omega) jw2_1411 hR_a14_phi (by omega) (lv_sub hl [2, 3, 1, 0] rfl) hP hD hS
      · have yb6 : ¬ (1001 : Int) < (d2_2 : Int) := fun q => b6 ((zI_lt (a := 1001) (b := d2_2) (by omega) (by omega) (by omega) (by omega)).mpr q)
        refine lv_aload_n hx hb dX14_behind_9 rfl (lv_at hl 0 rfl) ?_
        refine va_get (D := (dC, dI)) (ci := 13) (v := .ref q_1411) (C := RX14) (T := TX14) (N := 13) hx hb hts mem_P14_behind_0 hown hK hP 0 rfl rfl 11 (by decide) (ow (k := 26) rfl) (fun _ h9 => h9) rfl dX14_behind_10 ?_
        refine lv_iload_n hx hb dX14_behind_13 rfl (lv_at hl 2 rfl) ?_
        refine lv_iconst (v := 0) hx hb dX14_behind_14 (by decide) ?_
        refine va_zast (i := zI (d2_2)) hx hb hK hP hD hS 1 0 rfl rfl (zI_in (a := d2_2) (n := 1002) (by omega) (by omega) (by decide)) dX14_behind_15 (fun H locs hP hD hS => ?_)
        rw [show vp_nar .boolean 0 = 0 from zI_nar (a := 0) (by omega) (by omega)] at hP hD
        have eQ : upd (fun j : Nat => zI (w2_1411 (j : Int))) (zI (d2_2)).toNatClampNeg 0 = (fun j : Nat => zI (zup w2_1411 (d2_2) (0) (j : Int))) := zI_st w2_1411 (e := d2_2) (v := 0) (by omega) (by omega)
        rw [eQ] at hP hD
        clear eQ
        have ra_2077 : ∀ j : Int, 0 ≤ zup w2_1411 (d2_2) (0) j ∧ zup w2_1411 (d2_2) (0) j ≤ 1 := zup_P (P := fun x9 => 0 ≤ x9 ∧ x9 ≤ 1) jw2_1411 (show 0 ≤ (0) ∧ (0) ≤ 1 by omega)
        generalize zup w2_1411 (d2_2) (0) = a_2077 at hP hD ra_2077
        have hP : va_P (dC, dI) vwQ ([(h0, .inr (13, [.ref hc, v14_1, v14_2, v14_3, v14_4, v14_5, v14_6, v14_7, v14_8, v14_9, .ref q_v, .ref q_1411, .ref q_1412])), (q_1411, .inl (cA_1411, 1002, .inl (fun j : Nat => zI (a_2077 (j : Int))))), (q_1412, .inl (cA_1412, 1002, .inl (fun j : Nat => zI (a14_phi (j : Int))))), (q_v, .inl (cV, nv, .inr (.inr (.inr (.inr fv))))), (hc, .inr (12, [v13_0, v13_1, v13_2, v13_3, v13_4, .ref la, v13_6]))] ++ va_pl L (pE P)) H := hP
        have hD : va_D A ([(h0, .inr (13, [.ref hc, v14_1, v14_2, v14_3, v14_4, v14_5, v14_6, v14_7, v14_8, v14_9, .ref q_v, .ref q_1411, .ref q_1412])), (q_1411, .inl (cA_1411, 1002, .inl (fun j : Nat => zI (a_2077 (j : Int))))), (q_1412, .inl (cA_1412, 1002, .inl (fun j : Nat => zI (a14_phi (j : Int))))), (q_v, .inl (cV, nv, .inr (.inr (.inr (.inr fv))))), (hc, .inr (12, [v13_0, v13_1, v13_2, v13_3, v13_4, .ref la, v13_6]))] ++ va_pl L (pE P)) := hD
        refine lv_iinc (v := zI (d2_2 + 1)) (lv' := [(2, .int (zI (d2_2 + 1))), (0, .ref h0), (1, .int (zI (b0)))]) hx hb dX14_behind_16 hl (k := 2) rfl (zI_add (d2_2) (1)) (by decide) rfl (fun ls hl => ?_)
        refine lv_goto (tgt := 2) hx hb dX14_behind_19 (by decide) ?_
        exact ih2 (d2_2 + 1) a_2077 ls H _ (by omega) ra_2077 (by omega) (lv_sub hl [1, 2, 0] rfl) hP hD hS
  exact key2 (((1001) - (0) + 1 : Int).toNat + 1) 0 a14_now ls H _ (by omega) hR_a14_now (by omega) (lv_sub hl [1, 2, 0] rfl) hP hD hS
