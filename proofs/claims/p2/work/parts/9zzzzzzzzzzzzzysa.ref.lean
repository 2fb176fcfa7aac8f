theorem dX19_named_0 : decode cX19_named 0 = .ok (.iconst 0, 1) := by decide +kernel
theorem dX19_named_1 : decode cX19_named 1 = .ok (.istore_n 2, 1) := by decide +kernel
theorem dX19_named_2 : decode cX19_named 2 = .ok (.iconst 0, 1) := by decide +kernel
theorem dX19_named_3 : decode cX19_named 3 = .ok (.istore_n 3, 1) := by decide +kernel
theorem dX19_named_4 : decode cX19_named 4 = .ok (.iload_n 3, 1) := by decide +kernel
theorem dX19_named_5 : decode cX19_named 5 = .ok (.aload_n 0, 1) := by decide +kernel
theorem dX19_named_6 : decode cX19_named 6 = .ok (.getfield 130, 3) := by decide +kernel
theorem dX19_named_9 : decode cX19_named 9 = .ok (.getfield 191, 3) := by decide +kernel
theorem dX19_named_12 : decode cX19_named 12 = .ok (.if_icmp .ge 288, 3) := by decide +kernel
theorem dX19_named_300 : decode cX19_named 300 = .ok (.iconst 0, 1) := by decide +kernel
theorem dX19_named_301 : decode cX19_named 301 = .ok (.istore_n 3, 1) := by decide +kernel
theorem dX19_named_302 : decode cX19_named 302 = .ok (.iload_n 3, 1) := by decide +kernel
theorem dX19_named_303 : decode cX19_named 303 = .ok (.aload_n 1, 1) := by decide +kernel
theorem dX19_named_304 : decode cX19_named 304 = .ok (.invokevirtual 31, 3) := by decide +kernel
theorem dX19_named_307 : decode cX19_named 307 = .ok (.if_icmp .ge 102, 3) := by decide +kernel
theorem dX19_named_409 : decode cX19_named 409 = .ok (.iconst 1, 1) := by decide +kernel
theorem dX19_named_410 : decode cX19_named 410 = .ok (.ireturn, 1) := by decide +kernel
theorem dX19_named_310 : decode cX19_named 310 = .ok (.aload_n 1, 1) := by decide +kernel
theorem dX19_named_311 : decode cX19_named 311 = .ok (.iload_n 3, 1) := by decide +kernel
theorem dX19_named_312 : decode cX19_named 312 = .ok (.invokevirtual 57, 3) := by decide +kernel
theorem dX19_named_315 : decode cX19_named 315 = .ok (.astore 4, 2) := by decide +kernel
theorem dX19_named_317 : decode cX19_named 317 = .ok (.iconst 0, 1) := by decide +kernel
theorem dX19_named_318 : decode cX19_named 318 = .ok (.istore 5, 2) := by decide +kernel
theorem dX19_named_320 : decode cX19_named 320 = .ok (.iload 5, 2) := by decide +kernel
theorem dX19_named_322 : decode cX19_named 322 = .ok (.aload 4, 2) := by decide +kernel
theorem dX19_named_324 : decode cX19_named 324 = .ok (.getfield 76, 3) := by decide +kernel
theorem dX19_named_327 : decode cX19_named 327 = .ok (.invokevirtual 53, 3) := by decide +kernel
theorem dX19_named_330 : decode cX19_named 330 = .ok (.if_icmp .ge 73, 3) := by decide +kernel
theorem dX19_named_403 : decode cX19_named 403 = .ok (.iinc 3 1, 3) := by decide +kernel
theorem dX19_named_406 : decode cX19_named 406 = .ok (.goto (-104), 3) := by decide +kernel
theorem dX19_named_333 : decode cX19_named 333 = .ok (.aload 4, 2) := by decide +kernel
theorem dX19_named_335 : decode cX19_named 335 = .ok (.getfield 76, 3) := by decide +kernel
theorem dX19_named_338 : decode cX19_named 338 = .ok (.iload 5, 2) := by decide +kernel
theorem dX19_named_340 : decode cX19_named 340 = .ok (.invokevirtual 41, 3) := by decide +kernel
theorem dX19_named_343 : decode cX19_named 343 = .ok (.checkcast 79, 3) := by decide +kernel
theorem dX19_named_346 : decode cX19_named 346 = .ok (.astore 6, 2) := by decide +kernel
theorem dX19_named_348 : decode cX19_named 348 = .ok (.iconst 0, 1) := by decide +kernel
theorem dX19_named_349 : decode cX19_named 349 = .ok (.istore 7, 2) := by decide +kernel
theorem dX19_named_351 : decode cX19_named 351 = .ok (.iload 7, 2) := by decide +kernel
theorem dX19_named_353 : decode cX19_named 353 = .ok (.aload 6, 2) := by decide +kernel
theorem dX19_named_355 : decode cX19_named 355 = .ok (.getfield 81, 3) := by decide +kernel
theorem dX19_named_358 : decode cX19_named 358 = .ok (.if_icmp .ge 39, 3) := by decide +kernel
theorem dX19_named_397 : decode cX19_named 397 = .ok (.iinc 5 1, 3) := by decide +kernel
theorem dX19_named_400 : decode cX19_named 400 = .ok (.goto (-80), 3) := by decide +kernel
theorem dX19_named_361 : decode cX19_named 361 = .ok (.aload 6, 2) := by decide +kernel
theorem dX19_named_363 : decode cX19_named 363 = .ok (.getfield 213, 3) := by decide +kernel
theorem dX19_named_366 : decode cX19_named 366 = .ok (.iload 7, 2) := by decide +kernel
theorem dX19_named_368 : decode cX19_named 368 = .ok (.aload_n 0, 1) := by decide +kernel
theorem dX19_named_369 : decode cX19_named 369 = .ok (.getfield 112, 3) := by decide +kernel
theorem dX19_named_372 : decode cX19_named 372 = .ok (.aload 6, 2) := by decide +kernel
theorem dX19_named_374 : decode cX19_named 374 = .ok (.getfield 84, 3) := by decide +kernel
theorem dX19_named_377 : decode cX19_named 377 = .ok (.iload 7, 2) := by decide +kernel
theorem dX19_named_379 : decode cX19_named 379 = .ok (.iaload, 1) := by decide +kernel
theorem dX19_named_380 : decode cX19_named 380 = .ok (.aaload, 1) := by decide +kernel
theorem dX19_named_381 : decode cX19_named 381 = .ok (.aload 6, 2) := by decide +kernel
theorem dX19_named_383 : decode cX19_named 383 = .ok (.getfield 213, 3) := by decide +kernel
theorem dX19_named_386 : decode cX19_named 386 = .ok (.iload 7, 2) := by decide +kernel
theorem dX19_named_388 : decode cX19_named 388 = .ok (.iaload, 1) := by decide +kernel
theorem dX19_named_389 : decode cX19_named 389 = .ok (.iaload, 1) := by decide +kernel
theorem dX19_named_390 : decode cX19_named 390 = .ok (.iastore, 1) := by decide +kernel
theorem dX19_named_391 : decode cX19_named 391 = .ok (.iinc 7 1, 3) := by decide +kernel
theorem dX19_named_394 : decode cX19_named 394 = .ok (.goto (-43), 3) := by decide +kernel
theorem dX19_named_15 : decode cX19_named 15 = .ok (.aload_n 0, 1) := by decide +kernel
theorem dX19_named_16 : decode cX19_named 16 = .ok (.getfield 130, 3) := by decide +kernel
theorem dX19_named_19 : decode cX19_named 19 = .ok (.getfield 194, 3) := by decide +kernel
theorem dX19_named_22 : decode cX19_named 22 = .ok (.iload_n 3, 1) := by decide +kernel
theorem dX19_named_23 : decode cX19_named 23 = .ok (.iaload, 1) := by decide +kernel
theorem dX19_named_24 : decode cX19_named 24 = .ok (.istore 4, 2) := by decide +kernel
theorem dX19_named_26 : decode cX19_named 26 = .ok (.aload_n 1, 1) := by decide +kernel
theorem dX19_named_27 : decode cX19_named 27 = .ok (.iload 4, 2) := by decide +kernel
theorem dX19_named_29 : decode cX19_named 29 = .ok (.invokevirtual 57, 3) := by decide +kernel
theorem dX19_named_32 : decode cX19_named 32 = .ok (.astore 5, 2) := by decide +kernel
theorem dX19_named_34 : decode cX19_named 34 = .ok (.aload_n 0, 1) := by decide +kernel
theorem dX19_named_35 : decode cX19_named 35 = .ok (.getfield 112, 3) := by decide +kernel
theorem dX19_named_38 : decode cX19_named 38 = .ok (.iload 4, 2) := by decide +kernel
theorem dX19_named_40 : decode cX19_named 40 = .ok (.aaload, 1) := by decide +kernel
theorem dX19_named_41 : decode cX19_named 41 = .ok (.astore 6, 2) := by decide +kernel
theorem dX19_named_43 : decode cX19_named 43 = .ok (.iconst 0, 1) := by decide +kernel
theorem dX19_named_44 : decode cX19_named 44 = .ok (.istore 7, 2) := by decide +kernel
theorem dX19_named_46 : decode cX19_named 46 = .ok (.iload 7, 2) := by decide +kernel
theorem dX19_named_48 : decode cX19_named 48 = .ok (.sipush 1001, 3) := by decide +kernel
theorem dX19_named_51 : decode cX19_named 51 = .ok (.if_icmp .gt 41, 3) := by decide +kernel
theorem dX19_named_92 : decode cX19_named 92 = .ok (.iconst 0, 1) := by decide +kernel
theorem dX19_named_93 : decode cX19_named 93 = .ok (.istore 7, 2) := by decide +kernel
theorem dX19_named_95 : decode cX19_named 95 = .ok (.iload 7, 2) := by decide +kernel
theorem dX19_named_97 : decode cX19_named 97 = .ok (.aload 5, 2) := by decide +kernel
theorem dX19_named_99 : decode cX19_named 99 = .ok (.getfield 76, 3) := by decide +kernel
theorem dX19_named_102 : decode cX19_named 102 = .ok (.invokevirtual 53, 3) := by decide +kernel
theorem dX19_named_105 : decode cX19_named 105 = .ok (.if_icmp .ge 42, 3) := by decide +kernel
theorem dX19_named_147 : decode cX19_named 147 = .ok (.iconst 0, 1) := by decide +kernel
theorem dX19_named_148 : decode cX19_named 148 = .ok (.istore 7, 2) := by decide +kernel
theorem dX19_named_150 : decode cX19_named 150 = .ok (.iload 7, 2) := by decide +kernel
theorem dX19_named_152 : decode cX19_named 152 = .ok (.aload 5, 2) := by decide +kernel
theorem dX19_named_154 : decode cX19_named 154 = .ok (.getfield 116, 3) := by decide +kernel
theorem dX19_named_157 : decode cX19_named 157 = .ok (.invokevirtual 53, 3) := by decide +kernel
theorem dX19_named_160 : decode cX19_named 160 = .ok (.if_icmp .ge 95, 3) := by decide +kernel
theorem dX19_named_255 : decode cX19_named 255 = .ok (.aload 5, 2) := by decide +kernel
theorem dX19_named_257 : decode cX19_named 257 = .ok (.getfield 60, 3) := by decide +kernel
theorem dX19_named_260 : decode cX19_named 260 = .ok (.invokevirtual 201, 3) := by decide +kernel
theorem dX19_named_263 : decode cX19_named 263 = .ok (.ifCond .eq 22, 3) := by decide +kernel
theorem dX19_named_285 : decode cX19_named 285 = .ok (.iload_n 2, 1) := by decide +kernel
theorem dX19_named_286 : decode cX19_named 286 = .ok (.sipush 1000, 3) := by decide +kernel
theorem dX19_named_289 : decode cX19_named 289 = .ok (.if_icmp .le 5, 3) := by decide +kernel
theorem dX19_named_294 : decode cX19_named 294 = .ok (.iinc 3 1, 3) := by decide +kernel
theorem dX19_named_297 : decode cX19_named 297 = .ok (.goto (-293), 3) := by decide +kernel
theorem dX19_named_266 : decode cX19_named 266 = .ok (.aload 5, 2) := by decide +kernel
theorem dX19_named_268 : decode cX19_named 268 = .ok (.getfield 60, 3) := by decide +kernel
theorem dX19_named_271 : decode cX19_named 271 = .ok (.aload 6, 2) := by decide +kernel
theorem dX19_named_273 : decode cX19_named 273 = .ok (.aload 5, 2) := by decide +kernel
theorem dX19_named_275 : decode cX19_named 275 = .ok (.getfield 60, 3) := by decide +kernel
theorem dX19_named_278 : decode cX19_named 278 = .ok (.getfield 204, 3) := by decide +kernel
theorem dX19_named_281 : decode cX19_named 281 = .ok (.iaload, 1) := by decide +kernel
theorem dX19_named_282 : decode cX19_named 282 = .ok (.putfield 204, 3) := by decide +kernel
theorem dX19_named_163 : decode cX19_named 163 = .ok (.aload 5, 2) := by decide +kernel
theorem dX19_named_165 : decode cX19_named 165 = .ok (.getfield 116, 3) := by decide +kernel
theorem dX19_named_168 : decode cX19_named 168 = .ok (.iload 7, 2) := by decide +kernel
theorem dX19_named_170 : decode cX19_named 170 = .ok (.invokevirtual 41, 3) := by decide +kernel
theorem dX19_named_173 : decode cX19_named 173 = .ok (.checkcast 65, 3) := by decide +kernel
theorem dX19_named_176 : decode cX19_named 176 = .ok (.astore 8, 2) := by decide +kernel
theorem dX19_named_178 : decode cX19_named 178 = .ok (.aload 8, 2) := by decide +kernel
theorem dX19_named_180 : decode cX19_named 180 = .ok (.invokevirtual 201, 3) := by decide +kernel
theorem dX19_named_183 : decode cX19_named 183 = .ok (.ifCond .eq 16, 3) := by decide +kernel
theorem dX19_named_199 : decode cX19_named 199 = .ok (.aload 8, 2) := by decide +kernel
theorem dX19_named_201 : decode cX19_named 201 = .ok (.invokevirtual 207, 3) := by decide +kernel
theorem dX19_named_204 : decode cX19_named 204 = .ok (.ifCond .eq 16, 3) := by decide +kernel
theorem dX19_named_220 : decode cX19_named 220 = .ok (.aload 8, 2) := by decide +kernel
theorem dX19_named_222 : decode cX19_named 222 = .ok (.invokevirtual 119, 3) := by decide +kernel
theorem dX19_named_225 : decode cX19_named 225 = .ok (.ifCond .ne 6, 3) := by decide +kernel
theorem dX19_named_231 : decode cX19_named 231 = .ok (.aload 6, 2) := by decide +kernel
theorem dX19_named_233 : decode cX19_named 233 = .ok (.aload 8, 2) := by decide +kernel
theorem dX19_named_235 : decode cX19_named 235 = .ok (.getfield 122, 3) := by decide +kernel
theorem dX19_named_238 : decode cX19_named 238 = .ok (.iload_n 2, 1) := by decide +kernel
theorem dX19_named_239 : decode cX19_named 239 = .ok (.iastore, 1) := by decide +kernel
theorem dX19_named_240 : decode cX19_named 240 = .ok (.aload 8, 2) := by decide +kernel
theorem dX19_named_242 : decode cX19_named 242 = .ok (.iload_n 2, 1) := by decide +kernel
theorem dX19_named_243 : decode cX19_named 243 = .ok (.putfield 122, 3) := by decide +kernel
theorem dX19_named_246 : decode cX19_named 246 = .ok (.iinc 2 1, 3) := by decide +kernel
theorem dX19_named_249 : decode cX19_named 249 = .ok (.iinc 7 1, 3) := by decide +kernel
theorem dX19_named_252 : decode cX19_named 252 = .ok (.goto (-102), 3) := by decide +kernel
theorem dX19_named_228 : decode cX19_named 228 = .ok (.goto 21, 3) := by decide +kernel
theorem dX19_named_207 : decode cX19_named 207 = .ok (.aload 8, 2) := by decide +kernel
theorem dX19_named_209 : decode cX19_named 209 = .ok (.aload 6, 2) := by decide +kernel
theorem dX19_named_211 : decode cX19_named 211 = .ok (.aload 8, 2) := by decide +kernel
theorem dX19_named_213 : decode cX19_named 213 = .ok (.getfield 210, 3) := by decide +kernel
theorem dX19_named_216 : decode cX19_named 216 = .ok (.iaload, 1) := by decide +kernel
theorem dX19_named_217 : decode cX19_named 217 = .ok (.putfield 210, 3) := by decide +kernel
theorem dX19_named_186 : decode cX19_named 186 = .ok (.aload 8, 2) := by decide +kernel
theorem dX19_named_188 : decode cX19_named 188 = .ok (.aload 6, 2) := by decide +kernel
theorem dX19_named_190 : decode cX19_named 190 = .ok (.aload 8, 2) := by decide +kernel
theorem dX19_named_192 : decode cX19_named 192 = .ok (.getfield 204, 3) := by decide +kernel
theorem dX19_named_195 : decode cX19_named 195 = .ok (.iaload, 1) := by decide +kernel
theorem dX19_named_196 : decode cX19_named 196 = .ok (.putfield 204, 3) := by decide +kernel
theorem dX19_named_108 : decode cX19_named 108 = .ok (.aload 5, 2) := by decide +kernel
theorem dX19_named_110 : decode cX19_named 110 = .ok (.getfield 76, 3) := by decide +kernel
theorem dX19_named_113 : decode cX19_named 113 = .ok (.iload 7, 2) := by decide +kernel
theorem dX19_named_115 : decode cX19_named 115 = .ok (.invokevirtual 41, 3) := by decide +kernel
theorem dX19_named_118 : decode cX19_named 118 = .ok (.checkcast 79, 3) := by decide +kernel
theorem dX19_named_121 : decode cX19_named 121 = .ok (.astore 8, 2) := by decide +kernel
theorem dX19_named_123 : decode cX19_named 123 = .ok (.aload 6, 2) := by decide +kernel
theorem dX19_named_125 : decode cX19_named 125 = .ok (.aload 8, 2) := by decide +kernel
theorem dX19_named_127 : decode cX19_named 127 = .ok (.getfield 200, 3) := by decide +kernel
theorem dX19_named_130 : decode cX19_named 130 = .ok (.iload_n 2, 1) := by decide +kernel
theorem dX19_named_131 : decode cX19_named 131 = .ok (.iastore, 1) := by decide +kernel
theorem dX19_named_132 : decode cX19_named 132 = .ok (.aload 8, 2) := by decide +kernel
theorem dX19_named_134 : decode cX19_named 134 = .ok (.iload_n 2, 1) := by decide +kernel
theorem dX19_named_135 : decode cX19_named 135 = .ok (.putfield 200, 3) := by decide +kernel
theorem dX19_named_138 : decode cX19_named 138 = .ok (.iinc 2 1, 3) := by decide +kernel
theorem dX19_named_141 : decode cX19_named 141 = .ok (.iinc 7 1, 3) := by decide +kernel
theorem dX19_named_144 : decode cX19_named 144 = .ok (.goto (-49), 3) := by decide +kernel
theorem dX19_named_54 : decode cX19_named 54 = .ok (.aload 6, 2) := by decide +kernel
theorem dX19_named_56 : decode cX19_named 56 = .ok (.iload 7, 2) := by decide +kernel
theorem dX19_named_58 : decode cX19_named 58 = .ok (.iload 4, 2) := by decide +kernel
theorem dX19_named_60 : decode cX19_named 60 = .ok (.ifCond .ne 7, 3) := by decide +kernel
theorem dX19_named_67 : decode cX19_named 67 = .ok (.aload_n 0, 1) := by decide +kernel
theorem dX19_named_68 : decode cX19_named 68 = .ok (.getfield 112, 3) := by decide +kernel
theorem dX19_named_71 : decode cX19_named 71 = .ok (.aload_n 0, 1) := by decide +kernel
theorem dX19_named_72 : decode cX19_named 72 = .ok (.getfield 130, 3) := by decide +kernel
theorem dX19_named_75 : decode cX19_named 75 = .ok (.getfield 197, 3) := by decide +kernel
theorem dX19_named_78 : decode cX19_named 78 = .ok (.iload 4, 2) := by decide +kernel
theorem dX19_named_80 : decode cX19_named 80 = .ok (.iaload, 1) := by decide +kernel
theorem dX19_named_81 : decode cX19_named 81 = .ok (.aaload, 1) := by decide +kernel
theorem dX19_named_82 : decode cX19_named 82 = .ok (.iload 7, 2) := by decide +kernel
theorem dX19_named_84 : decode cX19_named 84 = .ok (.iaload, 1) := by decide +kernel
theorem dX19_named_85 : decode cX19_named 85 = .ok (.iastore, 1) := by decide +kernel
theorem dX19_named_86 : decode cX19_named 86 = .ok (.iinc 7 1, 3) := by decide +kernel
theorem dX19_named_89 : decode cX19_named 89 = .ok (.goto (-43), 3) := by decide +kernel
theorem dX19_named_63 : decode cX19_named 63 = .ok (.iconst (-1), 1) := by decide +kernel
theorem dX19_named_64 : decode cX19_named 64 = .ok (.goto 21, 3) := by decide +kernel
def o_P19_namedE : List Cond := [.fieldLink RX19 130 "SsaForgeModel" "flow" "LSsaForgeModel$Flow;", .fieldLink RX19 191 "SsaForgeModel$Flow" "ordered" "I", .methodLink RX19 31 yX13_size, .instanceMethod yX13_size, .selects RX13 yX13_size yX13_size, .initialized RX13, .methodLink RX19 57 yX13_get, .instanceMethod yX13_get, .selects RX13 yX13_get yX13_get, .fieldLink RX19 76 "SsaForgeModel$Block" "phis" "Ljava/util/ArrayList;", .methodLink RX19 53 yJx4a65c_size_8abf5, .instanceMethod yJx4a65c_size_8abf5, .selects RJx4a65c yJx4a65c_size_8abf5 yJx4a65c_size_8abf5, .initialized RJx4a65c, .methodLink RX19 41 yJx4a65c_get_915e3, .instanceMethod yJx4a65c_get_915e3, .selects RJx4a65c yJx4a65c_get_915e3 yJx4a65c_get_915e3, .classLink RX19 79 "SsaForgeModel$Phi", .fieldLink RX19 81 "SsaForgeModel$Phi" "n" "I", .fieldLink RX19 213 "SsaForgeModel$Phi" "operands" "[I", .fieldLink RX19 112 "SsaForgeModel" "latest" "[[I", .fieldLink RX19 84 "SsaForgeModel$Phi" "preds" "[I", .fieldLink RX19 194 "SsaForgeModel$Flow" "order" "[I", .fieldLink RX19 116 "SsaForgeModel$Block" "rows" "Ljava/util/ArrayList;", .fieldLink RX19 60 "SsaForgeModel$Block" "end" "LSsaForgeModel$Row;", .methodLink RX19 201 yX17_usesA, .instanceMethod yX17_usesA, .selects RX17 yX17_usesA yX17_usesA, .initialized RX17, .fieldLink RX19 204 "SsaForgeModel$Row" "a" "I", .classLink RX19 65 "SsaForgeModel$Row", .methodLink RX19 207 yX17_usesB, .instanceMethod yX17_usesB, .selects RX17 yX17_usesB yX17_usesB, .methodLink RX19 119 yX17_sets, .instanceMethod yX17_sets, .selects RX17 yX17_sets yX17_sets, .fieldLink RX19 122 "SsaForgeModel$Row" "t" "I", .fieldLink RX19 210 "SsaForgeModel$Row" "b" "I", .fieldLink RX19 200 "SsaForgeModel$Phi" "t" "I", .fieldLink RX19 197 "SsaForgeModel$Flow" "idom" "[I"]
def v_P19_namedE : List Cond := .code yX19_named cX19_named 9 (some .boolean) :: (o_P19_namedE ++ (wsX190 ++ (wsX140 ++ (v_PC_size ++ (v_PC_get ++ (wsX120 ++ (v_PL_size ++ (v_PL_get ++ (wsX150 ++ (v_PR_usesA ++ (wsX170 ++ (v_PR_usesB ++ (v_PR_sets ++ [])))))))))))))
theorem mow_P19_namedE : ∀ w ∈ o_P19_namedE, w ∈ v_P19_namedE := fun _ h => List.mem_cons_of_mem _ (List.mem_append_left _ h)
theorem mem_P19_namedE_0 : ∀ w ∈ wsX190, w ∈ v_P19_namedE := fun _ h => List.mem_cons_of_mem _ (List.mem_append_right _ (List.mem_append_left _ h))
theorem mem_P19_namedE_1 : ∀ w ∈ wsX140, w ∈ v_P19_namedE := fun _ h => List.mem_cons_of_mem _ (List.mem_append_right _ (List.mem_append_right _ (List.mem_append_left _ h)))
theorem mem_P19_namedE_2 : ∀ w ∈ v_PC_size, w ∈ v_P19_namedE := fun _ h => List.mem_cons_of_mem _ (List.mem_append_right _ (List.mem_append_right _ (List.mem_append_right _ (List.mem_append_left _ h))))
theorem mem_P19_namedE_3 : ∀ w ∈ v_PC_get, w ∈ v_P19_namedE := fun _ h => List.mem_cons_of_mem _ (List.mem_append_right _ (List.mem_append_right _ (List.mem_append_right _ (List.mem_append_right _ (List.mem_append_left _ h)))))
theorem mem_P19_namedE_4 : ∀ w ∈ wsX120, w ∈ v_P19_namedE := fun _ h => List.mem_cons_of_mem _ (List.mem_append_right _ (List.mem_append_right _ (List.mem_append_right _ (List.mem_append_right _ (List.mem_append_right _ (List.mem_append_left _ h))))))
theorem mem_P19_namedE_5 : ∀ w ∈ v_PL_size, w ∈ v_P19_namedE := fun _ h => List.mem_cons_of_mem _ (List.mem_append_right _ (List.mem_append_right _ (List.mem_append_right _ (List.mem_append_right _ (List.mem_append_right _ (List.mem_append_right _ (List.mem_append_left _ h)))))))
theorem mem_P19_namedE_6 : ∀ w ∈ v_PL_get, w ∈ v_P19_namedE := fun _ h => List.mem_cons_of_mem _ (List.mem_append_right _ (List.mem_append_right _ (List.mem_append_right _ (List.mem_append_right _ (List.mem_append_right _ (List.mem_append_right _ (List.mem_append_right _ (List.mem_append_left _ h))))))))
theorem mem_P19_namedE_7 : ∀ w ∈ wsX150, w ∈ v_P19_namedE := fun _ h => List.mem_cons_of_mem _ (List.mem_append_right _ (List.mem_append_right _ (List.mem_append_right _ (List.mem_append_right _ (List.mem_append_right _ (List.mem_append_right _ (List.mem_append_right _ (List.mem_append_right _ (List.mem_append_left _ h)))))))))
theorem mem_P19_namedE_8 : ∀ w ∈ v_PR_usesA, w ∈ v_P19_namedE := fun _ h => List.mem_cons_of_mem _ (List.mem_append_right _ (List.mem_append_right _ (List.mem_append_right _ (List.mem_append_right _ (List.mem_append_right _ (List.mem_append_right _ (List.mem_append_right _ (List.mem_append_right _ (List.mem_append_right _ (List.mem_append_left _ h))))))))))
theorem mem_P19_namedE_9 : ∀ w ∈ wsX170, w ∈ v_P19_namedE := fun _ h => List.mem_cons_of_mem _ (List.mem_append_right _ (List.mem_append_right _ (List.mem_append_right _ (List.mem_append_right _ (List.mem_append_right _ (List.mem_append_right _ (List.mem_append_right _ (List.mem_append_right _ (List.mem_append_right _ (List.mem_append_right _ (List.mem_append_left _ h)))))))))))
theorem mem_P19_namedE_10 : ∀ w ∈ v_PR_usesB, w ∈ v_P19_namedE := fun _ h => List.mem_cons_of_mem _ (List.mem_append_right _ (List.mem_append_right _ (List.mem_append_right _ (List.mem_append_right _ (List.mem_append_right _ (List.mem_append_right _ (List.mem_append_right _ (List.mem_append_right _ (List.mem_append_right _ (List.mem_append_right _ (List.mem_append_right _ (List.mem_append_left _ h))))))))))))
theorem mem_P19_namedE_11 : ∀ w ∈ v_PR_sets, w ∈ v_P19_namedE := fun _ h => List.mem_cons_of_mem _ (List.mem_append_right _ (List.mem_append_right _ (List.mem_append_right _ (List.mem_append_right _ (List.mem_append_right _ (List.mem_append_right _ (List.mem_append_right _ (List.mem_append_right _ (List.mem_append_right _ (List.mem_append_right _ (List.mem_append_right _ (List.mem_append_right _ (List.mem_append_left _ h)))))))))))))
set_option maxRecDepth 20000 in
theorem gw_P19_namedE : v_P19_namedE.all goodWord = true := by decide +kernel
set_option maxRecDepth 20000 in
theorem g_P19_namedE_PC_size : GoodIn v_P19_namedE (wsV RX19 31 RX13 yX13_size v_PC_size) := goodIn_app (goodIn_sub (fun w h => mow_P19_namedE w (by revert w h; decide +kernel)) (by decide +kernel)) (goodIn_sub mem_P19_namedE_2 gw_PC_size)
set_option maxRecDepth 20000 in
theorem g_P19_namedE_PC_get : GoodIn v_P19_namedE (wsV RX19 57 RX13 yX13_get v_PC_get) := goodIn_app (goodIn_sub (fun w h => mow_P19_namedE w (by revert w h; decide +kernel)) (by decide +kernel)) (goodIn_sub mem_P19_namedE_3 gw_PC_get)
set_option maxRecDepth 20000 in
theorem g_P19_namedE_PL_size : GoodIn v_P19_namedE (wsV RX19 53 RJx4a65c yJx4a65c_size_8abf5 v_PL_size) := goodIn_app (goodIn_sub (fun w h => mow_P19_namedE w (by revert w h; decide +kernel)) (by decide +kernel)) (goodIn_sub mem_P19_namedE_5 gw_PL_size)
set_option maxRecDepth 20000 in
theorem g_P19_namedE_PL_get : GoodIn v_P19_namedE (wsV RX19 41 RJx4a65c yJx4a65c_get_915e3 v_PL_get) := goodIn_app (goodIn_sub (fun w h => mow_P19_namedE w (by revert w h; decide +kernel)) (by decide +kernel)) (goodIn_sub mem_P19_namedE_6 gw_PL_get)
set_option maxRecDepth 20000 in
theorem g_P19_namedE_PR_usesA : GoodIn v_P19_namedE (wsV RX19 201 RX17 yX17_usesA v_PR_usesA) := goodIn_app (goodIn_sub (fun w h => mow_P19_namedE w (by revert w h; decide +kernel)) (by decide +kernel)) (goodIn_sub mem_P19_namedE_8 gw_PR_usesA)
set_option maxRecDepth 20000 in
theorem g_P19_namedE_PR_usesB : GoodIn v_P19_namedE (wsV RX19 207 RX17 yX17_usesB v_PR_usesB) := goodIn_app (goodIn_sub (fun w h => mow_P19_namedE w (by revert w h; decide +kernel)) (by decide +kernel)) (goodIn_sub mem_P19_namedE_10 gw_PR_usesB)
set_option maxRecDepth 20000 in
theorem g_P19_namedE_PR_sets : GoodIn v_P19_namedE (wsV RX19 119 RX17 yX17_sets v_PR_sets) := goodIn_app (goodIn_sub (fun w h => mow_P19_namedE w (by revert w h; decide +kernel)) (by decide +kernel)) (goodIn_sub mem_P19_namedE_11 gw_PR_sets)
set_option maxHeartbeats 40000000 in
set_option maxRecDepth 100000 in
theorem key302_P19_namedE (l : Launch) (dC : Nat → ClassId) (dI : Nat → Nat → Nat) (cI : ClassId) (cZ : ClassId) (h0 : Nat) (v19_1 : Value) (v19_2 : Value) (v19_3 : Value) (v19_4 : Value) (v19_5 : Value) (v19_7 : Value) (v19_8 : Value) (v19_9 : Value) (v19_10 : Value) (v19_11 : Value) (v19_12 : Value) (v19_13 : Value) (v19_14 : Value) (v19_15 : Value) (v19_16 : Value) (v19_17 : Value) (v19_18 : Value) (v19_19 : Value) (v19_20 : Value) (v19_21 : Value) (v19_22 : Value) (v19_23 : Value) (v19_24 : Value) (v19_25 : Value) (v19_26 : Value) (v19_27 : Value) (v19_28 : Value) (v19_29 : Value) (v19_30 : Value) (v19_31 : Value) (v19_32 : Value) (v19_33 : Value) (v19_34 : Value) (v19_35 : Value) (v19_36 : Value) (v19_37 : Value) (v19_38 : Value) (v19_39 : Value) (v19_40 : Value) (q_lt : Nat) (cL : ClassId) (nl : Nat) (ft : Nat → Option Nat) (hf : Nat) (v14_0 : Value) (v14_1 : Value) (v14_2 : Value) (v14_3 : Value) (z14_ordered : Int) (v14_7 : Value) (v14_8 : Value) (v14_9 : Value) (v14_10 : Value) (v14_11 : Value) (v14_12 : Value) (q_1404 : Nat) (cA_1404 : ClassId) (n14_idom : Nat) (a14_idom : Int → Int) (q_1405 : Nat) (cA_1405 : ClassId) (n14_order : Nat) (a14_order : Int → Int) (hc : Nat) (v13_0 : Value) (v13_1 : Value) (v13_2 : Value) (v13_3 : Value) (v13_4 : Value) (v13_6 : Value) (la : Nat) (cO : ClassId) (L : List Nat) (P : PO) (sx_ed : Nat) (hNnl : nl ≤ 300) (hNz14_ordered : 0 ≤ z14_ordered ∧ z14_ordered ≤ 300) (hNn14_idom : n14_idom ≤ 1000) (hR_a14_idom : ∀ j : Int, -2 ≤ a14_idom j ∧ a14_idom j ≤ 299) (hNn14_order : n14_order ≤ 1000) (hR_a14_order : ∀ j : Int, 0 ≤ a14_order j ∧ a14_order j ≤ 299) (hX_a : ALP L P cO cI cZ sx_ed la) (hNb : P.lz la ≤ nl ∧ P.lz la ≤ n14_order ∧ P.lz la ≤ n14_idom) (hX_T : TBK L P 45 cI ft (nl : Int) 1002 (-1) 1001) (hX_I : TDI ft nl) (hX_O : ODR a14_idom a14_order z14_ordered (P.lz la)) (hX_M : NID P la a14_idom) (hX_L : NAL a14_order z14_ordered (P.lz la)) (hX_F : NFP P la) (hX_R : PRG P la) (p : _) (e : _) (s : _) (m : _) (below : _) (meth : _) (c : _) (s₁ : _) (B : BodyLoose p l yX19_named (headSpec v_P19_namedE (({ frames := 4, cells := 0, slots := 0, locals := 85 }))) cX19_named 9 ((some .boolean)) e s m (([.ref h0, .ref hc] : List Value).toArray) below meth c s₁) (hml : c.maxLocals = 9) (A : Nat → Prop) (hA : ∀ q : Nat, s.heap.size ≤ q → A q) (hp0 : va_Nw (.castable "SsaForgeModel$Block" "SsaForgeModel$Block") s) (hp1 : va_Nw (.castable "SsaForgeModel$Phi" "SsaForgeModel$Phi") s) (hp2 : va_Nw (.castable "SsaForgeModel$Row" "SsaForgeModel$Row") s) (Q : State → Prop) (hQ : Q = MQ below (va_Qi (fun (r : Int32) (_ : Unit) => ∃ z : Int, r = zI z ∧ (1 ≤ z ∧ z ≤ 1)) (fun (_ : Unit) (t : State) => ∃ (Pn_9 : PO), ((KEP [] L P L Pn_9 la ∧ ALP L Pn_9 cO cI cZ sx_ed la ∧ Pn_9.tot 2 la ≤ P.tot 2 la ∧ Pn_9.tot 1 la ≤ P.tot 1 la ∧ SSP Pn_9 la ∧ GN0 Pn_9 la ∧ TBK L Pn_9 45 cI ft (nl : Int) 1002 (-1) 1001)) ∧ va_P (dC, dI) vwQ ([(h0, .inr (16, [.ref hf, v19_1, v19_2, v19_3, v19_4, v19_5, .ref q_lt, v19_7, v19_8, v19_9, v19_10, v19_11, v19_12, v19_13, v19_14, v19_15, v19_16, v19_17, v19_18, v19_19, v19_20, v19_21, v19_22, v19_23, v19_24, v19_25, v19_26, v19_27, v19_28, v19_29, v19_30, v19_31, v19_32, v19_33, v19_34, v19_35, v19_36, v19_37, v19_38, v19_39, v19_40])), (q_lt, .inl (cL, nl, .inr (.inr (.inr (.inr ft))))), (hf, .inr (13, [v14_0, v14_1, v14_2, v14_3, .ref q_1404, .ref q_1405, .int (zI (z14_ordered)), v14_7, v14_8, v14_9, v14_10, v14_11, v14_12])), (q_1404, .inl (cA_1404, n14_idom, .inl (fun j : Nat => zI (a14_idom (j : Int))))), (q_1405, .inl (cA_1405, n14_order, .inl (fun j : Nat => zI (a14_order (j : Int))))), (hc, .inr (12, [v13_0, v13_1, v13_2, v13_3, v13_4, .ref la, v13_6]))] ++ va_pl L (pE Pn_9)) t.heap ∧ va_K (dC, dI) vwQ [(cL, .array .int), (cA_1404, .int), (cA_1405, .int), (cO, .object "java/lang/Object"), (cI, .int), (cZ, .boolean)] t ∧ va_D A ([(h0, .inr (16, [.ref hf, v19_1, v19_2, v19_3, v19_4, v19_5, .ref q_lt, v19_7, v19_8, v19_9, v19_10, v19_11, v19_12, v19_13, v19_14, v19_15, v19_16, v19_17, v19_18, v19_19, v19_20, v19_21, v19_22, v19_23, v19_24, v19_25, v19_26, v19_27, v19_28, v19_29, v19_30, v19_31, v19_32, v19_33, v19_34, v19_35, v19_36, v19_37, v19_38, v19_39, v19_40])), (q_lt, .inl (cL, nl, .inr (.inr (.inr (.inr ft))))), (hf, .inr (13, [v14_0, v14_1, v14_2, v14_3, .ref q_1404, .ref q_1405, .int (zI (z14_ordered)), v14_7, v14_8, v14_9, v14_10, v14_11, v14_12])), (q_1404, .inl (cA_1404, n14_idom, .inl (fun j : Nat => zI (a14_idom (j : Int))))), (q_1405, .inl (cA_1405, n14_order, .inl (fun j : Nat => zI (a14_order (j : Int))))), (hc, .inr (12, [v13_0, v13_1, v13_2, v13_3, v13_4, .ref la, v13_6]))] ++ va_pl L (pE Pn_9))) A) (([.ref h0, .ref hc] : List Value).toArray) s 0 0 A) (d4_3 : Int) (d4_2 : Int) (P4 : PO) (tP4 : (P4.tot 2 la ≤ P.tot 2 la ∧ P4.tot 1 la ≤ P.tot 1 la)) (aP4 : (ALP L P4 cO cI cZ sx_ed la)) (jd4_3 : (0 ≤ d4_3 ∧ d4_3 ≤ z14_ordered)) (jd4_2 : (d4_2 = NSM P la a14_order (d4_3))) (hq_2001 : HID (la ∈ L ∧ P4.kd la = 30)) (hA_2002 : KEP [] L P L P4 la) (yb12 : (z14_ordered : Int) ≤ (d4_3 : Int)) (hxo9 : NXR P P4 la a14_order z14_ordered (z14_ordered) (0) (0)) (hlo9 : NLT P la a14_order z14_ordered (z14_ordered) (LVT P4 ft)) (hzQ9 : P4.lz la = P.lz la) (hK : va_K (dC, dI) vwQ [(cL, .array .int), (cA_1404, .int), (cA_1405, .int), (cO, .object "java/lang/Object"), (cI, .int), (cZ, .boolean)] s) : ∀ n302 : Nat, ∀ (d302_3 : Int) (P302 : PO) (ls : Array Slot) (H : Heap) (locs : List Loc), (P302.tot 2 la ≤ P4.tot 2 la ∧ P302.tot 1 la ≤ P4.tot 1 la) → (KEP [] L P4 L P302 la) → (ALP L P302 cO cI cZ sx_ed la) → (0 ≤ d302_3 ∧ d302_3 ≤ P.lz la) → (NPO P4 P302 la (LVT P4 ft) (d302_3) (0) (0)) → (TBK L P302 45 cI ft (nl : Int) 1002 (-1) 1001) → ((400 - d302_3 : Int).toNat) < n302 → lv_has ls 9 [(0, .ref h0), (1, .ref hc), (2, .int (zI (d4_2))), (3, .int (zI (d302_3)))] → va_P (dC, dI) vwQ ([(h0, .inr (16, [.ref hf, v19_1, v19_2, v19_3, v19_4, v19_5, .ref q_lt, v19_7, v19_8, v19_9, v19_10, v19_11, v19_12, v19_13, v19_14, v19_15, v19_16, v19_17, v19_18, v19_19, v19_20, v19_21, v19_22, v19_23, v19_24, v19_25, v19_26, v19_27, v19_28, v19_29, v19_30, v19_31, v19_32, v19_33, v19_34, v19_35, v19_36, v19_37, v19_38, v19_39, v19_40])), (q_lt, .inl (cL, nl, .inr (.inr (.inr (.inr ft))))), (hf, .inr (13, [v14_0, v14_1, v14_2, v14_3, .ref q_1404, .ref q_1405, .int (zI (z14_ordered)), v14_7, v14_8, v14_9, v14_10, v14_11, v14_12])), (q_1404, .inl (cA_1404, n14_idom, .inl (fun j : Nat => zI (a14_idom (j : Int))))), (q_1405, .inl (cA_1405, n14_order, .inl (fun j : Nat => zI (a14_order (j : Int))))), (hc, .inr (12, [v13_0, v13_1, v13_2, v13_3, v13_4, .ref la, v13_6]))] ++ va_pl L (pE P302)) H → va_D A ([(h0, .inr (16, [.ref hf, v19_1, v19_2, v19_3, v19_4, v19_5, .ref q_lt, v19_7, v19_8, v19_9, v19_10, v19_11, v19_12, v19_13, v19_14, v19_15, v19_16, v19_17, v19_18, v19_19, v19_20, v19_21, v19_22, v19_23, v19_24, v19_25, v19_26, v19_27, v19_28, v19_29, v19_30, v19_31, v19_32, v19_33, v19_34, v19_35, v19_36, v19_37, v19_38, v19_39, v19_40])), (q_lt, .inl (cL, nl, .inr (.inr (.inr (.inr ft))))), (hf, .inr (13, [v14_0, v14_1, v14_2, v14_3, .ref q_1404, .ref q_1405, .int (zI (z14_ordered)), v14_7, v14_8, v14_9, v14_10, v14_11, v14_12])), (q_1404, .inl (cA_1404, n14_idom, .inl (fun j : Nat => zI (a14_idom (j : Int))))), (q_1405, .inl (cA_1405, n14_order, .inl (fun j : Nat => zI (a14_order (j : Int))))), (hc, .inr (12, [v13_0, v13_1, v13_2, v13_3, v13_4, .ref la, v13_6]))] ++ va_pl L (pE P302)) → va_S A s.heap H locs → W p l e (headSpec v_P19_namedE ({ frames := 4, cells := 0, slots := 0, locals := 85 })).room s m ([.ref h0, .ref hc] : List Value).toArray below meth c H locs 0 0 Q (F0 m 302 ls []) := by
  have hx := B.exec
  have hb := B.bytes
  have hr := B.returns
  have hts := atoms_spec (ws := v_P19_namedE) B.pre
  have hown : s.vm.findClass RX19 = some m.cls := findClass_of_methodNamed B.named
  have hlocks := B.notSynchronized
  have ow : ∀ {k : Nat} {w : Cond}, o_P19_namedE[k]? = some w → w.before ([.ref h0, .ref hc] : List Value).toArray s = true := fun h => hts _ (mow_P19_namedE _ (List.mem_of_getElem? h))
  have hX_a9 := hX_a
  have hla := hX_a.lok.2.2.1
  have hla2 := hX_a.1.1.2.1
  have hl1 := hX_F.1.1
  have hNT := hX_F.2.1.2
  have hon := hX_O.1
  have hall9 := TBK.all hX_T
  have hnx0 := NXR.first P la a14_order z14_ordered
  have hnl0 : NLT P la a14_order z14_ordered (0) (LVT P ft) := NLT.first _
  have hns0 : NSM P la a14_order 0 = 0 := NSM.zero
  have hnd9 := hX_F.1.2.2.1
  have hav9 := hX_F.2.1.1
  have haQ := aP4
  have hndQ := NXR.ndr hxo9 hX_a9 hnd9
  intro n302
  induction n302 with
  | zero => intro d302_3 P302 ls H locs tP302 kP302 aP302 jd302_3 jo302 jt302 hm302; exact absurd hm302 (by omega)
  | succ n302 ih302 =>
    intro d302_3 P302 ls H locs tP302 kP302 aP302 jd302_3 jo302 jt302 hm302 hl hP hD hS
    have hq_2003 : HID (la ∈ L ∧ P302.kd la = 30) := kP302.mem hq_2001.1 hq_2001.2 (by decide)
    have hz9 := kP302.2.2.1
    have hA_2004 : KEP [] L P L P302 la := hA_2002.trans kP302
    have hA_2005 : KEP [] L P4 L P302 la := (KEP.refl [] L P4 la).trans kP302
    have hj302 := kP302
    have hns302 : NXT P P302 := NPO.nxs jo302 hxo9.1
    refine lv_iload_n hx hb dX19_named_302 rfl (lv_at hl 3 rfl) ?_
    refine lv_aload_n hx hb dX19_named_303 rfl (lv_at hl 1 rfl) ?_
    have hX_l := aP302.lok
    have hlz9 := hX_l.2.2.1
    have hPc := hP.part (X := [(h0, .inr (16, [.ref hf, v19_1, v19_2, v19_3, v19_4, v19_5, .ref q_lt, v19_7, v19_8, v19_9, v19_10, v19_11, v19_12, v19_13, v19_14, v19_15, v19_16, v19_17, v19_18, v19_19, v19_20, v19_21, v19_22, v19_23, v19_24, v19_25, v19_26, v19_27, v19_28, v19_29, v19_30, v19_31, v19_32, v19_33, v19_34, v19_35, v19_36, v19_37, v19_38, v19_39, v19_40])), (q_lt, .inl (cL, nl, .inr (.inr (.inr (.inr ft))))), (hf, .inr (13, [v14_0, v14_1, v14_2, v14_3, .ref q_1404, .ref q_1405, .int (zI (z14_ordered)), v14_7, v14_8, v14_9, v14_10, v14_11, v14_12])), (q_1404, .inl (cA_1404, n14_idom, .inl (fun j : Nat => zI (a14_idom (j : Int))))), (q_1405, .inl (cA_1405, n14_order, .inl (fun j : Nat => zI (a14_order (j : Int))))), (hc, .inr (12, [v13_0, v13_1, v13_2, v13_3, v13_4, .ref la, v13_6]))]) (cx := [(hc, .inr (12, [v13_0, v13_1, v13_2, v13_3, v13_4, .ref la, v13_6]))]) (pl := va_pl L (pE P302)) [5] rfl
    have hDc := hD.part (X := [(h0, .inr (16, [.ref hf, v19_1, v19_2, v19_3, v19_4, v19_5, .ref q_lt, v19_7, v19_8, v19_9, v19_10, v19_11, v19_12, v19_13, v19_14, v19_15, v19_16, v19_17, v19_18, v19_19, v19_20, v19_21, v19_22, v19_23, v19_24, v19_25, v19_26, v19_27, v19_28, v19_29, v19_30, v19_31, v19_32, v19_33, v19_34, v19_35, v19_36, v19_37, v19_38, v19_39, v19_40])), (q_lt, .inl (cL, nl, .inr (.inr (.inr (.inr ft))))), (hf, .inr (13, [v14_0, v14_1, v14_2, v14_3, .ref q_1404, .ref q_1405, .int (zI (z14_ordered)), v14_7, v14_8, v14_9, v14_10, v14_11, v14_12])), (q_1404, .inl (cA_1404, n14_idom, .inl (fun j : Nat => zI (a14_idom (j : Int))))), (q_1405, .inl (cA_1405, n14_order, .inl (fun j : Nat => zI (a14_order (j : Int))))), (hc, .inr (12, [v13_0, v13_1, v13_2, v13_3, v13_4, .ref la, v13_6]))]) (cx := [(hc, .inr (12, [v13_0, v13_1, v13_2, v13_3, v13_4, .ref la, v13_6]))]) (pl := va_pl L (pE P302)) [5] (by decide) rfl
    have hKc := hK.sub (tys' := [(cO, .object "java/lang/Object")]) [3] rfl
    have hFc := va_freeP (X := [(h0, .inr (16, [.ref hf, v19_1, v19_2, v19_3, v19_4, v19_5, .ref q_lt, v19_7, v19_8, v19_9, v19_10, v19_11, v19_12, v19_13, v19_14, v19_15, v19_16, v19_17, v19_18, v19_19, v19_20, v19_21, v19_22, v19_23, v19_24, v19_25, v19_26, v19_27, v19_28, v19_29, v19_30, v19_31, v19_32, v19_33, v19_34, v19_35, v19_36, v19_37, v19_38, v19_39, v19_40])), (q_lt, .inl (cL, nl, .inr (.inr (.inr (.inr ft))))), (hf, .inr (13, [v14_0, v14_1, v14_2, v14_3, .ref q_1404, .ref q_1405, .int (zI (z14_ordered)), v14_7, v14_8, v14_9, v14_10, v14_11, v14_12])), (q_1404, .inl (cA_1404, n14_idom, .inl (fun j : Nat => zI (a14_idom (j : Int))))), (q_1405, .inl (cA_1405, n14_order, .inl (fun j : Nat => zI (a14_order (j : Int))))), (hc, .inr (12, [v13_0, v13_1, v13_2, v13_3, v13_4, .ref la, v13_6]))]) (cx := [(hc, .inr (12, [v13_0, v13_1, v13_2, v13_3, v13_4, .ref la, v13_6]))]) (pl := va_pl L (pE P302)) hD hS hA [5] rfl
    refine va_calli (va_runV (As := []) (rest := [.int (zI (d302_3))]) ⟨hx, hb, hml, hown, hts⟩ (c_PC_size l dC dI hc v13_0 v13_1 v13_2 v13_3 v13_4 v13_6 la cO L P302 hX_l H.size) (cwV 0 hts g_P19_namedE_PC_size rfl rfl rfl (by decide +kernel) ⟨(Nat.le_of_ble_eq_true rfl), (Nat.le_of_ble_eq_true rfl)⟩) ⟨fun a U g mk q => by obtain ⟨q0, q1, qP, qK, qD⟩ := q; exact ⟨q0, q1, qP, va_K.moved (u := U) (U := U.calling g mk a) (Vm.Alike.refl U.vm) qK, qD⟩, va_recv hKc hPc (ci := 12) (q0 := 0) rfl rfl, fun U hU hW => ⟨rfl, by rw [hU], by rw [hU]; exact hPc, va_K.moved hW.alike hKc, hDc.weaken (fun _ _ _ _ => trivial)⟩⟩ rfl rfl hl.1 rfl (lv_room (Nat.le_of_ble_eq_true rfl)) dX19_named_304 ⟨(Nat.le_of_ble_eq_true rfl), (Nat.le_of_ble_eq_true rfl)⟩) hS (fun q _ h => hFc q h) hFc (fun r_2006 u t H1 locs ht hvm hw hB hz1 hk1 hS => ?_)
    obtain ⟨hP1, hK1, hD1⟩ := hB
    rw [ht] at hP1
    have hK1 := va_K.moved hvm.symm hK1
    obtain ⟨hP, hD⟩ := va_joinP (X := [(h0, .inr (16, [.ref hf, v19_1, v19_2, v19_3, v19_4, v19_5, .ref q_lt, v19_7, v19_8, v19_9, v19_10, v19_11, v19_12, v19_13, v19_14, v19_15, v19_16, v19_17, v19_18, v19_19, v19_20, v19_21, v19_22, v19_23, v19_24, v19_25, v19_26, v19_27, v19_28, v19_29, v19_30, v19_31, v19_32, v19_33, v19_34, v19_35, v19_36, v19_37, v19_38, v19_39, v19_40])), (q_lt, .inl (cL, nl, .inr (.inr (.inr (.inr ft))))), (hf, .inr (13, [v14_0, v14_1, v14_2, v14_3, .ref q_1404, .ref q_1405, .int (zI (z14_ordered)), v14_7, v14_8, v14_9, v14_10, v14_11, v14_12])), (q_1404, .inl (cA_1404, n14_idom, .inl (fun j : Nat => zI (a14_idom (j : Int))))), (q_1405, .inl (cA_1405, n14_order, .inl (fun j : Nat => zI (a14_order (j : Int))))), (hc, .inr (12, [v13_0, v13_1, v13_2, v13_3, v13_4, .ref la, v13_6]))]) (cx := [(hc, .inr (12, [v13_0, v13_1, v13_2, v13_3, v13_4, .ref la, v13_6]))]) (wr := [(h0, .inr (16, [.ref hf, v19_1, v19_2, v19_3, v19_4, v19_5, .ref q_lt, v19_7, v19_8, v19_9, v19_10, v19_11, v19_12, v19_13, v19_14, v19_15, v19_16, v19_17, v19_18, v19_19, v19_20, v19_21, v19_22, v19_23, v19_24, v19_25, v19_26, v19_27, v19_28, v19_29, v19_30, v19_31, v19_32, v19_33, v19_34, v19_35, v19_36, v19_37, v19_38, v19_39, v19_40])), (q_lt, .inl (cL, nl, .inr (.inr (.inr (.inr ft))))), (hf, .inr (13, [v14_0, v14_1, v14_2, v14_3, .ref q_1404, .ref q_1405, .int (zI (z14_ordered)), v14_7, v14_8, v14_9, v14_10, v14_11, v14_12])), (q_1404, .inl (cA_1404, n14_idom, .inl (fun j : Nat => zI (a14_idom (j : Int))))), (q_1405, .inl (cA_1405, n14_order, .inl (fun j : Nat => zI (a14_order (j : Int)))))]) (rx := [(hc, .inr (12, [v13_0, v13_1, v13_2, v13_3, v13_4, .ref la, v13_6]))]) (pl := va_pl L (pE P302)) (pl1 := va_pl L (pE P302)) hP hD [5] [0, 1, 2, 3, 4] rfl rfl (by decide) (by decide) hk1 hFc hP1 hD1
    have hK := (hK.sub (tys' := [(cL, .array .int), (cA_1404, .int), (cA_1405, .int), (cI, .int), (cZ, .boolean)]) [0, 1, 2, 4, 5] rfl).app hK1
    generalize H1 = H at hP hS ⊢
    have hP : va_P (dC, dI) vwQ ([(h0, .inr (16, [.ref hf, v19_1, v19_2, v19_3, v19_4, v19_5, .ref q_lt, v19_7, v19_8, v19_9, v19_10, v19_11, v19_12, v19_13, v19_14, v19_15, v19_16, v19_17, v19_18, v19_19, v19_20, v19_21, v19_22, v19_23, v19_24, v19_25, v19_26, v19_27, v19_28, v19_29, v19_30, v19_31, v19_32, v19_33, v19_34, v19_35, v19_36, v19_37, v19_38, v19_39, v19_40])), (q_lt, .inl (cL, nl, .inr (.inr (.inr (.inr ft))))), (hf, .inr (13, [v14_0, v14_1, v14_2, v14_3, .ref q_1404, .ref q_1405, .int (zI (z14_ordered)), v14_7, v14_8, v14_9, v14_10, v14_11, v14_12])), (q_1404, .inl (cA_1404, n14_idom, .inl (fun j : Nat => zI (a14_idom (j : Int))))), (q_1405, .inl (cA_1405, n14_order, .inl (fun j : Nat => zI (a14_order (j : Int))))), (hc, .inr (12, [v13_0, v13_1, v13_2, v13_3, v13_4, .ref la, v13_6]))] ++ va_pl L (pE P302)) H := hP
    have hD : va_D A ([(h0, .inr (16, [.ref hf, v19_1, v19_2, v19_3, v19_4, v19_5, .ref q_lt, v19_7, v19_8, v19_9, v19_10, v19_11, v19_12, v19_13, v19_14, v19_15, v19_16, v19_17, v19_18, v19_19, v19_20, v19_21, v19_22, v19_23, v19_24, v19_25, v19_26, v19_27, v19_28, v19_29, v19_30, v19_31, v19_32, v19_33, v19_34, v19_35, v19_36, v19_37, v19_38, v19_39, v19_40])), (q_lt, .inl (cL, nl, .inr (.inr (.inr (.inr ft))))), (hf, .inr (13, [v14_0, v14_1, v14_2, v14_3, .ref q_1404, .ref q_1405, .int (zI (z14_ordered)), v14_7, v14_8, v14_9, v14_10, v14_11, v14_12])), (q_1404, .inl (cA_1404, n14_idom, .inl (fun j : Nat => zI (a14_idom (j : Int))))), (q_1405, .inl (cA_1405, n14_order, .inl (fun j : Nat => zI (a14_order (j : Int))))), (hc, .inr (12, [v13_0, v13_1, v13_2, v13_3, v13_4, .ref la, v13_6]))] ++ va_pl L (pE P302)) := hD
    have hK : va_K (dC, dI) vwQ [(cL, .array .int), (cA_1404, .int), (cA_1405, .int), (cI, .int), (cZ, .boolean), (cO, .object "java/lang/Object")] s := hK
    refine W.widen (k := 0) (n := 0) (Nat.le_of_ble_eq_true rfl) (Nat.le_of_ble_eq_true rfl) ?_
    obtain rfl : r_2006 = (zI (P302.lz la)) := hw
    refine lv_icmp_ge (tgt := 409) hx hb dX19_named_307 (by decide) (fun b307 => ?_) (fun b307 => ?_)
    · have yb307 : (P302.lz la : Int) ≤ (d302_3 : Int) := (zI_le (a := P302.lz la) (b := d302_3) (by omega) (by omega) (by omega) (by omega)).mp b307
      have hjo9 := jo302
      rw [show d302_3 = P.lz la from (by omega)] at hjo9
      have hfn9 := NXR.nfn hxo9 hjo9 hX_a9 hX_O
      refine lv_iconst (v := 1) hx hb dX19_named_409 (by decide) ?_
      subst hQ
      have hK := hK.sub (tys' := [(cL, .array .int), (cA_1404, .int), (cA_1405, .int), (cO, .object "java/lang/Object"), (cI, .int), (cZ, .boolean)]) [0, 1, 2, 5, 3, 4] rfl
      refine W.widen (k := 0) (n := 0) (Nat.le_of_ble_eq_true rfl) (Nat.le_of_ble_eq_true rfl) ?_
      exact W.zret (v := 1) hx hb hr (by decide) (fun t ht hW => ⟨⟨1, (), rfl, ⟨1, rfl, by omega⟩, P302, ⟨hA_2004, aP302, by omega, by omega, NFN.ssp hfn9 hX_a9 hX_O hX_L hX_F.1.1 hX_F.1.2.1 hX_F.1.2.2.1 hX_F.1.2.2.2 hav9 hX_F.2.1.2 hX_F.2.2.1.1 hX_F.2.2.1.2.1 hX_F.2.2.1.2.2 hlo9, NFN.gn0 hfn9 hX_a9 hX_L hX_F.2.2.2, jt302⟩, by rw [ht]; exact hP, va_K.moved hW.alike hK, hD⟩, hS.F ht⟩) hS.2.2 dX19_named_410
    · have yb307 : ¬ (P302.lz la : Int) ≤ (d302_3 : Int) := fun q => b307 ((zI_le (a := P302.lz la) (b := d302_3) (by omega) (by omega) (by omega) (by omega)).mpr q)
      refine lv_aload_n hx hb dX19_named_310 rfl (lv_at hl 1 rfl) ?_
      refine lv_iload_n hx hb dX19_named_311 rfl (lv_at hl 3 rfl) ?_
      have hX_l := aP302.lok
      obtain ⟨x, ex⟩ : ∃ q9 : Nat, q9 = P302.el la (d302_3) := ⟨_, rfl⟩
      have hX_el := ex
      have hPc := hP.part (X := [(h0, .inr (16, [.ref hf, v19_1, v19_2, v19_3, v19_4, v19_5, .ref q_lt, v19_7, v19_8, v19_9, v19_10, v19_11, v19_12, v19_13, v19_14, v19_15, v19_16, v19_17, v19_18, v19_19, v19_20, v19_21, v19_22, v19_23, v19_24, v19_25, v19_26, v19_27, v19_28, v19_29, v19_30, v19_31, v19_32, v19_33, v19_34, v19_35, v19_36, v19_37, v19_38, v19_39, v19_40])), (q_lt, .inl (cL, nl, .inr (.inr (.inr (.inr ft))))), (hf, .inr (13, [v14_0, v14_1, v14_2, v14_3, .ref q_1404, .ref q_1405, .int (zI (z14_ordered)), v14_7, v14_8, v14_9, v14_10, v14_11, v14_12])), (q_1404, .inl (cA_1404, n14_idom, .inl (fun j : Nat => zI (a14_idom (j : Int))))), (q_1405, .inl (cA_1405, n14_order, .inl (fun j : Nat => zI (a14_order (j : Int))))), (hc, .inr (12, [v13_0, v13_1, v13_2, v13_3, v13_4, .ref la, v13_6]))]) (cx := [(hc, .inr (12, [v13_0, v13_1, v13_2, v13_3, v13_4, .ref la, v13_6]))]) (pl := va_pl L (pE P302)) [5] rfl
      have hDc := hD.part (X := [(h0, .inr (16, [.ref hf, v19_1, v19_2, v19_3, v19_4, v19_5, .ref q_lt, v19_7, v19_8, v19_9, v19_10, v19_11, v19_12, v19_13, v19_14, v19_15, v19_16, v19_17, v19_18, v19_19, v19_20, v19_21, v19_22, v19_23, v19_24, v19_25, v19_26, v19_27, v19_28, v19_29, v19_30, v19_31, v19_32, v19_33, v19_34, v19_35, v19_36, v19_37, v19_38, v19_39, v19_40])), (q_lt, .inl (cL, nl, .inr (.inr (.inr (.inr ft))))), (hf, .inr (13, [v14_0, v14_1, v14_2, v14_3, .ref q_1404, .ref q_1405, .int (zI (z14_ordered)), v14_7, v14_8, v14_9, v14_10, v14_11, v14_12])), (q_1404, .inl (cA_1404, n14_idom, .inl (fun j : Nat => zI (a14_idom (j : Int))))), (q_1405, .inl (cA_1405, n14_order, .inl (fun j : Nat => zI (a14_order (j : Int))))), (hc, .inr (12, [v13_0, v13_1, v13_2, v13_3, v13_4, .ref la, v13_6]))]) (cx := [(hc, .inr (12, [v13_0, v13_1, v13_2, v13_3, v13_4, .ref la, v13_6]))]) (pl := va_pl L (pE P302)) [5] (by decide) rfl
      have hKc := hK.sub (tys' := [(cO, .object "java/lang/Object")]) [5] rfl
      have hFc := va_freeP (X := [(h0, .inr (16, [.ref hf, v19_1, v19_2, v19_3, v19_4, v19_5, .ref q_lt, v19_7, v19_8, v19_9, v19_10, v19_11, v19_12, v19_13, v19_14, v19_15, v19_16, v19_17, v19_18, v19_19, v19_20, v19_21, v19_22, v19_23, v19_24, v19_25, v19_26, v19_27, v19_28, v19_29, v19_30, v19_31, v19_32, v19_33, v19_34, v19_35, v19_36, v19_37, v19_38, v19_39, v19_40])), (q_lt, .inl (cL, nl, .inr (.inr (.inr (.inr ft))))), (hf, .inr (13, [v14_0, v14_1, v14_2, v14_3, .ref q_1404, .ref q_1405, .int (zI (z14_ordered)), v14_7, v14_8, v14_9, v14_10, v14_11, v14_12])), (q_1404, .inl (cA_1404, n14_idom, .inl (fun j : Nat => zI (a14_idom (j : Int))))), (q_1405, .inl (cA_1405, n14_order, .inl (fun j : Nat => zI (a14_order (j : Int))))), (hc, .inr (12, [v13_0, v13_1, v13_2, v13_3, v13_4, .ref la, v13_6]))]) (cx := [(hc, .inr (12, [v13_0, v13_1, v13_2, v13_3, v13_4, .ref la, v13_6]))]) (pl := va_pl L (pE P302)) hD hS hA [5] rfl
      refine va_callr (va_runV (As := [.int (zI (d302_3))]) (rest := []) ⟨hx, hb, hml, hown, hts⟩ (c_PC_get l dC dI hc v13_0 v13_1 v13_2 v13_3 v13_4 v13_6 la cO L P302 d302_3 x hX_l (by omega) hX_el H.size) (cwV 1 hts g_P19_namedE_PC_get rfl rfl rfl (by decide +kernel) ⟨(Nat.le_of_ble_eq_true rfl), (Nat.le_of_ble_eq_true rfl)⟩) ⟨fun a U g mk q => by obtain ⟨q0, q1, qP, qK, qD, e0⟩ := q; exact ⟨q0, q1, qP, va_K.moved (u := U) (U := U.calling g mk a) (Vm.Alike.refl U.vm) qK, qD, va_Nw.same rfl (u := U) (U := U.calling g mk a) rfl e0⟩, va_recv hKc hPc (ci := 12) (q0 := 0) rfl rfl, fun U hU hW => ⟨rfl, by rw [hU], by rw [hU]; exact hPc, va_K.moved hW.alike hKc, hDc.weaken (fun _ _ _ _ => trivial), va_Nw.warmC hW hp0⟩⟩ rfl rfl hl.1 rfl (lv_room (Nat.le_of_ble_eq_true rfl)) dX19_named_312 ⟨(Nat.le_of_ble_eq_true rfl), (Nat.le_of_ble_eq_true rfl)⟩) hS (fun q _ h => hFc q h) hFc (fun u q_2007 t H1 locs ht hvm hw hB hz1 hk1 hS => ?_)
      obtain ⟨hxt_2007, hP1, hK1, hD1⟩ := hB
      rw [ht] at hP1
      have hK1 := va_K.moved hvm.symm hK1
      obtain ⟨hP, hD⟩ := va_joinP (X := [(h0, .inr (16, [.ref hf, v19_1, v19_2, v19_3, v19_4, v19_5, .ref q_lt, v19_7, v19_8, v19_9, v19_10, v19_11, v19_12, v19_13, v19_14, v19_15, v19_16, v19_17, v19_18, v19_19, v19_20, v19_21, v19_22, v19_23, v19_24, v19_25, v19_26, v19_27, v19_28, v19_29, v19_30, v19_31, v19_32, v19_33, v19_34, v19_35, v19_36, v19_37, v19_38, v19_39, v19_40])), (q_lt, .inl (cL, nl, .inr (.inr (.inr (.inr ft))))), (hf, .inr (13, [v14_0, v14_1, v14_2, v14_3, .ref q_1404, .ref q_1405, .int (zI (z14_ordered)), v14_7, v14_8, v14_9, v14_10, v14_11, v14_12])), (q_1404, .inl (cA_1404, n14_idom, .inl (fun j : Nat => zI (a14_idom (j : Int))))), (q_1405, .inl (cA_1405, n14_order, .inl (fun j : Nat => zI (a14_order (j : Int))))), (hc, .inr (12, [v13_0, v13_1, v13_2, v13_3, v13_4, .ref la, v13_6]))]) (cx := [(hc, .inr (12, [v13_0, v13_1, v13_2, v13_3, v13_4, .ref la, v13_6]))]) (wr := [(h0, .inr (16, [.ref hf, v19_1, v19_2, v19_3, v19_4, v19_5, .ref q_lt, v19_7, v19_8, v19_9, v19_10, v19_11, v19_12, v19_13, v19_14, v19_15, v19_16, v19_17, v19_18, v19_19, v19_20, v19_21, v19_22, v19_23, v19_24, v19_25, v19_26, v19_27, v19_28, v19_29, v19_30, v19_31, v19_32, v19_33, v19_34, v19_35, v19_36, v19_37, v19_38, v19_39, v19_40])), (q_lt, .inl (cL, nl, .inr (.inr (.inr (.inr ft))))), (hf, .inr (13, [v14_0, v14_1, v14_2, v14_3, .ref q_1404, .ref q_1405, .int (zI (z14_ordered)), v14_7, v14_8, v14_9, v14_10, v14_11, v14_12])), (q_1404, .inl (cA_1404, n14_idom, .inl (fun j : Nat => zI (a14_idom (j : Int))))), (q_1405, .inl (cA_1405, n14_order, .inl (fun j : Nat => zI (a14_order (j : Int)))))]) (rx := [(hc, .inr (12, [v13_0, v13_1, v13_2, v13_3, v13_4, .ref la, v13_6]))]) (pl := va_pl L (pE P302)) (pl1 := va_pl L (pE P302)) hP hD [5] [0, 1, 2, 3, 4] rfl rfl (by decide) (by decide) hk1 hFc hP1 hD1
      have hK := (hK.sub (tys' := [(cL, .array .int), (cA_1404, .int), (cA_1405, .int), (cI, .int), (cZ, .boolean)]) [0, 1, 2, 3, 4] rfl).app hK1
      generalize H1 = H at hP hS ⊢
      have hP : va_P (dC, dI) vwQ ([(h0, .inr (16, [.ref hf, v19_1, v19_2, v19_3, v19_4, v19_5, .ref q_lt, v19_7, v19_8, v19_9, v19_10, v19_11, v19_12, v19_13, v19_14, v19_15, v19_16, v19_17, v19_18, v19_19, v19_20, v19_21, v19_22, v19_23, v19_24, v19_25, v19_26, v19_27, v19_28, v19_29, v19_30, v19_31, v19_32, v19_33, v19_34, v19_35, v19_36, v19_37, v19_38, v19_39, v19_40])), (q_lt, .inl (cL, nl, .inr (.inr (.inr (.inr ft))))), (hf, .inr (13, [v14_0, v14_1, v14_2, v14_3, .ref q_1404, .ref q_1405, .int (zI (z14_ordered)), v14_7, v14_8, v14_9, v14_10, v14_11, v14_12])), (q_1404, .inl (cA_1404, n14_idom, .inl (fun j : Nat => zI (a14_idom (j : Int))))), (q_1405, .inl (cA_1405, n14_order, .inl (fun j : Nat => zI (a14_order (j : Int))))), (hc, .inr (12, [v13_0, v13_1, v13_2, v13_3, v13_4, .ref la, v13_6]))] ++ va_pl L (pE P302)) H := hP
      have hD : va_D A ([(h0, .inr (16, [.ref hf, v19_1, v19_2, v19_3, v19_4, v19_5, .ref q_lt, v19_7, v19_8, v19_9, v19_10, v19_11, v19_12, v19_13, v19_14, v19_15, v19_16, v19_17, v19_18, v19_19, v19_20, v19_21, v19_22, v19_23, v19_24, v19_25, v19_26, v19_27, v19_28, v19_29, v19_30, v19_31, v19_32, v19_33, v19_34, v19_35, v19_36, v19_37, v19_38, v19_39, v19_40])), (q_lt, .inl (cL, nl, .inr (.inr (.inr (.inr ft))))), (hf, .inr (13, [v14_0, v14_1, v14_2, v14_3, .ref q_1404, .ref q_1405, .int (zI (z14_ordered)), v14_7, v14_8, v14_9, v14_10, v14_11, v14_12])), (q_1404, .inl (cA_1404, n14_idom, .inl (fun j : Nat => zI (a14_idom (j : Int))))), (q_1405, .inl (cA_1405, n14_order, .inl (fun j : Nat => zI (a14_order (j : Int))))), (hc, .inr (12, [v13_0, v13_1, v13_2, v13_3, v13_4, .ref la, v13_6]))] ++ va_pl L (pE P302)) := hD
      have hK : va_K (dC, dI) vwQ [(cL, .array .int), (cA_1404, .int), (cA_1405, .int), (cI, .int), (cZ, .boolean), (cO, .object "java/lang/Object")] s := hK
      refine W.widen (k := 0) (n := 0) (Nat.le_of_ble_eq_true rfl) (Nat.le_of_ble_eq_true rfl) ?_
      rw [hxt_2007]
      obtain ⟨xb_2008, h9⟩ : ∃ q9 : Nat, q9 = x := ⟨_, rfl⟩
      subst h9
      have hi_2009 : INB P302 la xb_2008 := ⟨d302_3, by omega, by omega, ex⟩
      clear hX_el
      have hx_2011 := ex
      have hB_2010 := aP302.inb hi_2009
      have hfb := hB_2010.2.2.2.2
      have hyi : xb_2008 = P.el la (d302_3) := hx_2011.trans (NXT.el hns302 _ _)
      refine lv_astore (lv' := [(4, .ref xb_2008), (0, .ref h0), (1, .ref hc), (2, .int (zI (d4_2))), (3, .int (zI (d302_3)))]) hx hb dX19_named_315 hl (by decide) rfl (fun ls hl => ?_)
      refine lv_iconst (v := 0) hx hb dX19_named_317 (by decide) ?_
      refine lv_istore (lv' := [(5, .int 0), (4, .ref xb_2008), (0, .ref h0), (1, .ref hc), (2, .int (zI (d4_2))), (3, .int (zI (d302_3)))]) hx hb dX19_named_318 hl (by decide) rfl (fun ls hl => ?_)
      have key320 : ∀ n320 : Nat, ∀ (d320_5 : Int) (P320 : PO) (ls : Array Slot) (H : Heap) (locs : List Loc), (P320.tot 2 la ≤ P302.tot 2 la ∧ P320.tot 1 la ≤ P302.tot 1 la) → (KEP [] L P302 L P320 la) → (ALP L P320 cO cI cZ sx_ed la) → (0 ≤ d320_5 ∧ d320_5 ≤ 40000) → (NPO P4 P320 la (LVT P4 ft) (d302_3) (d320_5) (0)) → (TBK L P320 45 cI ft (nl : Int) 1002 (-1) 1001) → ((50000 - d320_5 : Int).toNat) < n320 → lv_has ls 9 [(0, .ref h0), (1, .ref hc), (2, .int (zI (d4_2))), (3, .int (zI (d302_3))), (4, .ref xb_2008), (5, .int (zI (d320_5)))] → va_P (dC, dI) vwQ ([(h0, .inr (16, [.ref hf, v19_1, v19_2, v19_3, v19_4, v19_5, .ref q_lt, v19_7, v19_8, v19_9, v19_10, v19_11, v19_12, v19_13, v19_14, v19_15, v19_16, v19_17, v19_18, v19_19, v19_20, v19_21, v19_22, v19_23, v19_24, v19_25, v19_26, v19_27, v19_28, v19_29, v19_30, v19_31, v19_32, v19_33, v19_34, v19_35, v19_36, v19_37, v19_38, v19_39, v19_40])), (q_lt, .inl (cL, nl, .inr (.inr (.inr (.inr ft))))), (hf, .inr (13, [v14_0, v14_1, v14_2, v14_3, .ref q_1404, .ref q_1405, .int (zI (z14_ordered)), v14_7, v14_8, v14_9, v14_10, v14_11, v14_12])), (q_1404, .inl (cA_1404, n14_idom, .inl (fun j : Nat => zI (a14_idom (j : Int))))), (q_1405, .inl (cA_1405, n14_order, .inl (fun j : Nat => zI (a14_order (j : Int))))), (hc, .inr (12, [v13_0, v13_1, v13_2, v13_3, v13_4, .ref la, v13_6]))] ++ va_pl L (pE P320)) H → va_D A ([(h0, .inr (16, [.ref hf, v19_1, v19_2, v19_3, v19_4, v19_5, .ref q_lt, v19_7, v19_8, v19_9, v19_10, v19_11, v19_12, v19_13, v19_14, v19_15, v19_16, v19_17, v19_18, v19_19, v19_20, v19_21, v19_22, v19_23, v19_24, v19_25, v19_26, v19_27, v19_28, v19_29, v19_30, v19_31, v19_32, v19_33, v19_34, v19_35, v19_36, v19_37, v19_38, v19_39, v19_40])), (q_lt, .inl (cL, nl, .inr (.inr (.inr (.inr ft))))), (hf, .inr (13, [v14_0, v14_1, v14_2, v14_3, .ref q_1404, .ref q_1405, .int (zI (z14_ordered)), v14_7, v14_8, v14_9, v14_10, v14_11, v14_12])), (q_1404, .inl (cA_1404, n14_idom, .inl (fun j : Nat => zI (a14_idom (j : Int))))), (q_1405, .inl (cA_1405, n14_order, .inl (fun j : Nat => zI (a14_order (j : Int))))), (hc, .inr (12, [v13_0, v13_1, v13_2, v13_3, v13_4, .ref la, v13_6]))] ++ va_pl L (pE P320)) → va_S A s.heap H locs → W p l e (headSpec v_P19_namedE ({ frames := 4, cells := 0, slots := 0, locals := 85 })).room s m ([.ref h0, .ref hc] : List Value).toArray below meth c H locs 0 0 Q (F0 m 320 ls []) := by
        intro n320
        induction n320 with
        | zero => intro d320_5 P320 ls H locs tP320 kP320 aP320 jd320_5 jo320 jt320 hm320; exact absurd hm320 (by omega)
        | succ n320 ih320 =>
          intro d320_5 P320 ls H locs tP320 kP320 aP320 jd320_5 jo320 jt320 hm320 hl hP hD hS
          have hq_2012 : HID (la ∈ L ∧ P320.kd la = 30) := kP320.mem hq_2003.1 hq_2003.2 (by decide)
          have hq_2013 : xb_2008 ∈ L ∧ P320.kd xb_2008 = 12 := kP320.mem hB_2010.1.1 hB_2010.1.2 (by decide)
          have hi_2014 : INB P320 la xb_2008 := kP320.inb hi_2009
          have hz9 := kP320.2.2.1
          have hA_2015 : KEP [] L P L P320 la := hA_2004.trans kP320
          have hA_2016 : KEP [] L P4 L P320 la := hA_2005.trans kP320
          have hA_2017 : KEP [] L P302 L P320 la := (KEP.refl [] L P302 la).trans kP320
          have hj320 := kP320
          have hns320 : NXT P P320 := NPO.nxs jo320 hxo9.1
          refine lv_iload hx hb dX19_named_320 (lv_at hl 5 rfl) ?_
          refine lv_aload hx hb dX19_named_322 (lv_at hl 4 rfl) ?_
          have hfb := (aP320.inb hi_2014).2.2.2.2
          obtain ⟨kp_2018, hkp_2018⟩ := va_pl_get (X := [(h0, .inr (16, [.ref hf, v19_1, v19_2, v19_3, v19_4, v19_5, .ref q_lt, v19_7, v19_8, v19_9, v19_10, v19_11, v19_12, v19_13, v19_14, v19_15, v19_16, v19_17, v19_18, v19_19, v19_20, v19_21, v19_22, v19_23, v19_24, v19_25, v19_26, v19_27, v19_28, v19_29, v19_30, v19_31, v19_32, v19_33, v19_34, v19_35, v19_36, v19_37, v19_38, v19_39, v19_40])), (q_lt, .inl (cL, nl, .inr (.inr (.inr (.inr ft))))), (hf, .inr (13, [v14_0, v14_1, v14_2, v14_3, .ref q_1404, .ref q_1405, .int (zI (z14_ordered)), v14_7, v14_8, v14_9, v14_10, v14_11, v14_12])), (q_1404, .inl (cA_1404, n14_idom, .inl (fun j : Nat => zI (a14_idom (j : Int))))), (q_1405, .inl (cA_1405, n14_order, .inl (fun j : Nat => zI (a14_order (j : Int))))), (hc, .inr (12, [v13_0, v13_1, v13_2, v13_3, v13_4, .ref la, v13_6]))]) (f := pE P320) hq_2013.1
          rw [pE_block hq_2013.2] at hkp_2018
          refine va_get (D := (dC, dI)) (ci := 19) (v := .ref (P320.bp xb_2008)) (C := RX12) (T := TX12) (N := 5) hx hb hts mem_P19_namedE_4 hown hK hP kp_2018 hkp_2018 rfl 0 (by decide) (ow (k := 9) rfl) (fun _ h9 => h9) rfl dX19_named_324 ?_
          obtain ⟨pr_2019, epr_2019⟩ : ∃ q9 : Nat, q9 = P320.bp xb_2008 := ⟨_, rfl⟩
          rw [← epr_2019]
          have hlk_2020 : LOK L P320 cO 15 pr_2019 := (by rw [epr_2019]; exact (aP320.inb hi_2014).2.2.1)
          have hlz9 := hlk_2020.2.2.1
          have : P320.lz pr_2019 = P320.lz (P320.bp xb_2008) := (by rw [epr_2019])
          have hlbp9 : P.bp (P.el la (d302_3)) = pr_2019 := (by rw [← hyi, ← NXT.bp hns320]; exact epr_2019.symm)
          have hzbp9 : P.lz (P.bp (P.el la (d302_3))) = P320.lz pr_2019 := (by rw [hlbp9]; exact (NXT.lz hns320 _ ((NXT.kd hns320 _).symm.trans hlk_2020.2.1)).symm)
          skip
          have hlk_2021 := (show LOK L P320 cO 15 pr_2019 from (by rw [← epr_2019.symm]; exact (aP320.inb hi_2014).2.2.1))
          have hX_x := hlk_2021.1
          have hX_k := hlk_2021.2.1
          have hlz9 := hlk_2021.2.2.1
          have hPc := hP.part (X := [(h0, .inr (16, [.ref hf, v19_1, v19_2, v19_3, v19_4, v19_5, .ref q_lt, v19_7, v19_8, v19_9, v19_10, v19_11, v19_12, v19_13, v19_14, v19_15, v19_16, v19_17, v19_18, v19_19, v19_20, v19_21, v19_22, v19_23, v19_24, v19_25, v19_26, v19_27, v19_28, v19_29, v19_30, v19_31, v19_32, v19_33, v19_34, v19_35, v19_36, v19_37, v19_38, v19_39, v19_40])), (q_lt, .inl (cL, nl, .inr (.inr (.inr (.inr ft))))), (hf, .inr (13, [v14_0, v14_1, v14_2, v14_3, .ref q_1404, .ref q_1405, .int (zI (z14_ordered)), v14_7, v14_8, v14_9, v14_10, v14_11, v14_12])), (q_1404, .inl (cA_1404, n14_idom, .inl (fun j : Nat => zI (a14_idom (j : Int))))), (q_1405, .inl (cA_1405, n14_order, .inl (fun j : Nat => zI (a14_order (j : Int))))), (hc, .inr (12, [v13_0, v13_1, v13_2, v13_3, v13_4, .ref la, v13_6]))]) (cx := []) (pl := va_pl L (pE P320)) [] rfl
          have hDc := hD.part (X := [(h0, .inr (16, [.ref hf, v19_1, v19_2, v19_3, v19_4, v19_5, .ref q_lt, v19_7, v19_8, v19_9, v19_10, v19_11, v19_12, v19_13, v19_14, v19_15, v19_16, v19_17, v19_18, v19_19, v19_20, v19_21, v19_22, v19_23, v19_24, v19_25, v19_26, v19_27, v19_28, v19_29, v19_30, v19_31, v19_32, v19_33, v19_34, v19_35, v19_36, v19_37, v19_38, v19_39, v19_40])), (q_lt, .inl (cL, nl, .inr (.inr (.inr (.inr ft))))), (hf, .inr (13, [v14_0, v14_1, v14_2, v14_3, .ref q_1404, .ref q_1405, .int (zI (z14_ordered)), v14_7, v14_8, v14_9, v14_10, v14_11, v14_12])), (q_1404, .inl (cA_1404, n14_idom, .inl (fun j : Nat => zI (a14_idom (j : Int))))), (q_1405, .inl (cA_1405, n14_order, .inl (fun j : Nat => zI (a14_order (j : Int))))), (hc, .inr (12, [v13_0, v13_1, v13_2, v13_3, v13_4, .ref la, v13_6]))]) (cx := []) (pl := va_pl L (pE P320)) [] (by decide) rfl
          have hKc := hK.sub (tys' := [(cO, .object "java/lang/Object")]) [5] rfl
          have hFc := va_freeP (X := [(h0, .inr (16, [.ref hf, v19_1, v19_2, v19_3, v19_4, v19_5, .ref q_lt, v19_7, v19_8, v19_9, v19_10, v19_11, v19_12, v19_13, v19_14, v19_15, v19_16, v19_17, v19_18, v19_19, v19_20, v19_21, v19_22, v19_23, v19_24, v19_25, v19_26, v19_27, v19_28, v19_29, v19_30, v19_31, v19_32, v19_33, v19_34, v19_35, v19_36, v19_37, v19_38, v19_39, v19_40])), (q_lt, .inl (cL, nl, .inr (.inr (.inr (.inr ft))))), (hf, .inr (13, [v14_0, v14_1, v14_2, v14_3, .ref q_1404, .ref q_1405, .int (zI (z14_ordered)), v14_7, v14_8, v14_9, v14_10, v14_11, v14_12])), (q_1404, .inl (cA_1404, n14_idom, .inl (fun j : Nat => zI (a14_idom (j : Int))))), (q_1405, .inl (cA_1405, n14_order, .inl (fun j : Nat => zI (a14_order (j : Int))))), (hc, .inr (12, [v13_0, v13_1, v13_2, v13_3, v13_4, .ref la, v13_6]))]) (cx := []) (pl := va_pl L (pE P320)) hD hS hA [] rfl
          refine va_calli (va_runV (As := []) (rest := [.int (zI (d320_5))]) ⟨hx, hb, hml, hown, hts⟩ (c_PL_size l dC dI cO L P320 pr_2019 hX_x hX_k (by omega) H.size) (cwV 0 hts g_P19_namedE_PL_size rfl rfl rfl (by decide +kernel) ⟨(Nat.le_of_ble_eq_true rfl), (Nat.le_of_ble_eq_true rfl)⟩) ⟨fun a U g mk q => by obtain ⟨q0, q1, qP, qK, qD⟩ := q; exact ⟨q0, q1, qP, va_K.moved (u := U) (U := U.calling g mk a) (Vm.Alike.refl U.vm) qK, qD⟩, recv_30 hKc hPc hlk_2020.1 hlk_2020.2.1, fun U hU hW => ⟨rfl, by rw [hU], by rw [hU]; exact hPc, va_K.moved hW.alike hKc, hDc.weaken (fun _ _ _ _ => trivial)⟩⟩ rfl rfl hl.1 rfl (lv_room (Nat.le_of_ble_eq_true rfl)) dX19_named_327 ⟨(Nat.le_of_ble_eq_true rfl), (Nat.le_of_ble_eq_true rfl)⟩) hS (fun q _ h => hFc q h) hFc (fun r_2022 u t H1 locs ht hvm hw hB hz1 hk1 hS => ?_)
          obtain ⟨hP1, hK1, hD1⟩ := hB
          rw [ht] at hP1
          have hK1 := va_K.moved hvm.symm hK1
          obtain ⟨hP, hD⟩ := va_joinP (X := [(h0, .inr (16, [.ref hf, v19_1, v19_2, v19_3, v19_4, v19_5, .ref q_lt, v19_7, v19_8, v19_9, v19_10, v19_11, v19_12, v19_13, v19_14, v19_15, v19_16, v19_17, v19_18, v19_19, v19_20, v19_21, v19_22, v19_23, v19_24, v19_25, v19_26, v19_27, v19_28, v19_29, v19_30, v19_31, v19_32, v19_33, v19_34, v19_35, v19_36, v19_37, v19_38, v19_39, v19_40])), (q_lt, .inl (cL, nl, .inr (.inr (.inr (.inr ft))))), (hf, .inr (13, [v14_0, v14_1, v14_2, v14_3, .ref q_1404, .ref q_1405, .int (zI (z14_ordered)), v14_7, v14_8, v14_9, v14_10, v14_11, v14_12])), (q_1404, .inl (cA_1404, n14_idom, .inl (fun j : Nat => zI (a14_idom (j : Int))))), (q_1405, .inl (cA_1405, n14_order, .inl (fun j : Nat => zI (a14_order (j : Int))))), (hc, .inr (12, [v13_0, v13_1, v13_2, v13_3, v13_4, .ref la, v13_6]))]) (cx := []) (wr := [(h0, .inr (16, [.ref hf, v19_1, v19_2, v19_3, v19_4, v19_5, .ref q_lt, v19_7, v19_8, v19_9, v19_10, v19_11, v19_12, v19_13, v19_14, v19_15, v19_16, v19_17, v19_18, v19_19, v19_20, v19_21, v19_22, v19_23, v19_24, v19_25, v19_26, v19_27, v19_28, v19_29, v19_30, v19_31, v19_32, v19_33, v19_34, v19_35, v19_36, v19_37, v19_38, v19_39, v19_40])), (q_lt, .inl (cL, nl, .inr (.inr (.inr (.inr ft))))), (hf, .inr (13, [v14_0, v14_1, v14_2, v14_3, .ref q_1404, .ref q_1405, .int (zI (z14_ordered)), v14_7, v14_8, v14_9, v14_10, v14_11, v14_12])), (q_1404, .inl (cA_1404, n14_idom, .inl (fun j : Nat => zI (a14_idom (j : Int))))), (q_1405, .inl (cA_1405, n14_order, .inl (fun j : Nat => zI (a14_order (j : Int))))), (hc, .inr (12, [v13_0, v13_1, v13_2, v13_3, v13_4, .ref la, v13_6]))]) (rx := []) (pl := va_pl L (pE P320)) (pl1 := va_pl L (pE P320)) hP hD [] [0, 1, 2, 3, 4, 5] rfl rfl (by decide) (by decide) hk1 hFc hP1 hD1
          have hK := (hK.sub (tys' := [(cL, .array .int), (cA_1404, .int), (cA_1405, .int), (cI, .int), (cZ, .boolean)]) [0, 1, 2, 3, 4] rfl).app hK1
          generalize H1 = H at hP hS ⊢
          have hP : va_P (dC, dI) vwQ ([(h0, .inr (16, [.ref hf, v19_1, v19_2, v19_3, v19_4, v19_5, .ref q_lt, v19_7, v19_8, v19_9, v19_10, v19_11, v19_12, v19_13, v19_14, v19_15, v19_16, v19_17, v19_18, v19_19, v19_20, v19_21, v19_22, v19_23, v19_24, v19_25, v19_26, v19_27, v19_28, v19_29, v19_30, v19_31, v19_32, v19_33, v19_34, v19_35, v19_36, v19_37, v19_38, v19_39, v19_40])), (q_lt, .inl (cL, nl, .inr (.inr (.inr (.inr ft))))), (hf, .inr (13, [v14_0, v14_1, v14_2, v14_3, .ref q_1404, .ref q_1405, .int (zI (z14_ordered)), v14_7, v14_8, v14_9, v14_10, v14_11, v14_12])), (q_1404, .inl (cA_1404, n14_idom, .inl (fun j : Nat => zI (a14_idom (j : Int))))), (q_1405, .inl (cA_1405, n14_order, .inl (fun j : Nat => zI (a14_order (j : Int))))), (hc, .inr (12, [v13_0, v13_1, v13_2, v13_3, v13_4, .ref la, v13_6]))] ++ va_pl L (pE P320)) H := hP
          have hD : va_D A ([(h0, .inr (16, [.ref hf, v19_1, v19_2, v19_3, v19_4, v19_5, .ref q_lt, v19_7, v19_8, v19_9, v19_10, v19_11, v19_12, v19_13, v19_14, v19_15, v19_16, v19_17, v19_18, v19_19, v19_20, v19_21, v19_22, v19_23, v19_24, v19_25, v19_26, v19_27, v19_28, v19_29, v19_30, v19_31, v19_32, v19_33, v19_34, v19_35, v19_36, v19_37, v19_38, v19_39, v19_40])), (q_lt, .inl (cL, nl, .inr (.inr (.inr (.inr ft))))), (hf, .inr (13, [v14_0, v14_1, v14_2, v14_3, .ref q_1404, .ref q_1405, .int (zI (z14_ordered)), v14_7, v14_8, v14_9, v14_10, v14_11, v14_12])), (q_1404, .inl (cA_1404, n14_idom, .inl (fun j : Nat => zI (a14_idom (j : Int))))), (q_1405, .inl (cA_1405, n14_order, .inl (fun j : Nat => zI (a14_order (j : Int))))), (hc, .inr (12, [v13_0, v13_1, v13_2, v13_3, v13_4, .ref la, v13_6]))] ++ va_pl L (pE P320)) := hD
          have hK : va_K (dC, dI) vwQ [(cL, .array .int), (cA_1404, .int), (cA_1405, .int), (cI, .int), (cZ, .boolean), (cO, .object "java/lang/Object")] s := hK
          refine W.widen (k := 0) (n := 0) (Nat.le_of_ble_eq_true rfl) (Nat.le_of_ble_eq_true rfl) ?_
          obtain rfl : r_2022 = (zI (P320.lz pr_2019)) := hw
          refine lv_icmp_ge (tgt := 403) hx hb dX19_named_330 (by decide) (fun b330 => ?_) (fun b330 => ?_)
          · have yb330 : (P320.lz pr_2019 : Int) ≤ (d320_5 : Int) := (zI_le (a := P320.lz pr_2019) (b := d320_5) (by omega) (by omega) (by omega) (by omega)).mp b330
            have hnb9 := NPO.nextb jo320 (show P4.lz (P4.bp (P4.el la (d302_3))) ≤ d320_5 from (by rw [NXS.el hxo9.1, NXS.bp hxo9.1, NXS.lz hxo9.1 _ (hX_a9.inb ⟨d302_3, (by omega), (by omega), rfl⟩).2.2.1.2.1]; omega))
            skip
            refine lv_iinc (v := zI (d302_3 + 1)) (lv' := [(3, .int (zI (d302_3 + 1))), (0, .ref h0), (1, .ref hc), (2, .int (zI (d4_2))), (4, .ref xb_2008), (5, .int (zI (d320_5)))]) hx hb dX19_named_403 hl (k := 3) rfl (zI_add (d302_3) (1)) (by decide) rfl (fun ls hl => ?_)
            refine lv_goto (tgt := 302) hx hb dX19_named_406 (by decide) ?_
            exact ih302 (d302_3 + 1) P320 ls H _ (by omega) (kP302.trans hA_2017) aP320 (by omega) hnb9 jt320 (mea_lt hm302 (by omega) (by omega)) (lv_sub hl [1, 2, 3, 0] rfl) hP hD hS
          · have yb330 : ¬ (P320.lz pr_2019 : Int) ≤ (d320_5 : Int) := fun q => b330 ((zI_le (a := P320.lz pr_2019) (b := d320_5) (by omega) (by omega) (by omega) (by omega)).mpr q)
            refine lv_aload hx hb dX19_named_333 (lv_at hl 4 rfl) ?_
            obtain ⟨kp_2023, hkp_2023⟩ := va_pl_get (X := [(h0, .inr (16, [.ref hf, v19_1, v19_2, v19_3, v19_4, v19_5, .ref q_lt, v19_7, v19_8, v19_9, v19_10, v19_11, v19_12, v19_13, v19_14, v19_15, v19_16, v19_17, v19_18, v19_19, v19_20, v19_21, v19_22, v19_23, v19_24, v19_25, v19_26, v19_27, v19_28, v19_29, v19_30, v19_31, v19_32, v19_33, v19_34, v19_35, v19_36, v19_37, v19_38, v19_39, v19_40])), (q_lt, .inl (cL, nl, .inr (.inr (.inr (.inr ft))))), (hf, .inr (13, [v14_0, v14_1, v14_2, v14_3, .ref q_1404, .ref q_1405, .int (zI (z14_ordered)), v14_7, v14_8, v14_9, v14_10, v14_11, v14_12])), (q_1404, .inl (cA_1404, n14_idom, .inl (fun j : Nat => zI (a14_idom (j : Int))))), (q_1405, .inl (cA_1405, n14_order, .inl (fun j : Nat => zI (a14_order (j : Int))))), (hc, .inr (12, [v13_0, v13_1, v13_2, v13_3, v13_4, .ref la, v13_6]))]) (f := pE P320) hq_2013.1
            rw [pE_block hq_2013.2] at hkp_2023
            refine va_get (D := (dC, dI)) (ci := 19) (v := .ref (P320.bp xb_2008)) (C := RX12) (T := TX12) (N := 5) hx hb hts mem_P19_namedE_4 hown hK hP kp_2023 hkp_2023 rfl 0 (by decide) (ow (k := 9) rfl) (fun _ h9 => h9) rfl dX19_named_335 ?_
            obtain ⟨pr_2024, epr_2024⟩ : ∃ q9 : Nat, q9 = P320.bp xb_2008 := ⟨_, rfl⟩
            rw [← epr_2024]
            obtain rfl : pr_2019 = pr_2024 := (by rw [epr_2024]; exact epr_2019.symm.symm)
            refine lv_iload hx hb dX19_named_338 (lv_at hl 5 rfl) ?_
            have hlk_2025 := (show LOK L P320 cO 15 pr_2019 from (by rw [← epr_2019.symm]; exact (aP320.inb hi_2014).2.2.1))
            obtain ⟨x, ex⟩ : ∃ q9 : Nat, q9 = P320.el pr_2019 (d320_5) := ⟨_, rfl⟩
            have hX_x := hlk_2025.1
            have hX_k := hlk_2025.2.1
            have hq9 := hlk_2025.row (i := d320_5) (by omega) (by omega)
            have hX_q : P320.le pr_2019 ∈ L ∧ P320.kd (P320.le pr_2019) = 31 ∧ P320.ac (P320.le pr_2019) = cO := ⟨hq9.1, hq9.2.1, hq9.2.2.1⟩
            have hq8 := hq9.2.2.2
            have hX_e0 : P320.oa (P320.le pr_2019) (d320_5).toNat = some x := (by rw [ex]; exact (hlk_2025.2.2.2.2 (d320_5) (by omega) (by omega)).1)
            have hxm : x ∈ L := (by rw [ex]; exact (hlk_2025.2.2.2.2 (d320_5) (by omega) (by omega)).2.1)
            have hxk := (hlk_2025.2.2.2.2 (d320_5) (by omega) (by omega)).2.2
            rw [← ex] at hxk
            have hPc := hP.part (X := [(h0, .inr (16, [.ref hf, v19_1, v19_2, v19_3, v19_4, v19_5, .ref q_lt, v19_7, v19_8, v19_9, v19_10, v19_11, v19_12, v19_13, v19_14, v19_15, v19_16, v19_17, v19_18, v19_19, v19_20, v19_21, v19_22, v19_23, v19_24, v19_25, v19_26, v19_27, v19_28, v19_29, v19_30, v19_31, v19_32, v19_33, v19_34, v19_35, v19_36, v19_37, v19_38, v19_39, v19_40])), (q_lt, .inl (cL, nl, .inr (.inr (.inr (.inr ft))))), (hf, .inr (13, [v14_0, v14_1, v14_2, v14_3, .ref q_1404, .ref q_1405, .int (zI (z14_ordered)), v14_7, v14_8, v14_9, v14_10, v14_11, v14_12])), (q_1404, .inl (cA_1404, n14_idom, .inl (fun j : Nat => zI (a14_idom (j : Int))))), (q_1405, .inl (cA_1405, n14_order, .inl (fun j : Nat => zI (a14_order (j : Int))))), (hc, .inr (12, [v13_0, v13_1, v13_2, v13_3, v13_4, .ref la, v13_6]))]) (cx := []) (pl := va_pl L (pE P320)) [] rfl
            have hDc := hD.part (X := [(h0, .inr (16, [.ref hf, v19_1, v19_2, v19_3, v19_4, v19_5, .ref q_lt, v19_7, v19_8, v19_9, v19_10, v19_11, v19_12, v19_13, v19_14, v19_15, v19_16, v19_17, v19_18, v19_19, v19_20, v19_21, v19_22, v19_23, v19_24, v19_25, v19_26, v19_27, v19_28, v19_29, v19_30, v19_31, v19_32, v19_33, v19_34, v19_35, v19_36, v19_37, v19_38, v19_39, v19_40])), (q_lt, .inl (cL, nl, .inr (.inr (.inr (.inr ft))))), (hf, .inr (13, [v14_0, v14_1, v14_2, v14_3, .ref q_1404, .ref q_1405, .int (zI (z14_ordered)), v14_7, v14_8, v14_9, v14_10, v14_11, v14_12])), (q_1404, .inl (cA_1404, n14_idom, .inl (fun j : Nat => zI (a14_idom (j : Int))))), (q_1405, .inl (cA_1405, n14_order, .inl (fun j : Nat => zI (a14_order (j : Int))))), (hc, .inr (12, [v13_0, v13_1, v13_2, v13_3, v13_4, .ref la, v13_6]))]) (cx := []) (pl := va_pl L (pE P320)) [] (by decide) rfl
            have hKc := hK.sub (tys' := [(cO, .object "java/lang/Object")]) [5] rfl
            have hFc := va_freeP (X := [(h0, .inr (16, [.ref hf, v19_1, v19_2, v19_3, v19_4, v19_5, .ref q_lt, v19_7, v19_8, v19_9, v19_10, v19_11, v19_12, v19_13, v19_14, v19_15, v19_16, v19_17, v19_18, v19_19, v19_20, v19_21, v19_22, v19_23, v19_24, v19_25, v19_26, v19_27, v19_28, v19_29, v19_30, v19_31, v19_32, v19_33, v19_34, v19_35, v19_36, v19_37, v19_38, v19_39, v19_40])), (q_lt, .inl (cL, nl, .inr (.inr (.inr (.inr ft))))), (hf, .inr (13, [v14_0, v14_1, v14_2, v14_3, .ref q_1404, .ref q_1405, .int (zI (z14_ordered)), v14_7, v14_8, v14_9, v14_10, v14_11, v14_12])), (q_1404, .inl (cA_1404, n14_idom, .inl (fun j : Nat => zI (a14_idom (j : Int))))), (q_1405, .inl (cA_1405, n14_order, .inl (fun j : Nat => zI (a14_order (j : Int))))), (hc, .inr (12, [v13_0, v13_1, v13_2, v13_3, v13_4, .ref la, v13_6]))]) (cx := []) (pl := va_pl L (pE P320)) hD hS hA [] rfl
            refine va_callr (va_runV (As := [.int (zI (d320_5))]) (rest := []) ⟨hx, hb, hml, hown, hts⟩ (c_PL_get l dC dI cO L P320 pr_2019 d320_5 x hX_x hX_k hX_q (by omega) hX_e0 H.size) (cwV 1 hts g_P19_namedE_PL_get rfl rfl rfl (by decide +kernel) ⟨(Nat.le_of_ble_eq_true rfl), (Nat.le_of_ble_eq_true rfl)⟩) ⟨fun a U g mk q => by obtain ⟨q0, q1, qP, qK, qD⟩ := q; exact ⟨q0, q1, qP, va_K.moved (u := U) (U := U.calling g mk a) (Vm.Alike.refl U.vm) qK, qD⟩, recv_30 hKc hPc hlk_2020.1 hlk_2020.2.1, fun U hU hW => ⟨rfl, by rw [hU], by rw [hU]; exact hPc, va_K.moved hW.alike hKc, hDc.weaken (fun _ _ _ _ => trivial)⟩⟩ rfl rfl hl.1 rfl (lv_room (Nat.le_of_ble_eq_true rfl)) dX19_named_340 ⟨(Nat.le_of_ble_eq_true rfl), (Nat.le_of_ble_eq_true rfl)⟩) hS (fun q _ h => hFc q h) hFc (fun u q_2026 t H1 locs ht hvm hw hB hz1 hk1 hS => ?_)
            obtain ⟨hxt_2026, hP1, hK1, hD1⟩ := hB
            rw [ht] at hP1
            have hK1 := va_K.moved hvm.symm hK1
            obtain ⟨hP, hD⟩ := va_joinP (X := [(h0, .inr (16, [.ref hf, v19_1, v19_2, v19_3, v19_4, v19_5, .ref q_lt, v19_7, v19_8, v19_9, v19_10, v19_11, v19_12, v19_13, v19_14, v19_15, v19_16, v19_17, v19_18, v19_19, v19_20, v19_21, v19_22, v19_23, v19_24, v19_25, v19_26, v19_27, v19_28, v19_29, v19_30, v19_31, v19_32, v19_33, v19_34, v19_35, v19_36, v19_37, v19_38, v19_39, v19_40])), (q_lt, .inl (cL, nl, .inr (.inr (.inr (.inr ft))))), (hf, .inr (13, [v14_0, v14_1, v14_2, v14_3, .ref q_1404, .ref q_1405, .int (zI (z14_ordered)), v14_7, v14_8, v14_9, v14_10, v14_11, v14_12])), (q_1404, .inl (cA_1404, n14_idom, .inl (fun j : Nat => zI (a14_idom (j : Int))))), (q_1405, .inl (cA_1405, n14_order, .inl (fun j : Nat => zI (a14_order (j : Int))))), (hc, .inr (12, [v13_0, v13_1, v13_2, v13_3, v13_4, .ref la, v13_6]))]) (cx := []) (wr := [(h0, .inr (16, [.ref hf, v19_1, v19_2, v19_3, v19_4, v19_5, .ref q_lt, v19_7, v19_8, v19_9, v19_10, v19_11, v19_12, v19_13, v19_14, v19_15, v19_16, v19_17, v19_18, v19_19, v19_20, v19_21, v19_22, v19_23, v19_24, v19_25, v19_26, v19_27, v19_28, v19_29, v19_30, v19_31, v19_32, v19_33, v19_34, v19_35, v19_36, v19_37, v19_38, v19_39, v19_40])), (q_lt, .inl (cL, nl, .inr (.inr (.inr (.inr ft))))), (hf, .inr (13, [v14_0, v14_1, v14_2, v14_3, .ref q_1404, .ref q_1405, .int (zI (z14_ordered)), v14_7, v14_8, v14_9, v14_10, v14_11, v14_12])), (q_1404, .inl (cA_1404, n14_idom, .inl (fun j : Nat => zI (a14_idom (j : Int))))), (q_1405, .inl (cA_1405, n14_order, .inl (fun j : Nat => zI (a14_order (j : Int))))), (hc, .inr (12, [v13_0, v13_1, v13_2, v13_3, v13_4, .ref la, v13_6]))]) (rx := []) (pl := va_pl L (pE P320)) (pl1 := va_pl L (pE P320)) hP hD [] [0, 1, 2, 3, 4, 5] rfl rfl (by decide) (by decide) hk1 hFc hP1 hD1
            have hK := (hK.sub (tys' := [(cL, .array .int), (cA_1404, .int), (cA_1405, .int), (cI, .int), (cZ, .boolean)]) [0, 1, 2, 3, 4] rfl).app hK1
            generalize H1 = H at hP hS ⊢
            have hP : va_P (dC, dI) vwQ ([(h0, .inr (16, [.ref hf, v19_1, v19_2, v19_3, v19_4, v19_5, .ref q_lt, v19_7, v19_8, v19_9, v19_10, v19_11, v19_12, v19_13, v19_14, v19_15, v19_16, v19_17, v19_18, v19_19, v19_20, v19_21, v19_22, v19_23, v19_24, v19_25, v19_26, v19_27, v19_28, v19_29, v19_30, v19_31, v19_32, v19_33, v19_34, v19_35, v19_36, v19_37, v19_38, v19_39, v19_40])), (q_lt, .inl (cL, nl, .inr (.inr (.inr (.inr ft))))), (hf, .inr (13, [v14_0, v14_1, v14_2, v14_3, .ref q_1404, .ref q_1405, .int (zI (z14_ordered)), v14_7, v14_8, v14_9, v14_10, v14_11, v14_12])), (q_1404, .inl (cA_1404, n14_idom, .inl (fun j : Nat => zI (a14_idom (j : Int))))), (q_1405, .inl (cA_1405, n14_order, .inl (fun j : Nat => zI (a14_order (j : Int))))), (hc, .inr (12, [v13_0, v13_1, v13_2, v13_3, v13_4, .ref la, v13_6]))] ++ va_pl L (pE P320)) H := hP
            have hD : va_D A ([(h0, .inr (16, [.ref hf, v19_1, v19_2, v19_3, v19_4, v19_5, .ref q_lt, v19_7, v19_8, v19_9, v19_10, v19_11, v19_12, v19_13, v19_14, v19_15, v19_16, v19_17, v19_18, v19_19, v19_20, v19_21, v19_22, v19_23, v19_24, v19_25, v19_26, v19_27, v19_28, v19_29, v19_30, v19_31, v19_32, v19_33, v19_34, v19_35, v19_36, v19_37, v19_38, v19_39, v19_40])), (q_lt, .inl (cL, nl, .inr (.inr (.inr (.inr ft))))), (hf, .inr (13, [v14_0, v14_1, v14_2, v14_3, .ref q_1404, .ref q_1405, .int (zI (z14_ordered)), v14_7, v14_8, v14_9, v14_10, v14_11, v14_12])), (q_1404, .inl (cA_1404, n14_idom, .inl (fun j : Nat => zI (a14_idom (j : Int))))), (q_1405, .inl (cA_1405, n14_order, .inl (fun j : Nat => zI (a14_order (j : Int))))), (hc, .inr (12, [v13_0, v13_1, v13_2, v13_3, v13_4, .ref la, v13_6]))] ++ va_pl L (pE P320)) := hD
            have hK : va_K (dC, dI) vwQ [(cL, .array .int), (cA_1404, .int), (cA_1405, .int), (cI, .int), (cZ, .boolean), (cO, .object "java/lang/Object")] s := hK
            refine W.widen (k := 0) (n := 0) (Nat.le_of_ble_eq_true rfl) (Nat.le_of_ble_eq_true rfl) ?_
            rw [hxt_2026]
            clear hX_e0
            obtain ⟨xp_2027, h9⟩ : ∃ q9 : Nat, q9 = x := ⟨_, rfl⟩
            subst h9
            have hm_2028 := hxm
            have hk_2029 := hxk
            have hpb_2030 : PRB P320 xp_2027 (P320.lz la) := (by have q9 := aP320.2.2.1 xb_2008 hi_2014 (d320_5) (by omega) (by rw [epr_2019.symm]; omega); rw [epr_2019.symm, ← ex] at q9; exact q9)
            refine va_castY (C := "SsaForgeModel$Phi") (nm := "SsaForgeModel$Phi") hx hb hown (ow (k := 17) rfl) hp1 (recv_15 hK hP hm_2028 hk_2029) dX19_named_343 ?_
            refine lv_astore (lv' := [(6, .ref xp_2027), (0, .ref h0), (1, .ref hc), (2, .int (zI (d4_2))), (3, .int (zI (d302_3))), (4, .ref xb_2008), (5, .int (zI (d320_5)))]) hx hb dX19_named_346 hl (by decide) rfl (fun ls hl => ?_)
            have hxi9 : xp_2027 = P.el (P.bp (P.el la (d302_3))) (d320_5) := (by rw [hlbp9, ← NXT.el hns320]; exact ex)
            skip
            refine lv_iconst (v := 0) hx hb dX19_named_348 (by decide) ?_
            refine lv_istore (lv' := [(7, .int 0), (6, .ref xp_2027), (0, .ref h0), (1, .ref hc), (2, .int (zI (d4_2))), (3, .int (zI (d302_3))), (4, .ref xb_2008), (5, .int (zI (d320_5)))]) hx hb dX19_named_349 hl (by decide) rfl (fun ls hl => ?_)
            have key351 : ∀ n351 : Nat, ∀ (d351_7 : Int) (P351 : PO) (ls : Array Slot) (H : Heap) (locs : List Loc), (P351.tot 2 la ≤ P320.tot 2 la ∧ P351.tot 1 la ≤ P320.tot 1 la) → (KEP [] L P320 L P351 la) → (ALP L P351 cO cI cZ sx_ed la) → (0 ≤ d351_7 ∧ d351_7 ≤ 300) → (NPO P4 P351 la (LVT P4 ft) (d302_3) (d320_5) (d351_7)) → (TBK L P351 45 cI ft (nl : Int) 1002 (-1) 1001) → ((400 - d351_7 : Int).toNat) < n351 → lv_has ls 9 [(0, .ref h0), (1, .ref hc), (2, .int (zI (d4_2))), (3, .int (zI (d302_3))), (4, .ref xb_2008), (5, .int (zI (d320_5))), (6, .ref xp_2027), (7, .int (zI (d351_7)))] → va_P (dC, dI) vwQ ([(h0, .inr (16, [.ref hf, v19_1, v19_2, v19_3, v19_4, v19_5, .ref q_lt, v19_7, v19_8, v19_9, v19_10, v19_11, v19_12, v19_13, v19_14, v19_15, v19_16, v19_17, v19_18, v19_19, v19_20, v19_21, v19_22, v19_23, v19_24, v19_25, v19_26, v19_27, v19_28, v19_29, v19_30, v19_31, v19_32, v19_33, v19_34, v19_35, v19_36, v19_37, v19_38, v19_39, v19_40])), (q_lt, .inl (cL, nl, .inr (.inr (.inr (.inr ft))))), (hf, .inr (13, [v14_0, v14_1, v14_2, v14_3, .ref q_1404, .ref q_1405, .int (zI (z14_ordered)), v14_7, v14_8, v14_9, v14_10, v14_11, v14_12])), (q_1404, .inl (cA_1404, n14_idom, .inl (fun j : Nat => zI (a14_idom (j : Int))))), (q_1405, .inl (cA_1405, n14_order, .inl (fun j : Nat => zI (a14_order (j : Int))))), (hc, .inr (12, [v13_0, v13_1, v13_2, v13_3, v13_4, .ref la, v13_6]))] ++ va_pl L (pE P351)) H → va_D A ([(h0, .inr (16, [.ref hf, v19_1, v19_2, v19_3, v19_4, v19_5, .ref q_lt, v19_7, v19_8, v19_9, v19_10, v19_11, v19_12, v19_13, v19_14, v19_15, v19_16, v19_17, v19_18, v19_19, v19_20, v19_21, v19_22, v19_23, v19_24, v19_25, v19_26, v19_27, v19_28, v19_29, v19_30, v19_31, v19_32, v19_33, v19_34, v19_35, v19_36, v19_37, v19_38, v19_39, v19_40])), (q_lt, .inl (cL, nl, .inr (.inr (.inr (.inr ft))))), (hf, .inr (13, [v14_0, v14_1, v14_2, v14_3, .ref q_1404, .ref q_1405, .int (zI (z14_ordered)), v14_7, v14_8, v14_9, v14_10, v14_11, v14_12])), (q_1404, .inl (cA_1404, n14_idom, .inl (fun j : Nat => zI (a14_idom (j : Int))))), (q_1405, .inl (cA_1405, n14_order, .inl (fun j : Nat => zI (a14_order (j : Int))))), (hc, .inr (12, [v13_0, v13_1, v13_2, v13_3, v13_4, .ref la, v13_6]))] ++ va_pl L (pE P351)) → va_S A s.heap H locs → W p l e (headSpec v_P19_namedE ({ frames := 4, cells := 0, slots := 0, locals := 85 })).room s m ([.ref h0, .ref hc] : List Value).toArray below meth c H locs 0 0 Q (F0 m 351 ls []) := by
              intro n351
              induction n351 with
              | zero => intro d351_7 P351 ls H locs tP351 kP351 aP351 jd351_7 jo351 jt351 hm351; exact absurd hm351 (by omega)
              | succ n351 ih351 =>
                intro d351_7 P351 ls H locs tP351 kP351 aP351 jd351_7 jo351 jt351 hm351 hl hP hD hS
                have hq_2031 : HID (la ∈ L ∧ P351.kd la = 30) := kP351.mem hq_2012.1 hq_2012.2 (by decide)
                have hq_2032 : xb_2008 ∈ L ∧ P351.kd xb_2008 = 12 := kP351.mem hq_2013.1 hq_2013.2 (by decide)
                have hq_2033 : HID (pr_2019 ∈ L ∧ P351.kd pr_2019 = 30) := kP351.mem hlk_2020.1 hlk_2020.2.1 (by decide)
                have hq_2034 : HID (xp_2027 ∈ L ∧ P351.kd xp_2027 = 15) := kP351.mem hm_2028 hk_2029 (by decide)
                have hi_2035 : INB P351 la xb_2008 := kP351.inb hi_2014
                have ha_2036 : HID (P351.bp xb_2008 = pr_2019) := kP351.bp hq_2013.1 hq_2013.2 epr_2019.symm
                have hz9 := kP351.2.2.1
                have hA_2037 : KEP [] L P L P351 la := hA_2015.trans kP351
                have hA_2038 : KEP [] L P4 L P351 la := hA_2016.trans kP351
                have hA_2039 : KEP [] L P302 L P351 la := hA_2017.trans kP351
                have hA_2040 : KEP [] L P320 L P351 la := (KEP.refl [] L P320 la).trans kP351
                have hj351 := kP351
                have hns351 : NXT P P351 := NPO.nxs jo351 hxo9.1
                refine lv_iload hx hb dX19_named_351 (lv_at hl 7 rfl) ?_
                have hpo9 := NPO.at jo351 hxo9 hX_L hX_a9 (b := d302_3) (k := d320_5) (by omega) (by omega) (by omega) (by omega) hxi9
                have hpn9 := hpo9.1
                have hpn8 := hpo9.2.2.2.2.1
                have hlq9 : P4.lz (P4.bp (P4.el la (d302_3))) = P.lz (P.bp (P.el la (d302_3))) := (by rw [NXS.el hxo9.1, NXS.bp hxo9.1, NXS.lz hxo9.1 _ (hX_a9.inb ⟨d302_3, (by omega), (by omega), rfl⟩).2.2.1.2.1])
                refine lv_aload hx hb dX19_named_353 (lv_at hl 6 rfl) ?_
                have hp9 := aP351.pik hq_2034.1 hq_2034.2
                have hpn := hp9.2.2.2.2.1
                have hpt := hp9.2.2.2.2.2.1
                clear hp9
                obtain ⟨kp_2041, hkp_2041⟩ := va_pl_get (X := [(h0, .inr (16, [.ref hf, v19_1, v19_2, v19_3, v19_4, v19_5, .ref q_lt, v19_7, v19_8, v19_9, v19_10, v19_11, v19_12, v19_13, v19_14, v19_15, v19_16, v19_17, v19_18, v19_19, v19_20, v19_21, v19_22, v19_23, v19_24, v19_25, v19_26, v19_27, v19_28, v19_29, v19_30, v19_31, v19_32, v19_33, v19_34, v19_35, v19_36, v19_37, v19_38, v19_39, v19_40])), (q_lt, .inl (cL, nl, .inr (.inr (.inr (.inr ft))))), (hf, .inr (13, [v14_0, v14_1, v14_2, v14_3, .ref q_1404, .ref q_1405, .int (zI (z14_ordered)), v14_7, v14_8, v14_9, v14_10, v14_11, v14_12])), (q_1404, .inl (cA_1404, n14_idom, .inl (fun j : Nat => zI (a14_idom (j : Int))))), (q_1405, .inl (cA_1405, n14_order, .inl (fun j : Nat => zI (a14_order (j : Int))))), (hc, .inr (12, [v13_0, v13_1, v13_2, v13_3, v13_4, .ref la, v13_6]))]) (f := pE P351) hq_2034.1
                rw [pE_phi hq_2034.2] at hkp_2041
                refine va_get (D := (dC, dI)) (ci := 20) (v := .int (zI (P351.pn xp_2027))) (C := RX15) (T := TX15) (N := 6) hx hb hts mem_P19_namedE_7 hown hK hP kp_2041 hkp_2041 rfl 1 (by decide) (ow (k := 18) rfl) (fun _ h9 => h9) rfl dX19_named_355 ?_
                refine lv_icmp_ge (tgt := 397) hx hb dX19_named_358 (by decide) (fun b358 => ?_) (fun b358 => ?_)
                · have yb358 : (P351.pn xp_2027 : Int) ≤ (d351_7 : Int) := (zI_le (a := P351.pn xp_2027) (b := d351_7) (by omega) (by omega) (by omega) (by omega)).mp b358
                  have hnk9 := NPO.nextk jo351 (show P4.pn (P4.el (P4.bp (P4.el la (d302_3))) (d320_5)) ≤ d351_7 from (by rw [NXS.el hxo9.1, NXS.bp hxo9.1, NXS.el hxo9.1, ← hxi9, (NPO.at jo351 hxo9 hX_L hX_a9 (b := d302_3) (k := d320_5) (by omega) (by omega) (by omega) (by omega) hxi9).2.2.2.2.1]; omega))
                  skip
                  refine lv_iinc (v := zI (d320_5 + 1)) (lv' := [(5, .int (zI (d320_5 + 1))), (0, .ref h0), (1, .ref hc), (2, .int (zI (d4_2))), (3, .int (zI (d302_3))), (4, .ref xb_2008), (6, .ref xp_2027), (7, .int (zI (d351_7)))]) hx hb dX19_named_397 hl (k := 5) rfl (zI_add (d320_5) (1)) (by decide) rfl (fun ls hl => ?_)
                  refine lv_goto (tgt := 320) hx hb dX19_named_400 (by decide) ?_
                  exact ih320 (d320_5 + 1) P351 ls H _ (by omega) (kP320.trans hA_2040) aP351 (by omega) hnk9 jt351 (mea_lt hm320 (by omega) (by omega)) (lv_sub hl [1, 2, 3, 4, 5, 0] rfl) hP hD hS
                · have yb358 : ¬ (P351.pn xp_2027 : Int) ≤ (d351_7 : Int) := fun q => b358 ((zI_le (a := P351.pn xp_2027) (b := d351_7) (by omega) (by omega) (by omega) (by omega)).mpr q)
                  refine lv_aload hx hb dX19_named_361 (lv_at hl 6 rfl) ?_
                  have hon9 := NLT.opn hlo9 hX_L hX_a9 hX_O hav9 hX_R (b := d302_3) (k := d320_5) (i := d351_7) (by omega) (by omega) (by omega) (by omega) hxi9 (by omega) (by omega)
                  have hxq9 : xp_2027 = P4.el (P4.bp (P4.el la (d302_3))) (d320_5) := (by rw [hxi9, NXS.el hxo9.1, NXS.bp hxo9.1, NXS.el hxo9.1])
                  obtain ⟨kp_2042, hkp_2042⟩ := va_pl_get (X := [(h0, .inr (16, [.ref hf, v19_1, v19_2, v19_3, v19_4, v19_5, .ref q_lt, v19_7, v19_8, v19_9, v19_10, v19_11, v19_12, v19_13, v19_14, v19_15, v19_16, v19_17, v19_18, v19_19, v19_20, v19_21, v19_22, v19_23, v19_24, v19_25, v19_26, v19_27, v19_28, v19_29, v19_30, v19_31, v19_32, v19_33, v19_34, v19_35, v19_36, v19_37, v19_38, v19_39, v19_40])), (q_lt, .inl (cL, nl, .inr (.inr (.inr (.inr ft))))), (hf, .inr (13, [v14_0, v14_1, v14_2, v14_3, .ref q_1404, .ref q_1405, .int (zI (z14_ordered)), v14_7, v14_8, v14_9, v14_10, v14_11, v14_12])), (q_1404, .inl (cA_1404, n14_idom, .inl (fun j : Nat => zI (a14_idom (j : Int))))), (q_1405, .inl (cA_1405, n14_order, .inl (fun j : Nat => zI (a14_order (j : Int))))), (hc, .inr (12, [v13_0, v13_1, v13_2, v13_3, v13_4, .ref la, v13_6]))]) (f := pE P351) hq_2034.1
                  rw [pE_phi hq_2034.2] at hkp_2042
                  refine va_get (D := (dC, dI)) (ci := 20) (v := .ref (P351.pu xp_2027)) (C := RX15) (T := TX15) (N := 6) hx hb hts mem_P19_namedE_7 hown hK hP kp_2042 hkp_2042 rfl 3 (by decide) (ow (k := 19) rfl) (fun _ h9 => h9) rfl dX19_named_363 ?_
                  obtain ⟨pr_2043, epr_2043⟩ : ∃ q9 : Nat, q9 = P351.pu xp_2027 := ⟨_, rfl⟩
                  rw [← epr_2043]
                  have hpk_2044 := aP351.pik hq_2034.1 hq_2034.2
                  have hopr_2043 : pr_2043 ∈ L ∧ P351.kd pr_2043 = 41 ∧ P351.ac pr_2043 = cI ∧ P351.ow pr_2043 = xp_2027 := (by rw [epr_2043]; exact hpk_2044.2.2.1)
                  have hnpr_2043 : P351.an pr_2043 = P351.an (P351.pu xp_2027) := (by rw [epr_2043])
                  have hipr_2043 : P351.ia pr_2043 = P351.ia (P351.pu xp_2027) := (by rw [epr_2043])
                  refine lv_iload hx hb dX19_named_366 (lv_at hl 7 rfl) ?_
                  refine lv_aload_n hx hb dX19_named_368 rfl (lv_at hl 0 rfl) ?_
                  refine va_get (D := (dC, dI)) (ci := 16) (v := .ref q_lt) (C := RX19) (T := TX19) (N := 41) hx hb hts mem_P19_namedE_0 hown hK hP 0 rfl rfl 6 (by decide) (ow (k := 20) rfl) (fun _ h9 => h9) rfl dX19_named_369 ?_
                  refine lv_aload hx hb dX19_named_372 (lv_at hl 6 rfl) ?_
                  obtain ⟨kp_2045, hkp_2045⟩ := va_pl_get (X := [(h0, .inr (16, [.ref hf, v19_1, v19_2, v19_3, v19_4, v19_5, .ref q_lt, v19_7, v19_8, v19_9, v19_10, v19_11, v19_12, v19_13, v19_14, v19_15, v19_16, v19_17, v19_18, v19_19, v19_20, v19_21, v19_22, v19_23, v19_24, v19_25, v19_26, v19_27, v19_28, v19_29, v19_30, v19_31, v19_32, v19_33, v19_34, v19_35, v19_36, v19_37, v19_38, v19_39, v19_40])), (q_lt, .inl (cL, nl, .inr (.inr (.inr (.inr ft))))), (hf, .inr (13, [v14_0, v14_1, v14_2, v14_3, .ref q_1404, .ref q_1405, .int (zI (z14_ordered)), v14_7, v14_8, v14_9, v14_10, v14_11, v14_12])), (q_1404, .inl (cA_1404, n14_idom, .inl (fun j : Nat => zI (a14_idom (j : Int))))), (q_1405, .inl (cA_1405, n14_order, .inl (fun j : Nat => zI (a14_order (j : Int))))), (hc, .inr (12, [v13_0, v13_1, v13_2, v13_3, v13_4, .ref la, v13_6]))]) (f := pE P351) hq_2034.1
                  rw [pE_phi hq_2034.2] at hkp_2045
                  refine va_get (D := (dC, dI)) (ci := 20) (v := .ref (P351.pp xp_2027)) (C := RX15) (T := TX15) (N := 6) hx hb hts mem_P19_namedE_7 hown hK hP kp_2045 hkp_2045 rfl 2 (by decide) (ow (k := 21) rfl) (fun _ h9 => h9) rfl dX19_named_374 ?_
                  obtain ⟨pr_2046, epr_2046⟩ : ∃ q9 : Nat, q9 = P351.pp xp_2027 := ⟨_, rfl⟩
                  rw [← epr_2046]
                  have hpk_2047 := aP351.pik hq_2034.1 hq_2034.2
                  have hopr_2046 : pr_2046 ∈ L ∧ P351.kd pr_2046 = 40 ∧ P351.ac pr_2046 = cI ∧ P351.ow pr_2046 = xp_2027 := (by rw [epr_2046]; exact hpk_2047.2.1)
                  have hnpr_2046 : P351.an pr_2046 = P351.an (P351.pp xp_2027) := (by rw [epr_2046])
                  have hipr_2046 : P351.ia pr_2046 = P351.ia (P351.pp xp_2027) := (by rw [epr_2046])
                  refine lv_iload hx hb dX19_named_377 (lv_at hl 7 rfl) ?_
                  obtain ⟨kp_2048, hkp_2048⟩ := va_pl_get (X := [(h0, .inr (16, [.ref hf, v19_1, v19_2, v19_3, v19_4, v19_5, .ref q_lt, v19_7, v19_8, v19_9, v19_10, v19_11, v19_12, v19_13, v19_14, v19_15, v19_16, v19_17, v19_18, v19_19, v19_20, v19_21, v19_22, v19_23, v19_24, v19_25, v19_26, v19_27, v19_28, v19_29, v19_30, v19_31, v19_32, v19_33, v19_34, v19_35, v19_36, v19_37, v19_38, v19_39, v19_40])), (q_lt, .inl (cL, nl, .inr (.inr (.inr (.inr ft))))), (hf, .inr (13, [v14_0, v14_1, v14_2, v14_3, .ref q_1404, .ref q_1405, .int (zI (z14_ordered)), v14_7, v14_8, v14_9, v14_10, v14_11, v14_12])), (q_1404, .inl (cA_1404, n14_idom, .inl (fun j : Nat => zI (a14_idom (j : Int))))), (q_1405, .inl (cA_1405, n14_order, .inl (fun j : Nat => zI (a14_order (j : Int))))), (hc, .inr (12, [v13_0, v13_1, v13_2, v13_3, v13_4, .ref la, v13_6]))]) (f := pE P351) hopr_2046.1
                  rw [pE_n40 hopr_2046.2.1, hopr_2046.2.2.1] at hkp_2048
                  refine va_iald hx hb hK hP kp_2048 3 hkp_2048 rfl (zI_in (a := d351_7) (n := P351.an pr_2046) (by omega) (by omega) (by omega)) dX19_named_379 ?_
                  refine lv_topi (fun z ez => ?_)
                  obtain rfl : z = zI (P351.ia pr_2046 (d351_7)) := ez.trans (zI_ld (P351.ia pr_2046) (by omega) (by omega))
                  have hef9 := hpk_2047.ef (i := d351_7) (by omega) (by omega)
                  unfold PEF EF at hef9
                  have : P351.ia pr_2046 (d351_7) = P351.ia (P351.pp xp_2027) (d351_7) := (by rw [hipr_2046])
                  have hqp9 : pr_2046 = P.pp xp_2027 := (by rw [← hpo9.2.1.1]; exact (epr_2046.symm).symm)
                  have hqu9 : pr_2043 = P.pu xp_2027 := (by rw [← hpo9.2.1.2.1]; exact (epr_2043.symm).symm)
                  have he19 : P351.ia pr_2046 (d351_7) = P.ia (P.pp xp_2027) (d351_7) := (by rw [hqp9, hpo9.2.2.1])
                  have he29 : P351.ia pr_2043 (d351_7) = P.ia (P.pu xp_2027) (d351_7) := (by rw [hqu9]; exact hpo9.2.2.2.1 (by omega) (by omega))
                  have hpb9 := hX_a9.2.2.1 _ ⟨d302_3, (by omega), (by omega), rfl⟩ (d320_5) (by omega) (by omega) (d351_7) (by omega) (by rw [← hxi9]; omega)
                  rw [← hxi9] at hpb9
                  have hkx9 := hX_a9.kphi (i := d302_3) (j := d320_5) (by omega) (by omega) (by omega) (by omega)
                  rw [← hxi9] at hkx9
                  have hpk9 := (hX_a9.pik hkx9.1 hkx9.2).2.2.2.2.2.2 (d351_7) (by omega) (by omega)
                  have hrg9 := hX_R (d302_3) (d320_5) (d351_7) (by omega) (by omega) (by omega) (by omega) (by omega) (by rw [← hxi9]; omega)
                  rw [← hxi9] at hrg9
                  have hop9 := hpk9.2.2.2.resolve_left hrg9
                  have hpk8 := hpk9.1
                  obtain ⟨yt_2049, heyt_2049, hmyt_2049, hnyt_2049, hiyt_2049⟩ := jt351 (P351.ia pr_2046 (d351_7)) (by omega) (by omega)
                  refine va_aldr hx hb hK hP 1 0 rfl rfl (zI_in (a := P351.ia pr_2046 (d351_7)) (n := nl) (by omega) (by omega) (by omega)) dX19_named_380 ?_
                  rw [show va_rf (ft (zI (P351.ia pr_2046 (d351_7))).toNatClampNeg) = .ref yt_2049 from (by rw [zI_cl (by omega) (by omega), heyt_2049]; rfl)]
                  skip
                  refine lv_aload hx hb dX19_named_381 (lv_at hl 6 rfl) ?_
                  obtain ⟨kp_2050, hkp_2050⟩ := va_pl_get (X := [(h0, .inr (16, [.ref hf, v19_1, v19_2, v19_3, v19_4, v19_5, .ref q_lt, v19_7, v19_8, v19_9, v19_10, v19_11, v19_12, v19_13, v19_14, v19_15, v19_16, v19_17, v19_18, v19_19, v19_20, v19_21, v19_22, v19_23, v19_24, v19_25, v19_26, v19_27, v19_28, v19_29, v19_30, v19_31, v19_32, v19_33, v19_34, v19_35, v19_36, v19_37, v19_38, v19_39, v19_40])), (q_lt, .inl (cL, nl, .inr (.inr (.inr (.inr ft))))), (hf, .inr (13, [v14_0, v14_1, v14_2, v14_3, .ref q_1404, .ref q_1405, .int (zI (z14_ordered)), v14_7, v14_8, v14_9, v14_10, v14_11, v14_12])), (q_1404, .inl (cA_1404, n14_idom, .inl (fun j : Nat => zI (a14_idom (j : Int))))), (q_1405, .inl (cA_1405, n14_order, .inl (fun j : Nat => zI (a14_order (j : Int))))), (hc, .inr (12, [v13_0, v13_1, v13_2, v13_3, v13_4, .ref la, v13_6]))]) (f := pE P351) hq_2034.1
                  rw [pE_phi hq_2034.2] at hkp_2050
                  refine va_get (D := (dC, dI)) (ci := 20) (v := .ref (P351.pu xp_2027)) (C := RX15) (T := TX15) (N := 6) hx hb hts mem_P19_namedE_7 hown hK hP kp_2050 hkp_2050 rfl 3 (by decide) (ow (k := 19) rfl) (fun _ h9 => h9) rfl dX19_named_383 ?_
                  obtain ⟨pr_2051, epr_2051⟩ : ∃ q9 : Nat, q9 = P351.pu xp_2027 := ⟨_, rfl⟩
                  rw [← epr_2051]
                  obtain rfl : pr_2043 = pr_2051 := (by rw [epr_2051]; exact epr_2043.symm.symm)
                  refine lv_iload hx hb dX19_named_386 (lv_at hl 7 rfl) ?_
                  obtain ⟨kp_2052, hkp_2052⟩ := va_pl_get (X := [(h0, .inr (16, [.ref hf, v19_1, v19_2, v19_3, v19_4, v19_5, .ref q_lt, v19_7, v19_8, v19_9, v19_10, v19_11, v19_12, v19_13, v19_14, v19_15, v19_16, v19_17, v19_18, v19_19, v19_20, v19_21, v19_22, v19_23, v19_24, v19_25, v19_26, v19_27, v19_28, v19_29, v19_30, v19_31, v19_32, v19_33, v19_34, v19_35, v19_36, v19_37, v19_38, v19_39, v19_40])), (q_lt, .inl (cL, nl, .inr (.inr (.inr (.inr ft))))), (hf, .inr (13, [v14_0, v14_1, v14_2, v14_3, .ref q_1404, .ref q_1405, .int (zI (z14_ordered)), v14_7, v14_8, v14_9, v14_10, v14_11, v14_12])), (q_1404, .inl (cA_1404, n14_idom, .inl (fun j : Nat => zI (a14_idom (j : Int))))), (q_1405, .inl (cA_1405, n14_order, .inl (fun j : Nat => zI (a14_order (j : Int))))), (hc, .inr (12, [v13_0, v13_1, v13_2, v13_3, v13_4, .ref la, v13_6]))]) (f := pE P351) hopr_2043.1
                  rw [pE_n41 hopr_2043.2.1, hopr_2043.2.2.1] at hkp_2052
                  refine va_iald hx hb hK hP kp_2052 3 hkp_2052 rfl (zI_in (a := d351_7) (n := P351.an pr_2043) (by omega) (by omega) (by omega)) dX19_named_388 ?_
                  refine lv_topi (fun z ez => ?_)
                  obtain rfl : z = zI (P351.ia pr_2043 (d351_7)) := ez.trans (zI_ld (P351.ia pr_2043) (by omega) (by omega))
                  have hef9 := hpk_2044.ef (i := d351_7) (by omega) (by omega)
                  unfold PEF EF at hef9
                  have : P351.ia pr_2043 (d351_7) = P351.ia (P351.pu xp_2027) (d351_7) := (by rw [hipr_2043])
                  obtain ⟨kp_2053, hkp_2053⟩ := va_pl_get (X := [(h0, .inr (16, [.ref hf, v19_1, v19_2, v19_3, v19_4, v19_5, .ref q_lt, v19_7, v19_8, v19_9, v19_10, v19_11, v19_12, v19_13, v19_14, v19_15, v19_16, v19_17, v19_18, v19_19, v19_20, v19_21, v19_22, v19_23, v19_24, v19_25, v19_26, v19_27, v19_28, v19_29, v19_30, v19_31, v19_32, v19_33, v19_34, v19_35, v19_36, v19_37, v19_38, v19_39, v19_40])), (q_lt, .inl (cL, nl, .inr (.inr (.inr (.inr ft))))), (hf, .inr (13, [v14_0, v14_1, v14_2, v14_3, .ref q_1404, .ref q_1405, .int (zI (z14_ordered)), v14_7, v14_8, v14_9, v14_10, v14_11, v14_12])), (q_1404, .inl (cA_1404, n14_idom, .inl (fun j : Nat => zI (a14_idom (j : Int))))), (q_1405, .inl (cA_1405, n14_order, .inl (fun j : Nat => zI (a14_order (j : Int))))), (hc, .inr (12, [v13_0, v13_1, v13_2, v13_3, v13_4, .ref la, v13_6]))]) (f := pE P351) hmyt_2049.1
                  rw [pE_n45 hmyt_2049.2.1, hmyt_2049.2.2] at hkp_2053
                  refine va_iald hx hb hK hP kp_2053 3 hkp_2053 rfl (zI_in (a := P351.ia pr_2043 (d351_7)) (n := P351.an yt_2049) (by omega) (by omega) (by omega)) dX19_named_389 ?_
                  refine lv_topi (fun z ez => ?_)
                  obtain rfl : z = zI (P351.ia yt_2049 (P351.ia pr_2043 (d351_7))) := ez.trans (zI_ld (P351.ia yt_2049) (by omega) (by omega))
                  have := hiyt_2049 (P351.ia pr_2043 (d351_7))
                  have hpu9 : pr_2043 = P4.pu xp_2027 := (by rw [hpo9.2.1.2.2, ← hpo9.2.1.2.1]; exact (epr_2043.symm).symm)
                  have he39 : P351.ia yt_2049 (P351.ia pr_2043 (d351_7)) = LVT P4 ft (P.ia (P.pp xp_2027) (d351_7)) (P.ia (P.pu xp_2027) (d351_7)) := (by rw [← he19, ← he29, LVT.at heyt_2049, NPO.tab jo351 ((NXS.kd hxo9.1 _).trans ((NXT.kd hns351 _).symm.trans hmyt_2049.2.1))])
                  have hvv9 : P351.ia yt_2049 (P351.ia pr_2043 (d351_7)) = LVT P4 ft (P4.ia (P4.pp xp_2027) (d351_7)) (P4.ia pr_2043 (d351_7)) := (by rw [he39, hpu9, hpo9.2.1.2.2, hpo9.2.2.2.2.2.2, show P4.pp xp_2027 = P.pp xp_2027 from NXS.pp hxo9.1 _, hpo9.2.2.2.2.2.1])
                  rw [← he39] at hon9
                  skip
                  obtain ⟨kp_2054, gkp_2054⟩ := va_pl_get (X := [(h0, .inr (16, [.ref hf, v19_1, v19_2, v19_3, v19_4, v19_5, .ref q_lt, v19_7, v19_8, v19_9, v19_10, v19_11, v19_12, v19_13, v19_14, v19_15, v19_16, v19_17, v19_18, v19_19, v19_20, v19_21, v19_22, v19_23, v19_24, v19_25, v19_26, v19_27, v19_28, v19_29, v19_30, v19_31, v19_32, v19_33, v19_34, v19_35, v19_36, v19_37, v19_38, v19_39, v19_40])), (q_lt, .inl (cL, nl, .inr (.inr (.inr (.inr ft))))), (hf, .inr (13, [v14_0, v14_1, v14_2, v14_3, .ref q_1404, .ref q_1405, .int (zI (z14_ordered)), v14_7, v14_8, v14_9, v14_10, v14_11, v14_12])), (q_1404, .inl (cA_1404, n14_idom, .inl (fun j : Nat => zI (a14_idom (j : Int))))), (q_1405, .inl (cA_1405, n14_order, .inl (fun j : Nat => zI (a14_order (j : Int))))), (hc, .inr (12, [v13_0, v13_1, v13_2, v13_3, v13_4, .ref la, v13_6]))]) (f := pE P351) hopr_2043.1
                  have hkp_2054 := gkp_2054
                  rw [pE_n41 hopr_2043.2.1, hopr_2043.2.2.1] at hkp_2054
                  have hD0 := hD
                  refine va_iast (i := zI (d351_7)) hx hb hK hP hD hS kp_2054 3 hkp_2054 rfl (zI_in (a := d351_7) (n := P351.an pr_2043) (by omega) (by omega) (by omega)) dX19_named_390 (fun H locs hP hD hS => ?_)
                  obtain ⟨Pw_2055, ePw_2055⟩ : ∃ q9 : PO, q9 = P351.ri9 pr_2043 (zup (P351.ia pr_2043) (d351_7) (P351.ia yt_2049 (P351.ia pr_2043 (d351_7)))) := ⟨_, rfl⟩
                  have eQ : upd (fun j : Nat => zI (P351.ia pr_2043 (j : Int))) (zI (d351_7)).toNatClampNeg (zI (P351.ia yt_2049 (P351.ia pr_2043 (d351_7)))) = (fun j : Nat => zI ((zup (P351.ia pr_2043) (d351_7) (P351.ia yt_2049 (P351.ia pr_2043 (d351_7)))) (j : Int))) := zI_st (P351.ia pr_2043) (e := d351_7) (v := P351.ia yt_2049 (P351.ia pr_2043 (d351_7))) (by omega) (by omega)
                  have eU : (([(h0, .inr (16, [.ref hf, v19_1, v19_2, v19_3, v19_4, v19_5, .ref q_lt, v19_7, v19_8, v19_9, v19_10, v19_11, v19_12, v19_13, v19_14, v19_15, v19_16, v19_17, v19_18, v19_19, v19_20, v19_21, v19_22, v19_23, v19_24, v19_25, v19_26, v19_27, v19_28, v19_29, v19_30, v19_31, v19_32, v19_33, v19_34, v19_35, v19_36, v19_37, v19_38, v19_39, v19_40])), (q_lt, .inl (cL, nl, .inr (.inr (.inr (.inr ft))))), (hf, .inr (13, [v14_0, v14_1, v14_2, v14_3, .ref q_1404, .ref q_1405, .int (zI (z14_ordered)), v14_7, v14_8, v14_9, v14_10, v14_11, v14_12])), (q_1404, .inl (cA_1404, n14_idom, .inl (fun j : Nat => zI (a14_idom (j : Int))))), (q_1405, .inl (cA_1405, n14_order, .inl (fun j : Nat => zI (a14_order (j : Int))))), (hc, .inr (12, [v13_0, v13_1, v13_2, v13_3, v13_4, .ref la, v13_6]))] : va_W) ++ va_pl L (pE P351)).set kp_2054 (pr_2043, (.inl (cI, P351.an pr_2043, .inl (upd (fun j : Nat => zI (P351.ia pr_2043 (j : Int))) (zI (d351_7)).toNatClampNeg (zI (P351.ia yt_2049 (P351.ia pr_2043 (d351_7)))))) : va_E)) = ([(h0, .inr (16, [.ref hf, v19_1, v19_2, v19_3, v19_4, v19_5, .ref q_lt, v19_7, v19_8, v19_9, v19_10, v19_11, v19_12, v19_13, v19_14, v19_15, v19_16, v19_17, v19_18, v19_19, v19_20, v19_21, v19_22, v19_23, v19_24, v19_25, v19_26, v19_27, v19_28, v19_29, v19_30, v19_31, v19_32, v19_33, v19_34, v19_35, v19_36, v19_37, v19_38, v19_39, v19_40])), (q_lt, .inl (cL, nl, .inr (.inr (.inr (.inr ft))))), (hf, .inr (13, [v14_0, v14_1, v14_2, v14_3, .ref q_1404, .ref q_1405, .int (zI (z14_ordered)), v14_7, v14_8, v14_9, v14_10, v14_11, v14_12])), (q_1404, .inl (cA_1404, n14_idom, .inl (fun j : Nat => zI (a14_idom (j : Int))))), (q_1405, .inl (cA_1405, n14_order, .inl (fun j : Nat => zI (a14_order (j : Int))))), (hc, .inr (12, [v13_0, v13_1, v13_2, v13_3, v13_4, .ref la, v13_6]))] : va_W) ++ va_pl L (pE Pw_2055) := (by rw [eQ, va_pl_set hD0 hopr_2043.1 gkp_2054, ePw_2055]; exact congrArg (fun f9 => ([(h0, .inr (16, [.ref hf, v19_1, v19_2, v19_3, v19_4, v19_5, .ref q_lt, v19_7, v19_8, v19_9, v19_10, v19_11, v19_12, v19_13, v19_14, v19_15, v19_16, v19_17, v19_18, v19_19, v19_20, v19_21, v19_22, v19_23, v19_24, v19_25, v19_26, v19_27, v19_28, v19_29, v19_30, v19_31, v19_32, v19_33, v19_34, v19_35, v19_36, v19_37, v19_38, v19_39, v19_40])), (q_lt, .inl (cL, nl, .inr (.inr (.inr (.inr ft))))), (hf, .inr (13, [v14_0, v14_1, v14_2, v14_3, .ref q_1404, .ref q_1405, .int (zI (z14_ordered)), v14_7, v14_8, v14_9, v14_10, v14_11, v14_12])), (q_1404, .inl (cA_1404, n14_idom, .inl (fun j : Nat => zI (a14_idom (j : Int))))), (q_1405, .inl (cA_1405, n14_order, .inl (fun j : Nat => zI (a14_order (j : Int))))), (hc, .inr (12, [v13_0, v13_1, v13_2, v13_3, v13_4, .ref la, v13_6]))] : va_W) ++ va_pl L f9) (by have h9 := putnum (P := P351) (x := pr_2043) (a := zup (P351.ia pr_2043) (d351_7) (P351.ia yt_2049 (P351.ia pr_2043 (d351_7)))) (by omega); rw [hopr_2043.2.2.1] at h9; exact h9))
                  have hP : va_P (dC, dI) vwQ ([(h0, .inr (16, [.ref hf, v19_1, v19_2, v19_3, v19_4, v19_5, .ref q_lt, v19_7, v19_8, v19_9, v19_10, v19_11, v19_12, v19_13, v19_14, v19_15, v19_16, v19_17, v19_18, v19_19, v19_20, v19_21, v19_22, v19_23, v19_24, v19_25, v19_26, v19_27, v19_28, v19_29, v19_30, v19_31, v19_32, v19_33, v19_34, v19_35, v19_36, v19_37, v19_38, v19_39, v19_40])), (q_lt, .inl (cL, nl, .inr (.inr (.inr (.inr ft))))), (hf, .inr (13, [v14_0, v14_1, v14_2, v14_3, .ref q_1404, .ref q_1405, .int (zI (z14_ordered)), v14_7, v14_8, v14_9, v14_10, v14_11, v14_12])), (q_1404, .inl (cA_1404, n14_idom, .inl (fun j : Nat => zI (a14_idom (j : Int))))), (q_1405, .inl (cA_1405, n14_order, .inl (fun j : Nat => zI (a14_order (j : Int))))), (hc, .inr (12, [v13_0, v13_1, v13_2, v13_3, v13_4, .ref la, v13_6]))] ++ va_pl L (pE Pw_2055)) H := (by rw [← eU]; exact hP)
                  have hD : va_D A ([(h0, .inr (16, [.ref hf, v19_1, v19_2, v19_3, v19_4, v19_5, .ref q_lt, v19_7, v19_8, v19_9, v19_10, v19_11, v19_12, v19_13, v19_14, v19_15, v19_16, v19_17, v19_18, v19_19, v19_20, v19_21, v19_22, v19_23, v19_24, v19_25, v19_26, v19_27, v19_28, v19_29, v19_30, v19_31, v19_32, v19_33, v19_34, v19_35, v19_36, v19_37, v19_38, v19_39, v19_40])), (q_lt, .inl (cL, nl, .inr (.inr (.inr (.inr ft))))), (hf, .inr (13, [v14_0, v14_1, v14_2, v14_3, .ref q_1404, .ref q_1405, .int (zI (z14_ordered)), v14_7, v14_8, v14_9, v14_10, v14_11, v14_12])), (q_1404, .inl (cA_1404, n14_idom, .inl (fun j : Nat => zI (a14_idom (j : Int))))), (q_1405, .inl (cA_1405, n14_order, .inl (fun j : Nat => zI (a14_order (j : Int))))), (hc, .inr (12, [v13_0, v13_1, v13_2, v13_3, v13_4, .ref la, v13_6]))] ++ va_pl L (pE Pw_2055)) := (by rw [← eU]; exact hD)
                  clear eU eQ hD0 gkp_2054 hkp_2054
                  have wPw_2055 : PH1 xp_2027 P351 Pw_2055 := (by rw [ePw_2055]; exact PH1.num hopr_2043.2.2.2)
                  have hi_2056 : Pw_2055.ia pr_2043 = zup (P351.ia pr_2043) (d351_7) (P351.ia yt_2049 (P351.ia pr_2043 (d351_7))) := (by rw [ePw_2055]; exact ri9_at _ _ _)
                  have hi_2057 : Pw_2055.ia pr_2046 = P351.ia pr_2046 := (by rw [ePw_2055]; exact ri9_of _ _ (kd_ne hopr_2046.2.1 hopr_2043.2.1 (by decide)))
                  have hi_2058 : Pw_2055.ia yt_2049 = P351.ia yt_2049 := (by rw [ePw_2055]; exact ri9_of _ _ (kd_ne hmyt_2049.2.1 hopr_2043.2.1 (by decide)))
                  have hy_2059 : HID (Pw_2055.kd la = 30) := (by rw [ePw_2055]; exact hq_2031.2)
                  have hy_2060 : Pw_2055.kd xb_2008 = 12 := (by rw [ePw_2055]; exact hq_2032.2)
                  have : Pw_2055.bf xb_2008 = P351.bf xb_2008 := (by rw [ePw_2055]; rfl)
                  have : Pw_2055.bs xb_2008 = P351.bs xb_2008 := (by rw [ePw_2055]; rfl)
                  have hy_2061 : HID (Pw_2055.kd pr_2019 = 30) := (by rw [ePw_2055]; exact hq_2033.2)
                  have hy_2062 : HID (Pw_2055.kd xp_2027 = 15) := (by rw [ePw_2055]; exact hq_2034.2)
                  have : Pw_2055.pt xp_2027 = P351.pt xp_2027 := (by rw [ePw_2055]; rfl)
                  have : Pw_2055.pn xp_2027 = P351.pn xp_2027 := (by rw [ePw_2055]; rfl)
                  have : Pw_2055.pg xp_2027 = P351.pg xp_2027 := (by rw [ePw_2055]; rfl)
                  have hy_2063 : HID (Pw_2055.kd pr_2043 = 41) := (by rw [ePw_2055]; exact hopr_2043.2.1)
                  have hy_2064 : HID (Pw_2055.kd pr_2046 = 40) := (by rw [ePw_2055]; exact hopr_2046.2.1)
                  have hy_2065 : HID (Pw_2055.kd yt_2049 = 45) := (by rw [ePw_2055]; exact hmyt_2049.2.1)
                  have hc_2066 : Pw_2055.ac pr_2043 = cI := (by rw [ePw_2055]; exact hopr_2043.2.2.1)
                  have : Pw_2055.an pr_2043 = P351.an pr_2043 := (by rw [ePw_2055]; rfl)
                  have hc_2067 : Pw_2055.ac pr_2046 = cI := (by rw [ePw_2055]; exact hopr_2046.2.2.1)
                  have : Pw_2055.an pr_2046 = P351.an pr_2046 := (by rw [ePw_2055]; rfl)
                  have hc_2068 : Pw_2055.ac yt_2049 = cI := (by rw [ePw_2055]; exact hmyt_2049.2.2)
                  have : Pw_2055.an yt_2049 = P351.an yt_2049 := (by rw [ePw_2055]; rfl)
                  have ha_2069 : HID (Pw_2055.bp xb_2008 = pr_2019) := (by rw [ePw_2055]; exact ha_2036.out)
                  have ha_2070 : HID (Pw_2055.pu xp_2027 = pr_2043) := (by rw [ePw_2055]; exact epr_2043.symm)
                  have ha_2071 : HID (Pw_2055.pp xp_2027 = pr_2046) := (by rw [ePw_2055]; exact epr_2046.symm)
                  have ho_2072 : Pw_2055.ow pr_2043 = xp_2027 := (by rw [ePw_2055]; exact hopr_2043.2.2.2)
                  have ho_2073 : Pw_2055.ow pr_2046 = xp_2027 := (by rw [ePw_2055]; exact hopr_2046.2.2.2)
                  have hpt_2074 := PIK.put (aP351.pik hq_2034.1 hq_2034.2) epr_2043.symm (i := d351_7) (v := P351.ia yt_2049 (P351.ia pr_2043 (d351_7))) (by omega) (by omega) (by omega) (by omega) ePw_2055
                  have hrw_2075 : RWD P351 Pw_2055 := hpt_2074.1.rwd hq_2034.2
                  have hke_2076 : KEP [] L P351 L Pw_2055 la := hrw_2075.kep _ hq_2031.2
                  have hak_2077 : ALP L Pw_2055 cO cI cZ sx_ed la := aP351.phi hpt_2074.1 hq_2034.2 hpt_2074.2.1 hpt_2074.2.2.1
                  have hq_2078 : HID (la ∈ L ∧ Pw_2055.kd la = 30) := hke_2076.mem hq_2031.1 hq_2031.2 (by decide)
                  have hq_2079 : xb_2008 ∈ L ∧ Pw_2055.kd xb_2008 = 12 := hke_2076.mem hq_2032.1 hq_2032.2 (by decide)
                  have hq_2080 : HID (pr_2019 ∈ L ∧ Pw_2055.kd pr_2019 = 30) := hke_2076.mem hq_2033.1 hq_2033.2 (by decide)
                  have hq_2081 : HID (xp_2027 ∈ L ∧ Pw_2055.kd xp_2027 = 15) := hke_2076.mem hq_2034.1 hq_2034.2 (by decide)
                  have hq_2082 : HID (yt_2049 ∈ L ∧ Pw_2055.kd yt_2049 = 45) := hke_2076.mem hmyt_2049.1 hmyt_2049.2.1 (by decide)
                  have hi_2083 : INB Pw_2055 la xb_2008 := hke_2076.inb hi_2035
                  have ha_2084 : HID (Pw_2055.bp xb_2008 = pr_2019) := hke_2076.bp hq_2032.1 hq_2032.2 ha_2036.out
                  have hz9 := hke_2076.2.2.1
                  have hA_2085 : KEP [] L P L Pw_2055 la := hA_2037.trans hke_2076
                  have hA_2086 : KEP [] L P4 L Pw_2055 la := hA_2038.trans hke_2076
                  have hA_2087 : KEP [] L P302 L Pw_2055 la := hA_2039.trans hke_2076
                  have hA_2088 : KEP [] L P320 L Pw_2055 la := hA_2040.trans hke_2076
                  have hA_2089 : KEP [] L P351 L Pw_2055 la := (KEP.refl [] L P351 la).trans hke_2076
                  have : Pw_2055.lz la = P351.lz la := hrw_2075.lz hq_2031.2
                  have : Pw_2055.lz pr_2019 = P351.lz pr_2019 := hrw_2075.lz hq_2033.2
                  have ht9 := hrw_2075.tot aP351 2 (Or.inr rfl)
                  have ht8 := hrw_2075.tot aP351 1 (Or.inl rfl)
                  have hpn9 := hpt_2074.2.2.2.1.1
                  have htb_2090 := TBK.tkp jt351 (TKP.ri41 (L := L) (aP351.pik hq_2034.1 hq_2034.2).2.2.1.2.1 (by decide) (show Pw_2055 = P351.ri9 (P351.pu xp_2027) _ from (by rw [epr_2043.symm]; exact ePw_2055)))
                  have hno_2091 := NPO.put jo351 haQ hndQ (by omega) (by omega) (by omega) (by omega) hxq9 (by omega) (by omega) hpu9 hvv9 ePw_2055
                  refine lv_iinc (v := zI (d351_7 + 1)) (lv' := [(7, .int (zI (d351_7 + 1))), (0, .ref h0), (1, .ref hc), (2, .int (zI (d4_2))), (3, .int (zI (d302_3))), (4, .ref xb_2008), (5, .int (zI (d320_5))), (6, .ref xp_2027)]) hx hb dX19_named_391 hl (k := 7) rfl (zI_add (d351_7) (1)) (by decide) rfl (fun ls hl => ?_)
                  refine lv_goto (tgt := 351) hx hb dX19_named_394 (by decide) ?_
                  exact ih351 (d351_7 + 1) Pw_2055 ls H _ (by omega) (kP351.trans hA_2089) hak_2077 (by omega) hno_2091 htb_2090 (mea_lt hm351 (by omega) (by omega)) (lv_sub hl [1, 2, 3, 4, 5, 6, 7, 0] rfl) hP hD hS
            exact key351 ((400 - 0 : Int).toNat + 1) 0 P320 ls H _ (by omega) (KEP.refl _ _ _ _) aP320 (by omega) jo320 jt320 (Nat.lt_succ_self _) (lv_sub hl [2, 3, 4, 5, 6, 7, 1, 0] rfl) hP hD hS
      exact key320 ((50000 - 0 : Int).toNat + 1) 0 P302 ls H _ (by omega) (KEP.refl _ _ _ _) aP302 (by omega) jo302 jt302 (Nat.lt_succ_self _) (lv_sub hl [2, 3, 4, 5, 1, 0] rfl) hP hD hS
