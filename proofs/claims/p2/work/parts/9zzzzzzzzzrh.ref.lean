theorem dX16_end_0 : decode cX16_end 0 = .ok (.aload_n 1, 1) := by decide +kernel
theorem dX16_end_1 : decode cX16_end 1 = .ok (.getfield 236, 3) := by decide +kernel
theorem dX16_end_4 : decode cX16_end 4 = .ok (.astore_n 2, 1) := by decide +kernel
theorem dX16_end_5 : decode cX16_end 5 = .ok (.aload_n 2, 1) := by decide +kernel
theorem dX16_end_6 : decode cX16_end 6 = .ok (.iconst 0, 1) := by decide +kernel
theorem dX16_end_7 : decode cX16_end 7 = .ok (.putfield 239, 3) := by decide +kernel
theorem dX16_end_10 : decode cX16_end 10 = .ok (.aload_n 2, 1) := by decide +kernel
theorem dX16_end_11 : decode cX16_end 11 = .ok (.iconst 0, 1) := by decide +kernel
theorem dX16_end_12 : decode cX16_end 12 = .ok (.putfield 217, 3) := by decide +kernel
theorem dX16_end_15 : decode cX16_end 15 = .ok (.aload_n 2, 1) := by decide +kernel
theorem dX16_end_16 : decode cX16_end 16 = .ok (.iconst 0, 1) := by decide +kernel
theorem dX16_end_17 : decode cX16_end 17 = .ok (.putfield 214, 3) := by decide +kernel
theorem dX16_end_20 : decode cX16_end 20 = .ok (.aload_n 1, 1) := by decide +kernel
theorem dX16_end_21 : decode cX16_end 21 = .ok (.iconst 0, 1) := by decide +kernel
theorem dX16_end_22 : decode cX16_end 22 = .ok (.putfield 242, 3) := by decide +kernel
theorem dX16_end_25 : decode cX16_end 25 = .ok (.aload_n 1, 1) := by decide +kernel
theorem dX16_end_26 : decode cX16_end 26 = .ok (.iconst 0, 1) := by decide +kernel
theorem dX16_end_27 : decode cX16_end 27 = .ok (.putfield 245, 3) := by decide +kernel
theorem dX16_end_30 : decode cX16_end 30 = .ok (.aload_n 0, 1) := by decide +kernel
theorem dX16_end_31 : decode cX16_end 31 = .ok (.ldc 248, 2) := by decide +kernel
theorem dX16_end_33 : decode cX16_end 33 = .ok (.invokevirtual 132, 3) := by decide +kernel
theorem dX16_end_36 : decode cX16_end 36 = .ok (.ifCond .eq 32, 3) := by decide +kernel
theorem dX16_end_68 : decode cX16_end 68 = .ok (.aload_n 0, 1) := by decide +kernel
theorem dX16_end_69 : decode cX16_end 69 = .ok (.ldc 253, 2) := by decide +kernel
theorem dX16_end_71 : decode cX16_end 71 = .ok (.invokevirtual 132, 3) := by decide +kernel
theorem dX16_end_74 : decode cX16_end 74 = .ok (.ifCond .eq 38, 3) := by decide +kernel
theorem dX16_end_112 : decode cX16_end 112 = .ok (.aload_n 0, 1) := by decide +kernel
theorem dX16_end_113 : decode cX16_end 113 = .ok (.ldc 255, 2) := by decide +kernel
theorem dX16_end_115 : decode cX16_end 115 = .ok (.invokevirtual 132, 3) := by decide +kernel
theorem dX16_end_118 : decode cX16_end 118 = .ok (.ifCond .eq 22, 3) := by decide +kernel
theorem dX16_end_140 : decode cX16_end 140 = .ok (.aload_n 0, 1) := by decide +kernel
theorem dX16_end_141 : decode cX16_end 141 = .ok (.invokevirtual 136, 3) := by decide +kernel
theorem dX16_end_144 : decode cX16_end 144 = .ok (.athrow, 1) := by decide +kernel
theorem dX16_end_121 : decode cX16_end 121 = .ok (.aload_n 0, 1) := by decide +kernel
theorem dX16_end_122 : decode cX16_end 122 = .ok (.invokevirtual 35, 3) := by decide +kernel
theorem dX16_end_125 : decode cX16_end 125 = .ok (.aload_n 2, 1) := by decide +kernel
theorem dX16_end_126 : decode cX16_end 126 = .ok (.bipush 32, 2) := by decide +kernel
theorem dX16_end_128 : decode cX16_end 128 = .ok (.putfield 220, 3) := by decide +kernel
theorem dX16_end_131 : decode cX16_end 131 = .ok (.aload_n 0, 1) := by decide +kernel
theorem dX16_end_132 : decode cX16_end 132 = .ok (.aload_n 2, 1) := by decide +kernel
theorem dX16_end_133 : decode cX16_end 133 = .ok (.iconst 0, 1) := by decide +kernel
theorem dX16_end_134 : decode cX16_end 134 = .ok (.invokevirtual 223, 3) := by decide +kernel
theorem dX16_end_137 : decode cX16_end 137 = .ok (.goto 8, 3) := by decide +kernel
theorem dX16_end_145 : decode cX16_end 145 = .ok (.return_, 1) := by decide +kernel
theorem dX16_end_77 : decode cX16_end 77 = .ok (.aload_n 0, 1) := by decide +kernel
theorem dX16_end_78 : decode cX16_end 78 = .ok (.invokevirtual 35, 3) := by decide +kernel
theorem dX16_end_81 : decode cX16_end 81 = .ok (.aload_n 2, 1) := by decide +kernel
theorem dX16_end_82 : decode cX16_end 82 = .ok (.bipush 31, 2) := by decide +kernel
theorem dX16_end_84 : decode cX16_end 84 = .ok (.putfield 220, 3) := by decide +kernel
theorem dX16_end_87 : decode cX16_end 87 = .ok (.aload_n 0, 1) := by decide +kernel
theorem dX16_end_88 : decode cX16_end 88 = .ok (.aload_n 2, 1) := by decide +kernel
theorem dX16_end_89 : decode cX16_end 89 = .ok (.iconst 0, 1) := by decide +kernel
theorem dX16_end_90 : decode cX16_end 90 = .ok (.invokevirtual 223, 3) := by decide +kernel
theorem dX16_end_93 : decode cX16_end 93 = .ok (.aload_n 1, 1) := by decide +kernel
theorem dX16_end_94 : decode cX16_end 94 = .ok (.aload_n 0, 1) := by decide +kernel
theorem dX16_end_95 : decode cX16_end 95 = .ok (.invokevirtual 250, 3) := by decide +kernel
theorem dX16_end_98 : decode cX16_end 98 = .ok (.putfield 242, 3) := by decide +kernel
theorem dX16_end_101 : decode cX16_end 101 = .ok (.aload_n 1, 1) := by decide +kernel
theorem dX16_end_102 : decode cX16_end 102 = .ok (.aload_n 0, 1) := by decide +kernel
theorem dX16_end_103 : decode cX16_end 103 = .ok (.invokevirtual 250, 3) := by decide +kernel
theorem dX16_end_106 : decode cX16_end 106 = .ok (.putfield 245, 3) := by decide +kernel
theorem dX16_end_109 : decode cX16_end 109 = .ok (.goto 36, 3) := by decide +kernel
theorem dX16_end_39 : decode cX16_end 39 = .ok (.aload_n 0, 1) := by decide +kernel
theorem dX16_end_40 : decode cX16_end 40 = .ok (.invokevirtual 35, 3) := by decide +kernel
theorem dX16_end_43 : decode cX16_end 43 = .ok (.aload_n 2, 1) := by decide +kernel
theorem dX16_end_44 : decode cX16_end 44 = .ok (.bipush 30, 2) := by decide +kernel
theorem dX16_end_46 : decode cX16_end 46 = .ok (.putfield 220, 3) := by decide +kernel
theorem dX16_end_49 : decode cX16_end 49 = .ok (.aload_n 1, 1) := by decide +kernel
theorem dX16_end_50 : decode cX16_end 50 = .ok (.aload_n 0, 1) := by decide +kernel
theorem dX16_end_51 : decode cX16_end 51 = .ok (.invokevirtual 250, 3) := by decide +kernel
theorem dX16_end_54 : decode cX16_end 54 = .ok (.putfield 242, 3) := by decide +kernel
theorem dX16_end_57 : decode cX16_end 57 = .ok (.aload_n 1, 1) := by decide +kernel
theorem dX16_end_58 : decode cX16_end 58 = .ok (.aload_n 1, 1) := by decide +kernel
theorem dX16_end_59 : decode cX16_end 59 = .ok (.getfield 242, 3) := by decide +kernel
theorem dX16_end_62 : decode cX16_end 62 = .ok (.putfield 245, 3) := by decide +kernel
theorem dX16_end_65 : decode cX16_end 65 = .ok (.goto 80, 3) := by decide +kernel
def o_X16_endM : List Cond := [.fieldLink RX16 236 "SsaForgeModel$Block" "end" "LSsaForgeModel$Row;", .fieldLink RX16 239 "SsaForgeModel$Row" "gone" "Z", .fieldLink RX16 217 "SsaForgeModel$Row" "regA" "Z", .fieldLink RX16 214 "SsaForgeModel$Row" "a" "I", .fieldLink RX16 242 "SsaForgeModel$Block" "first" "I", .fieldLink RX16 245 "SsaForgeModel$Block" "second" "I", .methodLink RX16 132 yX16_is, .instanceMethod yX16_is, .selects RX16 yX16_is yX16_is, .initialized RX16, .methodLink RX16 136 yX16_no, .instanceMethod yX16_no, .selects RX16 yX16_no yX16_no, .methodLink RX16 35 yX16_next, .instanceMethod yX16_next, .selects RX16 yX16_next yX16_next, .fieldLink RX16 220 "SsaForgeModel$Row" "op" "I", .methodLink RX16 223 yX16_operand, .instanceMethod yX16_operand, .selects RX16 yX16_operand yX16_operand, .methodLink RX16 250 yX16_goal, .instanceMethod yX16_goal, .selects RX16 yX16_goal yX16_goal]
def v_X16_endM : List Cond := .code yX16_end cX16_end 3 none :: (o_X16_endM ++ (wsX120 ++ (wsX170 ++ (v_X16_isK ++ (v_X16_no ++ (v_X16_nextM ++ (v_X16_opAM ++ (v_X16_goalM ++ []))))))))
theorem mow_X16_endM : ∀ w ∈ o_X16_endM, w ∈ v_X16_endM := fun _ h => List.mem_cons_of_mem _ (List.mem_append_left _ h)
theorem mem_X16_endM_0 : ∀ w ∈ wsX120, w ∈ v_X16_endM := fun _ h => List.mem_cons_of_mem _ (List.mem_append_right _ (List.mem_append_left _ h))
theorem mem_X16_endM_1 : ∀ w ∈ wsX170, w ∈ v_X16_endM := fun _ h => List.mem_cons_of_mem _ (List.mem_append_right _ (List.mem_append_right _ (List.mem_append_left _ h)))
theorem mem_X16_endM_2 : ∀ w ∈ v_X16_isK, w ∈ v_X16_endM := fun _ h => List.mem_cons_of_mem _ (List.mem_append_right _ (List.mem_append_right _ (List.mem_append_right _ (List.mem_append_left _ h))))
theorem mem_X16_endM_3 : ∀ w ∈ v_X16_no, w ∈ v_X16_endM := fun _ h => List.mem_cons_of_mem _ (List.mem_append_right _ (List.mem_append_right _ (List.mem_append_right _ (List.mem_append_right _ (List.mem_append_left _ h)))))
theorem mem_X16_endM_4 : ∀ w ∈ v_X16_nextM, w ∈ v_X16_endM := fun _ h => List.mem_cons_of_mem _ (List.mem_append_right _ (List.mem_append_right _ (List.mem_append_right _ (List.mem_append_right _ (List.mem_append_right _ (List.mem_append_left _ h))))))
theorem mem_X16_endM_5 : ∀ w ∈ v_X16_opAM, w ∈ v_X16_endM := fun _ h => List.mem_cons_of_mem _ (List.mem_append_right _ (List.mem_append_right _ (List.mem_append_right _ (List.mem_append_right _ (List.mem_append_right _ (List.mem_append_right _ (List.mem_append_left _ h)))))))
theorem mem_X16_endM_6 : ∀ w ∈ v_X16_goalM, w ∈ v_X16_endM := fun _ h => List.mem_cons_of_mem _ (List.mem_append_right _ (List.mem_append_right _ (List.mem_append_right _ (List.mem_append_right _ (List.mem_append_right _ (List.mem_append_right _ (List.mem_append_right _ (List.mem_append_left _ h))))))))
set_option maxRecDepth 20000 in
theorem gw_X16_endM : v_X16_endM.all goodWord = true := by decide +kernel
set_option maxRecDepth 20000 in
theorem g_X16_endM_X16_isK : GoodIn v_X16_endM (wsV RX16 132 RX16 yX16_is v_X16_isK) := goodIn_app (goodIn_sub (fun w h => mow_X16_endM w (by revert w h; decide +kernel)) (by decide +kernel)) (goodIn_sub mem_X16_endM_2 gw_X16_isK)
set_option maxRecDepth 20000 in
theorem g_X16_endM_X16_no : GoodIn v_X16_endM (wsV RX16 136 RX16 yX16_no v_X16_no) := goodIn_app (goodIn_sub (fun w h => mow_X16_endM w (by revert w h; decide +kernel)) (by decide +kernel)) (goodIn_sub mem_X16_endM_3 gw_X16_no)
set_option maxRecDepth 20000 in
theorem g_X16_endM_X16_nextM : GoodIn v_X16_endM (wsV RX16 35 RX16 yX16_next v_X16_nextM) := goodIn_app (goodIn_sub (fun w h => mow_X16_endM w (by revert w h; decide +kernel)) (by decide +kernel)) (goodIn_sub mem_X16_endM_4 gw_X16_nextM)
set_option maxRecDepth 20000 in
theorem g_X16_endM_X16_opAM : GoodIn v_X16_endM (wsV RX16 223 RX16 yX16_operand v_X16_opAM) := goodIn_app (goodIn_sub (fun w h => mow_X16_endM w (by revert w h; decide +kernel)) (by decide +kernel)) (goodIn_sub mem_X16_endM_5 gw_X16_opAM)
set_option maxRecDepth 20000 in
theorem g_X16_endM_X16_goalM : GoodIn v_X16_endM (wsV RX16 250 RX16 yX16_goal v_X16_goalM) := goodIn_app (goodIn_sub (fun w h => mow_X16_endM w (by revert w h; decide +kernel)) (by decide +kernel)) (goodIn_sub mem_X16_endM_6 gw_X16_goalM)
set_option maxHeartbeats 40000000 in
set_option maxRecDepth 100000 in
theorem c_X16_endM (l : Launch) (dC : Nat → ClassId) (dI : Nat → Nat → Nat) (cZ : ClassId) (h0 : Nat) (z16_n : Int) (z16_at : Int) (z16_kind : Int) (z16_place : Int) (z16_value : Int) (z16_before : Int) (v16_8 : Value) (v16_9 : Value) (v16_10 : Value) (z16_goalN : Int) (q_t : Nat) (cT : ClassId) (a_t : Int → Int) (tx9 : Nat) (q_gp : Nat) (q_gs : Nat) (cI : ClassId) (ng : Nat) (mg : Nat) (a_gp : Int → Int) (a_gs : Int → Int) (L : List Nat) (P : PO) (sa_RX16_9 : Nat) (cO : ClassId) (la : Nat) (sx_ed : Nat) (xb : Nat) (hNz16_n : 0 ≤ z16_n ∧ z16_n ≤ 8192) (hNz16_at : 0 ≤ z16_at ∧ z16_at ≤ 8192) (hNz16_kind : 0 ≤ z16_kind ∧ z16_kind ≤ 6) (hNz16_place : 0 ≤ z16_place ∧ z16_place ≤ 8192) (hNz16_value : -2147483648 ≤ z16_value ∧ z16_value ≤ 2147483647) (hNz16_before : 0 ≤ z16_before ∧ z16_before ≤ 6) (hNz16_goalN : 0 ≤ z16_goalN ∧ z16_goalN ≤ 20000) (hR_a_t : ∀ j : Int, -128 ≤ a_t j ∧ a_t j ≤ 127) (hNng : (mg : Int) = ng ∧ z16_goalN ≤ ng ∧ 1 ≤ ng ∧ ng ≤ 17000 ∧ z16_goalN ≤ 8192) (hR_a_gp : ∀ j : Int, 0 ≤ a_gp j ∧ a_gp j ≤ 8192) (hR_a_gs : ∀ j : Int, 0 ≤ a_gs j ∧ a_gs j ≤ 59) (hX_g : GLF L P cO cI cZ sx_ed) (hX_la : la ∈ L ∧ P.kd la = 30 ∧ P.ek la = 12 ∧ P.ow la = la) (hX_b : xb ∈ L) (hX_bk : P.kd xb = 12) (hX_tx : TXT L P cT sa_RX16_9 tx9) (hNd : z16_at ≤ z16_n ∧ z16_place ≤ z16_at) (hX_kv : KV9 z16_kind z16_value) (hNga : z16_goalN ≤ z16_at) (sz : Nat) (sa_RX16_248 : Nat) (sv_RX16_248 : Nat) (sv_RX16_9 : Nat) (sa_RX16_253 : Nat) (sv_RX16_253 : Nat) (sa_RX16_255 : Nat) (sv_RX16_255 : Nat) (HU : Heap) (sa_RX16_119 : Nat) (sv_RX16_119 : Nat) (sa_RX16_100 : Nat) (sv_RX16_100 : Nat) (sa_RX16_117 : Nat) (sv_RX16_117 : Nat) (sa_RX16_98 : Nat) (sv_RX16_98 : Nat) : vx_Met l yX16_end v_X16_endM ({ frames := 10, cells := ((14 * (z16_n - z16_at) + 4 * z16_goalN + 120).toNat), slots := ((120 * (z16_n - z16_at) + 16 * z16_goalN + 700).toNat), locals := 259 }) (va_Pc [.ref h0, .ref xb] (fun U => U.heap.size = sz ∧ va_P (dC, dI) vwQ ([(h0, .inr (14, [.ref q_t, .int (zI (z16_n)), .int (zI (z16_at)), .int (zI (z16_kind)), .int (zI (z16_place)), .int (zI (z16_value)), .int (zI (z16_before)), .ref tx9, v16_8, v16_9, v16_10, .ref q_gp, .ref q_gs, .int (zI (z16_goalN))])), (q_t, .inl (cT, 8192, .inl (fun j : Nat => zI (a_t (j : Int))))), (q_gp, .inl (cI, mg, .inl (fun j : Nat => zI (a_gp (j : Int))))), (q_gs, .inl (cI, ng, .inl (fun j : Nat => zI (a_gs (j : Int)))))] ++ va_pl L (pE P)) U.heap ∧ va_K (dC, dI) vwQ [(cT, .byte), (cI, .int), (cO, .object "java/lang/Object"), (cZ, .boolean)] U ∧ va_D (fun _ => True) ([(h0, .inr (14, [.ref q_t, .int (zI (z16_n)), .int (zI (z16_at)), .int (zI (z16_kind)), .int (zI (z16_place)), .int (zI (z16_value)), .int (zI (z16_before)), .ref tx9, v16_8, v16_9, v16_10, .ref q_gp, .ref q_gs, .int (zI (z16_goalN))])), (q_t, .inl (cT, 8192, .inl (fun j : Nat => zI (a_t (j : Int))))), (q_gp, .inl (cI, mg, .inl (fun j : Nat => zI (a_gp (j : Int))))), (q_gs, .inl (cI, ng, .inl (fun j : Nat => zI (a_gs (j : Int)))))] ++ va_pl L (pE P)) ∧ vk_R RX16 248 "jump" sa_RX16_248 U ∧ vs_S sa_RX16_248 sv_RX16_248 4 (fun j : Nat => ([106, 117, 109, 112] : List Int32).getD j 0) (va_A ([(h0, .inr (14, [.ref q_t, .int (zI (z16_n)), .int (zI (z16_at)), .int (zI (z16_kind)), .int (zI (z16_place)), .int (zI (z16_value)), .int (zI (z16_before)), .ref tx9, v16_8, v16_9, v16_10, .ref q_gp, .ref q_gs, .int (zI (z16_goalN))])), (q_t, .inl (cT, 8192, .inl (fun j : Nat => zI (a_t (j : Int))))), (q_gp, .inl (cI, mg, .inl (fun j : Nat => zI (a_gp (j : Int))))), (q_gs, .inl (cI, ng, .inl (fun j : Nat => zI (a_gs (j : Int)))))] ++ va_pl L (pE P)) sz) U U.heap ∧ vs_S sa_RX16_9 sv_RX16_9 0 (fun j : Nat => ([] : List Int32).getD j 0) (va_A ([(h0, .inr (14, [.ref q_t, .int (zI (z16_n)), .int (zI (z16_at)), .int (zI (z16_kind)), .int (zI (z16_place)), .int (zI (z16_value)), .int (zI (z16_before)), .ref tx9, v16_8, v16_9, v16_10, .ref q_gp, .ref q_gs, .int (zI (z16_goalN))])), (q_t, .inl (cT, 8192, .inl (fun j : Nat => zI (a_t (j : Int))))), (q_gp, .inl (cI, mg, .inl (fun j : Nat => zI (a_gp (j : Int))))), (q_gs, .inl (cI, ng, .inl (fun j : Nat => zI (a_gs (j : Int)))))] ++ va_pl L (pE P)) sz) U U.heap ∧ va_Z "java/lang/String" "COMPACT_STRINGS" "Z" (.int 1) (va_A ([(h0, .inr (14, [.ref q_t, .int (zI (z16_n)), .int (zI (z16_at)), .int (zI (z16_kind)), .int (zI (z16_place)), .int (zI (z16_value)), .int (zI (z16_before)), .ref tx9, v16_8, v16_9, v16_10, .ref q_gp, .ref q_gs, .int (zI (z16_goalN))])), (q_t, .inl (cT, 8192, .inl (fun j : Nat => zI (a_t (j : Int))))), (q_gp, .inl (cI, mg, .inl (fun j : Nat => zI (a_gp (j : Int))))), (q_gs, .inl (cI, ng, .inl (fun j : Nat => zI (a_gs (j : Int)))))] ++ va_pl L (pE P)) sz) U U.heap ∧ vk_R RX16 253 "if" sa_RX16_253 U ∧ vs_S sa_RX16_253 sv_RX16_253 2 (fun j : Nat => ([105, 102] : List Int32).getD j 0) (va_A ([(h0, .inr (14, [.ref q_t, .int (zI (z16_n)), .int (zI (z16_at)), .int (zI (z16_kind)), .int (zI (z16_place)), .int (zI (z16_value)), .int (zI (z16_before)), .ref tx9, v16_8, v16_9, v16_10, .ref q_gp, .ref q_gs, .int (zI (z16_goalN))])), (q_t, .inl (cT, 8192, .inl (fun j : Nat => zI (a_t (j : Int))))), (q_gp, .inl (cI, mg, .inl (fun j : Nat => zI (a_gp (j : Int))))), (q_gs, .inl (cI, ng, .inl (fun j : Nat => zI (a_gs (j : Int)))))] ++ va_pl L (pE P)) sz) U U.heap ∧ vk_R RX16 255 "ret" sa_RX16_255 U ∧ vs_S sa_RX16_255 sv_RX16_255 3 (fun j : Nat => ([114, 101, 116] : List Int32).getD j 0) (va_A ([(h0, .inr (14, [.ref q_t, .int (zI (z16_n)), .int (zI (z16_at)), .int (zI (z16_kind)), .int (zI (z16_place)), .int (zI (z16_value)), .int (zI (z16_before)), .ref tx9, v16_8, v16_9, v16_10, .ref q_gp, .ref q_gs, .int (zI (z16_goalN))])), (q_t, .inl (cT, 8192, .inl (fun j : Nat => zI (a_t (j : Int))))), (q_gp, .inl (cI, mg, .inl (fun j : Nat => zI (a_gp (j : Int))))), (q_gs, .inl (cI, ng, .inl (fun j : Nat => zI (a_gs (j : Int)))))] ++ va_pl L (pE P)) sz) U U.heap ∧ vx_Zq Bundle.tN "UNASSIGNED_STACK" Bundle.steD (va_A ([(h0, .inr (14, [.ref q_t, .int (zI (z16_n)), .int (zI (z16_at)), .int (zI (z16_kind)), .int (zI (z16_place)), .int (zI (z16_value)), .int (zI (z16_before)), .ref tx9, v16_8, v16_9, v16_10, .ref q_gp, .ref q_gs, .int (zI (z16_goalN))])), (q_t, .inl (cT, 8192, .inl (fun j : Nat => zI (a_t (j : Int))))), (q_gp, .inl (cI, mg, .inl (fun j : Nat => zI (a_gp (j : Int))))), (q_gs, .inl (cI, ng, .inl (fun j : Nat => zI (a_gs (j : Int)))))] ++ va_pl L (pE P)) sz) U U.heap ∧ vx_Zq Bundle.tN "SUPPRESSED_SENTINEL" Bundle.listD (va_A ([(h0, .inr (14, [.ref q_t, .int (zI (z16_n)), .int (zI (z16_at)), .int (zI (z16_kind)), .int (zI (z16_place)), .int (zI (z16_value)), .int (zI (z16_before)), .ref tx9, v16_8, v16_9, v16_10, .ref q_gp, .ref q_gs, .int (zI (z16_goalN))])), (q_t, .inl (cT, 8192, .inl (fun j : Nat => zI (a_t (j : Int))))), (q_gp, .inl (cI, mg, .inl (fun j : Nat => zI (a_gp (j : Int))))), (q_gs, .inl (cI, ng, .inl (fun j : Nat => zI (a_gs (j : Int)))))] ++ va_pl L (pE P)) sz) U U.heap ∧ U.heap = HU ∧ vk_R RX16 9 "" sa_RX16_9 U ∧ va_Nw (.castable "[B" "java/lang/Cloneable") U ∧ vk_R RX16 119 "+-*/%&|^<(),:=" sa_RX16_119 U ∧ vs_S sa_RX16_119 sv_RX16_119 14 (fun j : Nat => ([43, 45, 42, 47, 37, 38, 124, 94, 60, 40, 41, 44, 58, 61] : List Int32).getD j 0) (va_A ([(h0, .inr (14, [.ref q_t, .int (zI (z16_n)), .int (zI (z16_at)), .int (zI (z16_kind)), .int (zI (z16_place)), .int (zI (z16_value)), .int (zI (z16_before)), .ref tx9, v16_8, v16_9, v16_10, .ref q_gp, .ref q_gs, .int (zI (z16_goalN))])), (q_t, .inl (cT, 8192, .inl (fun j : Nat => zI (a_t (j : Int))))), (q_gp, .inl (cI, mg, .inl (fun j : Nat => zI (a_gp (j : Int))))), (q_gs, .inl (cI, ng, .inl (fun j : Nat => zI (a_gs (j : Int)))))] ++ va_pl L (pE P)) sz) U U.heap ∧ vs_S sa_RX16_100 sv_RX16_100 1 (fun j : Nat => ([32] : List Int32).getD j 0) (va_A ([(h0, .inr (14, [.ref q_t, .int (zI (z16_n)), .int (zI (z16_at)), .int (zI (z16_kind)), .int (zI (z16_place)), .int (zI (z16_value)), .int (zI (z16_before)), .ref tx9, v16_8, v16_9, v16_10, .ref q_gp, .ref q_gs, .int (zI (z16_goalN))])), (q_t, .inl (cT, 8192, .inl (fun j : Nat => zI (a_t (j : Int))))), (q_gp, .inl (cI, mg, .inl (fun j : Nat => zI (a_gp (j : Int))))), (q_gs, .inl (cI, ng, .inl (fun j : Nat => zI (a_gs (j : Int)))))] ++ va_pl L (pE P)) sz) U U.heap ∧ vk_R RX16 117 " << >> <= == != " sa_RX16_117 U ∧ vk_R RX16 100 " " sa_RX16_100 U ∧ vs_S sa_RX16_117 sv_RX16_117 16 (fun j : Nat => ([32, 60, 60, 32, 62, 62, 32, 60, 61, 32, 61, 61, 32, 33, 61, 32] : List Int32).getD j 0) (va_A ([(h0, .inr (14, [.ref q_t, .int (zI (z16_n)), .int (zI (z16_at)), .int (zI (z16_kind)), .int (zI (z16_place)), .int (zI (z16_value)), .int (zI (z16_before)), .ref tx9, v16_8, v16_9, v16_10, .ref q_gp, .ref q_gs, .int (zI (z16_goalN))])), (q_t, .inl (cT, 8192, .inl (fun j : Nat => zI (a_t (j : Int))))), (q_gp, .inl (cI, mg, .inl (fun j : Nat => zI (a_gp (j : Int))))), (q_gs, .inl (cI, ng, .inl (fun j : Nat => zI (a_gs (j : Int)))))] ++ va_pl L (pE P)) sz) U U.heap ∧ vk_R RX16 98 " in show if jump ret phi " sa_RX16_98 U ∧ vs_S sa_RX16_98 sv_RX16_98 25 (fun j : Nat => ([32, 105, 110, 32, 115, 104, 111, 119, 32, 105, 102, 32, 106, 117, 109, 112, 32, 114, 101, 116, 32, 112, 104, 105, 32] : List Int32).getD j 0) (va_A ([(h0, .inr (14, [.ref q_t, .int (zI (z16_n)), .int (zI (z16_at)), .int (zI (z16_kind)), .int (zI (z16_place)), .int (zI (z16_value)), .int (zI (z16_before)), .ref tx9, v16_8, v16_9, v16_10, .ref q_gp, .ref q_gs, .int (zI (z16_goalN))])), (q_t, .inl (cT, 8192, .inl (fun j : Nat => zI (a_t (j : Int))))), (q_gp, .inl (cI, mg, .inl (fun j : Nat => zI (a_gp (j : Int))))), (q_gs, .inl (cI, ng, .inl (fun j : Nat => zI (a_gs (j : Int)))))] ++ va_pl L (pE P)) sz) U U.heap)) (va_Qv (fun _ : Unit => True) (fun (_ : Unit) (t : State) => ∃ (z0_9 : Int) (z1_9 : Int) (z2_9 : Int) (z3_9 : Int) (z4_9 : Int) (q5_9 : Nat) (z6_9 : Int) (qn0_9 : Nat) (nn0_9 : Nat) (an0_9 : Int → Int) (qn1_9 : Nat) (nn1_9 : Nat) (an1_9 : Int → Int) (Ln_9 : List Nat) (Pn_9 : PO) (kc_9 : Nat) (ks_9 : Nat), ((RM HU t.heap kc_9 ks_9 ∧ ((ks_9 : Int) ≤ 4 * ((nn1_9 : Int) - ng) + 110 * (z0_9 - z16_at) ∧ (kc_9 : Int) ≤ 2 * ((nn1_9 : Int) - ng) + 13 * (z0_9 - z16_at))) ∧ ((0 ≤ z0_9 ∧ z0_9 ≤ 8192) ∧ (0 ≤ z1_9 ∧ z1_9 ≤ 6) ∧ (0 ≤ z2_9 ∧ z2_9 ≤ 8192) ∧ (-2147483648 ≤ z3_9 ∧ z3_9 ≤ 2147483647) ∧ (0 ≤ z4_9 ∧ z4_9 ≤ 6) ∧ (0 ≤ z6_9 ∧ z6_9 ≤ 20000) ∧ (∀ j : Int, 0 ≤ an0_9 j ∧ an0_9 j ≤ 8192) ∧ (∀ j : Int, 0 ≤ an1_9 j ∧ an1_9 j ≤ 59) ∧ (KEG [] L P Ln_9 Pn_9 ∧ GLF Ln_9 Pn_9 cO cI cZ sx_ed ∧ (7 * (z16_n - z0_9) + z1_9 < 7 * (z16_n - z16_at) + z16_kind ∧ z16_at + 1 ≤ z0_9) ∧ CHG (fun z => z = xb ∨ z = P.be xb) L P Ln_9 Pn_9 ∧ (z16_goalN ≤ z6_9 ∧ z6_9 ≤ z16_goalN + 2 ∧ z6_9 ≤ (nn1_9 : Int) ∧ (nn0_9 : Int) = nn1_9 ∧ (ng : Int) ≤ nn1_9 ∧ (nn1_9 : Int) ≤ 17000 ∧ z6_9 ≤ z0_9 ∧ GRW (nn1_9 : Int) ng (z6_9)) ∧ (∀ j : Int, 0 ≤ j → j < z16_goalN → an1_9 j = a_gs j) ∧ GIN an1_9 (z6_9) (Pn_9.bf xb) ∧ GIN an1_9 (z6_9) (Pn_9.bs xb) ∧ (30 ≤ Pn_9.ro (P.be xb) ∧ Pn_9.ro (P.be xb) ≤ 32) ∧ (z16_at ≤ z2_9 ∧ z2_9 ≤ z0_9 ∧ z0_9 ≤ z16_n) ∧ KDN (z1_9) (z0_9) (z3_9) z16_n z16_at ∧ TXT Ln_9 Pn_9 cT sa_RX16_9 q5_9))) ∧ va_P (dC, dI) vwQ ([(h0, .inr (14, [.ref q_t, .int (zI (z16_n)), .int (zI (z0_9)), .int (zI (z1_9)), .int (zI (z2_9)), .int (zI (z3_9)), .int (zI (z4_9)), .ref q5_9, v16_8, v16_9, v16_10, .ref qn0_9, .ref qn1_9, .int (zI (z6_9))])), (q_t, .inl (cT, 8192, .inl (fun j : Nat => zI (a_t (j : Int))))), (qn0_9, .inl (cI, nn0_9, .inl (fun j : Nat => zI (an0_9 (j : Int))))), (qn1_9, .inl (cI, nn1_9, .inl (fun j : Nat => zI (an1_9 (j : Int)))))] ++ va_pl Ln_9 (pE Pn_9)) t.heap ∧ va_K (dC, dI) vwQ [(cT, .byte), (cI, .int), (cO, .object "java/lang/Object"), (cZ, .boolean)] t ∧ va_D (va_A ([(h0, .inr (14, [.ref q_t, .int (zI (z16_n)), .int (zI (z16_at)), .int (zI (z16_kind)), .int (zI (z16_place)), .int (zI (z16_value)), .int (zI (z16_before)), .ref tx9, v16_8, v16_9, v16_10, .ref q_gp, .ref q_gs, .int (zI (z16_goalN))])), (q_t, .inl (cT, 8192, .inl (fun j : Nat => zI (a_t (j : Int))))), (q_gp, .inl (cI, mg, .inl (fun j : Nat => zI (a_gp (j : Int))))), (q_gs, .inl (cI, ng, .inl (fun j : Nat => zI (a_gs (j : Int)))))] ++ va_pl L (pE P)) sz) ([(h0, .inr (14, [.ref q_t, .int (zI (z16_n)), .int (zI (z0_9)), .int (zI (z1_9)), .int (zI (z2_9)), .int (zI (z3_9)), .int (zI (z4_9)), .ref q5_9, v16_8, v16_9, v16_10, .ref qn0_9, .ref qn1_9, .int (zI (z6_9))])), (q_t, .inl (cT, 8192, .inl (fun j : Nat => zI (a_t (j : Int))))), (qn0_9, .inl (cI, nn0_9, .inl (fun j : Nat => zI (an0_9 (j : Int))))), (qn1_9, .inl (cI, nn1_9, .inl (fun j : Nat => zI (an1_9 (j : Int)))))] ++ va_pl Ln_9 (pE Pn_9))) (va_A ([(h0, .inr (14, [.ref q_t, .int (zI (z16_n)), .int (zI (z16_at)), .int (zI (z16_kind)), .int (zI (z16_place)), .int (zI (z16_value)), .int (zI (z16_before)), .ref tx9, v16_8, v16_9, v16_10, .ref q_gp, .ref q_gs, .int (zI (z16_goalN))])), (q_t, .inl (cT, 8192, .inl (fun j : Nat => zI (a_t (j : Int))))), (q_gp, .inl (cI, mg, .inl (fun j : Nat => zI (a_gp (j : Int))))), (q_gs, .inl (cI, ng, .inl (fun j : Nat => zI (a_gs (j : Int)))))] ++ va_pl L (pE P)) sz)) (vx_X (fun _ : Unit => True) (fun E (q9 : Addr) (_ : Unit) (t9 : State) => (E = RX18 ∧ ∃ (zp_9 : Int) (Ln_9 : List Nat) (Pn_9 : PO) (kc_9 : Nat) (ks_9 : Nat), ((RM HU t9.heap kc_9 ks_9 ∧ ((ks_9 : Int) ≤ 110 * (z16_n - z16_at) + 8 * z16_goalN + 20 ∧ (kc_9 : Int) ≤ 13 * (z16_n - z16_at) + 2 * z16_goalN + 10)) ∧ ((0 ≤ zp_9 ∧ zp_9 ≤ 8192) ∧ (KEG [] L P Ln_9 Pn_9 ∧ GLF Ln_9 Pn_9 cO cI cZ sx_ed ∧ CPA L P Pn_9))) ∧ va_P (dC, dI) vwQ ([(q_t, .inl (cT, 8192, .inl (fun j : Nat => zI (a_t (j : Int))))), (q9, .inr (15, [.null, .null, .null, .null, .null, .int 0, .int (zI (zp_9))]))] ++ va_pl Ln_9 (pE Pn_9)) t9.heap ∧ va_D (va_A ([(h0, .inr (14, [.ref q_t, .int (zI (z16_n)), .int (zI (z16_at)), .int (zI (z16_kind)), .int (zI (z16_place)), .int (zI (z16_value)), .int (zI (z16_before)), .ref tx9, v16_8, v16_9, v16_10, .ref q_gp, .ref q_gs, .int (zI (z16_goalN))])), (q_t, .inl (cT, 8192, .inl (fun j : Nat => zI (a_t (j : Int))))), (q_gp, .inl (cI, mg, .inl (fun j : Nat => zI (a_gp (j : Int))))), (q_gs, .inl (cI, ng, .inl (fun j : Nat => zI (a_gs (j : Int)))))] ++ va_pl L (pE P)) sz) ([(q_t, .inl (cT, 8192, .inl (fun j : Nat => zI (a_t (j : Int))))), (q9, .inr (15, [.null, .null, .null, .null, .null, .int 0, .int (zI (zp_9))]))] ++ va_pl Ln_9 (pE Pn_9)))) (va_A ([(h0, .inr (14, [.ref q_t, .int (zI (z16_n)), .int (zI (z16_at)), .int (zI (z16_kind)), .int (zI (z16_place)), .int (zI (z16_value)), .int (zI (z16_before)), .ref tx9, v16_8, v16_9, v16_10, .ref q_gp, .ref q_gs, .int (zI (z16_goalN))])), (q_t, .inl (cT, 8192, .inl (fun j : Nat => zI (a_t (j : Int))))), (q_gp, .inl (cI, mg, .inl (fun j : Nat => zI (a_gp (j : Int))))), (q_gs, .inl (cI, ng, .inl (fun j : Nat => zI (a_gs (j : Int)))))] ++ va_pl L (pE P)) sz)) ((14 * (z16_n - z16_at) + 4 * z16_goalN + 120).toNat) ((120 * (z16_n - z16_at) + 16 * z16_goalN + 700).toNat) (va_A ([(h0, .inr (14, [.ref q_t, .int (zI (z16_n)), .int (zI (z16_at)), .int (zI (z16_kind)), .int (zI (z16_place)), .int (zI (z16_value)), .int (zI (z16_before)), .ref tx9, v16_8, v16_9, v16_10, .ref q_gp, .ref q_gs, .int (zI (z16_goalN))])), (q_t, .inl (cT, 8192, .inl (fun j : Nat => zI (a_t (j : Int))))), (q_gp, .inl (cI, mg, .inl (fun j : Nat => zI (a_gp (j : Int))))), (q_gs, .inl (cI, ng, .inl (fun j : Nat => zI (a_gs (j : Int)))))] ++ va_pl L (pE P)) sz) := by
  refine vx_ofW (cc := cX16_end) (maxL := 3) (ret := none) (by decide) rfl ?_
  intro p e s m args below meth c s₁ B hml hnt hv
  obtain ⟨rfl, hsz, hP, hK, hD0, hp0, hp1, hp2, hp3, hp4, hp5, hp6, hp7, hp8, hp9, hp10, hp11, hp12, hp13, hp14, hp15, hp16, hp17, hp18, hp19, hp20⟩ := hv
  have hx := B.exec
  have hb := B.bytes
  have hr := B.returns
  have hts := atoms_spec (ws := v_X16_endM) B.pre
  have hown : s.vm.findClass RX16 = some m.cls := findClass_of_methodNamed B.named
  have hlocks := B.notSynchronized
  have ow : ∀ {k : Nat} {w : Cond}, o_X16_endM[k]? = some w → w.before ([.ref h0, .ref xb] : List Value).toArray s = true := fun h => hts _ (mow_X16_endM _ (List.mem_of_getElem? h))
  subst hsz
  have hD := hD0.self (sz := s.heap.size)
  generalize hAe : va_A ([(h0, .inr (14, [.ref q_t, .int (zI (z16_n)), .int (zI (z16_at)), .int (zI (z16_kind)), .int (zI (z16_place)), .int (zI (z16_value)), .int (zI (z16_before)), .ref tx9, v16_8, v16_9, v16_10, .ref q_gp, .ref q_gs, .int (zI (z16_goalN))])), (q_t, .inl (cT, 8192, .inl (fun j : Nat => zI (a_t (j : Int))))), (q_gp, .inl (cI, mg, .inl (fun j : Nat => zI (a_gp (j : Int))))), (q_gs, .inl (cI, ng, .inl (fun j : Nat => zI (a_gs (j : Int)))))] ++ va_pl L (pE P)) s.heap.size = A at hD hp1 hp2 hp3 hp5 hp7 hp8 hp9 hp14 hp15 hp18 hp20 ⊢
  have hA : ∀ q : Nat, s.heap.size ≤ q → A q := fun q h => by rw [← hAe]; exact Or.inr h
  have hS : va_S A s.heap s.heap [] := va_S.rf
  have hP : va_P (dC, dI) vwQ ([(h0, .inr (14, [.ref q_t, .int (zI (z16_n)), .int (zI (z16_at)), .int (zI (z16_kind)), .int (zI (z16_place)), .int (zI (z16_value)), .int (zI (z16_before)), .ref tx9, v16_8, v16_9, v16_10, .ref q_gp, .ref q_gs, .int (zI (z16_goalN))])), (q_t, .inl (cT, 8192, .inl (fun j : Nat => zI (a_t (j : Int))))), (q_gp, .inl (cI, mg, .inl (fun j : Nat => zI (a_gp (j : Int))))), (q_gs, .inl (cI, ng, .inl (fun j : Nat => zI (a_gs (j : Int)))))] ++ va_pl L (pE P)) s.heap := hP
  have hl := lv_entry ([.ref h0, .ref xb]) (n := 3) (Nat.le_of_ble_eq_true rfl)
  rw [lg_entry_eq]
  generalize (lg_sl ([.ref h0, .ref xb]) ++ List.replicate (3 - (lg_sl ([.ref h0, .ref xb])).length) Slot.unset).toArray = ls at hl ⊢
  have hl : lv_has ls 3 [(0, .ref h0), (1, .ref xb)] := hl
  obtain ⟨H, hH⟩ : ∃ H, H = s.heap := ⟨_, rfl⟩
  rw [← hH] at hP
  have hS : va_S A s.heap H [] := by rw [hH]; exact hS
  rw [← hH]
  refine zW_cap (fun Q hQ => ?_)
  have hX_g9 := hX_g
  have hC_la := hX_la
  have hg00 := hX_g
  have hcx0 : CHG (fun z => z = xb ∨ z = P.be xb) L P L P := CHG.refl _ _ _
  refine lv_aload_n hx hb dX16_end_0 rfl (lv_at hl 1 rfl) ?_
  have hfb := (hX_g9.gb hX_b hX_bk).2
  obtain ⟨kp_1, hkp_1⟩ := va_pl_get (X := [(h0, .inr (14, [.ref q_t, .int (zI (z16_n)), .int (zI (z16_at)), .int (zI (z16_kind)), .int (zI (z16_place)), .int (zI (z16_value)), .int (zI (z16_before)), .ref tx9, v16_8, v16_9, v16_10, .ref q_gp, .ref q_gs, .int (zI (z16_goalN))])), (q_t, .inl (cT, 8192, .inl (fun j : Nat => zI (a_t (j : Int))))), (q_gp, .inl (cI, mg, .inl (fun j : Nat => zI (a_gp (j : Int))))), (q_gs, .inl (cI, ng, .inl (fun j : Nat => zI (a_gs (j : Int)))))]) (f := pE P) hX_b
  rw [pE_block hX_bk] at hkp_1
  refine va_get (D := (dC, dI)) (ci := 19) (v := .ref (P.be xb)) (C := RX12) (T := TX12) (N := 5) hx hb hts mem_X16_endM_0 hown hK hP kp_1 hkp_1 rfl 2 (by decide) (ow (k := 0) rfl) (fun _ h9 => h9) rfl dX16_end_1 ?_
  obtain ⟨pr_2, epr_2⟩ : ∃ q9 : Nat, q9 = P.be xb := ⟨_, rfl⟩
  rw [← epr_2]
  have hbe_3 : pr_2 ∈ L ∧ P.kd pr_2 = 17 ∧ P.ek pr_2 = 1 := (by rw [epr_2]; exact (hX_g9.gb hX_b hX_bk).1)
  have hE_4 : P.ek pr_2 = 1 := hbe_3.2.2
  refine lv_astore_n (lv' := [(2, .ref pr_2), (0, .ref h0), (1, .ref xb)]) hx hb dX16_end_4 rfl hl (by decide) rfl (fun ls hl => ?_)
  refine lv_aload_n hx hb dX16_end_5 rfl (lv_at hl 0 rfl) ?_
  refine lv_iconst (v := 0) hx hb dX16_end_6 (by decide) ?_
  have hr7 := (hX_g9.rok hbe_3.1 hbe_3.2.1).n7
  refine lv_topi (fun z ez => ?_)
  obtain rfl : z = zI (0) := ez
  obtain ⟨kp_5, gkp_5⟩ := va_pl_get (X := [(h0, .inr (14, [.ref q_t, .int (zI (z16_n)), .int (zI (z16_at)), .int (zI (z16_kind)), .int (zI (z16_place)), .int (zI (z16_value)), .int (zI (z16_before)), .ref tx9, v16_8, v16_9, v16_10, .ref q_gp, .ref q_gs, .int (zI (z16_goalN))])), (q_t, .inl (cT, 8192, .inl (fun j : Nat => zI (a_t (j : Int))))), (q_gp, .inl (cI, mg, .inl (fun j : Nat => zI (a_gp (j : Int))))), (q_gs, .inl (cI, ng, .inl (fun j : Nat => zI (a_gs (j : Int)))))]) (f := pE P) hbe_3.1
  have hkp_5 := gkp_5
  rw [pE_row hbe_3.2.1] at hkp_5
  have hD0 := hD
  refine va_put (D := (dC, dI)) (ci := 21) (v := .int (zI (0))) (ty := .boolean) (C := RX17) (T := TX17) (N := 7) hx hb hts mem_X16_endM_1 tyX17 tyX17_ok nmX17 hown hK hP hD hS kp_5 hkp_5 rfl 6 (by decide) (ow (k := 1) rfl) (fun _ h9 => h9) rfl (by decide +kernel) (zI_bool (by omega) (by omega)) (zI_fitb (by omega) (by omega)) (by first | exact Nat.le_of_ble_eq_true rfl | exact (show 0 ≤ (14 * (z16_n - z16_at) + 4 * z16_goalN + 120).toNat from (by omega)) | exact (show 0 ≤ (120 * (z16_n - z16_at) + 16 * z16_goalN + 700).toNat from (by omega))) dX16_end_7 (fun H locs hP hD hS => ?_)
  obtain ⟨Pw_6, ePw_6⟩ : ∃ q9 : PO, q9 = P.rw9 6 pr_2 (0) := ⟨_, rfl⟩
  have eU : (([(h0, .inr (14, [.ref q_t, .int (zI (z16_n)), .int (zI (z16_at)), .int (zI (z16_kind)), .int (zI (z16_place)), .int (zI (z16_value)), .int (zI (z16_before)), .ref tx9, v16_8, v16_9, v16_10, .ref q_gp, .ref q_gs, .int (zI (z16_goalN))])), (q_t, .inl (cT, 8192, .inl (fun j : Nat => zI (a_t (j : Int))))), (q_gp, .inl (cI, mg, .inl (fun j : Nat => zI (a_gp (j : Int))))), (q_gs, .inl (cI, ng, .inl (fun j : Nat => zI (a_gs (j : Int)))))] : va_W) ++ va_pl L (pE P)).set kp_5 (pr_2, rowE (P.ro pr_2) (P.rt pr_2) (P.ra pr_2) (P.rb pr_2) (P.rA pr_2) (P.rB pr_2) (0)) = ([(h0, .inr (14, [.ref q_t, .int (zI (z16_n)), .int (zI (z16_at)), .int (zI (z16_kind)), .int (zI (z16_place)), .int (zI (z16_value)), .int (zI (z16_before)), .ref tx9, v16_8, v16_9, v16_10, .ref q_gp, .ref q_gs, .int (zI (z16_goalN))])), (q_t, .inl (cT, 8192, .inl (fun j : Nat => zI (a_t (j : Int))))), (q_gp, .inl (cI, mg, .inl (fun j : Nat => zI (a_gp (j : Int))))), (q_gs, .inl (cI, ng, .inl (fun j : Nat => zI (a_gs (j : Int)))))] : va_W) ++ va_pl L (pE Pw_6) := (by rw [va_pl_set hD0 hbe_3.1 gkp_5, ePw_6]; exact congrArg (fun f9 => ([(h0, .inr (14, [.ref q_t, .int (zI (z16_n)), .int (zI (z16_at)), .int (zI (z16_kind)), .int (zI (z16_place)), .int (zI (z16_value)), .int (zI (z16_before)), .ref tx9, v16_8, v16_9, v16_10, .ref q_gp, .ref q_gs, .int (zI (z16_goalN))])), (q_t, .inl (cT, 8192, .inl (fun j : Nat => zI (a_t (j : Int))))), (q_gp, .inl (cI, mg, .inl (fun j : Nat => zI (a_gp (j : Int))))), (q_gs, .inl (cI, ng, .inl (fun j : Nat => zI (a_gs (j : Int)))))] : va_W) ++ va_pl L f9) (put17_6 hbe_3.2.1))
  have hP : va_P (dC, dI) vwQ ([(h0, .inr (14, [.ref q_t, .int (zI (z16_n)), .int (zI (z16_at)), .int (zI (z16_kind)), .int (zI (z16_place)), .int (zI (z16_value)), .int (zI (z16_before)), .ref tx9, v16_8, v16_9, v16_10, .ref q_gp, .ref q_gs, .int (zI (z16_goalN))])), (q_t, .inl (cT, 8192, .inl (fun j : Nat => zI (a_t (j : Int))))), (q_gp, .inl (cI, mg, .inl (fun j : Nat => zI (a_gp (j : Int))))), (q_gs, .inl (cI, ng, .inl (fun j : Nat => zI (a_gs (j : Int)))))] ++ va_pl L (pE Pw_6)) H := (by rw [← eU]; exact hP)
  have hD : va_D A ([(h0, .inr (14, [.ref q_t, .int (zI (z16_n)), .int (zI (z16_at)), .int (zI (z16_kind)), .int (zI (z16_place)), .int (zI (z16_value)), .int (zI (z16_before)), .ref tx9, v16_8, v16_9, v16_10, .ref q_gp, .ref q_gs, .int (zI (z16_goalN))])), (q_t, .inl (cT, 8192, .inl (fun j : Nat => zI (a_t (j : Int))))), (q_gp, .inl (cI, mg, .inl (fun j : Nat => zI (a_gp (j : Int))))), (q_gs, .inl (cI, ng, .inl (fun j : Nat => zI (a_gs (j : Int)))))] ++ va_pl L (pE Pw_6)) := (by rw [← eU]; exact hD)
  clear eU hD0 gkp_5 hkp_5
  have wPw_6 : RW1 pr_2 P Pw_6 := (by rw [ePw_6]; exact RW1.put _ _ _ _)
  have hy_7 : Pw_6.kd la = 30 := (by rw [ePw_6]; exact hC_la.2.1)
  have hy_8 : Pw_6.kd xb = 12 := (by rw [ePw_6]; exact hX_bk)
  have : Pw_6.bf xb = P.bf xb := wPw_6.2 _ (kd_ne hX_bk hbe_3.2.1 (by decide)) _
  have : Pw_6.bs xb = P.bs xb := wPw_6.2 _ (kd_ne hX_bk hbe_3.2.1 (by decide)) _
  have hy_9 : Pw_6.kd pr_2 = 17 := (by rw [ePw_6]; exact hbe_3.2.1)
  have : Pw_6.ro pr_2 = P.ro pr_2 := (by rw [ePw_6]; exact rw9_of _ (by decide))
  have : Pw_6.rt pr_2 = P.rt pr_2 := (by rw [ePw_6]; exact rw9_of _ (by decide))
  have : Pw_6.ra pr_2 = P.ra pr_2 := (by rw [ePw_6]; exact rw9_of _ (by decide))
  have : Pw_6.rb pr_2 = P.rb pr_2 := (by rw [ePw_6]; exact rw9_of _ (by decide))
  have : Pw_6.rA pr_2 = P.rA pr_2 := (by rw [ePw_6]; exact rw9_of _ (by decide))
  have : Pw_6.rB pr_2 = P.rB pr_2 := (by rw [ePw_6]; exact rw9_of _ (by decide))
  have : Pw_6.rg pr_2 = 0 := (by rw [ePw_6]; exact rw9_at _ _ _ _)
  have ha_10 : Pw_6.be xb = pr_2 := (by rw [ePw_6]; exact epr_2.symm)
  refine lv_aload_n hx hb dX16_end_10 rfl (lv_at hl 0 rfl) ?_
  refine lv_iconst (v := 0) hx hb dX16_end_11 (by decide) ?_
  refine lv_topi (fun z ez => ?_)
  obtain rfl : z = zI (0) := ez
  obtain ⟨kp_11, gkp_11⟩ := va_pl_get (X := [(h0, .inr (14, [.ref q_t, .int (zI (z16_n)), .int (zI (z16_at)), .int (zI (z16_kind)), .int (zI (z16_place)), .int (zI (z16_value)), .int (zI (z16_before)), .ref tx9, v16_8, v16_9, v16_10, .ref q_gp, .ref q_gs, .int (zI (z16_goalN))])), (q_t, .inl (cT, 8192, .inl (fun j : Nat => zI (a_t (j : Int))))), (q_gp, .inl (cI, mg, .inl (fun j : Nat => zI (a_gp (j : Int))))), (q_gs, .inl (cI, ng, .inl (fun j : Nat => zI (a_gs (j : Int)))))]) (f := pE Pw_6) hbe_3.1
  have hkp_11 := gkp_11
  rw [pE_row hy_9] at hkp_11
  have hD0 := hD
  refine va_put (D := (dC, dI)) (ci := 21) (v := .int (zI (0))) (ty := .boolean) (C := RX17) (T := TX17) (N := 7) hx hb hts mem_X16_endM_1 tyX17 tyX17_ok nmX17 hown hK hP hD hS kp_11 hkp_11 rfl 4 (by decide) (ow (k := 2) rfl) (fun _ h9 => h9) rfl (by decide +kernel) (zI_bool (by omega) (by omega)) (zI_fitb (by omega) (by omega)) (by first | exact Nat.le_of_ble_eq_true rfl | exact (show 0 ≤ (14 * (z16_n - z16_at) + 4 * z16_goalN + 120).toNat from (by omega)) | exact (show 0 ≤ (120 * (z16_n - z16_at) + 16 * z16_goalN + 700).toNat from (by omega))) dX16_end_12 (fun H locs hP hD hS => ?_)
  obtain ⟨Pw_12, ePw_12⟩ : ∃ q9 : PO, q9 = Pw_6.rw9 4 pr_2 (0) := ⟨_, rfl⟩
  have eU : (([(h0, .inr (14, [.ref q_t, .int (zI (z16_n)), .int (zI (z16_at)), .int (zI (z16_kind)), .int (zI (z16_place)), .int (zI (z16_value)), .int (zI (z16_before)), .ref tx9, v16_8, v16_9, v16_10, .ref q_gp, .ref q_gs, .int (zI (z16_goalN))])), (q_t, .inl (cT, 8192, .inl (fun j : Nat => zI (a_t (j : Int))))), (q_gp, .inl (cI, mg, .inl (fun j : Nat => zI (a_gp (j : Int))))), (q_gs, .inl (cI, ng, .inl (fun j : Nat => zI (a_gs (j : Int)))))] : va_W) ++ va_pl L (pE Pw_6)).set kp_11 (pr_2, rowE (Pw_6.ro pr_2) (Pw_6.rt pr_2) (Pw_6.ra pr_2) (Pw_6.rb pr_2) (0) (Pw_6.rB pr_2) (Pw_6.rg pr_2)) = ([(h0, .inr (14, [.ref q_t, .int (zI (z16_n)), .int (zI (z16_at)), .int (zI (z16_kind)), .int (zI (z16_place)), .int (zI (z16_value)), .int (zI (z16_before)), .ref tx9, v16_8, v16_9, v16_10, .ref q_gp, .ref q_gs, .int (zI (z16_goalN))])), (q_t, .inl (cT, 8192, .inl (fun j : Nat => zI (a_t (j : Int))))), (q_gp, .inl (cI, mg, .inl (fun j : Nat => zI (a_gp (j : Int))))), (q_gs, .inl (cI, ng, .inl (fun j : Nat => zI (a_gs (j : Int)))))] : va_W) ++ va_pl L (pE Pw_12) := (by rw [va_pl_set hD0 hbe_3.1 gkp_11, ePw_12]; exact congrArg (fun f9 => ([(h0, .inr (14, [.ref q_t, .int (zI (z16_n)), .int (zI (z16_at)), .int (zI (z16_kind)), .int (zI (z16_place)), .int (zI (z16_value)), .int (zI (z16_before)), .ref tx9, v16_8, v16_9, v16_10, .ref q_gp, .ref q_gs, .int (zI (z16_goalN))])), (q_t, .inl (cT, 8192, .inl (fun j : Nat => zI (a_t (j : Int))))), (q_gp, .inl (cI, mg, .inl (fun j : Nat => zI (a_gp (j : Int))))), (q_gs, .inl (cI, ng, .inl (fun j : Nat => zI (a_gs (j : Int)))))] : va_W) ++ va_pl L f9) (put17_4 hy_9))
  have hP : va_P (dC, dI) vwQ ([(h0, .inr (14, [.ref q_t, .int (zI (z16_n)), .int (zI (z16_at)), .int (zI (z16_kind)), .int (zI (z16_place)), .int (zI (z16_value)), .int (zI (z16_before)), .ref tx9, v16_8, v16_9, v16_10, .ref q_gp, .ref q_gs, .int (zI (z16_goalN))])), (q_t, .inl (cT, 8192, .inl (fun j : Nat => zI (a_t (j : Int))))), (q_gp, .inl (cI, mg, .inl (fun j : Nat => zI (a_gp (j : Int))))), (q_gs, .inl (cI, ng, .inl (fun j : Nat => zI (a_gs (j : Int)))))] ++ va_pl L (pE Pw_12)) H := (by rw [← eU]; exact hP)
  have hD : va_D A ([(h0, .inr (14, [.ref q_t, .int (zI (z16_n)), .int (zI (z16_at)), .int (zI (z16_kind)), .int (zI (z16_place)), .int (zI (z16_value)), .int (zI (z16_before)), .ref tx9, v16_8, v16_9, v16_10, .ref q_gp, .ref q_gs, .int (zI (z16_goalN))])), (q_t, .inl (cT, 8192, .inl (fun j : Nat => zI (a_t (j : Int))))), (q_gp, .inl (cI, mg, .inl (fun j : Nat => zI (a_gp (j : Int))))), (q_gs, .inl (cI, ng, .inl (fun j : Nat => zI (a_gs (j : Int)))))] ++ va_pl L (pE Pw_12)) := (by rw [← eU]; exact hD)
  clear eU hD0 gkp_11 hkp_11
  have wPw_12 : RW1 pr_2 Pw_6 Pw_12 := (by rw [ePw_12]; exact RW1.put _ _ _ _)
  have hy_13 : Pw_12.kd la = 30 := (by rw [ePw_12]; exact hy_7)
  have hy_14 : Pw_12.kd xb = 12 := (by rw [ePw_12]; exact hy_8)
  have : Pw_12.bf xb = Pw_6.bf xb := wPw_12.2 _ (kd_ne hy_8 hy_9 (by decide)) _
  have : Pw_12.bs xb = Pw_6.bs xb := wPw_12.2 _ (kd_ne hy_8 hy_9 (by decide)) _
  have hy_15 : Pw_12.kd pr_2 = 17 := (by rw [ePw_12]; exact hy_9)
  have : Pw_12.ro pr_2 = Pw_6.ro pr_2 := (by rw [ePw_12]; exact rw9_of _ (by decide))
  have : Pw_12.rt pr_2 = Pw_6.rt pr_2 := (by rw [ePw_12]; exact rw9_of _ (by decide))
  have : Pw_12.ra pr_2 = Pw_6.ra pr_2 := (by rw [ePw_12]; exact rw9_of _ (by decide))
  have : Pw_12.rb pr_2 = Pw_6.rb pr_2 := (by rw [ePw_12]; exact rw9_of _ (by decide))
  have : Pw_12.rA pr_2 = 0 := (by rw [ePw_12]; exact rw9_at _ _ _ _)
  have : Pw_12.rB pr_2 = Pw_6.rB pr_2 := (by rw [ePw_12]; exact rw9_of _ (by decide))
  have : Pw_12.rg pr_2 = Pw_6.rg pr_2 := (by rw [ePw_12]; exact rw9_of _ (by decide))
  have ha_16 : Pw_12.be xb = pr_2 := (by rw [ePw_12]; exact ha_10)
  refine lv_aload_n hx hb dX16_end_15 rfl (lv_at hl 0 rfl) ?_
  refine lv_iconst (v := 0) hx hb dX16_end_16 (by decide) ?_
  refine lv_topi (fun z ez => ?_)
  obtain rfl : z = zI (0) := ez
  obtain ⟨kp_17, gkp_17⟩ := va_pl_get (X := [(h0, .inr (14, [.ref q_t, .int (zI (z16_n)), .int (zI (z16_at)), .int (zI (z16_kind)), .int (zI (z16_place)), .int (zI (z16_value)), .int (zI (z16_before)), .ref tx9, v16_8, v16_9, v16_10, .ref q_gp, .ref q_gs, .int (zI (z16_goalN))])), (q_t, .inl (cT, 8192, .inl (fun j : Nat => zI (a_t (j : Int))))), (q_gp, .inl (cI, mg, .inl (fun j : Nat => zI (a_gp (j : Int))))), (q_gs, .inl (cI, ng, .inl (fun j : Nat => zI (a_gs (j : Int)))))]) (f := pE Pw_12) hbe_3.1
  have hkp_17 := gkp_17
  rw [pE_row hy_15] at hkp_17
  have hD0 := hD
  refine va_put (D := (dC, dI)) (ci := 21) (v := .int (zI (0))) (ty := .int) (C := RX17) (T := TX17) (N := 7) hx hb hts mem_X16_endM_1 tyX17 tyX17_ok nmX17 hown hK hP hD hS kp_17 hkp_17 rfl 2 (by decide) (ow (k := 3) rfl) (fun _ h9 => h9) rfl (by decide +kernel) rfl rfl (by first | exact Nat.le_of_ble_eq_true rfl | exact (show 0 ≤ (14 * (z16_n - z16_at) + 4 * z16_goalN + 120).toNat from (by omega)) | exact (show 0 ≤ (120 * (z16_n - z16_at) + 16 * z16_goalN + 700).toNat from (by omega))) dX16_end_17 (fun H locs hP hD hS => ?_)
  obtain ⟨Pw_18, ePw_18⟩ : ∃ q9 : PO, q9 = Pw_12.rw9 2 pr_2 (0) := ⟨_, rfl⟩
  have eU : (([(h0, .inr (14, [.ref q_t, .int (zI (z16_n)), .int (zI (z16_at)), .int (zI (z16_kind)), .int (zI (z16_place)), .int (zI (z16_value)), .int (zI (z16_before)), .ref tx9, v16_8, v16_9, v16_10, .ref q_gp, .ref q_gs, .int (zI (z16_goalN))])), (q_t, .inl (cT, 8192, .inl (fun j : Nat => zI (a_t (j : Int))))), (q_gp, .inl (cI, mg, .inl (fun j : Nat => zI (a_gp (j : Int))))), (q_gs, .inl (cI, ng, .inl (fun j : Nat => zI (a_gs (j : Int)))))] : va_W) ++ va_pl L (pE Pw_12)).set kp_17 (pr_2, rowE (Pw_12.ro pr_2) (Pw_12.rt pr_2) (0) (Pw_12.rb pr_2) (Pw_12.rA pr_2) (Pw_12.rB pr_2) (Pw_12.rg pr_2)) = ([(h0, .inr (14, [.ref q_t, .int (zI (z16_n)), .int (zI (z16_at)), .int (zI (z16_kind)), .int (zI (z16_place)), .int (zI (z16_value)), .int (zI (z16_before)), .ref tx9, v16_8, v16_9, v16_10, .ref q_gp, .ref q_gs, .int (zI (z16_goalN))])), (q_t, .inl (cT, 8192, .inl (fun j : Nat => zI (a_t (j : Int))))), (q_gp, .inl (cI, mg, .inl (fun j : Nat => zI (a_gp (j : Int))))), (q_gs, .inl (cI, ng, .inl (fun j : Nat => zI (a_gs (j : Int)))))] : va_W) ++ va_pl L (pE Pw_18) := (by rw [va_pl_set hD0 hbe_3.1 gkp_17, ePw_18]; exact congrArg (fun f9 => ([(h0, .inr (14, [.ref q_t, .int (zI (z16_n)), .int (zI (z16_at)), .int (zI (z16_kind)), .int (zI (z16_place)), .int (zI (z16_value)), .int (zI (z16_before)), .ref tx9, v16_8, v16_9, v16_10, .ref q_gp, .ref q_gs, .int (zI (z16_goalN))])), (q_t, .inl (cT, 8192, .inl (fun j : Nat => zI (a_t (j : Int))))), (q_gp, .inl (cI, mg, .inl (fun j : Nat => zI (a_gp (j : Int))))), (q_gs, .inl (cI, ng, .inl (fun j : Nat => zI (a_gs (j : Int)))))] : va_W) ++ va_pl L f9) (put17_2 hy_15))
  have hP : va_P (dC, dI) vwQ ([(h0, .inr (14, [.ref q_t, .int (zI (z16_n)), .int (zI (z16_at)), .int (zI (z16_kind)), .int (zI (z16_place)), .int (zI (z16_value)), .int (zI (z16_before)), .ref tx9, v16_8, v16_9, v16_10, .ref q_gp, .ref q_gs, .int (zI (z16_goalN))])), (q_t, .inl (cT, 8192, .inl (fun j : Nat => zI (a_t (j : Int))))), (q_gp, .inl (cI, mg, .inl (fun j : Nat => zI (a_gp (j : Int))))), (q_gs, .inl (cI, ng, .inl (fun j : Nat => zI (a_gs (j : Int)))))] ++ va_pl L (pE Pw_18)) H := (by rw [← eU]; exact hP)
  have hD : va_D A ([(h0, .inr (14, [.ref q_t, .int (zI (z16_n)), .int (zI (z16_at)), .int (zI (z16_kind)), .int (zI (z16_place)), .int (zI (z16_value)), .int (zI (z16_before)), .ref tx9, v16_8, v16_9, v16_10, .ref q_gp, .ref q_gs, .int (zI (z16_goalN))])), (q_t, .inl (cT, 8192, .inl (fun j : Nat => zI (a_t (j : Int))))), (q_gp, .inl (cI, mg, .inl (fun j : Nat => zI (a_gp (j : Int))))), (q_gs, .inl (cI, ng, .inl (fun j : Nat => zI (a_gs (j : Int)))))] ++ va_pl L (pE Pw_18)) := (by rw [← eU]; exact hD)
  clear eU hD0 gkp_17 hkp_17
  have wPw_18 : RW1 pr_2 Pw_12 Pw_18 := (by rw [ePw_18]; exact RW1.put _ _ _ _)
  have hy_19 : Pw_18.kd la = 30 := (by rw [ePw_18]; exact hy_13)
  have hy_20 : Pw_18.kd xb = 12 := (by rw [ePw_18]; exact hy_14)
  have : Pw_18.bf xb = Pw_12.bf xb := wPw_18.2 _ (kd_ne hy_14 hy_15 (by decide)) _
  have : Pw_18.bs xb = Pw_12.bs xb := wPw_18.2 _ (kd_ne hy_14 hy_15 (by decide)) _
  have hy_21 : Pw_18.kd pr_2 = 17 := (by rw [ePw_18]; exact hy_15)
  have : Pw_18.ro pr_2 = Pw_12.ro pr_2 := (by rw [ePw_18]; exact rw9_of _ (by decide))
  have : Pw_18.rt pr_2 = Pw_12.rt pr_2 := (by rw [ePw_18]; exact rw9_of _ (by decide))
  have : Pw_18.ra pr_2 = 0 := (by rw [ePw_18]; exact rw9_at _ _ _ _)
  have : Pw_18.rb pr_2 = Pw_12.rb pr_2 := (by rw [ePw_18]; exact rw9_of _ (by decide))
  have : Pw_18.rA pr_2 = Pw_12.rA pr_2 := (by rw [ePw_18]; exact rw9_of _ (by decide))
  have : Pw_18.rB pr_2 = Pw_12.rB pr_2 := (by rw [ePw_18]; exact rw9_of _ (by decide))
  have : Pw_18.rg pr_2 = Pw_12.rg pr_2 := (by rw [ePw_18]; exact rw9_of _ (by decide))
  have ha_22 : Pw_18.be xb = pr_2 := (by rw [ePw_18]; exact ha_16)
  have hW_23 : RW1 pr_2 P Pw_18 := wPw_6.trans (wPw_12.trans (wPw_18))
  have hrw_26 : RWD P Pw_18 := hW_23.rwd (Or.inl hbe_3.2.1)
  have hak_25 : GLF L Pw_18 cO cI cZ sx_ed := hX_g9.row hW_23 hbe_3.2.1 (ROK9.of (by omega) (by omega) (by omega) (by omega) (by omega) (by omega) (by omega) (uaZ (by omega)) ((hX_g9.rok hbe_3.1 hbe_3.2.1).ub (by omega) (by omega) (by omega))) (fun e9 => by have q9 := hX_g9.op21 hbe_3.1 hbe_3.2.1 e9; omega)
  have hke_24 : KEG [] L P L Pw_18 := hrw_26.keg _ hC_la.2.1
  have hq_27 : la ∈ L ∧ Pw_18.kd la = 30 := hke_24.mem hC_la.1 hC_la.2.1 (by decide)
  have hq_28 : xb ∈ L ∧ Pw_18.kd xb = 12 := hke_24.mem hX_b hX_bk (by decide)
  have hq_29 : pr_2 ∈ L ∧ Pw_18.kd pr_2 = 17 := hke_24.mem hbe_3.1 hbe_3.2.1 (by decide)
  have ha_30 : Pw_18.be xb = pr_2 := hke_24.be hX_b hX_bk epr_2.symm
  have hA_31 : KEG [] L P L Pw_18 := (KEG.refl [] L P).trans hke_24
  have : Pw_18.lz la = P.lz la := hrw_26.lz hC_la.2.1
  have : Pw_18.cap la = P.cap la := hW_23.cap la
  have hek_32 : Pw_18.ek la = 12 := (by rw [hke_24.ek hC_la.1 hC_la.2.1 (by decide)]; exact hC_la.2.2.1)
  have how_33 : Pw_18.ow la = la := ((hke_24.1 la hC_la.1 (by rw [hC_la.2.1]; decide)).2.2.2.1 hC_la.2.1 hC_la.2.2.2).1
  have hcz := (((hke_24.1 la hC_la.1 (by rw [hC_la.2.1]; decide)).2.2.2.1 hC_la.2.1 hC_la.2.2.2).2 (by simp)).1
  have hE_34 : Pw_18.ek pr_2 = 1 := (by rw [hke_24.ek hbe_3.1 hbe_3.2.1 (by decide)]; exact hE_4)
  have hX_tx := hX_tx.rw1 hW_23 (Or.inl hbe_3.2.1)
  have hcx_35 : CHG (fun z => z = xb ∨ z = P.be xb) L P L Pw_18 := hcx0.trans (hW_23.chg _) (fun z m q => Or.inr (q.trans epr_2))
  have hsm_36 := (hW_23.chg L xb hq_28.1 (fun e9 => absurd e9 (kd_ne hq_28.2 hq_29.2 (by decide)))).2
  have : Pw_18.bf xb = P.bf xb := hsm_36.1 0
  have : Pw_18.bs xb = P.bs xb := hsm_36.1 1
  refine lv_aload_n hx hb dX16_end_20 rfl (lv_at hl 2 rfl) ?_
  refine lv_iconst (v := 0) hx hb dX16_end_21 (by decide) ?_
  have hfb := (hak_25.gb hq_28.1 hq_28.2).2
  refine lv_topi (fun z ez => ?_)
  obtain rfl : z = zI (0) := ez
  obtain ⟨kp_37, gkp_37⟩ := va_pl_get (X := [(h0, .inr (14, [.ref q_t, .int (zI (z16_n)), .int (zI (z16_at)), .int (zI (z16_kind)), .int (zI (z16_place)), .int (zI (z16_value)), .int (zI (z16_before)), .ref tx9, v16_8, v16_9, v16_10, .ref q_gp, .ref q_gs, .int (zI (z16_goalN))])), (q_t, .inl (cT, 8192, .inl (fun j : Nat => zI (a_t (j : Int))))), (q_gp, .inl (cI, mg, .inl (fun j : Nat => zI (a_gp (j : Int))))), (q_gs, .inl (cI, ng, .inl (fun j : Nat => zI (a_gs (j : Int)))))]) (f := pE Pw_18) hq_28.1
  have hkp_37 := gkp_37
  rw [pE_block hq_28.2] at hkp_37
  have hD0 := hD
  refine va_put (D := (dC, dI)) (ci := 19) (v := .int (zI (0))) (ty := .int) (C := RX12) (T := TX12) (N := 5) hx hb hts mem_X16_endM_0 tyX12 tyX12_ok nmX12 hown hK hP hD hS kp_37 hkp_37 rfl 3 (by decide) (ow (k := 4) rfl) (fun _ h9 => h9) rfl (by decide +kernel) rfl rfl (by first | exact Nat.le_of_ble_eq_true rfl | exact (show 0 ≤ (14 * (z16_n - z16_at) + 4 * z16_goalN + 120).toNat from (by omega)) | exact (show 0 ≤ (120 * (z16_n - z16_at) + 16 * z16_goalN + 700).toNat from (by omega))) dX16_end_22 (fun H locs hP hD hS => ?_)
  obtain ⟨Pw_38, ePw_38⟩ : ∃ q9 : PO, q9 = Pw_18.rw9 0 xb (0) := ⟨_, rfl⟩
  have eU : (([(h0, .inr (14, [.ref q_t, .int (zI (z16_n)), .int (zI (z16_at)), .int (zI (z16_kind)), .int (zI (z16_place)), .int (zI (z16_value)), .int (zI (z16_before)), .ref tx9, v16_8, v16_9, v16_10, .ref q_gp, .ref q_gs, .int (zI (z16_goalN))])), (q_t, .inl (cT, 8192, .inl (fun j : Nat => zI (a_t (j : Int))))), (q_gp, .inl (cI, mg, .inl (fun j : Nat => zI (a_gp (j : Int))))), (q_gs, .inl (cI, ng, .inl (fun j : Nat => zI (a_gs (j : Int)))))] : va_W) ++ va_pl L (pE Pw_18)).set kp_37 (xb, blockE (Pw_18.bp xb) (Pw_18.br xb) (Pw_18.be xb) (0) (Pw_18.bs xb)) = ([(h0, .inr (14, [.ref q_t, .int (zI (z16_n)), .int (zI (z16_at)), .int (zI (z16_kind)), .int (zI (z16_place)), .int (zI (z16_value)), .int (zI (z16_before)), .ref tx9, v16_8, v16_9, v16_10, .ref q_gp, .ref q_gs, .int (zI (z16_goalN))])), (q_t, .inl (cT, 8192, .inl (fun j : Nat => zI (a_t (j : Int))))), (q_gp, .inl (cI, mg, .inl (fun j : Nat => zI (a_gp (j : Int))))), (q_gs, .inl (cI, ng, .inl (fun j : Nat => zI (a_gs (j : Int)))))] : va_W) ++ va_pl L (pE Pw_38) := (by rw [va_pl_set hD0 hq_28.1 gkp_37, ePw_38]; exact congrArg (fun f9 => ([(h0, .inr (14, [.ref q_t, .int (zI (z16_n)), .int (zI (z16_at)), .int (zI (z16_kind)), .int (zI (z16_place)), .int (zI (z16_value)), .int (zI (z16_before)), .ref tx9, v16_8, v16_9, v16_10, .ref q_gp, .ref q_gs, .int (zI (z16_goalN))])), (q_t, .inl (cT, 8192, .inl (fun j : Nat => zI (a_t (j : Int))))), (q_gp, .inl (cI, mg, .inl (fun j : Nat => zI (a_gp (j : Int))))), (q_gs, .inl (cI, ng, .inl (fun j : Nat => zI (a_gs (j : Int)))))] : va_W) ++ va_pl L f9) (put12_0 hq_28.2))
  have hP : va_P (dC, dI) vwQ ([(h0, .inr (14, [.ref q_t, .int (zI (z16_n)), .int (zI (z16_at)), .int (zI (z16_kind)), .int (zI (z16_place)), .int (zI (z16_value)), .int (zI (z16_before)), .ref tx9, v16_8, v16_9, v16_10, .ref q_gp, .ref q_gs, .int (zI (z16_goalN))])), (q_t, .inl (cT, 8192, .inl (fun j : Nat => zI (a_t (j : Int))))), (q_gp, .inl (cI, mg, .inl (fun j : Nat => zI (a_gp (j : Int))))), (q_gs, .inl (cI, ng, .inl (fun j : Nat => zI (a_gs (j : Int)))))] ++ va_pl L (pE Pw_38)) H := (by rw [← eU]; exact hP)
  have hD : va_D A ([(h0, .inr (14, [.ref q_t, .int (zI (z16_n)), .int (zI (z16_at)), .int (zI (z16_kind)), .int (zI (z16_place)), .int (zI (z16_value)), .int (zI (z16_before)), .ref tx9, v16_8, v16_9, v16_10, .ref q_gp, .ref q_gs, .int (zI (z16_goalN))])), (q_t, .inl (cT, 8192, .inl (fun j : Nat => zI (a_t (j : Int))))), (q_gp, .inl (cI, mg, .inl (fun j : Nat => zI (a_gp (j : Int))))), (q_gs, .inl (cI, ng, .inl (fun j : Nat => zI (a_gs (j : Int)))))] ++ va_pl L (pE Pw_38)) := (by rw [← eU]; exact hD)
  clear eU hD0 gkp_37 hkp_37
  have wPw_38 : RW1 xb Pw_18 Pw_38 := (by rw [ePw_38]; exact RW1.put _ _ _ _)
  have hy_39 : Pw_38.kd la = 30 := (by rw [ePw_38]; exact hq_27.2)
  have hy_40 : Pw_38.kd xb = 12 := (by rw [ePw_38]; exact hq_28.2)
  have : Pw_38.bf xb = 0 := (by rw [ePw_38]; exact rw9_at _ _ _ _)
  have : Pw_38.bs xb = Pw_18.bs xb := (by rw [ePw_38]; exact rw9_of _ (by decide))
  have hy_41 : Pw_38.kd pr_2 = 17 := (by rw [ePw_38]; exact hq_29.2)
  have : Pw_38.ro pr_2 = Pw_18.ro pr_2 := wPw_38.2 _ (kd_ne hq_29.2 hq_28.2 (by decide)) _
  have : Pw_38.rt pr_2 = Pw_18.rt pr_2 := wPw_38.2 _ (kd_ne hq_29.2 hq_28.2 (by decide)) _
  have : Pw_38.ra pr_2 = Pw_18.ra pr_2 := wPw_38.2 _ (kd_ne hq_29.2 hq_28.2 (by decide)) _
  have : Pw_38.rb pr_2 = Pw_18.rb pr_2 := wPw_38.2 _ (kd_ne hq_29.2 hq_28.2 (by decide)) _
  have : Pw_38.rA pr_2 = Pw_18.rA pr_2 := wPw_38.2 _ (kd_ne hq_29.2 hq_28.2 (by decide)) _
  have : Pw_38.rB pr_2 = Pw_18.rB pr_2 := wPw_38.2 _ (kd_ne hq_29.2 hq_28.2 (by decide)) _
  have : Pw_38.rg pr_2 = Pw_18.rg pr_2 := wPw_38.2 _ (kd_ne hq_29.2 hq_28.2 (by decide)) _
  have ha_42 : Pw_38.be xb = pr_2 := (by rw [ePw_38]; exact ha_30)
  have hW_43 : RW1 xb Pw_18 Pw_38 := wPw_38
  have hak_45 : GLF L Pw_38 cO cI cZ sx_ed := hak_25.goal hW_43 hq_28.2 (by omega)
  have hke_44 : KEG [] L Pw_18 L Pw_38 := hW_43.keg _ hq_27.2 (by omega)
  have hq_47 : la ∈ L ∧ Pw_38.kd la = 30 := hke_44.mem hq_27.1 hq_27.2 (by decide)
  have hq_48 : xb ∈ L ∧ Pw_38.kd xb = 12 := hke_44.mem hq_28.1 hq_28.2 (by decide)
  have hq_49 : pr_2 ∈ L ∧ Pw_38.kd pr_2 = 17 := hke_44.mem hq_29.1 hq_29.2 (by decide)
  have ha_50 : Pw_38.be xb = pr_2 := hke_44.be hq_28.1 hq_28.2 ha_30
  have hA_51 : KEG [] L P L Pw_38 := hA_31.trans hke_44
  have : Pw_38.cap la = Pw_18.cap la := hW_43.cap la
  have hek_52 : Pw_38.ek la = 12 := (by rw [hke_44.ek hq_27.1 hq_27.2 (by decide)]; exact hek_32)
  have how_53 : Pw_38.ow la = la := ((hke_44.1 la hq_27.1 (by rw [hq_27.2]; decide)).2.2.2.1 hq_27.2 how_33).1
  have hcz := (((hke_44.1 la hq_27.1 (by rw [hq_27.2]; decide)).2.2.2.1 hq_27.2 how_33).2 (by simp)).1
  have hE_54 : Pw_38.ek pr_2 = 1 := (by rw [hke_44.ek hq_29.1 hq_29.2 (by decide)]; exact hE_34)
  have hX_tx := hX_tx.rw1 hW_43 (Or.inr hq_28.2)
  have hcx_55 : CHG (fun z => z = xb ∨ z = P.be xb) L P L Pw_38 := hcx_35.trans (hW_43.chg _) (fun z m q => Or.inl q)
  have hsm_56 := (hW_43.chg L pr_2 hq_49.1 (fun e9 => absurd e9 (kd_ne hq_49.2 hq_48.2 (by decide)))).2
  have : Pw_38.ro pr_2 = Pw_18.ro pr_2 := hsm_56.1 0
  have : Pw_38.rt pr_2 = Pw_18.rt pr_2 := hsm_56.1 1
  have : Pw_38.ra pr_2 = Pw_18.ra pr_2 := hsm_56.1 2
  have : Pw_38.rb pr_2 = Pw_18.rb pr_2 := hsm_56.1 3
  have : Pw_38.rA pr_2 = Pw_18.rA pr_2 := hsm_56.1 4
  have : Pw_38.rB pr_2 = Pw_18.rB pr_2 := hsm_56.1 5
  have : Pw_38.rg pr_2 = Pw_18.rg pr_2 := hsm_56.1 6
  refine lv_aload_n hx hb dX16_end_25 rfl (lv_at hl 2 rfl) ?_
  refine lv_iconst (v := 0) hx hb dX16_end_26 (by decide) ?_
  have hfb := (hak_45.gb hq_48.1 hq_48.2).2
  refine lv_topi (fun z ez => ?_)
  obtain rfl : z = zI (0) := ez
  obtain ⟨kp_57, gkp_57⟩ := va_pl_get (X := [(h0, .inr (14, [.ref q_t, .int (zI (z16_n)), .int (zI (z16_at)), .int (zI (z16_kind)), .int (zI (z16_place)), .int (zI (z16_value)), .int (zI (z16_before)), .ref tx9, v16_8, v16_9, v16_10, .ref q_gp, .ref q_gs, .int (zI (z16_goalN))])), (q_t, .inl (cT, 8192, .inl (fun j : Nat => zI (a_t (j : Int))))), (q_gp, .inl (cI, mg, .inl (fun j : Nat => zI (a_gp (j : Int))))), (q_gs, .inl (cI, ng, .inl (fun j : Nat => zI (a_gs (j : Int)))))]) (f := pE Pw_38) hq_48.1
  have hkp_57 := gkp_57
  rw [pE_block hq_48.2] at hkp_57
  have hD0 := hD
  refine va_put (D := (dC, dI)) (ci := 19) (v := .int (zI (0))) (ty := .int) (C := RX12) (T := TX12) (N := 5) hx hb hts mem_X16_endM_0 tyX12 tyX12_ok nmX12 hown hK hP hD hS kp_57 hkp_57 rfl 4 (by decide) (ow (k := 5) rfl) (fun _ h9 => h9) rfl (by decide +kernel) rfl rfl (by first | exact Nat.le_of_ble_eq_true rfl | exact (show 0 ≤ (14 * (z16_n - z16_at) + 4 * z16_goalN + 120).toNat from (by omega)) | exact (show 0 ≤ (120 * (z16_n - z16_at) + 16 * z16_goalN + 700).toNat from (by omega))) dX16_end_27 (fun H locs hP hD hS => ?_)
  obtain ⟨Pw_58, ePw_58⟩ : ∃ q9 : PO, q9 = Pw_38.rw9 1 xb (0) := ⟨_, rfl⟩
  have eU : (([(h0, .inr (14, [.ref q_t, .int (zI (z16_n)), .int (zI (z16_at)), .int (zI (z16_kind)), .int (zI (z16_place)), .int (zI (z16_value)), .int (zI (z16_before)), .ref tx9, v16_8, v16_9, v16_10, .ref q_gp, .ref q_gs, .int (zI (z16_goalN))])), (q_t, .inl (cT, 8192, .inl (fun j : Nat => zI (a_t (j : Int))))), (q_gp, .inl (cI, mg, .inl (fun j : Nat => zI (a_gp (j : Int))))), (q_gs, .inl (cI, ng, .inl (fun j : Nat => zI (a_gs (j : Int)))))] : va_W) ++ va_pl L (pE Pw_38)).set kp_57 (xb, blockE (Pw_38.bp xb) (Pw_38.br xb) (Pw_38.be xb) (Pw_38.bf xb) (0)) = ([(h0, .inr (14, [.ref q_t, .int (zI (z16_n)), .int (zI (z16_at)), .int (zI (z16_kind)), .int (zI (z16_place)), .int (zI (z16_value)), .int (zI (z16_before)), .ref tx9, v16_8, v16_9, v16_10, .ref q_gp, .ref q_gs, .int (zI (z16_goalN))])), (q_t, .inl (cT, 8192, .inl (fun j : Nat => zI (a_t (j : Int))))), (q_gp, .inl (cI, mg, .inl (fun j : Nat => zI (a_gp (j : Int))))), (q_gs, .inl (cI, ng, .inl (fun j : Nat => zI (a_gs (j : Int)))))] : va_W) ++ va_pl L (pE Pw_58) := (by rw [va_pl_set hD0 hq_48.1 gkp_57, ePw_58]; exact congrArg (fun f9 => ([(h0, .inr (14, [.ref q_t, .int (zI (z16_n)), .int (zI (z16_at)), .int (zI (z16_kind)), .int (zI (z16_place)), .int (zI (z16_value)), .int (zI (z16_before)), .ref tx9, v16_8, v16_9, v16_10, .ref q_gp, .ref q_gs, .int (zI (z16_goalN))])), (q_t, .inl (cT, 8192, .inl (fun j : Nat => zI (a_t (j : Int))))), (q_gp, .inl (cI, mg, .inl (fun j : Nat => zI (a_gp (j : Int))))), (q_gs, .inl (cI, ng, .inl (fun j : Nat => zI (a_gs (j : Int)))))] : va_W) ++ va_pl L f9) (put12_1 hq_48.2))
  have hP : va_P (dC, dI) vwQ ([(h0, .inr (14, [.ref q_t, .int (zI (z16_n)), .int (zI (z16_at)), .int (zI (z16_kind)), .int (zI (z16_place)), .int (zI (z16_value)), .int (zI (z16_before)), .ref tx9, v16_8, v16_9, v16_10, .ref q_gp, .ref q_gs, .int (zI (z16_goalN))])), (q_t, .inl (cT, 8192, .inl (fun j : Nat => zI (a_t (j : Int))))), (q_gp, .inl (cI, mg, .inl (fun j : Nat => zI (a_gp (j : Int))))), (q_gs, .inl (cI, ng, .inl (fun j : Nat => zI (a_gs (j : Int)))))] ++ va_pl L (pE Pw_58)) H := (by rw [← eU]; exact hP)
  have hD : va_D A ([(h0, .inr (14, [.ref q_t, .int (zI (z16_n)), .int (zI (z16_at)), .int (zI (z16_kind)), .int (zI (z16_place)), .int (zI (z16_value)), .int (zI (z16_before)), .ref tx9, v16_8, v16_9, v16_10, .ref q_gp, .ref q_gs, .int (zI (z16_goalN))])), (q_t, .inl (cT, 8192, .inl (fun j : Nat => zI (a_t (j : Int))))), (q_gp, .inl (cI, mg, .inl (fun j : Nat => zI (a_gp (j : Int))))), (q_gs, .inl (cI, ng, .inl (fun j : Nat => zI (a_gs (j : Int)))))] ++ va_pl L (pE Pw_58)) := (by rw [← eU]; exact hD)
  clear eU hD0 gkp_57 hkp_57
  have wPw_58 : RW1 xb Pw_38 Pw_58 := (by rw [ePw_58]; exact RW1.put _ _ _ _)
  have hy_59 : Pw_58.kd la = 30 := (by rw [ePw_58]; exact hq_47.2)
  have hy_60 : Pw_58.kd xb = 12 := (by rw [ePw_58]; exact hq_48.2)
  have : Pw_58.bf xb = Pw_38.bf xb := (by rw [ePw_58]; exact rw9_of _ (by decide))
  have : Pw_58.bs xb = 0 := (by rw [ePw_58]; exact rw9_at _ _ _ _)
  have hy_61 : Pw_58.kd pr_2 = 17 := (by rw [ePw_58]; exact hq_49.2)
  have : Pw_58.ro pr_2 = Pw_38.ro pr_2 := wPw_58.2 _ (kd_ne hq_49.2 hq_48.2 (by decide)) _
  have : Pw_58.rt pr_2 = Pw_38.rt pr_2 := wPw_58.2 _ (kd_ne hq_49.2 hq_48.2 (by decide)) _
  have : Pw_58.ra pr_2 = Pw_38.ra pr_2 := wPw_58.2 _ (kd_ne hq_49.2 hq_48.2 (by decide)) _
  have : Pw_58.rb pr_2 = Pw_38.rb pr_2 := wPw_58.2 _ (kd_ne hq_49.2 hq_48.2 (by decide)) _
  have : Pw_58.rA pr_2 = Pw_38.rA pr_2 := wPw_58.2 _ (kd_ne hq_49.2 hq_48.2 (by decide)) _
  have : Pw_58.rB pr_2 = Pw_38.rB pr_2 := wPw_58.2 _ (kd_ne hq_49.2 hq_48.2 (by decide)) _
  have : Pw_58.rg pr_2 = Pw_38.rg pr_2 := wPw_58.2 _ (kd_ne hq_49.2 hq_48.2 (by decide)) _
  have ha_62 : Pw_58.be xb = pr_2 := (by rw [ePw_58]; exact ha_50)
  have hW_63 : RW1 xb Pw_38 Pw_58 := wPw_58
  have hak_65 : GLF L Pw_58 cO cI cZ sx_ed := hak_45.goal hW_63 hq_48.2 (by omega)
  have hke_64 : KEG [] L Pw_38 L Pw_58 := hW_63.keg _ hq_47.2 (by omega)
  have hq_67 : la ∈ L ∧ Pw_58.kd la = 30 := hke_64.mem hq_47.1 hq_47.2 (by decide)
  have hq_68 : xb ∈ L ∧ Pw_58.kd xb = 12 := hke_64.mem hq_48.1 hq_48.2 (by decide)
  have hq_69 : pr_2 ∈ L ∧ Pw_58.kd pr_2 = 17 := hke_64.mem hq_49.1 hq_49.2 (by decide)
  have ha_70 : Pw_58.be xb = pr_2 := hke_64.be hq_48.1 hq_48.2 ha_50
  have hA_71 : KEG [] L P L Pw_58 := hA_51.trans hke_64
  have : Pw_58.cap la = Pw_38.cap la := hW_63.cap la
  have hek_72 : Pw_58.ek la = 12 := (by rw [hke_64.ek hq_47.1 hq_47.2 (by decide)]; exact hek_52)
  have how_73 : Pw_58.ow la = la := ((hke_64.1 la hq_47.1 (by rw [hq_47.2]; decide)).2.2.2.1 hq_47.2 how_53).1
  have hcz := (((hke_64.1 la hq_47.1 (by rw [hq_47.2]; decide)).2.2.2.1 hq_47.2 how_53).2 (by simp)).1
  have hE_74 : Pw_58.ek pr_2 = 1 := (by rw [hke_64.ek hq_49.1 hq_49.2 (by decide)]; exact hE_54)
  have hX_tx := hX_tx.rw1 hW_63 (Or.inr hq_48.2)
  have hcx_75 : CHG (fun z => z = xb ∨ z = P.be xb) L P L Pw_58 := hcx_55.trans (hW_63.chg _) (fun z m q => Or.inl q)
  have hsm_76 := (hW_63.chg L pr_2 hq_69.1 (fun e9 => absurd e9 (kd_ne hq_69.2 hq_68.2 (by decide)))).2
  have : Pw_58.ro pr_2 = Pw_38.ro pr_2 := hsm_76.1 0
  have : Pw_58.rt pr_2 = Pw_38.rt pr_2 := hsm_76.1 1
  have : Pw_58.ra pr_2 = Pw_38.ra pr_2 := hsm_76.1 2
  have : Pw_58.rb pr_2 = Pw_38.rb pr_2 := hsm_76.1 3
  have : Pw_58.rA pr_2 = Pw_38.rA pr_2 := hsm_76.1 4
  have : Pw_58.rB pr_2 = Pw_38.rB pr_2 := hsm_76.1 5
  have : Pw_58.rg pr_2 = Pw_38.rg pr_2 := hsm_76.1 6
  refine lv_aload_n hx hb dX16_end_30 rfl (lv_at hl 1 rfl) ?_
  refine va_ldcS hx hb hown hp0 dX16_end_31 ?_
  have hPc := hP.part (X := [(h0, .inr (14, [.ref q_t, .int (zI (z16_n)), .int (zI (z16_at)), .int (zI (z16_kind)), .int (zI (z16_place)), .int (zI (z16_value)), .int (zI (z16_before)), .ref tx9, v16_8, v16_9, v16_10, .ref q_gp, .ref q_gs, .int (zI (z16_goalN))])), (q_t, .inl (cT, 8192, .inl (fun j : Nat => zI (a_t (j : Int))))), (q_gp, .inl (cI, mg, .inl (fun j : Nat => zI (a_gp (j : Int))))), (q_gs, .inl (cI, ng, .inl (fun j : Nat => zI (a_gs (j : Int)))))]) (cx := [(h0, .inr (14, [.ref q_t, .int (zI (z16_n)), .int (zI (z16_at)), .int (zI (z16_kind)), .int (zI (z16_place)), .int (zI (z16_value)), .int (zI (z16_before)), .ref tx9, v16_8, v16_9, v16_10, .ref q_gp, .ref q_gs, .int (zI (z16_goalN))])), (q_t, .inl (cT, 8192, .inl (fun j : Nat => zI (a_t (j : Int)))))]) (pl := va_pl L (pE Pw_58)) [0, 1] rfl
  have hDc := hD.part (X := [(h0, .inr (14, [.ref q_t, .int (zI (z16_n)), .int (zI (z16_at)), .int (zI (z16_kind)), .int (zI (z16_place)), .int (zI (z16_value)), .int (zI (z16_before)), .ref tx9, v16_8, v16_9, v16_10, .ref q_gp, .ref q_gs, .int (zI (z16_goalN))])), (q_t, .inl (cT, 8192, .inl (fun j : Nat => zI (a_t (j : Int))))), (q_gp, .inl (cI, mg, .inl (fun j : Nat => zI (a_gp (j : Int))))), (q_gs, .inl (cI, ng, .inl (fun j : Nat => zI (a_gs (j : Int)))))]) (cx := [(h0, .inr (14, [.ref q_t, .int (zI (z16_n)), .int (zI (z16_at)), .int (zI (z16_kind)), .int (zI (z16_place)), .int (zI (z16_value)), .int (zI (z16_before)), .ref tx9, v16_8, v16_9, v16_10, .ref q_gp, .ref q_gs, .int (zI (z16_goalN))])), (q_t, .inl (cT, 8192, .inl (fun j : Nat => zI (a_t (j : Int)))))]) (pl := va_pl L (pE Pw_58)) [0, 1] (by decide) rfl
  have hKc := hK.sub (tys' := [(cT, .byte)]) [0] rfl
  have hFc := va_freeP (X := [(h0, .inr (14, [.ref q_t, .int (zI (z16_n)), .int (zI (z16_at)), .int (zI (z16_kind)), .int (zI (z16_place)), .int (zI (z16_value)), .int (zI (z16_before)), .ref tx9, v16_8, v16_9, v16_10, .ref q_gp, .ref q_gs, .int (zI (z16_goalN))])), (q_t, .inl (cT, 8192, .inl (fun j : Nat => zI (a_t (j : Int))))), (q_gp, .inl (cI, mg, .inl (fun j : Nat => zI (a_gp (j : Int))))), (q_gs, .inl (cI, ng, .inl (fun j : Nat => zI (a_gs (j : Int)))))]) (cx := [(h0, .inr (14, [.ref q_t, .int (zI (z16_n)), .int (zI (z16_at)), .int (zI (z16_kind)), .int (zI (z16_place)), .int (zI (z16_value)), .int (zI (z16_before)), .ref tx9, v16_8, v16_9, v16_10, .ref q_gp, .ref q_gs, .int (zI (z16_goalN))])), (q_t, .inl (cT, 8192, .inl (fun j : Nat => zI (a_t (j : Int)))))]) (pl := va_pl L (pE Pw_58)) hD hS hA [0, 1] rfl
  refine va_calli (va_runV (As := [.ref sa_RX16_248]) (rest := []) ⟨hx, hb, hml, hown, hts⟩ (c_X16_isK l dC dI h0 (.int (zI (z16_n))) (.int (zI (z16_at))) z16_kind (.int (zI (z16_place))) (.int (zI (z16_value))) (.int (zI (z16_before))) v16_8 v16_9 v16_10 (.ref q_gp) (.ref q_gs) (.int (zI (z16_goalN))) q_t cT a_t tx9 L Pw_58 sa_RX16_9 sa_RX16_248 sv_RX16_248 4 ((fun j : Nat => ([106, 117, 109, 112] : List Int32).getD j 0)) (by omega) hR_a_t hX_tx (by omega) H.size sv_RX16_9) (cwV 1 hts g_X16_endM_X16_isK rfl rfl rfl (by decide +kernel) ⟨(Nat.le_of_ble_eq_true rfl), (Nat.le_of_ble_eq_true rfl)⟩) ⟨fun a U g mk q => by obtain ⟨q0, q1, qP, qK, qD, e0, e1, e2⟩ := q; exact ⟨q0, q1, qP, va_K.moved (u := U) (U := U.calling g mk a) (Vm.Alike.refl U.vm) qK, qD, vs_S.moved (u := U) (U := U.calling g mk a) (Vm.Alike.refl U.vm) e0, vs_S.moved (u := U) (U := U.calling g mk a) (Vm.Alike.refl U.vm) e1, va_Z.moved (u := U) (U := U.calling g mk a) (Vm.Alike.refl U.vm) e2⟩, va_recv hKc hPc (ci := 14) (q0 := 0) rfl rfl, fun U hU hW => ⟨rfl, by rw [hU], by rw [hU]; exact hPc, va_K.moved hW.alike hKc, hDc.weaken (fun _ _ _ _ => trivial), by rw [hU]; exact vs_S.narrow (vs_S.moved hW.alike (vs_S.kept hp2 hS.2.1)) hFc, by rw [hU]; exact vs_S.narrow (vs_S.moved hW.alike (vs_S.kept hp1 hS.2.1)) hFc, by rw [hU]; exact va_Z.narrow (va_Z.moved hW.alike (va_Z.kept hp3 hS.2.1)) hFc⟩⟩ rfl rfl hl.1 rfl (lv_room (Nat.le_of_ble_eq_true rfl)) dX16_end_33 ⟨(Nat.zero_le _), (Nat.zero_le _)⟩) hS (fun q _ h => hFc q h) hFc (fun r_77 u t H1 locs ht hvm hw hB hz1 hk1 hS => ?_)
  obtain ⟨hP1, hK1, hD1⟩ := hB
  rw [ht] at hP1
  have hK1 := va_K.moved hvm.symm hK1
  obtain ⟨hP, hD⟩ := va_joinP (X := [(h0, .inr (14, [.ref q_t, .int (zI (z16_n)), .int (zI (z16_at)), .int (zI (z16_kind)), .int (zI (z16_place)), .int (zI (z16_value)), .int (zI (z16_before)), .ref tx9, v16_8, v16_9, v16_10, .ref q_gp, .ref q_gs, .int (zI (z16_goalN))])), (q_t, .inl (cT, 8192, .inl (fun j : Nat => zI (a_t (j : Int))))), (q_gp, .inl (cI, mg, .inl (fun j : Nat => zI (a_gp (j : Int))))), (q_gs, .inl (cI, ng, .inl (fun j : Nat => zI (a_gs (j : Int)))))]) (cx := [(h0, .inr (14, [.ref q_t, .int (zI (z16_n)), .int (zI (z16_at)), .int (zI (z16_kind)), .int (zI (z16_place)), .int (zI (z16_value)), .int (zI (z16_before)), .ref tx9, v16_8, v16_9, v16_10, .ref q_gp, .ref q_gs, .int (zI (z16_goalN))])), (q_t, .inl (cT, 8192, .inl (fun j : Nat => zI (a_t (j : Int)))))]) (wr := [(q_gp, .inl (cI, mg, .inl (fun j : Nat => zI (a_gp (j : Int))))), (q_gs, .inl (cI, ng, .inl (fun j : Nat => zI (a_gs (j : Int)))))]) (rx := [(h0, .inr (14, [.ref q_t, .int (zI (z16_n)), .int (zI (z16_at)), .int (zI (z16_kind)), .int (zI (z16_place)), .int (zI (z16_value)), .int (zI (z16_before)), .ref tx9, v16_8, v16_9, v16_10, .ref q_gp, .ref q_gs, .int (zI (z16_goalN))])), (q_t, .inl (cT, 8192, .inl (fun j : Nat => zI (a_t (j : Int)))))]) (pl := va_pl L (pE Pw_58)) (pl1 := va_pl L (pE Pw_58)) hP hD [0, 1] [2, 3] rfl rfl (by decide) (by decide) hk1 hFc hP1 hD1
  have hK := (hK.sub (tys' := [(cI, .int), (cO, .object "java/lang/Object"), (cZ, .boolean)]) [1, 2, 3] rfl).app hK1
  generalize H1 = H at hP hS ⊢
  have hP : va_P (dC, dI) vwQ ([(q_gp, .inl (cI, mg, .inl (fun j : Nat => zI (a_gp (j : Int))))), (q_gs, .inl (cI, ng, .inl (fun j : Nat => zI (a_gs (j : Int))))), (h0, .inr (14, [.ref q_t, .int (zI (z16_n)), .int (zI (z16_at)), .int (zI (z16_kind)), .int (zI (z16_place)), .int (zI (z16_value)), .int (zI (z16_before)), .ref tx9, v16_8, v16_9, v16_10, .ref q_gp, .ref q_gs, .int (zI (z16_goalN))])), (q_t, .inl (cT, 8192, .inl (fun j : Nat => zI (a_t (j : Int)))))] ++ va_pl L (pE Pw_58)) H := hP
  have hD : va_D A ([(q_gp, .inl (cI, mg, .inl (fun j : Nat => zI (a_gp (j : Int))))), (q_gs, .inl (cI, ng, .inl (fun j : Nat => zI (a_gs (j : Int))))), (h0, .inr (14, [.ref q_t, .int (zI (z16_n)), .int (zI (z16_at)), .int (zI (z16_kind)), .int (zI (z16_place)), .int (zI (z16_value)), .int (zI (z16_before)), .ref tx9, v16_8, v16_9, v16_10, .ref q_gp, .ref q_gs, .int (zI (z16_goalN))])), (q_t, .inl (cT, 8192, .inl (fun j : Nat => zI (a_t (j : Int)))))] ++ va_pl L (pE Pw_58)) := hD
  have hK : va_K (dC, dI) vwQ [(cI, .int), (cO, .object "java/lang/Object"), (cZ, .boolean), (cT, .byte)] s := hK
  refine W.widen (k := 0) (n := 0) (Nat.le_of_ble_eq_true rfl) (Nat.le_of_ble_eq_true rfl) ?_
  have hw_78 := hw
  obtain ⟨z_79, rfl, hzz_79⟩ := hw_78
  refine lv_if_eq (tgt := 68) hx hb dX16_end_36 (by decide) (fun b36 => ?_) (fun b36 => ?_)
  · have yb36 : (z_79 : Int) = (0 : Int) := (zI_eq (a := z_79) (b := 0) (by omega) (by omega) (by omega) (by omega)).mp b36
    refine lv_aload_n hx hb dX16_end_68 rfl (lv_at hl 1 rfl) ?_
    refine va_ldcS hx hb hown hp4 dX16_end_69 ?_
    have hPc := hP.part (X := [(q_gp, .inl (cI, mg, .inl (fun j : Nat => zI (a_gp (j : Int))))), (q_gs, .inl (cI, ng, .inl (fun j : Nat => zI (a_gs (j : Int))))), (h0, .inr (14, [.ref q_t, .int (zI (z16_n)), .int (zI (z16_at)), .int (zI (z16_kind)), .int (zI (z16_place)), .int (zI (z16_value)), .int (zI (z16_before)), .ref tx9, v16_8, v16_9, v16_10, .ref q_gp, .ref q_gs, .int (zI (z16_goalN))])), (q_t, .inl (cT, 8192, .inl (fun j : Nat => zI (a_t (j : Int)))))]) (cx := [(h0, .inr (14, [.ref q_t, .int (zI (z16_n)), .int (zI (z16_at)), .int (zI (z16_kind)), .int (zI (z16_place)), .int (zI (z16_value)), .int (zI (z16_before)), .ref tx9, v16_8, v16_9, v16_10, .ref q_gp, .ref q_gs, .int (zI (z16_goalN))])), (q_t, .inl (cT, 8192, .inl (fun j : Nat => zI (a_t (j : Int)))))]) (pl := va_pl L (pE Pw_58)) [2, 3] rfl
    have hDc := hD.part (X := [(q_gp, .inl (cI, mg, .inl (fun j : Nat => zI (a_gp (j : Int))))), (q_gs, .inl (cI, ng, .inl (fun j : Nat => zI (a_gs (j : Int))))), (h0, .inr (14, [.ref q_t, .int (zI (z16_n)), .int (zI (z16_at)), .int (zI (z16_kind)), .int (zI (z16_place)), .int (zI (z16_value)), .int (zI (z16_before)), .ref tx9, v16_8, v16_9, v16_10, .ref q_gp, .ref q_gs, .int (zI (z16_goalN))])), (q_t, .inl (cT, 8192, .inl (fun j : Nat => zI (a_t (j : Int)))))]) (cx := [(h0, .inr (14, [.ref q_t, .int (zI (z16_n)), .int (zI (z16_at)), .int (zI (z16_kind)), .int (zI (z16_place)), .int (zI (z16_value)), .int (zI (z16_before)), .ref tx9, v16_8, v16_9, v16_10, .ref q_gp, .ref q_gs, .int (zI (z16_goalN))])), (q_t, .inl (cT, 8192, .inl (fun j : Nat => zI (a_t (j : Int)))))]) (pl := va_pl L (pE Pw_58)) [2, 3] (by decide) rfl
    have hKc := hK.sub (tys' := [(cT, .byte)]) [3] rfl
    have hFc := va_freeP (X := [(q_gp, .inl (cI, mg, .inl (fun j : Nat => zI (a_gp (j : Int))))), (q_gs, .inl (cI, ng, .inl (fun j : Nat => zI (a_gs (j : Int))))), (h0, .inr (14, [.ref q_t, .int (zI (z16_n)), .int (zI (z16_at)), .int (zI (z16_kind)), .int (zI (z16_place)), .int (zI (z16_value)), .int (zI (z16_before)), .ref tx9, v16_8, v16_9, v16_10, .ref q_gp, .ref q_gs, .int (zI (z16_goalN))])), (q_t, .inl (cT, 8192, .inl (fun j : Nat => zI (a_t (j : Int)))))]) (cx := [(h0, .inr (14, [.ref q_t, .int (zI (z16_n)), .int (zI (z16_at)), .int (zI (z16_kind)), .int (zI (z16_place)), .int (zI (z16_value)), .int (zI (z16_before)), .ref tx9, v16_8, v16_9, v16_10, .ref q_gp, .ref q_gs, .int (zI (z16_goalN))])), (q_t, .inl (cT, 8192, .inl (fun j : Nat => zI (a_t (j : Int)))))]) (pl := va_pl L (pE Pw_58)) hD hS hA [2, 3] rfl
    refine va_calli (va_runV (As := [.ref sa_RX16_253]) (rest := []) ⟨hx, hb, hml, hown, hts⟩ (c_X16_isK l dC dI h0 (.int (zI (z16_n))) (.int (zI (z16_at))) z16_kind (.int (zI (z16_place))) (.int (zI (z16_value))) (.int (zI (z16_before))) v16_8 v16_9 v16_10 (.ref q_gp) (.ref q_gs) (.int (zI (z16_goalN))) q_t cT a_t tx9 L Pw_58 sa_RX16_9 sa_RX16_253 sv_RX16_253 2 ((fun j : Nat => ([105, 102] : List Int32).getD j 0)) (by omega) hR_a_t hX_tx (by omega) H.size sv_RX16_9) (cwV 1 hts g_X16_endM_X16_isK rfl rfl rfl (by decide +kernel) ⟨(Nat.le_of_ble_eq_true rfl), (Nat.le_of_ble_eq_true rfl)⟩) ⟨fun a U g mk q => by obtain ⟨q0, q1, qP, qK, qD, e0, e1, e2⟩ := q; exact ⟨q0, q1, qP, va_K.moved (u := U) (U := U.calling g mk a) (Vm.Alike.refl U.vm) qK, qD, vs_S.moved (u := U) (U := U.calling g mk a) (Vm.Alike.refl U.vm) e0, vs_S.moved (u := U) (U := U.calling g mk a) (Vm.Alike.refl U.vm) e1, va_Z.moved (u := U) (U := U.calling g mk a) (Vm.Alike.refl U.vm) e2⟩, va_recv hKc hPc (ci := 14) (q0 := 0) rfl rfl, fun U hU hW => ⟨rfl, by rw [hU], by rw [hU]; exact hPc, va_K.moved hW.alike hKc, hDc.weaken (fun _ _ _ _ => trivial), by rw [hU]; exact vs_S.narrow (vs_S.moved hW.alike (vs_S.kept hp2 hS.2.1)) hFc, by rw [hU]; exact vs_S.narrow (vs_S.moved hW.alike (vs_S.kept hp5 hS.2.1)) hFc, by rw [hU]; exact va_Z.narrow (va_Z.moved hW.alike (va_Z.kept hp3 hS.2.1)) hFc⟩⟩ rfl rfl hl.1 rfl (lv_room (Nat.le_of_ble_eq_true rfl)) dX16_end_71 ⟨(Nat.zero_le _), (Nat.zero_le _)⟩) hS (fun q _ h => hFc q h) hFc (fun r_80 u t H1 locs ht hvm hw hB hz1 hk1 hS => ?_)
    obtain ⟨hP1, hK1, hD1⟩ := hB
    rw [ht] at hP1
    have hK1 := va_K.moved hvm.symm hK1
    obtain ⟨hP, hD⟩ := va_joinP (X := [(q_gp, .inl (cI, mg, .inl (fun j : Nat => zI (a_gp (j : Int))))), (q_gs, .inl (cI, ng, .inl (fun j : Nat => zI (a_gs (j : Int))))), (h0, .inr (14, [.ref q_t, .int (zI (z16_n)), .int (zI (z16_at)), .int (zI (z16_kind)), .int (zI (z16_place)), .int (zI (z16_value)), .int (zI (z16_before)), .ref tx9, v16_8, v16_9, v16_10, .ref q_gp, .ref q_gs, .int (zI (z16_goalN))])), (q_t, .inl (cT, 8192, .inl (fun j : Nat => zI (a_t (j : Int)))))]) (cx := [(h0, .inr (14, [.ref q_t, .int (zI (z16_n)), .int (zI (z16_at)), .int (zI (z16_kind)), .int (zI (z16_place)), .int (zI (z16_value)), .int (zI (z16_before)), .ref tx9, v16_8, v16_9, v16_10, .ref q_gp, .ref q_gs, .int (zI (z16_goalN))])), (q_t, .inl (cT, 8192, .inl (fun j : Nat => zI (a_t (j : Int)))))]) (wr := [(q_gp, .inl (cI, mg, .inl (fun j : Nat => zI (a_gp (j : Int))))), (q_gs, .inl (cI, ng, .inl (fun j : Nat => zI (a_gs (j : Int)))))]) (rx := [(h0, .inr (14, [.ref q_t, .int (zI (z16_n)), .int (zI (z16_at)), .int (zI (z16_kind)), .int (zI (z16_place)), .int (zI (z16_value)), .int (zI (z16_before)), .ref tx9, v16_8, v16_9, v16_10, .ref q_gp, .ref q_gs, .int (zI (z16_goalN))])), (q_t, .inl (cT, 8192, .inl (fun j : Nat => zI (a_t (j : Int)))))]) (pl := va_pl L (pE Pw_58)) (pl1 := va_pl L (pE Pw_58)) hP hD [2, 3] [0, 1] rfl rfl (by decide) (by decide) hk1 hFc hP1 hD1
    have hK := (hK.sub (tys' := [(cI, .int), (cO, .object "java/lang/Object"), (cZ, .boolean)]) [0, 1, 2] rfl).app hK1
    generalize H1 = H at hP hS ⊢
    have hP : va_P (dC, dI) vwQ ([(q_gp, .inl (cI, mg, .inl (fun j : Nat => zI (a_gp (j : Int))))), (q_gs, .inl (cI, ng, .inl (fun j : Nat => zI (a_gs (j : Int))))), (h0, .inr (14, [.ref q_t, .int (zI (z16_n)), .int (zI (z16_at)), .int (zI (z16_kind)), .int (zI (z16_place)), .int (zI (z16_value)), .int (zI (z16_before)), .ref tx9, v16_8, v16_9, v16_10, .ref q_gp, .ref q_gs, .int (zI (z16_goalN))])), (q_t, .inl (cT, 8192, .inl (fun j : Nat => zI (a_t (j : Int)))))] ++ va_pl L (pE Pw_58)) H := hP
    have hD : va_D A ([(q_gp, .inl (cI, mg, .inl (fun j : Nat => zI (a_gp (j : Int))))), (q_gs, .inl (cI, ng, .inl (fun j : Nat => zI (a_gs (j : Int))))), (h0, .inr (14, [.ref q_t, .int (zI (z16_n)), .int (zI (z16_at)), .int (zI (z16_kind)), .int (zI (z16_place)), .int (zI (z16_value)), .int (zI (z16_before)), .ref tx9, v16_8, v16_9, v16_10, .ref q_gp, .ref q_gs, .int (zI (z16_goalN))])), (q_t, .inl (cT, 8192, .inl (fun j : Nat => zI (a_t (j : Int)))))] ++ va_pl L (pE Pw_58)) := hD
    have hK : va_K (dC, dI) vwQ [(cI, .int), (cO, .object "java/lang/Object"), (cZ, .boolean), (cT, .byte)] s := hK
    refine W.widen (k := 0) (n := 0) (Nat.le_of_ble_eq_true rfl) (Nat.le_of_ble_eq_true rfl) ?_
    have hw_81 := hw
    obtain ⟨z_82, rfl, hzz_82⟩ := hw_81
    refine lv_if_eq (tgt := 112) hx hb dX16_end_74 (by decide) (fun b74 => ?_) (fun b74 => ?_)
    · have yb74 : (z_82 : Int) = (0 : Int) := (zI_eq (a := z_82) (b := 0) (by omega) (by omega) (by omega) (by omega)).mp b74
      refine lv_aload_n hx hb dX16_end_112 rfl (lv_at hl 1 rfl) ?_
      refine va_ldcS hx hb hown hp6 dX16_end_113 ?_
      have hPc := hP.part (X := [(q_gp, .inl (cI, mg, .inl (fun j : Nat => zI (a_gp (j : Int))))), (q_gs, .inl (cI, ng, .inl (fun j : Nat => zI (a_gs (j : Int))))), (h0, .inr (14, [.ref q_t, .int (zI (z16_n)), .int (zI (z16_at)), .int (zI (z16_kind)), .int (zI (z16_place)), .int (zI (z16_value)), .int (zI (z16_before)), .ref tx9, v16_8, v16_9, v16_10, .ref q_gp, .ref q_gs, .int (zI (z16_goalN))])), (q_t, .inl (cT, 8192, .inl (fun j : Nat => zI (a_t (j : Int)))))]) (cx := [(h0, .inr (14, [.ref q_t, .int (zI (z16_n)), .int (zI (z16_at)), .int (zI (z16_kind)), .int (zI (z16_place)), .int (zI (z16_value)), .int (zI (z16_before)), .ref tx9, v16_8, v16_9, v16_10, .ref q_gp, .ref q_gs, .int (zI (z16_goalN))])), (q_t, .inl (cT, 8192, .inl (fun j : Nat => zI (a_t (j : Int)))))]) (pl := va_pl L (pE Pw_58)) [2, 3] rfl
      have hDc := hD.part (X := [(q_gp, .inl (cI, mg, .inl (fun j : Nat => zI (a_gp (j : Int))))), (q_gs, .inl (cI, ng, .inl (fun j : Nat => zI (a_gs (j : Int))))), (h0, .inr (14, [.ref q_t, .int (zI (z16_n)), .int (zI (z16_at)), .int (zI (z16_kind)), .int (zI (z16_place)), .int (zI (z16_value)), .int (zI (z16_before)), .ref tx9, v16_8, v16_9, v16_10, .ref q_gp, .ref q_gs, .int (zI (z16_goalN))])), (q_t, .inl (cT, 8192, .inl (fun j : Nat => zI (a_t (j : Int)))))]) (cx := [(h0, .inr (14, [.ref q_t, .int (zI (z16_n)), .int (zI (z16_at)), .int (zI (z16_kind)), .int (zI (z16_place)), .int (zI (z16_value)), .int (zI (z16_before)), .ref tx9, v16_8, v16_9, v16_10, .ref q_gp, .ref q_gs, .int (zI (z16_goalN))])), (q_t, .inl (cT, 8192, .inl (fun j : Nat => zI (a_t (j : Int)))))]) (pl := va_pl L (pE Pw_58)) [2, 3] (by decide) rfl
      have hKc := hK.sub (tys' := [(cT, .byte)]) [3] rfl
      have hFc := va_freeP (X := [(q_gp, .inl (cI, mg, .inl (fun j : Nat => zI (a_gp (j : Int))))), (q_gs, .inl (cI, ng, .inl (fun j : Nat => zI (a_gs (j : Int))))), (h0, .inr (14, [.ref q_t, .int (zI (z16_n)), .int (zI (z16_at)), .int (zI (z16_kind)), .int (zI (z16_place)), .int (zI (z16_value)), .int (zI (z16_before)), .ref tx9, v16_8, v16_9, v16_10, .ref q_gp, .ref q_gs, .int (zI (z16_goalN))])), (q_t, .inl (cT, 8192, .inl (fun j : Nat => zI (a_t (j : Int)))))]) (cx := [(h0, .inr (14, [.ref q_t, .int (zI (z16_n)), .int (zI (z16_at)), .int (zI (z16_kind)), .int (zI (z16_place)), .int (zI (z16_value)), .int (zI (z16_before)), .ref tx9, v16_8, v16_9, v16_10, .ref q_gp, .ref q_gs, .int (zI (z16_goalN))])), (q_t, .inl (cT, 8192, .inl (fun j : Nat => zI (a_t (j : Int)))))]) (pl := va_pl L (pE Pw_58)) hD hS hA [2, 3] rfl
      refine va_calli (va_runV (As := [.ref sa_RX16_255]) (rest := []) ⟨hx, hb, hml, hown, hts⟩ (c_X16_isK l dC dI h0 (.int (zI (z16_n))) (.int (zI (z16_at))) z16_kind (.int (zI (z16_place))) (.int (zI (z16_value))) (.int (zI (z16_before))) v16_8 v16_9 v16_10 (.ref q_gp) (.ref q_gs) (.int (zI (z16_goalN))) q_t cT a_t tx9 L Pw_58 sa_RX16_9 sa_RX16_255 sv_RX16_255 3 ((fun j : Nat => ([114, 101, 116] : List Int32).getD j 0)) (by omega) hR_a_t hX_tx (by omega) H.size sv_RX16_9) (cwV 1 hts g_X16_endM_X16_isK rfl rfl rfl (by decide +kernel) ⟨(Nat.le_of_ble_eq_true rfl), (Nat.le_of_ble_eq_true rfl)⟩) ⟨fun a U g mk q => by obtain ⟨q0, q1, qP, qK, qD, e0, e1, e2⟩ := q; exact ⟨q0, q1, qP, va_K.moved (u := U) (U := U.calling g mk a) (Vm.Alike.refl U.vm) qK, qD, vs_S.moved (u := U) (U := U.calling g mk a) (Vm.Alike.refl U.vm) e0, vs_S.moved (u := U) (U := U.calling g mk a) (Vm.Alike.refl U.vm) e1, va_Z.moved (u := U) (U := U.calling g mk a) (Vm.Alike.refl U.vm) e2⟩, va_recv hKc hPc (ci := 14) (q0 := 0) rfl rfl, fun U hU hW => ⟨rfl, by rw [hU], by rw [hU]; exact hPc, va_K.moved hW.alike hKc, hDc.weaken (fun _ _ _ _ => trivial), by rw [hU]; exact vs_S.narrow (vs_S.moved hW.alike (vs_S.kept hp2 hS.2.1)) hFc, by rw [hU]; exact vs_S.narrow (vs_S.moved hW.alike (vs_S.kept hp7 hS.2.1)) hFc, by rw [hU]; exact va_Z.narrow (va_Z.moved hW.alike (va_Z.kept hp3 hS.2.1)) hFc⟩⟩ rfl rfl hl.1 rfl (lv_room (Nat.le_of_ble_eq_true rfl)) dX16_end_115 ⟨(Nat.zero_le _), (Nat.zero_le _)⟩) hS (fun q _ h => hFc q h) hFc (fun r_83 u t H1 locs ht hvm hw hB hz1 hk1 hS => ?_)
      obtain ⟨hP1, hK1, hD1⟩ := hB
      rw [ht] at hP1
      have hK1 := va_K.moved hvm.symm hK1
      obtain ⟨hP, hD⟩ := va_joinP (X := [(q_gp, .inl (cI, mg, .inl (fun j : Nat => zI (a_gp (j : Int))))), (q_gs, .inl (cI, ng, .inl (fun j : Nat => zI (a_gs (j : Int))))), (h0, .inr (14, [.ref q_t, .int (zI (z16_n)), .int (zI (z16_at)), .int (zI (z16_kind)), .int (zI (z16_place)), .int (zI (z16_value)), .int (zI (z16_before)), .ref tx9, v16_8, v16_9, v16_10, .ref q_gp, .ref q_gs, .int (zI (z16_goalN))])), (q_t, .inl (cT, 8192, .inl (fun j : Nat => zI (a_t (j : Int)))))]) (cx := [(h0, .inr (14, [.ref q_t, .int (zI (z16_n)), .int (zI (z16_at)), .int (zI (z16_kind)), .int (zI (z16_place)), .int (zI (z16_value)), .int (zI (z16_before)), .ref tx9, v16_8, v16_9, v16_10, .ref q_gp, .ref q_gs, .int (zI (z16_goalN))])), (q_t, .inl (cT, 8192, .inl (fun j : Nat => zI (a_t (j : Int)))))]) (wr := [(q_gp, .inl (cI, mg, .inl (fun j : Nat => zI (a_gp (j : Int))))), (q_gs, .inl (cI, ng, .inl (fun j : Nat => zI (a_gs (j : Int)))))]) (rx := [(h0, .inr (14, [.ref q_t, .int (zI (z16_n)), .int (zI (z16_at)), .int (zI (z16_kind)), .int (zI (z16_place)), .int (zI (z16_value)), .int (zI (z16_before)), .ref tx9, v16_8, v16_9, v16_10, .ref q_gp, .ref q_gs, .int (zI (z16_goalN))])), (q_t, .inl (cT, 8192, .inl (fun j : Nat => zI (a_t (j : Int)))))]) (pl := va_pl L (pE Pw_58)) (pl1 := va_pl L (pE Pw_58)) hP hD [2, 3] [0, 1] rfl rfl (by decide) (by decide) hk1 hFc hP1 hD1
      have hK := (hK.sub (tys' := [(cI, .int), (cO, .object "java/lang/Object"), (cZ, .boolean)]) [0, 1, 2] rfl).app hK1
      generalize H1 = H at hP hS ⊢
      have hP : va_P (dC, dI) vwQ ([(q_gp, .inl (cI, mg, .inl (fun j : Nat => zI (a_gp (j : Int))))), (q_gs, .inl (cI, ng, .inl (fun j : Nat => zI (a_gs (j : Int))))), (h0, .inr (14, [.ref q_t, .int (zI (z16_n)), .int (zI (z16_at)), .int (zI (z16_kind)), .int (zI (z16_place)), .int (zI (z16_value)), .int (zI (z16_before)), .ref tx9, v16_8, v16_9, v16_10, .ref q_gp, .ref q_gs, .int (zI (z16_goalN))])), (q_t, .inl (cT, 8192, .inl (fun j : Nat => zI (a_t (j : Int)))))] ++ va_pl L (pE Pw_58)) H := hP
      have hD : va_D A ([(q_gp, .inl (cI, mg, .inl (fun j : Nat => zI (a_gp (j : Int))))), (q_gs, .inl (cI, ng, .inl (fun j : Nat => zI (a_gs (j : Int))))), (h0, .inr (14, [.ref q_t, .int (zI (z16_n)), .int (zI (z16_at)), .int (zI (z16_kind)), .int (zI (z16_place)), .int (zI (z16_value)), .int (zI (z16_before)), .ref tx9, v16_8, v16_9, v16_10, .ref q_gp, .ref q_gs, .int (zI (z16_goalN))])), (q_t, .inl (cT, 8192, .inl (fun j : Nat => zI (a_t (j : Int)))))] ++ va_pl L (pE Pw_58)) := hD
      have hK : va_K (dC, dI) vwQ [(cI, .int), (cO, .object "java/lang/Object"), (cZ, .boolean), (cT, .byte)] s := hK
      refine W.widen (k := 0) (n := 0) (Nat.le_of_ble_eq_true rfl) (Nat.le_of_ble_eq_true rfl) ?_
      have hw_84 := hw
      obtain ⟨z_85, rfl, hzz_85⟩ := hw_84
      refine lv_if_eq (tgt := 140) hx hb dX16_end_118 (by decide) (fun b118 => ?_) (fun b118 => ?_)
      · have yb118 : (z_85 : Int) = (0 : Int) := (zI_eq (a := z_85) (b := 0) (by omega) (by omega) (by omega) (by omega)).mp b118
        refine lv_aload_n hx hb dX16_end_140 rfl (lv_at hl 1 rfl) ?_
        have hPc := hP.sub (ws' := [(h0, .inr (14, [.ref q_t, .int (zI (z16_n)), .int (zI (z16_at)), .int (zI (z16_kind)), .int (zI (z16_place)), .int (zI (z16_value)), .int (zI (z16_before)), .ref tx9, v16_8, v16_9, v16_10, .ref q_gp, .ref q_gs, .int (zI (z16_goalN))]))]) [2] rfl
        have hDc := hD.sub (ws' := [(h0, .inr (14, [.ref q_t, .int (zI (z16_n)), .int (zI (z16_at)), .int (zI (z16_kind)), .int (zI (z16_place)), .int (zI (z16_value)), .int (zI (z16_before)), .ref tx9, v16_8, v16_9, v16_10, .ref q_gp, .ref q_gs, .int (zI (z16_goalN))]))]) [2] (by decide) rfl
        have hKc := hK.sub (tys' := []) [] rfl
        have hFc := va_free (wc := [(h0, .inr (14, [.ref q_t, .int (zI (z16_n)), .int (zI (z16_at)), .int (zI (z16_kind)), .int (zI (z16_place)), .int (zI (z16_value)), .int (zI (z16_before)), .ref tx9, v16_8, v16_9, v16_10, .ref q_gp, .ref q_gs, .int (zI (z16_goalN))]))]) hD hS hA [2] rfl
        refine va_callr (va_runV (As := []) (rest := []) ⟨hx, hb, hml, hown, hts⟩ (c_X16_no l dC dI h0 (.ref q_t) (.int (zI (z16_n))) (.int (zI (z16_at))) (.int (zI (z16_kind))) z16_place (.int (zI (z16_value))) (.int (zI (z16_before))) (.ref tx9) v16_8 v16_9 v16_10 (.ref q_gp) (.ref q_gs) (.int (zI (z16_goalN))) (by omega) H.size) (cwV 0 hts g_X16_endM_X16_no rfl rfl rfl (by decide +kernel) ⟨(Nat.le_of_ble_eq_true rfl), (Nat.le_of_ble_eq_true rfl)⟩) ⟨fun a U g mk q => by obtain ⟨q0, q1, qP, qK, qD, e0, e1⟩ := q; exact ⟨q0, q1, qP, va_K.moved (u := U) (U := U.calling g mk a) (Vm.Alike.refl U.vm) qK, qD, vx_Zq.moved (u := U) (U := U.calling g mk a) (Vm.Alike.refl U.vm) e0, vx_Zq.moved (u := U) (U := U.calling g mk a) (Vm.Alike.refl U.vm) e1⟩, va_recv hKc hPc (ci := 14) (q0 := 0) rfl rfl, fun U hU hW => ⟨rfl, by rw [hU], by rw [hU]; exact hPc, va_K.moved hW.alike hKc, hDc.weaken (fun _ _ _ _ => trivial), by rw [hU]; exact vx_Zq.narrow (vx_Zq.moved hW.alike (vx_Zq.kept hp8 hS.2.1)) hFc, by rw [hU]; exact vx_Zq.narrow (vx_Zq.moved hW.alike (vx_Zq.kept hp9 hS.2.1)) hFc⟩⟩ rfl rfl hl.1 rfl (lv_room (Nat.le_of_ble_eq_true rfl)) dX16_end_141 ⟨(show 0 + 1 ≤ (14 * (z16_n - z16_at) + 4 * z16_goalN + 120).toNat from (by omega)), (show 0 + 7 ≤ (120 * (z16_n - z16_at) + 16 * z16_goalN + 700).toNat from (by omega))⟩) hS (fun q _ h => hFc q h) hFc (fun u q_86 t H1 locs ht hvm hw hB hz1 hk1 hS => ?_)
        obtain ⟨zq_87, hxt_87, hP1, hK1, hD1⟩ := hB
        rw [ht] at hP1
        have hK1 := va_K.moved hvm.symm hK1
        obtain ⟨hP, hD⟩ := va_joinQ (X := [(q_gp, .inl (cI, mg, .inl (fun j : Nat => zI (a_gp (j : Int))))), (q_gs, .inl (cI, ng, .inl (fun j : Nat => zI (a_gs (j : Int))))), (h0, .inr (14, [.ref q_t, .int (zI (z16_n)), .int (zI (z16_at)), .int (zI (z16_kind)), .int (zI (z16_place)), .int (zI (z16_value)), .int (zI (z16_before)), .ref tx9, v16_8, v16_9, v16_10, .ref q_gp, .ref q_gs, .int (zI (z16_goalN))])), (q_t, .inl (cT, 8192, .inl (fun j : Nat => zI (a_t (j : Int)))))]) (cx := [(h0, .inr (14, [.ref q_t, .int (zI (z16_n)), .int (zI (z16_at)), .int (zI (z16_kind)), .int (zI (z16_place)), .int (zI (z16_value)), .int (zI (z16_before)), .ref tx9, v16_8, v16_9, v16_10, .ref q_gp, .ref q_gs, .int (zI (z16_goalN))]))]) (wr := [(q_gp, .inl (cI, mg, .inl (fun j : Nat => zI (a_gp (j : Int))))), (q_gs, .inl (cI, ng, .inl (fun j : Nat => zI (a_gs (j : Int))))), (q_t, .inl (cT, 8192, .inl (fun j : Nat => zI (a_t (j : Int)))))]) (w1 := [(h0, .inr (14, [.ref q_t, .int (zI (z16_n)), .int (zI (z16_at)), .int (zI (z16_kind)), .int (zI (z16_place)), .int (zI (z16_value)), .int (zI (z16_before)), .ref tx9, v16_8, v16_9, v16_10, .ref q_gp, .ref q_gs, .int (zI (z16_goalN))])), (q_86, .inr (15, [.null, .null, .null, .null, .null, .int 0, .int (zI (zq_87))]))]) (pl := va_pl L (pE Pw_58)) hP hD [2] [0, 1, 3] rfl rfl (by decide) (by decide) hk1 hFc hP1 hD1
        have hK := (hK.sub (tys' := [(cI, .int), (cO, .object "java/lang/Object"), (cZ, .boolean), (cT, .byte)]) [0, 1, 2, 3] rfl).app hK1
        generalize H1 = H at hP hS ⊢
        have hP : va_P (dC, dI) vwQ ([(q_gp, .inl (cI, mg, .inl (fun j : Nat => zI (a_gp (j : Int))))), (q_gs, .inl (cI, ng, .inl (fun j : Nat => zI (a_gs (j : Int))))), (q_t, .inl (cT, 8192, .inl (fun j : Nat => zI (a_t (j : Int))))), (h0, .inr (14, [.ref q_t, .int (zI (z16_n)), .int (zI (z16_at)), .int (zI (z16_kind)), .int (zI (z16_place)), .int (zI (z16_value)), .int (zI (z16_before)), .ref tx9, v16_8, v16_9, v16_10, .ref q_gp, .ref q_gs, .int (zI (z16_goalN))])), (q_86, .inr (15, [.null, .null, .null, .null, .null, .int 0, .int (zI (zq_87))]))] ++ va_pl L (pE Pw_58)) H := hP
        have hD : va_D A ([(q_gp, .inl (cI, mg, .inl (fun j : Nat => zI (a_gp (j : Int))))), (q_gs, .inl (cI, ng, .inl (fun j : Nat => zI (a_gs (j : Int))))), (q_t, .inl (cT, 8192, .inl (fun j : Nat => zI (a_t (j : Int))))), (h0, .inr (14, [.ref q_t, .int (zI (z16_n)), .int (zI (z16_at)), .int (zI (z16_kind)), .int (zI (z16_place)), .int (zI (z16_value)), .int (zI (z16_before)), .ref tx9, v16_8, v16_9, v16_10, .ref q_gp, .ref q_gs, .int (zI (z16_goalN))])), (q_86, .inr (15, [.null, .null, .null, .null, .null, .int 0, .int (zI (zq_87))]))] ++ va_pl L (pE Pw_58)) := hD
        have hK : va_K (dC, dI) vwQ [(cI, .int), (cO, .object "java/lang/Object"), (cZ, .boolean), (cT, .byte)] s := hK
        refine W.widen (k := 1) (n := 7) (Nat.le_of_ble_eq_true rfl) (Nat.le_of_ble_eq_true rfl) ?_
        subst hQ
        obtain ⟨ce9, h91, h92, h93⟩ := vy_cell (C := RX18) (T := TX18) (N := 7) hK hP (k := 4) rfl rfl
        have hP := hP.part (X := [(q_gp, .inl (cI, mg, .inl (fun j : Nat => zI (a_gp (j : Int))))), (q_gs, .inl (cI, ng, .inl (fun j : Nat => zI (a_gs (j : Int))))), (q_t, .inl (cT, 8192, .inl (fun j : Nat => zI (a_t (j : Int))))), (h0, .inr (14, [.ref q_t, .int (zI (z16_n)), .int (zI (z16_at)), .int (zI (z16_kind)), .int (zI (z16_place)), .int (zI (z16_value)), .int (zI (z16_before)), .ref tx9, v16_8, v16_9, v16_10, .ref q_gp, .ref q_gs, .int (zI (z16_goalN))])), (q_86, .inr (15, [.null, .null, .null, .null, .null, .int 0, .int (zI (zq_87))]))]) (cx := [(q_t, .inl (cT, 8192, .inl (fun j : Nat => zI (a_t (j : Int))))), (q_86, .inr (15, [.null, .null, .null, .null, .null, .int 0, .int (zI (zq_87))]))]) (pl := va_pl L (pE Pw_58)) [2, 4] rfl
        have hD := hD.part (X := [(q_gp, .inl (cI, mg, .inl (fun j : Nat => zI (a_gp (j : Int))))), (q_gs, .inl (cI, ng, .inl (fun j : Nat => zI (a_gs (j : Int))))), (q_t, .inl (cT, 8192, .inl (fun j : Nat => zI (a_t (j : Int))))), (h0, .inr (14, [.ref q_t, .int (zI (z16_n)), .int (zI (z16_at)), .int (zI (z16_kind)), .int (zI (z16_place)), .int (zI (z16_value)), .int (zI (z16_before)), .ref tx9, v16_8, v16_9, v16_10, .ref q_gp, .ref q_gs, .int (zI (z16_goalN))])), (q_86, .inr (15, [.null, .null, .null, .null, .null, .int 0, .int (zI (zq_87))]))]) (cx := [(q_t, .inl (cT, 8192, .inl (fun j : Nat => zI (a_t (j : Int))))), (q_86, .inr (15, [.null, .null, .null, .null, .null, .int 0, .int (zI (zq_87))]))]) (pl := va_pl L (pE Pw_58)) [2, 4] (by decide) rfl
        refine W_knowS (fun hrm9 => ?_)
        refine W.widen (k := ((14 * (z16_n - z16_at) + 4 * z16_goalN + 120).toNat)) (n := ((120 * (z16_n - z16_at) + 16 * z16_goalN + 700).toNat)) (by omega) (by omega) ?_
        exact vy_athrow hx hb (fun x9 h9 => (hnt x9 h9).elim) hlocks h91 h92 h93 (fun t ht hvm => ⟨(), trivial, ⟨rfl, zq_87, L, Pw_58, 1, 7, ⟨⟨(by rw [ht, ← hp10]; exact hrm9), (by omega)⟩, ⟨(by omega), ⟨hA_71, hak_65, (hcx_75.cpa hg00.owa (fun z _ q => by rcases (show z = xb ∨ z = P.be xb from q) with q | q; rw [q, hX_bk]; decide; rw [q, (hg00.gb hX_b hX_bk).1.2.1]; decide))⟩⟩⟩, by rw [ht]; exact hP, hD⟩, hS.F ht⟩) hS.2.2 (Nat.le_refl _) (Nat.le_refl _) dX16_end_144
      · have yb118 : ¬ (z_85 : Int) = (0 : Int) := fun q => b118 ((zI_eq (a := z_85) (b := 0) (by omega) (by omega) (by omega) (by omega)).mpr q)
        skip
        refine lv_aload_n hx hb dX16_end_121 rfl (lv_at hl 1 rfl) ?_
        have hPc := hP.part (X := [(q_gp, .inl (cI, mg, .inl (fun j : Nat => zI (a_gp (j : Int))))), (q_gs, .inl (cI, ng, .inl (fun j : Nat => zI (a_gs (j : Int))))), (h0, .inr (14, [.ref q_t, .int (zI (z16_n)), .int (zI (z16_at)), .int (zI (z16_kind)), .int (zI (z16_place)), .int (zI (z16_value)), .int (zI (z16_before)), .ref tx9, v16_8, v16_9, v16_10, .ref q_gp, .ref q_gs, .int (zI (z16_goalN))])), (q_t, .inl (cT, 8192, .inl (fun j : Nat => zI (a_t (j : Int)))))]) (cx := [(h0, .inr (14, [.ref q_t, .int (zI (z16_n)), .int (zI (z16_at)), .int (zI (z16_kind)), .int (zI (z16_place)), .int (zI (z16_value)), .int (zI (z16_before)), .ref tx9, v16_8, v16_9, v16_10, .ref q_gp, .ref q_gs, .int (zI (z16_goalN))])), (q_t, .inl (cT, 8192, .inl (fun j : Nat => zI (a_t (j : Int)))))]) (pl := va_pl L (pE Pw_58)) [2, 3] rfl
        have hDc := hD.part (X := [(q_gp, .inl (cI, mg, .inl (fun j : Nat => zI (a_gp (j : Int))))), (q_gs, .inl (cI, ng, .inl (fun j : Nat => zI (a_gs (j : Int))))), (h0, .inr (14, [.ref q_t, .int (zI (z16_n)), .int (zI (z16_at)), .int (zI (z16_kind)), .int (zI (z16_place)), .int (zI (z16_value)), .int (zI (z16_before)), .ref tx9, v16_8, v16_9, v16_10, .ref q_gp, .ref q_gs, .int (zI (z16_goalN))])), (q_t, .inl (cT, 8192, .inl (fun j : Nat => zI (a_t (j : Int)))))]) (cx := [(h0, .inr (14, [.ref q_t, .int (zI (z16_n)), .int (zI (z16_at)), .int (zI (z16_kind)), .int (zI (z16_place)), .int (zI (z16_value)), .int (zI (z16_before)), .ref tx9, v16_8, v16_9, v16_10, .ref q_gp, .ref q_gs, .int (zI (z16_goalN))])), (q_t, .inl (cT, 8192, .inl (fun j : Nat => zI (a_t (j : Int)))))]) (pl := va_pl L (pE Pw_58)) [2, 3] (by decide) rfl
        have hKc := hK.sub (tys' := [(cT, .byte)]) [3] rfl
        have hFc := va_freeP (X := [(q_gp, .inl (cI, mg, .inl (fun j : Nat => zI (a_gp (j : Int))))), (q_gs, .inl (cI, ng, .inl (fun j : Nat => zI (a_gs (j : Int))))), (h0, .inr (14, [.ref q_t, .int (zI (z16_n)), .int (zI (z16_at)), .int (zI (z16_kind)), .int (zI (z16_place)), .int (zI (z16_value)), .int (zI (z16_before)), .ref tx9, v16_8, v16_9, v16_10, .ref q_gp, .ref q_gs, .int (zI (z16_goalN))])), (q_t, .inl (cT, 8192, .inl (fun j : Nat => zI (a_t (j : Int)))))]) (cx := [(h0, .inr (14, [.ref q_t, .int (zI (z16_n)), .int (zI (z16_at)), .int (zI (z16_kind)), .int (zI (z16_place)), .int (zI (z16_value)), .int (zI (z16_before)), .ref tx9, v16_8, v16_9, v16_10, .ref q_gp, .ref q_gs, .int (zI (z16_goalN))])), (q_t, .inl (cT, 8192, .inl (fun j : Nat => zI (a_t (j : Int)))))]) (pl := va_pl L (pE Pw_58)) hD hS hA [2, 3] rfl
        refine W_knowS (fun hrmA => ?_)
        refine va_callv (va_runV (As := []) (rest := []) ⟨hx, hb, hml, hown, hts⟩ (c_X16_nextM l dC dI h0 z16_n z16_at z16_kind z16_place z16_value z16_before (.ref tx9) v16_8 v16_9 v16_10 (.ref q_gp) (.ref q_gs) (.int (zI (z16_goalN))) q_t cT a_t L Pw_58 sa_RX16_9 (by omega) (by omega) (by omega) (by omega) (by omega) (by omega) hR_a_t (by omega) H.size sa_RX16_9 H sv_RX16_9 sa_RX16_119 sv_RX16_119 sa_RX16_100 sv_RX16_100 sa_RX16_117 sa_RX16_100 sv_RX16_117 sa_RX16_98 sv_RX16_98) (cwV 0 hts g_X16_endM_X16_nextM rfl rfl rfl (by decide +kernel) ⟨(Nat.le_of_ble_eq_true rfl), (Nat.le_of_ble_eq_true rfl)⟩) ⟨fun a U g mk q => by obtain ⟨q0, q1, qP, qK, qD, e0, e1, e2, e3, e4, e5, e6, e7, e8, e9, e10, e11, e12⟩ := q; exact ⟨q0, q1, qP, va_K.moved (u := U) (U := U.calling g mk a) (Vm.Alike.refl U.vm) qK, qD, vk_R.same (u := U) (U := U.calling g mk a) rfl e0, e1, va_Z.moved (u := U) (U := U.calling g mk a) (Vm.Alike.refl U.vm) e2, vs_S.moved (u := U) (U := U.calling g mk a) (Vm.Alike.refl U.vm) e3, va_Nw.same rfl (u := U) (U := U.calling g mk a) rfl e4, vk_R.same (u := U) (U := U.calling g mk a) rfl e5, vs_S.moved (u := U) (U := U.calling g mk a) (Vm.Alike.refl U.vm) e6, vs_S.moved (u := U) (U := U.calling g mk a) (Vm.Alike.refl U.vm) e7, vk_R.same (u := U) (U := U.calling g mk a) rfl e8, vk_R.same (u := U) (U := U.calling g mk a) rfl e9, vs_S.moved (u := U) (U := U.calling g mk a) (Vm.Alike.refl U.vm) e10, vk_R.same (u := U) (U := U.calling g mk a) rfl e11, vs_S.moved (u := U) (U := U.calling g mk a) (Vm.Alike.refl U.vm) e12⟩, va_recv hKc hPc (ci := 14) (q0 := 0) rfl rfl, fun U hU hW => ⟨rfl, by rw [hU], by rw [hU]; exact hPc, va_K.moved hW.alike hKc, hDc.weaken (fun _ _ _ _ => trivial), vk_R.warm hW hp11, hU, by rw [hU]; exact va_Z.narrow (va_Z.moved hW.alike (va_Z.kept hp3 hS.2.1)) hFc, by rw [hU]; exact vs_S.narrow (vs_S.moved hW.alike (vs_S.kept hp2 hS.2.1)) hFc, va_Nw.warmC hW hp12, vk_R.warm hW hp13, by rw [hU]; exact vs_S.narrow (vs_S.moved hW.alike (vs_S.kept hp14 hS.2.1)) hFc, by rw [hU]; exact vs_S.narrow (vs_S.moved hW.alike (vs_S.kept hp15 hS.2.1)) hFc, vk_R.warm hW hp16, vk_R.warm hW hp17, by rw [hU]; exact vs_S.narrow (vs_S.moved hW.alike (vs_S.kept hp18 hS.2.1)) hFc, vk_R.warm hW hp19, by rw [hU]; exact vs_S.narrow (vs_S.moved hW.alike (vs_S.kept hp20 hS.2.1)) hFc⟩⟩ rfl rfl hl.1 rfl (lv_room (Nat.le_of_ble_eq_true rfl)) dX16_end_122 ⟨(show 0 + ((z16_n - z16_at + 20).toNat) ≤ (14 * (z16_n - z16_at) + 4 * z16_goalN + 120).toNat from (by omega)), (show 0 + ((10 * (z16_n - z16_at) + 120).toNat) ≤ (120 * (z16_n - z16_at) + 16 * z16_goalN + 700).toNat from (by omega))⟩) hS (fun q _ h => hFc q h) hFc (fun  u t H1 locs ht hvm hw hB hz1 hk1 hS => ?_)
        obtain ⟨z0_88, z1_89, z2_90, z3_91, z4_92, q5_93, Ln_94, Pn_95, kc_96, ks_97, hxt_97, hP1, hK1, hD1⟩ := hB
        rw [ht] at hP1
        have hK1 := va_K.moved hvm.symm hK1
        obtain ⟨hP, hD⟩ := va_joinP (X := [(q_gp, .inl (cI, mg, .inl (fun j : Nat => zI (a_gp (j : Int))))), (q_gs, .inl (cI, ng, .inl (fun j : Nat => zI (a_gs (j : Int))))), (h0, .inr (14, [.ref q_t, .int (zI (z16_n)), .int (zI (z16_at)), .int (zI (z16_kind)), .int (zI (z16_place)), .int (zI (z16_value)), .int (zI (z16_before)), .ref tx9, v16_8, v16_9, v16_10, .ref q_gp, .ref q_gs, .int (zI (z16_goalN))])), (q_t, .inl (cT, 8192, .inl (fun j : Nat => zI (a_t (j : Int)))))]) (cx := [(h0, .inr (14, [.ref q_t, .int (zI (z16_n)), .int (zI (z16_at)), .int (zI (z16_kind)), .int (zI (z16_place)), .int (zI (z16_value)), .int (zI (z16_before)), .ref tx9, v16_8, v16_9, v16_10, .ref q_gp, .ref q_gs, .int (zI (z16_goalN))])), (q_t, .inl (cT, 8192, .inl (fun j : Nat => zI (a_t (j : Int)))))]) (wr := [(q_gp, .inl (cI, mg, .inl (fun j : Nat => zI (a_gp (j : Int))))), (q_gs, .inl (cI, ng, .inl (fun j : Nat => zI (a_gs (j : Int)))))]) (rx := [(h0, .inr (14, [.ref q_t, .int (zI (z16_n)), .int (zI (z0_88)), .int (zI (z1_89)), .int (zI (z2_90)), .int (zI (z3_91)), .int (zI (z4_92)), .ref q5_93, v16_8, v16_9, v16_10, .ref q_gp, .ref q_gs, .int (zI (z16_goalN))])), (q_t, .inl (cT, 8192, .inl (fun j : Nat => zI (a_t (j : Int)))))]) (pl := va_pl L (pE Pw_58)) (pl1 := va_pl Ln_94 (pE Pn_95)) hP hD [2, 3] [0, 1] rfl rfl (by decide) (by decide) hk1 hFc hP1 hD1
        have hK := (hK.sub (tys' := [(cI, .int), (cO, .object "java/lang/Object"), (cZ, .boolean)]) [0, 1, 2] rfl).app hK1
        have hrmC := hxt_97.1.1
        rw [ht] at hrmC
        refine W_tightS (hrmA.trans hrmC) ?_
        have hrb := hxt_97.1.2
        generalize H1 = H at hP hS ⊢
        have hP : va_P (dC, dI) vwQ ([(q_gp, .inl (cI, mg, .inl (fun j : Nat => zI (a_gp (j : Int))))), (q_gs, .inl (cI, ng, .inl (fun j : Nat => zI (a_gs (j : Int))))), (h0, .inr (14, [.ref q_t, .int (zI (z16_n)), .int (zI (z0_88)), .int (zI (z1_89)), .int (zI (z2_90)), .int (zI (z3_91)), .int (zI (z4_92)), .ref q5_93, v16_8, v16_9, v16_10, .ref q_gp, .ref q_gs, .int (zI (z16_goalN))])), (q_t, .inl (cT, 8192, .inl (fun j : Nat => zI (a_t (j : Int)))))] ++ va_pl Ln_94 (pE Pn_95)) H := hP
        have hD : va_D A ([(q_gp, .inl (cI, mg, .inl (fun j : Nat => zI (a_gp (j : Int))))), (q_gs, .inl (cI, ng, .inl (fun j : Nat => zI (a_gs (j : Int))))), (h0, .inr (14, [.ref q_t, .int (zI (z16_n)), .int (zI (z0_88)), .int (zI (z1_89)), .int (zI (z2_90)), .int (zI (z3_91)), .int (zI (z4_92)), .ref q5_93, v16_8, v16_9, v16_10, .ref q_gp, .ref q_gs, .int (zI (z16_goalN))])), (q_t, .inl (cT, 8192, .inl (fun j : Nat => zI (a_t (j : Int)))))] ++ va_pl Ln_94 (pE Pn_95)) := hD
        have hK : va_K (dC, dI) vwQ [(cI, .int), (cO, .object "java/lang/Object"), (cZ, .boolean), (cT, .byte)] s := hK
        refine W.widen (k := (0 + kc_96)) (n := (0 + ks_97)) (by omega) (by omega) ?_
        obtain ⟨rk_98, rk_99, rk_100, rk_101, rk_102, hu_102⟩ := hxt_97.2
        have hkd_107 := hu_102.2.1
        have hX_kv := hkd_107.2
        have hu_103 := hu_102.2.2
        have hex_104 : EXT9 L Pw_58 Ln_94 Pn_95 := hu_103.1
        have hke_105 : KEG [] L Pw_58 Ln_94 Pn_95 := hex_104.keg hak_65
        have hak_106 : GLF Ln_94 Pn_95 cO cI cZ sx_ed := hak_65.txt hex_104 hu_103.2.1
        have hsm_108 := (hex_104 xb hq_68.1).2
        have : Pn_95.bf xb = Pw_58.bf xb := hsm_108.1 0
        have : Pn_95.bs xb = Pw_58.bs xb := hsm_108.1 1
        have hsm_109 := (hex_104 pr_2 hq_69.1).2
        have : Pn_95.ro pr_2 = Pw_58.ro pr_2 := hsm_109.1 0
        have : Pn_95.rt pr_2 = Pw_58.rt pr_2 := hsm_109.1 1
        have : Pn_95.ra pr_2 = Pw_58.ra pr_2 := hsm_109.1 2
        have : Pn_95.rb pr_2 = Pw_58.rb pr_2 := hsm_109.1 3
        have : Pn_95.rA pr_2 = Pw_58.rA pr_2 := hsm_109.1 4
        have : Pn_95.rB pr_2 = Pw_58.rB pr_2 := hsm_109.1 5
        have : Pn_95.rg pr_2 = Pw_58.rg pr_2 := hsm_109.1 6
        have hq_110 : la ∈ Ln_94 ∧ Pn_95.kd la = 30 := hke_105.mem hq_67.1 hq_67.2 (by decide)
        have hq_111 : xb ∈ Ln_94 ∧ Pn_95.kd xb = 12 := hke_105.mem hq_68.1 hq_68.2 (by decide)
        have hq_112 : pr_2 ∈ Ln_94 ∧ Pn_95.kd pr_2 = 17 := hke_105.mem hq_69.1 hq_69.2 (by decide)
        have ha_113 : Pn_95.be xb = pr_2 := hke_105.be hq_68.1 hq_68.2 ha_70
        have hA_114 : KEG [] L P Ln_94 Pn_95 := hA_71.trans hke_105
        have : Pn_95.lz la = Pw_58.lz la := (hex_104 la hq_67.1).2.1 0
        have hek_115 : Pn_95.ek la = 12 := (by rw [hke_105.ek hq_67.1 hq_67.2 (by decide)]; exact hek_72)
        have how_116 : Pn_95.ow la = la := ((hke_105.1 la hq_67.1 (by rw [hq_67.2]; decide)).2.2.2.1 hq_67.2 how_73).1
        have hcz := (((hke_105.1 la hq_67.1 (by rw [hq_67.2]; decide)).2.2.2.1 hq_67.2 how_73).2 (by simp)).1
        have hE_117 : Pn_95.ek pr_2 = 1 := (by rw [hke_105.ek hq_69.1 hq_69.2 (by decide)]; exact hE_74)
        have hX_tx := hu_103.2.2.1
        have hxk9 := hu_103.2.2.2
        have hcx_118 : CHG (fun z => z = xb ∨ z = P.be xb) L P Ln_94 Pn_95 := hcx_75.trans hex_104.chg (fun z m q => q.elim)
        refine lv_aload_n hx hb dX16_end_125 rfl (lv_at hl 0 rfl) ?_
        refine lv_bipush (v := 32) hx hb dX16_end_126 (by decide) ?_
        have hr7 := (hak_106.rok hq_112.1 hq_112.2).n7
        refine lv_topi (fun z ez => ?_)
        obtain rfl : z = zI (32) := ez
        obtain ⟨kp_119, gkp_119⟩ := va_pl_get (X := [(q_gp, .inl (cI, mg, .inl (fun j : Nat => zI (a_gp (j : Int))))), (q_gs, .inl (cI, ng, .inl (fun j : Nat => zI (a_gs (j : Int))))), (h0, .inr (14, [.ref q_t, .int (zI (z16_n)), .int (zI (z0_88)), .int (zI (z1_89)), .int (zI (z2_90)), .int (zI (z3_91)), .int (zI (z4_92)), .ref q5_93, v16_8, v16_9, v16_10, .ref q_gp, .ref q_gs, .int (zI (z16_goalN))])), (q_t, .inl (cT, 8192, .inl (fun j : Nat => zI (a_t (j : Int)))))]) (f := pE Pn_95) hq_112.1
        have hkp_119 := gkp_119
        rw [pE_row hq_112.2] at hkp_119
        have hD0 := hD
        refine va_put (D := (dC, dI)) (ci := 21) (v := .int (zI (32))) (ty := .int) (C := RX17) (T := TX17) (N := 7) hx hb hts mem_X16_endM_1 tyX17 tyX17_ok nmX17 hown hK hP hD hS kp_119 hkp_119 rfl 0 (by decide) (ow (k := 16) rfl) (fun _ h9 => h9) rfl (by decide +kernel) rfl rfl (by first | exact Nat.le_of_ble_eq_true rfl | exact (show (0 + kc_96) ≤ (14 * (z16_n - z16_at) + 4 * z16_goalN + 120).toNat from (by omega)) | exact (show (0 + ks_97) ≤ (120 * (z16_n - z16_at) + 16 * z16_goalN + 700).toNat from (by omega))) dX16_end_128 (fun H locs hP hD hS => ?_)
        obtain ⟨Pw_120, ePw_120⟩ : ∃ q9 : PO, q9 = Pn_95.rw9 0 pr_2 (32) := ⟨_, rfl⟩
        have eU : (([(q_gp, .inl (cI, mg, .inl (fun j : Nat => zI (a_gp (j : Int))))), (q_gs, .inl (cI, ng, .inl (fun j : Nat => zI (a_gs (j : Int))))), (h0, .inr (14, [.ref q_t, .int (zI (z16_n)), .int (zI (z0_88)), .int (zI (z1_89)), .int (zI (z2_90)), .int (zI (z3_91)), .int (zI (z4_92)), .ref q5_93, v16_8, v16_9, v16_10, .ref q_gp, .ref q_gs, .int (zI (z16_goalN))])), (q_t, .inl (cT, 8192, .inl (fun j : Nat => zI (a_t (j : Int)))))] : va_W) ++ va_pl Ln_94 (pE Pn_95)).set kp_119 (pr_2, rowE (32) (Pn_95.rt pr_2) (Pn_95.ra pr_2) (Pn_95.rb pr_2) (Pn_95.rA pr_2) (Pn_95.rB pr_2) (Pn_95.rg pr_2)) = ([(q_gp, .inl (cI, mg, .inl (fun j : Nat => zI (a_gp (j : Int))))), (q_gs, .inl (cI, ng, .inl (fun j : Nat => zI (a_gs (j : Int))))), (h0, .inr (14, [.ref q_t, .int (zI (z16_n)), .int (zI (z0_88)), .int (zI (z1_89)), .int (zI (z2_90)), .int (zI (z3_91)), .int (zI (z4_92)), .ref q5_93, v16_8, v16_9, v16_10, .ref q_gp, .ref q_gs, .int (zI (z16_goalN))])), (q_t, .inl (cT, 8192, .inl (fun j : Nat => zI (a_t (j : Int)))))] : va_W) ++ va_pl Ln_94 (pE Pw_120) := (by rw [va_pl_set hD0 hq_112.1 gkp_119, ePw_120]; exact congrArg (fun f9 => ([(q_gp, .inl (cI, mg, .inl (fun j : Nat => zI (a_gp (j : Int))))), (q_gs, .inl (cI, ng, .inl (fun j : Nat => zI (a_gs (j : Int))))), (h0, .inr (14, [.ref q_t, .int (zI (z16_n)), .int (zI (z0_88)), .int (zI (z1_89)), .int (zI (z2_90)), .int (zI (z3_91)), .int (zI (z4_92)), .ref q5_93, v16_8, v16_9, v16_10, .ref q_gp, .ref q_gs, .int (zI (z16_goalN))])), (q_t, .inl (cT, 8192, .inl (fun j : Nat => zI (a_t (j : Int)))))] : va_W) ++ va_pl Ln_94 f9) (put17_0 hq_112.2))
        have hP : va_P (dC, dI) vwQ ([(q_gp, .inl (cI, mg, .inl (fun j : Nat => zI (a_gp (j : Int))))), (q_gs, .inl (cI, ng, .inl (fun j : Nat => zI (a_gs (j : Int))))), (h0, .inr (14, [.ref q_t, .int (zI (z16_n)), .int (zI (z0_88)), .int (zI (z1_89)), .int (zI (z2_90)), .int (zI (z3_91)), .int (zI (z4_92)), .ref q5_93, v16_8, v16_9, v16_10, .ref q_gp, .ref q_gs, .int (zI (z16_goalN))])), (q_t, .inl (cT, 8192, .inl (fun j : Nat => zI (a_t (j : Int)))))] ++ va_pl Ln_94 (pE Pw_120)) H := (by rw [← eU]; exact hP)
        have hD : va_D A ([(q_gp, .inl (cI, mg, .inl (fun j : Nat => zI (a_gp (j : Int))))), (q_gs, .inl (cI, ng, .inl (fun j : Nat => zI (a_gs (j : Int))))), (h0, .inr (14, [.ref q_t, .int (zI (z16_n)), .int (zI (z0_88)), .int (zI (z1_89)), .int (zI (z2_90)), .int (zI (z3_91)), .int (zI (z4_92)), .ref q5_93, v16_8, v16_9, v16_10, .ref q_gp, .ref q_gs, .int (zI (z16_goalN))])), (q_t, .inl (cT, 8192, .inl (fun j : Nat => zI (a_t (j : Int)))))] ++ va_pl Ln_94 (pE Pw_120)) := (by rw [← eU]; exact hD)
        clear eU hD0 gkp_119 hkp_119
        have wPw_120 : RW1 pr_2 Pn_95 Pw_120 := (by rw [ePw_120]; exact RW1.put _ _ _ _)
        have hy_121 : Pw_120.kd la = 30 := (by rw [ePw_120]; exact hq_110.2)
        have hy_122 : Pw_120.kd xb = 12 := (by rw [ePw_120]; exact hq_111.2)
        have : Pw_120.bf xb = Pn_95.bf xb := wPw_120.2 _ (kd_ne hq_111.2 hq_112.2 (by decide)) _
        have : Pw_120.bs xb = Pn_95.bs xb := wPw_120.2 _ (kd_ne hq_111.2 hq_112.2 (by decide)) _
        have hy_123 : Pw_120.kd pr_2 = 17 := (by rw [ePw_120]; exact hq_112.2)
        have : Pw_120.ro pr_2 = 32 := (by rw [ePw_120]; exact rw9_at _ _ _ _)
        have : Pw_120.rt pr_2 = Pn_95.rt pr_2 := (by rw [ePw_120]; exact rw9_of _ (by decide))
        have : Pw_120.ra pr_2 = Pn_95.ra pr_2 := (by rw [ePw_120]; exact rw9_of _ (by decide))
        have : Pw_120.rb pr_2 = Pn_95.rb pr_2 := (by rw [ePw_120]; exact rw9_of _ (by decide))
        have : Pw_120.rA pr_2 = Pn_95.rA pr_2 := (by rw [ePw_120]; exact rw9_of _ (by decide))
        have : Pw_120.rB pr_2 = Pn_95.rB pr_2 := (by rw [ePw_120]; exact rw9_of _ (by decide))
        have : Pw_120.rg pr_2 = Pn_95.rg pr_2 := (by rw [ePw_120]; exact rw9_of _ (by decide))
        have ha_124 : Pw_120.be xb = pr_2 := (by rw [ePw_120]; exact ha_113)
        have hW_125 : RW1 pr_2 Pn_95 Pw_120 := wPw_120
        have hrw_128 : RWD Pn_95 Pw_120 := hW_125.rwd (Or.inl hq_112.2)
        have hak_127 : GLF Ln_94 Pw_120 cO cI cZ sx_ed := hak_106.row hW_125 hq_112.2 (ROK9.of (by omega) (by omega) (by omega) (by omega) (by omega) (by omega) (by omega) (uaZ (by omega)) (ubG (by omega))) (fun e9 => by have q9 := hak_106.op21 hq_112.1 hq_112.2 e9; omega)
        have hke_126 : KEG [] Ln_94 Pn_95 Ln_94 Pw_120 := hrw_128.keg _ hq_110.2
        have hq_129 : la ∈ Ln_94 ∧ Pw_120.kd la = 30 := hke_126.mem hq_110.1 hq_110.2 (by decide)
        have hq_130 : xb ∈ Ln_94 ∧ Pw_120.kd xb = 12 := hke_126.mem hq_111.1 hq_111.2 (by decide)
        have hq_131 : pr_2 ∈ Ln_94 ∧ Pw_120.kd pr_2 = 17 := hke_126.mem hq_112.1 hq_112.2 (by decide)
        have ha_132 : Pw_120.be xb = pr_2 := hke_126.be hq_111.1 hq_111.2 ha_113
        have hA_133 : KEG [] L P Ln_94 Pw_120 := hA_114.trans hke_126
        have : Pw_120.lz la = Pn_95.lz la := hrw_128.lz hq_110.2
        have : Pw_120.cap la = Pn_95.cap la := hW_125.cap la
        have hek_134 : Pw_120.ek la = 12 := (by rw [hke_126.ek hq_110.1 hq_110.2 (by decide)]; exact hek_115)
        have how_135 : Pw_120.ow la = la := ((hke_126.1 la hq_110.1 (by rw [hq_110.2]; decide)).2.2.2.1 hq_110.2 how_116).1
        have hcz := (((hke_126.1 la hq_110.1 (by rw [hq_110.2]; decide)).2.2.2.1 hq_110.2 how_116).2 (by simp)).1
        have hE_136 : Pw_120.ek pr_2 = 1 := (by rw [hke_126.ek hq_112.1 hq_112.2 (by decide)]; exact hE_117)
        have hX_tx := hX_tx.rw1 hW_125 (Or.inl hq_112.2)
        have hcx_137 : CHG (fun z => z = xb ∨ z = P.be xb) L P Ln_94 Pw_120 := hcx_118.trans (hW_125.chg _) (fun z m q => Or.inr (q.trans epr_2))
        have hsm_138 := (hW_125.chg Ln_94 xb hq_130.1 (fun e9 => absurd e9 (kd_ne hq_130.2 hq_131.2 (by decide)))).2
        have : Pw_120.bf xb = Pn_95.bf xb := hsm_138.1 0
        have : Pw_120.bs xb = Pn_95.bs xb := hsm_138.1 1
        refine lv_aload_n hx hb dX16_end_131 rfl (lv_at hl 1 rfl) ?_
        refine lv_aload_n hx hb dX16_end_132 rfl (lv_at hl 0 rfl) ?_
        refine lv_iconst (v := 0) hx hb dX16_end_133 (by decide) ?_
        have hX_g := hak_127
        have hX_x := hq_131.1
        have hX_k := hq_131.2
        have hX_la := (show la ∈ Ln_94 ∧ Pw_120.kd la = 30 ∧ Pw_120.ek la = 12 ∧ Pw_120.ow la = la from ⟨hq_129.1, hq_129.2, hek_134, how_135⟩)
        have hPc := hP.part (X := [(q_gp, .inl (cI, mg, .inl (fun j : Nat => zI (a_gp (j : Int))))), (q_gs, .inl (cI, ng, .inl (fun j : Nat => zI (a_gs (j : Int))))), (h0, .inr (14, [.ref q_t, .int (zI (z16_n)), .int (zI (z0_88)), .int (zI (z1_89)), .int (zI (z2_90)), .int (zI (z3_91)), .int (zI (z4_92)), .ref q5_93, v16_8, v16_9, v16_10, .ref q_gp, .ref q_gs, .int (zI (z16_goalN))])), (q_t, .inl (cT, 8192, .inl (fun j : Nat => zI (a_t (j : Int)))))]) (cx := [(h0, .inr (14, [.ref q_t, .int (zI (z16_n)), .int (zI (z0_88)), .int (zI (z1_89)), .int (zI (z2_90)), .int (zI (z3_91)), .int (zI (z4_92)), .ref q5_93, v16_8, v16_9, v16_10, .ref q_gp, .ref q_gs, .int (zI (z16_goalN))])), (q_t, .inl (cT, 8192, .inl (fun j : Nat => zI (a_t (j : Int)))))]) (pl := va_pl Ln_94 (pE Pw_120)) [2, 3] rfl
        have hDc := hD.part (X := [(q_gp, .inl (cI, mg, .inl (fun j : Nat => zI (a_gp (j : Int))))), (q_gs, .inl (cI, ng, .inl (fun j : Nat => zI (a_gs (j : Int))))), (h0, .inr (14, [.ref q_t, .int (zI (z16_n)), .int (zI (z0_88)), .int (zI (z1_89)), .int (zI (z2_90)), .int (zI (z3_91)), .int (zI (z4_92)), .ref q5_93, v16_8, v16_9, v16_10, .ref q_gp, .ref q_gs, .int (zI (z16_goalN))])), (q_t, .inl (cT, 8192, .inl (fun j : Nat => zI (a_t (j : Int)))))]) (cx := [(h0, .inr (14, [.ref q_t, .int (zI (z16_n)), .int (zI (z0_88)), .int (zI (z1_89)), .int (zI (z2_90)), .int (zI (z3_91)), .int (zI (z4_92)), .ref q5_93, v16_8, v16_9, v16_10, .ref q_gp, .ref q_gs, .int (zI (z16_goalN))])), (q_t, .inl (cT, 8192, .inl (fun j : Nat => zI (a_t (j : Int)))))]) (pl := va_pl Ln_94 (pE Pw_120)) [2, 3] (by decide) rfl
        have hKc := hK.sub (tys' := [(cT, .byte), (cO, .object "java/lang/Object"), (cI, .int), (cZ, .boolean)]) [3, 1, 0, 2] rfl
        have hFc := va_freeP (X := [(q_gp, .inl (cI, mg, .inl (fun j : Nat => zI (a_gp (j : Int))))), (q_gs, .inl (cI, ng, .inl (fun j : Nat => zI (a_gs (j : Int))))), (h0, .inr (14, [.ref q_t, .int (zI (z16_n)), .int (zI (z0_88)), .int (zI (z1_89)), .int (zI (z2_90)), .int (zI (z3_91)), .int (zI (z4_92)), .ref q5_93, v16_8, v16_9, v16_10, .ref q_gp, .ref q_gs, .int (zI (z16_goalN))])), (q_t, .inl (cT, 8192, .inl (fun j : Nat => zI (a_t (j : Int)))))]) (cx := [(h0, .inr (14, [.ref q_t, .int (zI (z16_n)), .int (zI (z0_88)), .int (zI (z1_89)), .int (zI (z2_90)), .int (zI (z3_91)), .int (zI (z4_92)), .ref q5_93, v16_8, v16_9, v16_10, .ref q_gp, .ref q_gs, .int (zI (z16_goalN))])), (q_t, .inl (cT, 8192, .inl (fun j : Nat => zI (a_t (j : Int)))))]) (pl := va_pl Ln_94 (pE Pw_120)) hD hS hA [2, 3] rfl
        refine W_knowS (fun hrmA => ?_)
        refine vx_callv (vx_runV (As := [.ref pr_2, .int 0]) (rest := []) ⟨hx, hb, hml, hown, hts⟩ (c_X16_opAM l dC dI cI cZ h0 z16_n z0_88 z1_89 z2_90 z3_91 z4_92 v16_8 v16_9 v16_10 (.ref q_gp) (.ref q_gs) (.int (zI (z16_goalN))) q_t cT a_t q5_93 Ln_94 Pw_120 sa_RX16_9 cO la sx_ed pr_2 (by omega) (by omega) (by omega) (by omega) (by omega) (by omega) hR_a_t hX_g hX_la hX_x hX_k (by omega) hX_kv H.size sv_RX16_9 sa_RX16_119 sv_RX16_119 sa_RX16_100 sv_RX16_100 sa_RX16_117 sv_RX16_117 sa_RX16_98 sv_RX16_98 H) (cwV 2 hts g_X16_endM_X16_opAM rfl rfl rfl (by decide +kernel) ⟨(Nat.le_of_ble_eq_true rfl), (Nat.le_of_ble_eq_true rfl)⟩) ⟨fun a U g mk q => by obtain ⟨q0, q1, qP, qK, qD, e0, e1, e2, e3, e4, e5, e6, e7, e8, e9, e10, e11, e12, e13, e14⟩ := q; exact ⟨q0, q1, qP, va_K.moved (u := U) (U := U.calling g mk a) (Vm.Alike.refl U.vm) qK, qD, vk_R.same (u := U) (U := U.calling g mk a) rfl e0, va_Z.moved (u := U) (U := U.calling g mk a) (Vm.Alike.refl U.vm) e1, vs_S.moved (u := U) (U := U.calling g mk a) (Vm.Alike.refl U.vm) e2, va_Nw.same rfl (u := U) (U := U.calling g mk a) rfl e3, vk_R.same (u := U) (U := U.calling g mk a) rfl e4, vs_S.moved (u := U) (U := U.calling g mk a) (Vm.Alike.refl U.vm) e5, vs_S.moved (u := U) (U := U.calling g mk a) (Vm.Alike.refl U.vm) e6, vk_R.same (u := U) (U := U.calling g mk a) rfl e7, vk_R.same (u := U) (U := U.calling g mk a) rfl e8, vs_S.moved (u := U) (U := U.calling g mk a) (Vm.Alike.refl U.vm) e9, vk_R.same (u := U) (U := U.calling g mk a) rfl e10, vs_S.moved (u := U) (U := U.calling g mk a) (Vm.Alike.refl U.vm) e11, e12, vx_Zq.moved (u := U) (U := U.calling g mk a) (Vm.Alike.refl U.vm) e13, vx_Zq.moved (u := U) (U := U.calling g mk a) (Vm.Alike.refl U.vm) e14⟩, va_recv hKc hPc (ci := 14) (q0 := 0) rfl rfl, fun U hU hW => ⟨rfl, by rw [hU], by rw [hU]; exact hPc, va_K.moved hW.alike hKc, hDc.weaken (fun _ _ _ _ => trivial), vk_R.warm hW hp11, by rw [hU]; exact va_Z.narrow (va_Z.moved hW.alike (va_Z.kept hp3 hS.2.1)) hFc, by rw [hU]; exact vs_S.narrow (vs_S.moved hW.alike (vs_S.kept hp2 hS.2.1)) hFc, va_Nw.warmC hW hp12, vk_R.warm hW hp13, by rw [hU]; exact vs_S.narrow (vs_S.moved hW.alike (vs_S.kept hp14 hS.2.1)) hFc, by rw [hU]; exact vs_S.narrow (vs_S.moved hW.alike (vs_S.kept hp15 hS.2.1)) hFc, vk_R.warm hW hp16, vk_R.warm hW hp17, by rw [hU]; exact vs_S.narrow (vs_S.moved hW.alike (vs_S.kept hp18 hS.2.1)) hFc, vk_R.warm hW hp19, by rw [hU]; exact vs_S.narrow (vs_S.moved hW.alike (vs_S.kept hp20 hS.2.1)) hFc, hU, by rw [hU]; exact vx_Zq.narrow (vx_Zq.moved hW.alike (vx_Zq.kept hp8 hS.2.1)) hFc, by rw [hU]; exact vx_Zq.narrow (vx_Zq.moved hW.alike (vx_Zq.kept hp9 hS.2.1)) hFc⟩⟩ rfl rfl hl.1 rfl (lv_room (Nat.le_of_ble_eq_true rfl)) dX16_end_134 ⟨(show (0 + kc_96) + ((13 * (z16_n - z0_88) + 20).toNat) ≤ (14 * (z16_n - z16_at) + 4 * z16_goalN + 120).toNat from (by omega)), (show (0 + ks_97) + ((110 * (z16_n - z0_88) + 120).toNat) ≤ (120 * (z16_n - z16_at) + 16 * z16_goalN + 700).toNat from (by omega))⟩) hS (fun q _ h => hFc q h) hFc (fun q _ h => hFc q h) (fun E ce q9 u t H1 locs ht hvm _ hB hz1 hk1 hS hce hcv hcl => ?_) (fun  u t H1 locs ht hvm hw hB hz1 hk1 hS => ?_)
        · obtain ⟨rfl, zp_139, Ln_140, Pn_141, kc_142, ks_143, hxt_144, hP1, hD1⟩ := hB
          rw [ht] at hP1
          obtain ⟨hP, hD⟩ := va_joinP (X := [(q_gp, .inl (cI, mg, .inl (fun j : Nat => zI (a_gp (j : Int))))), (q_gs, .inl (cI, ng, .inl (fun j : Nat => zI (a_gs (j : Int))))), (h0, .inr (14, [.ref q_t, .int (zI (z16_n)), .int (zI (z0_88)), .int (zI (z1_89)), .int (zI (z2_90)), .int (zI (z3_91)), .int (zI (z4_92)), .ref q5_93, v16_8, v16_9, v16_10, .ref q_gp, .ref q_gs, .int (zI (z16_goalN))])), (q_t, .inl (cT, 8192, .inl (fun j : Nat => zI (a_t (j : Int)))))]) (cx := [(h0, .inr (14, [.ref q_t, .int (zI (z16_n)), .int (zI (z0_88)), .int (zI (z1_89)), .int (zI (z2_90)), .int (zI (z3_91)), .int (zI (z4_92)), .ref q5_93, v16_8, v16_9, v16_10, .ref q_gp, .ref q_gs, .int (zI (z16_goalN))])), (q_t, .inl (cT, 8192, .inl (fun j : Nat => zI (a_t (j : Int)))))]) (wr := [(q_gp, .inl (cI, mg, .inl (fun j : Nat => zI (a_gp (j : Int))))), (q_gs, .inl (cI, ng, .inl (fun j : Nat => zI (a_gs (j : Int)))))]) (rx := [(q_t, .inl (cT, 8192, .inl (fun j : Nat => zI (a_t (j : Int))))), (q9, .inr (15, [.null, .null, .null, .null, .null, .int 0, .int (zI (zp_139))]))]) (pl := va_pl Ln_94 (pE Pw_120)) (pl1 := va_pl Ln_140 (pE Pn_141)) hP hD [2, 3] [0, 1] rfl rfl (by decide) (by decide) hk1 hFc hP1 hD1
          have hrmC := hxt_144.1.1
          rw [ht] at hrmC
          refine vx_tightS (hrmA.trans hrmC) ?_
          have hrb := hxt_144.1.2
          generalize H1 = H at hP hS hce ⊢
          have hP : va_P (dC, dI) vwQ ([(q_gp, .inl (cI, mg, .inl (fun j : Nat => zI (a_gp (j : Int))))), (q_gs, .inl (cI, ng, .inl (fun j : Nat => zI (a_gs (j : Int))))), (q_t, .inl (cT, 8192, .inl (fun j : Nat => zI (a_t (j : Int))))), (q9, .inr (15, [.null, .null, .null, .null, .null, .int 0, .int (zI (zp_139))]))] ++ va_pl Ln_140 (pE Pn_141)) H := hP
          have hD : va_D A ([(q_gp, .inl (cI, mg, .inl (fun j : Nat => zI (a_gp (j : Int))))), (q_gs, .inl (cI, ng, .inl (fun j : Nat => zI (a_gs (j : Int))))), (q_t, .inl (cT, 8192, .inl (fun j : Nat => zI (a_t (j : Int))))), (q9, .inr (15, [.null, .null, .null, .null, .null, .int 0, .int (zI (zp_139))]))] ++ va_pl Ln_140 (pE Pn_141)) := hD
          have hzp : 0 ≤ zp_139 ∧ zp_139 ≤ 8192 := hxt_144.2.1
          subst hQ
          have hP := hP.part (X := [(q_gp, .inl (cI, mg, .inl (fun j : Nat => zI (a_gp (j : Int))))), (q_gs, .inl (cI, ng, .inl (fun j : Nat => zI (a_gs (j : Int))))), (q_t, .inl (cT, 8192, .inl (fun j : Nat => zI (a_t (j : Int))))), (q9, .inr (15, [.null, .null, .null, .null, .null, .int 0, .int (zI (zp_139))]))]) (cx := [(q_t, .inl (cT, 8192, .inl (fun j : Nat => zI (a_t (j : Int))))), (q9, .inr (15, [.null, .null, .null, .null, .null, .int 0, .int (zI (zp_139))]))]) (pl := va_pl Ln_140 (pE Pn_141)) [2, 3] rfl
          have hD := hD.part (X := [(q_gp, .inl (cI, mg, .inl (fun j : Nat => zI (a_gp (j : Int))))), (q_gs, .inl (cI, ng, .inl (fun j : Nat => zI (a_gs (j : Int))))), (q_t, .inl (cT, 8192, .inl (fun j : Nat => zI (a_t (j : Int))))), (q9, .inr (15, [.null, .null, .null, .null, .null, .int 0, .int (zI (zp_139))]))]) (cx := [(q_t, .inl (cT, 8192, .inl (fun j : Nat => zI (a_t (j : Int))))), (q9, .inr (15, [.null, .null, .null, .null, .null, .int 0, .int (zI (zp_139))]))]) (pl := va_pl Ln_140 (pE Pn_141)) [2, 3] (by decide) rfl
          refine vx_knowS (fun hrm9 => ?_)
          refine vx_widen (k := ((14 * (z16_n - z16_at) + 4 * z16_goalN + 120).toNat)) (n := ((120 * (z16_n - z16_at) + 16 * z16_goalN + 700).toNat)) (by omega) (by omega) ?_
          exact vx_out (fun x9 h9 => (hnt x9 h9).elim) hlocks hce hcv hcl (fun t ht hvm => ⟨(), trivial, ⟨rfl, zp_139, Ln_140, Pn_141, ((0 + kc_96) + kc_142), ((0 + ks_97) + ks_143), ⟨⟨(by rw [ht, ← hp10]; exact hrm9), (by omega)⟩, ⟨(by omega), ⟨hA_133.trans hxt_144.2.2.1, hxt_144.2.2.2.1, (hcx_137.cpa hg00.owa (fun z _ q => by rcases (show z = xb ∨ z = P.be xb from q) with q | q; rw [q, hX_bk]; decide; rw [q, (hg00.gb hX_b hX_bk).1.2.1]; decide)).trans hA_133 hxt_144.2.2.2.2⟩⟩⟩, by rw [ht]; exact hP, hD⟩, hS.F ht⟩) hS.2.2 (Nat.le_refl _) (Nat.le_refl _)
        obtain ⟨z0_145, z1_146, z2_147, z3_148, z4_149, q5_150, Ln_151, Pn_152, kc_153, ks_154, hxt_154, hP1, hK1, hD1⟩ := hB
        rw [ht] at hP1
        have hK1 := va_K.moved hvm.symm hK1
        obtain ⟨hP, hD⟩ := va_joinP (X := [(q_gp, .inl (cI, mg, .inl (fun j : Nat => zI (a_gp (j : Int))))), (q_gs, .inl (cI, ng, .inl (fun j : Nat => zI (a_gs (j : Int))))), (h0, .inr (14, [.ref q_t, .int (zI (z16_n)), .int (zI (z0_88)), .int (zI (z1_89)), .int (zI (z2_90)), .int (zI (z3_91)), .int (zI (z4_92)), .ref q5_93, v16_8, v16_9, v16_10, .ref q_gp, .ref q_gs, .int (zI (z16_goalN))])), (q_t, .inl (cT, 8192, .inl (fun j : Nat => zI (a_t (j : Int)))))]) (cx := [(h0, .inr (14, [.ref q_t, .int (zI (z16_n)), .int (zI (z0_88)), .int (zI (z1_89)), .int (zI (z2_90)), .int (zI (z3_91)), .int (zI (z4_92)), .ref q5_93, v16_8, v16_9, v16_10, .ref q_gp, .ref q_gs, .int (zI (z16_goalN))])), (q_t, .inl (cT, 8192, .inl (fun j : Nat => zI (a_t (j : Int)))))]) (wr := [(q_gp, .inl (cI, mg, .inl (fun j : Nat => zI (a_gp (j : Int))))), (q_gs, .inl (cI, ng, .inl (fun j : Nat => zI (a_gs (j : Int)))))]) (rx := [(h0, .inr (14, [.ref q_t, .int (zI (z16_n)), .int (zI (z0_145)), .int (zI (z1_146)), .int (zI (z2_147)), .int (zI (z3_148)), .int (zI (z4_149)), .ref q5_150, v16_8, v16_9, v16_10, .ref q_gp, .ref q_gs, .int (zI (z16_goalN))])), (q_t, .inl (cT, 8192, .inl (fun j : Nat => zI (a_t (j : Int)))))]) (pl := va_pl Ln_94 (pE Pw_120)) (pl1 := va_pl Ln_151 (pE Pn_152)) hP hD [2, 3] [0, 1] rfl rfl (by decide) (by decide) hk1 hFc hP1 hD1
        have hK := (hK.sub (tys' := [(cI, .int)]) [0] rfl).app hK1
        have hrmC := hxt_154.1.1
        rw [ht] at hrmC
        refine W_tightS (hrmA.trans hrmC) ?_
        have hrb := hxt_154.1.2
        generalize H1 = H at hP hS ⊢
        have hP : va_P (dC, dI) vwQ ([(q_gp, .inl (cI, mg, .inl (fun j : Nat => zI (a_gp (j : Int))))), (q_gs, .inl (cI, ng, .inl (fun j : Nat => zI (a_gs (j : Int))))), (h0, .inr (14, [.ref q_t, .int (zI (z16_n)), .int (zI (z0_145)), .int (zI (z1_146)), .int (zI (z2_147)), .int (zI (z3_148)), .int (zI (z4_149)), .ref q5_150, v16_8, v16_9, v16_10, .ref q_gp, .ref q_gs, .int (zI (z16_goalN))])), (q_t, .inl (cT, 8192, .inl (fun j : Nat => zI (a_t (j : Int)))))] ++ va_pl Ln_151 (pE Pn_152)) H := hP
        have hD : va_D A ([(q_gp, .inl (cI, mg, .inl (fun j : Nat => zI (a_gp (j : Int))))), (q_gs, .inl (cI, ng, .inl (fun j : Nat => zI (a_gs (j : Int))))), (h0, .inr (14, [.ref q_t, .int (zI (z16_n)), .int (zI (z0_145)), .int (zI (z1_146)), .int (zI (z2_147)), .int (zI (z3_148)), .int (zI (z4_149)), .ref q5_150, v16_8, v16_9, v16_10, .ref q_gp, .ref q_gs, .int (zI (z16_goalN))])), (q_t, .inl (cT, 8192, .inl (fun j : Nat => zI (a_t (j : Int)))))] ++ va_pl Ln_151 (pE Pn_152)) := hD
        have hK : va_K (dC, dI) vwQ [(cI, .int), (cT, .byte), (cO, .object "java/lang/Object"), (cI, .int), (cZ, .boolean)] s := hK
        refine W.widen (k := ((0 + kc_96) + kc_153)) (n := ((0 + ks_97) + ks_154)) (by omega) (by omega) ?_
        obtain ⟨rk_155, rk_156, rk_157, rk_158, rk_159, hu_159⟩ := hxt_154.2
        have hu_160 := hu_159
        have hsm_161 := (hu_160.2.2.2.1 xb hq_130.1 (fun e9 => absurd e9 (kd_ne hq_130.2 hq_131.2 (by decide)))).2
        have : Pn_152.bf xb = Pw_120.bf xb := hsm_161.1 0
        have : Pn_152.bs xb = Pw_120.bs xb := hsm_161.1 1
        have hoc9 := hu_160.2.2.1.2
        have hoq9 : OPQ (Pn_152.rA pr_2) (Pn_152.ra pr_2) := hu_160.2.2.1.1
        have hgo9 := hkd_107.go (by omega)
        have hkd_162 := hu_160.2.2.2.2.2.1
        have hX_kv := hkd_162.2
        have hq_163 : la ∈ Ln_151 ∧ Pn_152.kd la = 30 := hu_160.1.mem hq_129.1 hq_129.2 (by decide)
        have hq_164 : xb ∈ Ln_151 ∧ Pn_152.kd xb = 12 := hu_160.1.mem hq_130.1 hq_130.2 (by decide)
        have hq_165 : pr_2 ∈ Ln_151 ∧ Pn_152.kd pr_2 = 17 := hu_160.1.mem hq_131.1 hq_131.2 (by decide)
        have ha_166 : Pn_152.be xb = pr_2 := hu_160.1.be hq_130.1 hq_130.2 ha_132
        have hA_167 : KEG [] L P Ln_151 Pn_152 := hA_133.trans hu_160.1
        have : Pn_152.lz la = Pw_120.lz la := (hu_160.2.2.2.1 la hq_129.1 (fun e9 => absurd e9 (kd_ne hq_129.2 hq_131.2 (by decide)))).2.1 0
        have hek_168 : Pn_152.ek la = 12 := (by rw [hu_160.1.ek hq_129.1 hq_129.2 (by decide)]; exact hek_134)
        have how_169 : Pn_152.ow la = la := ((hu_160.1.1 la hq_129.1 (by rw [hq_129.2]; decide)).2.2.2.1 hq_129.2 how_135).1
        have hcz := (((hu_160.1.1 la hq_129.1 (by rw [hq_129.2]; decide)).2.2.2.1 hq_129.2 how_135).2 (by simp)).1
        have hE_170 : Pn_152.ek pr_2 = 1 := (by rw [hu_160.1.ek hq_131.1 hq_131.2 (by decide)]; exact hE_136)
        have hX_tx := hu_160.2.2.2.2.2.2.1
        have hxk9 := hu_160.2.2.2.2.2.2.2
        have hcx_171 : CHG (fun z => z = xb ∨ z = P.be xb) L P Ln_151 Pn_152 := hcx_137.trans hu_160.2.2.2.1 (fun z m q => Or.inr (q.trans epr_2))
        refine lv_goto (tgt := 145) hx hb dX16_end_137 (by decide) ?_
        subst hQ
        have hP := hP.part (X := [(q_gp, .inl (cI, mg, .inl (fun j : Nat => zI (a_gp (j : Int))))), (q_gs, .inl (cI, ng, .inl (fun j : Nat => zI (a_gs (j : Int))))), (h0, .inr (14, [.ref q_t, .int (zI (z16_n)), .int (zI (z0_145)), .int (zI (z1_146)), .int (zI (z2_147)), .int (zI (z3_148)), .int (zI (z4_149)), .ref q5_150, v16_8, v16_9, v16_10, .ref q_gp, .ref q_gs, .int (zI (z16_goalN))])), (q_t, .inl (cT, 8192, .inl (fun j : Nat => zI (a_t (j : Int)))))]) (cx := [(h0, .inr (14, [.ref q_t, .int (zI (z16_n)), .int (zI (z0_145)), .int (zI (z1_146)), .int (zI (z2_147)), .int (zI (z3_148)), .int (zI (z4_149)), .ref q5_150, v16_8, v16_9, v16_10, .ref q_gp, .ref q_gs, .int (zI (z16_goalN))])), (q_t, .inl (cT, 8192, .inl (fun j : Nat => zI (a_t (j : Int))))), (q_gp, .inl (cI, mg, .inl (fun j : Nat => zI (a_gp (j : Int))))), (q_gs, .inl (cI, ng, .inl (fun j : Nat => zI (a_gs (j : Int)))))]) (pl := va_pl Ln_151 (pE Pn_152)) [2, 3, 0, 1] rfl
        have hD := hD.part (X := [(q_gp, .inl (cI, mg, .inl (fun j : Nat => zI (a_gp (j : Int))))), (q_gs, .inl (cI, ng, .inl (fun j : Nat => zI (a_gs (j : Int))))), (h0, .inr (14, [.ref q_t, .int (zI (z16_n)), .int (zI (z0_145)), .int (zI (z1_146)), .int (zI (z2_147)), .int (zI (z3_148)), .int (zI (z4_149)), .ref q5_150, v16_8, v16_9, v16_10, .ref q_gp, .ref q_gs, .int (zI (z16_goalN))])), (q_t, .inl (cT, 8192, .inl (fun j : Nat => zI (a_t (j : Int)))))]) (cx := [(h0, .inr (14, [.ref q_t, .int (zI (z16_n)), .int (zI (z0_145)), .int (zI (z1_146)), .int (zI (z2_147)), .int (zI (z3_148)), .int (zI (z4_149)), .ref q5_150, v16_8, v16_9, v16_10, .ref q_gp, .ref q_gs, .int (zI (z16_goalN))])), (q_t, .inl (cT, 8192, .inl (fun j : Nat => zI (a_t (j : Int))))), (q_gp, .inl (cI, mg, .inl (fun j : Nat => zI (a_gp (j : Int))))), (q_gs, .inl (cI, ng, .inl (fun j : Nat => zI (a_gs (j : Int)))))]) (pl := va_pl Ln_151 (pE Pn_152)) [2, 3, 0, 1] (by decide) rfl
        have hK := hK.sub (tys' := [(cT, .byte), (cI, .int), (cO, .object "java/lang/Object"), (cZ, .boolean)]) [1, 0, 2, 4] rfl
        refine W_knowS (fun hrm9 => ?_)
        refine W.widen (k := ((14 * (z16_n - z16_at) + 4 * z16_goalN + 120).toNat)) (n := ((120 * (z16_n - z16_at) + 16 * z16_goalN + 700).toNat)) (by omega) (by omega) ?_
        refine vx_ret ?_
        exact W.vret hx hb hr (fun t ht hW => ⟨⟨(), rfl, trivial, z0_145, z1_146, z2_147, z3_148, z4_149, q5_150, z16_goalN, q_gp, mg, a_gp, q_gs, ng, a_gs, Ln_151, Pn_152, ((0 + kc_96) + kc_153), ((0 + ks_97) + ks_154), ⟨⟨(by rw [ht, ← hp10]; exact hrm9), (by omega)⟩, ⟨(by omega), (by omega), (by omega), (by omega), (by omega), (by omega), hR_a_gp, hR_a_gs, ⟨hA_167, hu_160.2.1, ⟨(hkd_162.mono (by omega)).ms (by omega) (by omega) (by omega), by omega⟩, hcx_171, ⟨by omega, by omega, by omega, by omega, by omega, by omega, by omega, (by unfold GRW; omega)⟩, (fun _ _ _ => rfl), (Or.inl (by omega)), (Or.inl (by omega)), (by rw [← epr_2]; omega), ⟨by omega, by omega, by omega⟩, hkd_162.mono (by omega), hX_tx⟩⟩⟩, by rw [ht]; exact hP, va_K.moved hW.alike hK, hD⟩, hS.F ht⟩) hS.2.2 dX16_end_145
    · have yb74 : ¬ (z_82 : Int) = (0 : Int) := fun q => b74 ((zI_eq (a := z_82) (b := 0) (by omega) (by omega) (by omega) (by omega)).mpr q)
      skip
      refine lv_aload_n hx hb dX16_end_77 rfl (lv_at hl 1 rfl) ?_
      have hPc := hP.part (X := [(q_gp, .inl (cI, mg, .inl (fun j : Nat => zI (a_gp (j : Int))))), (q_gs, .inl (cI, ng, .inl (fun j : Nat => zI (a_gs (j : Int))))), (h0, .inr (14, [.ref q_t, .int (zI (z16_n)), .int (zI (z16_at)), .int (zI (z16_kind)), .int (zI (z16_place)), .int (zI (z16_value)), .int (zI (z16_before)), .ref tx9, v16_8, v16_9, v16_10, .ref q_gp, .ref q_gs, .int (zI (z16_goalN))])), (q_t, .inl (cT, 8192, .inl (fun j : Nat => zI (a_t (j : Int)))))]) (cx := [(h0, .inr (14, [.ref q_t, .int (zI (z16_n)), .int (zI (z16_at)), .int (zI (z16_kind)), .int (zI (z16_place)), .int (zI (z16_value)), .int (zI (z16_before)), .ref tx9, v16_8, v16_9, v16_10, .ref q_gp, .ref q_gs, .int (zI (z16_goalN))])), (q_t, .inl (cT, 8192, .inl (fun j : Nat => zI (a_t (j : Int)))))]) (pl := va_pl L (pE Pw_58)) [2, 3] rfl
      have hDc := hD.part (X := [(q_gp, .inl (cI, mg, .inl (fun j : Nat => zI (a_gp (j : Int))))), (q_gs, .inl (cI, ng, .inl (fun j : Nat => zI (a_gs (j : Int))))), (h0, .inr (14, [.ref q_t, .int (zI (z16_n)), .int (zI (z16_at)), .int (zI (z16_kind)), .int (zI (z16_place)), .int (zI (z16_value)), .int (zI (z16_before)), .ref tx9, v16_8, v16_9, v16_10, .ref q_gp, .ref q_gs, .int (zI (z16_goalN))])), (q_t, .inl (cT, 8192, .inl (fun j : Nat => zI (a_t (j : Int)))))]) (cx := [(h0, .inr (14, [.ref q_t, .int (zI (z16_n)), .int (zI (z16_at)), .int (zI (z16_kind)), .int (zI (z16_place)), .int (zI (z16_value)), .int (zI (z16_before)), .ref tx9, v16_8, v16_9, v16_10, .ref q_gp, .ref q_gs, .int (zI (z16_goalN))])), (q_t, .inl (cT, 8192, .inl (fun j : Nat => zI (a_t (j : Int)))))]) (pl := va_pl L (pE Pw_58)) [2, 3] (by decide) rfl
      have hKc := hK.sub (tys' := [(cT, .byte)]) [3] rfl
      have hFc := va_freeP (X := [(q_gp, .inl (cI, mg, .inl (fun j : Nat => zI (a_gp (j : Int))))), (q_gs, .inl (cI, ng, .inl (fun j : Nat => zI (a_gs (j : Int))))), (h0, .inr (14, [.ref q_t, .int (zI (z16_n)), .int (zI (z16_at)), .int (zI (z16_kind)), .int (zI (z16_place)), .int (zI (z16_value)), .int (zI (z16_before)), .ref tx9, v16_8, v16_9, v16_10, .ref q_gp, .ref q_gs, .int (zI (z16_goalN))])), (q_t, .inl (cT, 8192, .inl (fun j : Nat => zI (a_t (j : Int)))))]) (cx := [(h0, .inr (14, [.ref q_t, .int (zI (z16_n)), .int (zI (z16_at)), .int (zI (z16_kind)), .int (zI (z16_place)), .int (zI (z16_value)), .int (zI (z16_before)), .ref tx9, v16_8, v16_9, v16_10, .ref q_gp, .ref q_gs, .int (zI (z16_goalN))])), (q_t, .inl (cT, 8192, .inl (fun j : Nat => zI (a_t (j : Int)))))]) (pl := va_pl L (pE Pw_58)) hD hS hA [2, 3] rfl
      refine W_knowS (fun hrmA => ?_)
      refine va_callv (va_runV (As := []) (rest := []) ⟨hx, hb, hml, hown, hts⟩ (c_X16_nextM l dC dI h0 z16_n z16_at z16_kind z16_place z16_value z16_before (.ref tx9) v16_8 v16_9 v16_10 (.ref q_gp) (.ref q_gs) (.int (zI (z16_goalN))) q_t cT a_t L Pw_58 sa_RX16_9 (by omega) (by omega) (by omega) (by omega) (by omega) (by omega) hR_a_t (by omega) H.size sa_RX16_9 H sv_RX16_9 sa_RX16_119 sv_RX16_119 sa_RX16_100 sv_RX16_100 sa_RX16_117 sa_RX16_100 sv_RX16_117 sa_RX16_98 sv_RX16_98) (cwV 0 hts g_X16_endM_X16_nextM rfl rfl rfl (by decide +kernel) ⟨(Nat.le_of_ble_eq_true rfl), (Nat.le_of_ble_eq_true rfl)⟩) ⟨fun a U g mk q => by obtain ⟨q0, q1, qP, qK, qD, e0, e1, e2, e3, e4, e5, e6, e7, e8, e9, e10, e11, e12⟩ := q; exact ⟨q0, q1, qP, va_K.moved (u := U) (U := U.calling g mk a) (Vm.Alike.refl U.vm) qK, qD, vk_R.same (u := U) (U := U.calling g mk a) rfl e0, e1, va_Z.moved (u := U) (U := U.calling g mk a) (Vm.Alike.refl U.vm) e2, vs_S.moved (u := U) (U := U.calling g mk a) (Vm.Alike.refl U.vm) e3, va_Nw.same rfl (u := U) (U := U.calling g mk a) rfl e4, vk_R.same (u := U) (U := U.calling g mk a) rfl e5, vs_S.moved (u := U) (U := U.calling g mk a) (Vm.Alike.refl U.vm) e6, vs_S.moved (u := U) (U := U.calling g mk a) (Vm.Alike.refl U.vm) e7, vk_R.same (u := U) (U := U.calling g mk a) rfl e8, vk_R.same (u := U) (U := U.calling g mk a) rfl e9, vs_S.moved (u := U) (U := U.calling g mk a) (Vm.Alike.refl U.vm) e10, vk_R.same (u := U) (U := U.calling g mk a) rfl e11, vs_S.moved (u := U) (U := U.calling g mk a) (Vm.Alike.refl U.vm) e12⟩, va_recv hKc hPc (ci := 14) (q0 := 0) rfl rfl, fun U hU hW => ⟨rfl, by rw [hU], by rw [hU]; exact hPc, va_K.moved hW.alike hKc, hDc.weaken (fun _ _ _ _ => trivial), vk_R.warm hW hp11, hU, by rw [hU]; exact va_Z.narrow (va_Z.moved hW.alike (va_Z.kept hp3 hS.2.1)) hFc, by rw [hU]; exact vs_S.narrow (vs_S.moved hW.alike (vs_S.kept hp2 hS.2.1)) hFc, va_Nw.warmC hW hp12, vk_R.warm hW hp13, by rw [hU]; exact vs_S.narrow (vs_S.moved hW.alike (vs_S.kept hp14 hS.2.1)) hFc, by rw [hU]; exact vs_S.narrow (vs_S.moved hW.alike (vs_S.kept hp15 hS.2.1)) hFc, vk_R.warm hW hp16, vk_R.warm hW hp17, by rw [hU]; exact vs_S.narrow (vs_S.moved hW.alike (vs_S.kept hp18 hS.2.1)) hFc, vk_R.warm hW hp19, by rw [hU]; exact vs_S.narrow (vs_S.moved hW.alike (vs_S.kept hp20 hS.2.1)) hFc⟩⟩ rfl rfl hl.1 rfl (lv_room (Nat.le_of_ble_eq_true rfl)) dX16_end_78 ⟨(show 0 + ((z16_n - z16_at + 20).toNat) ≤ (14 * (z16_n - z16_at) + 4 * z16_goalN + 120).toNat from (by omega)), (show 0 + ((10 * (z16_n - z16_at) + 120).toNat) ≤ (120 * (z16_n - z16_at) + 16 * z16_goalN + 700).toNat from (by omega))⟩) hS (fun q _ h => hFc q h) hFc (fun  u t H1 locs ht hvm hw hB hz1 hk1 hS => ?_)
      obtain ⟨z0_172, z1_173, z2_174, z3_175, z4_176, q5_177, Ln_178, Pn_179, kc_180, ks_181, hxt_181, hP1, hK1, hD1⟩ := hB
      rw [ht] at hP1
      have hK1 := va_K.moved hvm.symm hK1
      obtain ⟨hP, hD⟩ := va_joinP (X := [(q_gp, .inl (cI, mg, .inl (fun j : Nat => zI (a_gp (j : Int))))), (q_gs, .inl (cI, ng, .inl (fun j : Nat => zI (a_gs (j : Int))))), (h0, .inr (14, [.ref q_t, .int (zI (z16_n)), .int (zI (z16_at)), .int (zI (z16_kind)), .int (zI (z16_place)), .int (zI (z16_value)), .int (zI (z16_before)), .ref tx9, v16_8, v16_9, v16_10, .ref q_gp, .ref q_gs, .int (zI (z16_goalN))])), (q_t, .inl (cT, 8192, .inl (fun j : Nat => zI (a_t (j : Int)))))]) (cx := [(h0, .inr (14, [.ref q_t, .int (zI (z16_n)), .int (zI (z16_at)), .int (zI (z16_kind)), .int (zI (z16_place)), .int (zI (z16_value)), .int (zI (z16_before)), .ref tx9, v16_8, v16_9, v16_10, .ref q_gp, .ref q_gs, .int (zI (z16_goalN))])), (q_t, .inl (cT, 8192, .inl (fun j : Nat => zI (a_t (j : Int)))))]) (wr := [(q_gp, .inl (cI, mg, .inl (fun j : Nat => zI (a_gp (j : Int))))), (q_gs, .inl (cI, ng, .inl (fun j : Nat => zI (a_gs (j : Int)))))]) (rx := [(h0, .inr (14, [.ref q_t, .int (zI (z16_n)), .int (zI (z0_172)), .int (zI (z1_173)), .int (zI (z2_174)), .int (zI (z3_175)), .int (zI (z4_176)), .ref q5_177, v16_8, v16_9, v16_10, .ref q_gp, .ref q_gs, .int (zI (z16_goalN))])), (q_t, .inl (cT, 8192, .inl (fun j : Nat => zI (a_t (j : Int)))))]) (pl := va_pl L (pE Pw_58)) (pl1 := va_pl Ln_178 (pE Pn_179)) hP hD [2, 3] [0, 1] rfl rfl (by decide) (by decide) hk1 hFc hP1 hD1
      have hK := (hK.sub (tys' := [(cI, .int), (cO, .object "java/lang/Object"), (cZ, .boolean)]) [0, 1, 2] rfl).app hK1
      have hrmC := hxt_181.1.1
      rw [ht] at hrmC
      refine W_tightS (hrmA.trans hrmC) ?_
      have hrb := hxt_181.1.2
      generalize H1 = H at hP hS ⊢
      have hP : va_P (dC, dI) vwQ ([(q_gp, .inl (cI, mg, .inl (fun j : Nat => zI (a_gp (j : Int))))), (q_gs, .inl (cI, ng, .inl (fun j : Nat => zI (a_gs (j : Int))))), (h0, .inr (14, [.ref q_t, .int (zI (z16_n)), .int (zI (z0_172)), .int (zI (z1_173)), .int (zI (z2_174)), .int (zI (z3_175)), .int (zI (z4_176)), .ref q5_177, v16_8, v16_9, v16_10, .ref q_gp, .ref q_gs, .int (zI (z16_goalN))])), (q_t, .inl (cT, 8192, .inl (fun j : Nat => zI (a_t (j : Int)))))] ++ va_pl Ln_178 (pE Pn_179)) H := hP
      have hD : va_D A ([(q_gp, .inl (cI, mg, .inl (fun j : Nat => zI (a_gp (j : Int))))), (q_gs, .inl (cI, ng, .inl (fun j : Nat => zI (a_gs (j : Int))))), (h0, .inr (14, [.ref q_t, .int (zI (z16_n)), .int (zI (z0_172)), .int (zI (z1_173)), .int (zI (z2_174)), .int (zI (z3_175)), .int (zI (z4_176)), .ref q5_177, v16_8, v16_9, v16_10, .ref q_gp, .ref q_gs, .int (zI (z16_goalN))])), (q_t, .inl (cT, 8192, .inl (fun j : Nat => zI (a_t (j : Int)))))] ++ va_pl Ln_178 (pE Pn_179)) := hD
      have hK : va_K (dC, dI) vwQ [(cI, .int), (cO, .object "java/lang/Object"), (cZ, .boolean), (cT, .byte)] s := hK
      refine W.widen (k := (0 + kc_180)) (n := (0 + ks_181)) (by omega) (by omega) ?_
      obtain ⟨rk_182, rk_183, rk_184, rk_185, rk_186, hu_186⟩ := hxt_181.2
      have hkd_191 := hu_186.2.1
      have hX_kv := hkd_191.2
      have hu_187 := hu_186.2.2
      have hex_188 : EXT9 L Pw_58 Ln_178 Pn_179 := hu_187.1
      have hke_189 : KEG [] L Pw_58 Ln_178 Pn_179 := hex_188.keg hak_65
      have hak_190 : GLF Ln_178 Pn_179 cO cI cZ sx_ed := hak_65.txt hex_188 hu_187.2.1
      have hsm_192 := (hex_188 xb hq_68.1).2
      have : Pn_179.bf xb = Pw_58.bf xb := hsm_192.1 0
      have : Pn_179.bs xb = Pw_58.bs xb := hsm_192.1 1
      have hsm_193 := (hex_188 pr_2 hq_69.1).2
      have : Pn_179.ro pr_2 = Pw_58.ro pr_2 := hsm_193.1 0
      have : Pn_179.rt pr_2 = Pw_58.rt pr_2 := hsm_193.1 1
      have : Pn_179.ra pr_2 = Pw_58.ra pr_2 := hsm_193.1 2
      have : Pn_179.rb pr_2 = Pw_58.rb pr_2 := hsm_193.1 3
      have : Pn_179.rA pr_2 = Pw_58.rA pr_2 := hsm_193.1 4
      have : Pn_179.rB pr_2 = Pw_58.rB pr_2 := hsm_193.1 5
      have : Pn_179.rg pr_2 = Pw_58.rg pr_2 := hsm_193.1 6
      have hq_194 : la ∈ Ln_178 ∧ Pn_179.kd la = 30 := hke_189.mem hq_67.1 hq_67.2 (by decide)
      have hq_195 : xb ∈ Ln_178 ∧ Pn_179.kd xb = 12 := hke_189.mem hq_68.1 hq_68.2 (by decide)
      have hq_196 : pr_2 ∈ Ln_178 ∧ Pn_179.kd pr_2 = 17 := hke_189.mem hq_69.1 hq_69.2 (by decide)
      have ha_197 : Pn_179.be xb = pr_2 := hke_189.be hq_68.1 hq_68.2 ha_70
      have hA_198 : KEG [] L P Ln_178 Pn_179 := hA_71.trans hke_189
      have : Pn_179.lz la = Pw_58.lz la := (hex_188 la hq_67.1).2.1 0
      have hek_199 : Pn_179.ek la = 12 := (by rw [hke_189.ek hq_67.1 hq_67.2 (by decide)]; exact hek_72)
      have how_200 : Pn_179.ow la = la := ((hke_189.1 la hq_67.1 (by rw [hq_67.2]; decide)).2.2.2.1 hq_67.2 how_73).1
      have hcz := (((hke_189.1 la hq_67.1 (by rw [hq_67.2]; decide)).2.2.2.1 hq_67.2 how_73).2 (by simp)).1
      have hE_201 : Pn_179.ek pr_2 = 1 := (by rw [hke_189.ek hq_69.1 hq_69.2 (by decide)]; exact hE_74)
      have hX_tx := hu_187.2.2.1
      have hxk9 := hu_187.2.2.2
      have hcx_202 : CHG (fun z => z = xb ∨ z = P.be xb) L P Ln_178 Pn_179 := hcx_75.trans hex_188.chg (fun z m q => q.elim)
      refine lv_aload_n hx hb dX16_end_81 rfl (lv_at hl 0 rfl) ?_
      refine lv_bipush (v := 31) hx hb dX16_end_82 (by decide) ?_
      have hr7 := (hak_190.rok hq_196.1 hq_196.2).n7
      refine lv_topi (fun z ez => ?_)
      obtain rfl : z = zI (31) := ez
      obtain ⟨kp_203, gkp_203⟩ := va_pl_get (X := [(q_gp, .inl (cI, mg, .inl (fun j : Nat => zI (a_gp (j : Int))))), (q_gs, .inl (cI, ng, .inl (fun j : Nat => zI (a_gs (j : Int))))), (h0, .inr (14, [.ref q_t, .int (zI (z16_n)), .int (zI (z0_172)), .int (zI (z1_173)), .int (zI (z2_174)), .int (zI (z3_175)), .int (zI (z4_176)), .ref q5_177, v16_8, v16_9, v16_10, .ref q_gp, .ref q_gs, .int (zI (z16_goalN))])), (q_t, .inl (cT, 8192, .inl (fun j : Nat => zI (a_t (j : Int)))))]) (f := pE Pn_179) hq_196.1
      have hkp_203 := gkp_203
      rw [pE_row hq_196.2] at hkp_203
      have hD0 := hD
      refine va_put (D := (dC, dI)) (ci := 21) (v := .int (zI (31))) (ty := .int) (C := RX17) (T := TX17) (N := 7) hx hb hts mem_X16_endM_1 tyX17 tyX17_ok nmX17 hown hK hP hD hS kp_203 hkp_203 rfl 0 (by decide) (ow (k := 16) rfl) (fun _ h9 => h9) rfl (by decide +kernel) rfl rfl (by first | exact Nat.le_of_ble_eq_true rfl | exact (show (0 + kc_180) ≤ (14 * (z16_n - z16_at) + 4 * z16_goalN + 120).toNat from (by omega)) | exact (show (0 + ks_181) ≤ (120 * (z16_n - z16_at) + 16 * z16_goalN + 700).toNat from (by omega))) dX16_end_84 (fun H locs hP hD hS => ?_)
      obtain ⟨Pw_204, ePw_204⟩ : ∃ q9 : PO, q9 = Pn_179.rw9 0 pr_2 (31) := ⟨_, rfl⟩
      have eU : (([(q_gp, .inl (cI, mg, .inl (fun j : Nat => zI (a_gp (j : Int))))), (q_gs, .inl (cI, ng, .inl (fun j : Nat => zI (a_gs (j : Int))))), (h0, .inr (14, [.ref q_t, .int (zI (z16_n)), .int (zI (z0_172)), .int (zI (z1_173)), .int (zI (z2_174)), .int (zI (z3_175)), .int (zI (z4_176)), .ref q5_177, v16_8, v16_9, v16_10, .ref q_gp, .ref q_gs, .int (zI (z16_goalN))])), (q_t, .inl (cT, 8192, .inl (fun j : Nat => zI (a_t (j : Int)))))] : va_W) ++ va_pl Ln_178 (pE Pn_179)).set kp_203 (pr_2, rowE (31) (Pn_179.rt pr_2) (Pn_179.ra pr_2) (Pn_179.rb pr_2) (Pn_179.rA pr_2) (Pn_179.rB pr_2) (Pn_179.rg pr_2)) = ([(q_gp, .inl (cI, mg, .inl (fun j : Nat => zI (a_gp (j : Int))))), (q_gs, .inl (cI, ng, .inl (fun j : Nat => zI (a_gs (j : Int))))), (h0, .inr (14, [.ref q_t, .int (zI (z16_n)), .int (zI (z0_172)), .int (zI (z1_173)), .int (zI (z2_174)), .int (zI (z3_175)), .int (zI (z4_176)), .ref q5_177, v16_8, v16_9, v16_10, .ref q_gp, .ref q_gs, .int (zI (z16_goalN))])), (q_t, .inl (cT, 8192, .inl (fun j : Nat => zI (a_t (j : Int)))))] : va_W) ++ va_pl Ln_178 (pE Pw_204) := (by rw [va_pl_set hD0 hq_196.1 gkp_203, ePw_204]; exact congrArg (fun f9 => ([(q_gp, .inl (cI, mg, .inl (fun j : Nat => zI (a_gp (j : Int))))), (q_gs, .inl (cI, ng, .inl (fun j : Nat => zI (a_gs (j : Int))))), (h0, .inr (14, [.ref q_t, .int (zI (z16_n)), .int (zI (z0_172)), .int (zI (z1_173)), .int (zI (z2_174)), .int (zI (z3_175)), .int (zI (z4_176)), .ref q5_177, v16_8, v16_9, v16_10, .ref q_gp, .ref q_gs, .int (zI (z16_goalN))])), (q_t, .inl (cT, 8192, .inl (fun j : Nat => zI (a_t (j : Int)))))] : va_W) ++ va_pl Ln_178 f9) (put17_0 hq_196.2))
      have hP : va_P (dC, dI) vwQ ([(q_gp, .inl (cI, mg, .inl (fun j : Nat => zI (a_gp (j : Int))))), (q_gs, .inl (cI, ng, .inl (fun j : Nat => zI (a_gs (j : Int))))), (h0, .inr (14, [.ref q_t, .int (zI (z16_n)), .int (zI (z0_172)), .int (zI (z1_173)), .int (zI (z2_174)), .int (zI (z3_175)), .int (zI (z4_176)), .ref q5_177, v16_8, v16_9, v16_10, .ref q_gp, .ref q_gs, .int (zI (z16_goalN))])), (q_t, .inl (cT, 8192, .inl (fun j : Nat => zI (a_t (j : Int)))))] ++ va_pl Ln_178 (pE Pw_204)) H := (by rw [← eU]; exact hP)
      have hD : va_D A ([(q_gp, .inl (cI, mg, .inl (fun j : Nat => zI (a_gp (j : Int))))), (q_gs, .inl (cI, ng, .inl (fun j : Nat => zI (a_gs (j : Int))))), (h0, .inr (14, [.ref q_t, .int (zI (z16_n)), .int (zI (z0_172)), .int (zI (z1_173)), .int (zI (z2_174)), .int (zI (z3_175)), .int (zI (z4_176)), .ref q5_177, v16_8, v16_9, v16_10, .ref q_gp, .ref q_gs, .int (zI (z16_goalN))])), (q_t, .inl (cT, 8192, .inl (fun j : Nat => zI (a_t (j : Int)))))] ++ va_pl Ln_178 (pE Pw_204)) := (by rw [← eU]; exact hD)
      clear eU hD0 gkp_203 hkp_203
      have wPw_204 : RW1 pr_2 Pn_179 Pw_204 := (by rw [ePw_204]; exact RW1.put _ _ _ _)
      have hy_205 : Pw_204.kd la = 30 := (by rw [ePw_204]; exact hq_194.2)
      have hy_206 : Pw_204.kd xb = 12 := (by rw [ePw_204]; exact hq_195.2)
      have : Pw_204.bf xb = Pn_179.bf xb := wPw_204.2 _ (kd_ne hq_195.2 hq_196.2 (by decide)) _
      have : Pw_204.bs xb = Pn_179.bs xb := wPw_204.2 _ (kd_ne hq_195.2 hq_196.2 (by decide)) _
      have hy_207 : Pw_204.kd pr_2 = 17 := (by rw [ePw_204]; exact hq_196.2)
      have : Pw_204.ro pr_2 = 31 := (by rw [ePw_204]; exact rw9_at _ _ _ _)
      have : Pw_204.rt pr_2 = Pn_179.rt pr_2 := (by rw [ePw_204]; exact rw9_of _ (by decide))
      have : Pw_204.ra pr_2 = Pn_179.ra pr_2 := (by rw [ePw_204]; exact rw9_of _ (by decide))
      have : Pw_204.rb pr_2 = Pn_179.rb pr_2 := (by rw [ePw_204]; exact rw9_of _ (by decide))
      have : Pw_204.rA pr_2 = Pn_179.rA pr_2 := (by rw [ePw_204]; exact rw9_of _ (by decide))
      have : Pw_204.rB pr_2 = Pn_179.rB pr_2 := (by rw [ePw_204]; exact rw9_of _ (by decide))
      have : Pw_204.rg pr_2 = Pn_179.rg pr_2 := (by rw [ePw_204]; exact rw9_of _ (by decide))
      have ha_208 : Pw_204.be xb = pr_2 := (by rw [ePw_204]; exact ha_197)
      have hW_209 : RW1 pr_2 Pn_179 Pw_204 := wPw_204
      have hrw_212 : RWD Pn_179 Pw_204 := hW_209.rwd (Or.inl hq_196.2)
      have hak_211 : GLF Ln_178 Pw_204 cO cI cZ sx_ed := hak_190.row hW_209 hq_196.2 (ROK9.of (by omega) (by omega) (by omega) (by omega) (by omega) (by omega) (by omega) (uaZ (by omega)) (ubG (by omega))) (fun e9 => by have q9 := hak_190.op21 hq_196.1 hq_196.2 e9; omega)
      have hke_210 : KEG [] Ln_178 Pn_179 Ln_178 Pw_204 := hrw_212.keg _ hq_194.2
      have hq_213 : la ∈ Ln_178 ∧ Pw_204.kd la = 30 := hke_210.mem hq_194.1 hq_194.2 (by decide)
      have hq_214 : xb ∈ Ln_178 ∧ Pw_204.kd xb = 12 := hke_210.mem hq_195.1 hq_195.2 (by decide)
      have hq_215 : pr_2 ∈ Ln_178 ∧ Pw_204.kd pr_2 = 17 := hke_210.mem hq_196.1 hq_196.2 (by decide)
      have ha_216 : Pw_204.be xb = pr_2 := hke_210.be hq_195.1 hq_195.2 ha_197
      have hA_217 : KEG [] L P Ln_178 Pw_204 := hA_198.trans hke_210
      have : Pw_204.lz la = Pn_179.lz la := hrw_212.lz hq_194.2
      have : Pw_204.cap la = Pn_179.cap la := hW_209.cap la
      have hek_218 : Pw_204.ek la = 12 := (by rw [hke_210.ek hq_194.1 hq_194.2 (by decide)]; exact hek_199)
      have how_219 : Pw_204.ow la = la := ((hke_210.1 la hq_194.1 (by rw [hq_194.2]; decide)).2.2.2.1 hq_194.2 how_200).1
      have hcz := (((hke_210.1 la hq_194.1 (by rw [hq_194.2]; decide)).2.2.2.1 hq_194.2 how_200).2 (by simp)).1
      have hE_220 : Pw_204.ek pr_2 = 1 := (by rw [hke_210.ek hq_196.1 hq_196.2 (by decide)]; exact hE_201)
      have hX_tx := hX_tx.rw1 hW_209 (Or.inl hq_196.2)
      have hcx_221 : CHG (fun z => z = xb ∨ z = P.be xb) L P Ln_178 Pw_204 := hcx_202.trans (hW_209.chg _) (fun z m q => Or.inr (q.trans epr_2))
      have hsm_222 := (hW_209.chg Ln_178 xb hq_214.1 (fun e9 => absurd e9 (kd_ne hq_214.2 hq_215.2 (by decide)))).2
      have : Pw_204.bf xb = Pn_179.bf xb := hsm_222.1 0
      have : Pw_204.bs xb = Pn_179.bs xb := hsm_222.1 1
      refine lv_aload_n hx hb dX16_end_87 rfl (lv_at hl 1 rfl) ?_
      refine lv_aload_n hx hb dX16_end_88 rfl (lv_at hl 0 rfl) ?_
      refine lv_iconst (v := 0) hx hb dX16_end_89 (by decide) ?_
      have hX_g := hak_211
      have hX_x := hq_215.1
      have hX_k := hq_215.2
      have hX_la := (show la ∈ Ln_178 ∧ Pw_204.kd la = 30 ∧ Pw_204.ek la = 12 ∧ Pw_204.ow la = la from ⟨hq_213.1, hq_213.2, hek_218, how_219⟩)
      have hPc := hP.part (X := [(q_gp, .inl (cI, mg, .inl (fun j : Nat => zI (a_gp (j : Int))))), (q_gs, .inl (cI, ng, .inl (fun j : Nat => zI (a_gs (j : Int))))), (h0, .inr (14, [.ref q_t, .int (zI (z16_n)), .int (zI (z0_172)), .int (zI (z1_173)), .int (zI (z2_174)), .int (zI (z3_175)), .int (zI (z4_176)), .ref q5_177, v16_8, v16_9, v16_10, .ref q_gp, .ref q_gs, .int (zI (z16_goalN))])), (q_t, .inl (cT, 8192, .inl (fun j : Nat => zI (a_t (j : Int)))))]) (cx := [(h0, .inr (14, [.ref q_t, .int (zI (z16_n)), .int (zI (z0_172)), .int (zI (z1_173)), .int (zI (z2_174)), .int (zI (z3_175)), .int (zI (z4_176)), .ref q5_177, v16_8, v16_9, v16_10, .ref q_gp, .ref q_gs, .int (zI (z16_goalN))])), (q_t, .inl (cT, 8192, .inl (fun j : Nat => zI (a_t (j : Int)))))]) (pl := va_pl Ln_178 (pE Pw_204)) [2, 3] rfl
      have hDc := hD.part (X := [(q_gp, .inl (cI, mg, .inl (fun j : Nat => zI (a_gp (j : Int))))), (q_gs, .inl (cI, ng, .inl (fun j : Nat => zI (a_gs (j : Int))))), (h0, .inr (14, [.ref q_t, .int (zI (z16_n)), .int (zI (z0_172)), .int (zI (z1_173)), .int (zI (z2_174)), .int (zI (z3_175)), .int (zI (z4_176)), .ref q5_177, v16_8, v16_9, v16_10, .ref q_gp, .ref q_gs, .int (zI (z16_goalN))])), (q_t, .inl (cT, 8192, .inl (fun j : Nat => zI (a_t (j : Int)))))]) (cx := [(h0, .inr (14, [.ref q_t, .int (zI (z16_n)), .int (zI (z0_172)), .int (zI (z1_173)), .int (zI (z2_174)), .int (zI (z3_175)), .int (zI (z4_176)), .ref q5_177, v16_8, v16_9, v16_10, .ref q_gp, .ref q_gs, .int (zI (z16_goalN))])), (q_t, .inl (cT, 8192, .inl (fun j : Nat => zI (a_t (j : Int)))))]) (pl := va_pl Ln_178 (pE Pw_204)) [2, 3] (by decide) rfl
      have hKc := hK.sub (tys' := [(cT, .byte), (cO, .object "java/lang/Object"), (cI, .int), (cZ, .boolean)]) [3, 1, 0, 2] rfl
      have hFc := va_freeP (X := [(q_gp, .inl (cI, mg, .inl (fun j : Nat => zI (a_gp (j : Int))))), (q_gs, .inl (cI, ng, .inl (fun j : Nat => zI (a_gs (j : Int))))), (h0, .inr (14, [.ref q_t, .int (zI (z16_n)), .int (zI (z0_172)), .int (zI (z1_173)), .int (zI (z2_174)), .int (zI (z3_175)), .int (zI (z4_176)), .ref q5_177, v16_8, v16_9, v16_10, .ref q_gp, .ref q_gs, .int (zI (z16_goalN))])), (q_t, .inl (cT, 8192, .inl (fun j : Nat => zI (a_t (j : Int)))))]) (cx := [(h0, .inr (14, [.ref q_t, .int (zI (z16_n)), .int (zI (z0_172)), .int (zI (z1_173)), .int (zI (z2_174)), .int (zI (z3_175)), .int (zI (z4_176)), .ref q5_177, v16_8, v16_9, v16_10, .ref q_gp, .ref q_gs, .int (zI (z16_goalN))])), (q_t, .inl (cT, 8192, .inl (fun j : Nat => zI (a_t (j : Int)))))]) (pl := va_pl Ln_178 (pE Pw_204)) hD hS hA [2, 3] rfl
      refine W_knowS (fun hrmA => ?_)
      refine vx_callv (vx_runV (As := [.ref pr_2, .int 0]) (rest := []) ⟨hx, hb, hml, hown, hts⟩ (c_X16_opAM l dC dI cI cZ h0 z16_n z0_172 z1_173 z2_174 z3_175 z4_176 v16_8 v16_9 v16_10 (.ref q_gp) (.ref q_gs) (.int (zI (z16_goalN))) q_t cT a_t q5_177 Ln_178 Pw_204 sa_RX16_9 cO la sx_ed pr_2 (by omega) (by omega) (by omega) (by omega) (by omega) (by omega) hR_a_t hX_g hX_la hX_x hX_k (by omega) hX_kv H.size sv_RX16_9 sa_RX16_119 sv_RX16_119 sa_RX16_100 sv_RX16_100 sa_RX16_117 sv_RX16_117 sa_RX16_98 sv_RX16_98 H) (cwV 2 hts g_X16_endM_X16_opAM rfl rfl rfl (by decide +kernel) ⟨(Nat.le_of_ble_eq_true rfl), (Nat.le_of_ble_eq_true rfl)⟩) ⟨fun a U g mk q => by obtain ⟨q0, q1, qP, qK, qD, e0, e1, e2, e3, e4, e5, e6, e7, e8, e9, e10, e11, e12, e13, e14⟩ := q; exact ⟨q0, q1, qP, va_K.moved (u := U) (U := U.calling g mk a) (Vm.Alike.refl U.vm) qK, qD, vk_R.same (u := U) (U := U.calling g mk a) rfl e0, va_Z.moved (u := U) (U := U.calling g mk a) (Vm.Alike.refl U.vm) e1, vs_S.moved (u := U) (U := U.calling g mk a) (Vm.Alike.refl U.vm) e2, va_Nw.same rfl (u := U) (U := U.calling g mk a) rfl e3, vk_R.same (u := U) (U := U.calling g mk a) rfl e4, vs_S.moved (u := U) (U := U.calling g mk a) (Vm.Alike.refl U.vm) e5, vs_S.moved (u := U) (U := U.calling g mk a) (Vm.Alike.refl U.vm) e6, vk_R.same (u := U) (U := U.calling g mk a) rfl e7, vk_R.same (u := U) (U := U.calling g mk a) rfl e8, vs_S.moved (u := U) (U := U.calling g mk a) (Vm.Alike.refl U.vm) e9, vk_R.same (u := U) (U := U.calling g mk a) rfl e10, vs_S.moved (u := U) (U := U.calling g mk a) (Vm.Alike.refl U.vm) e11, e12, vx_Zq.moved (u := U) (U := U.calling g mk a) (Vm.Alike.refl U.vm) e13, vx_Zq.moved (u := U) (U := U.calling g mk a) (Vm.Alike.refl U.vm) e14⟩, va_recv hKc hPc (ci := 14) (q0 := 0) rfl rfl, fun U hU hW => ⟨rfl, by rw [hU], by rw [hU]; exact hPc, va_K.moved hW.alike hKc, hDc.weaken (fun _ _ _ _ => trivial), vk_R.warm hW hp11, by rw [hU]; exact va_Z.narrow (va_Z.moved hW.alike (va_Z.kept hp3 hS.2.1)) hFc, by rw [hU]; exact vs_S.narrow (vs_S.moved hW.alike (vs_S.kept hp2 hS.2.1)) hFc, va_Nw.warmC hW hp12, vk_R.warm hW hp13, by rw [hU]; exact vs_S.narrow (vs_S.moved hW.alike (vs_S.kept hp14 hS.2.1)) hFc, by rw [hU]; exact vs_S.narrow (vs_S.moved hW.alike (vs_S.kept hp15 hS.2.1)) hFc, vk_R.warm hW hp16, vk_R.warm hW hp17, by rw [hU]; exact vs_S.narrow (vs_S.moved hW.alike (vs_S.kept hp18 hS.2.1)) hFc, vk_R.warm hW hp19, by rw [hU]; exact vs_S.narrow (vs_S.moved hW.alike (vs_S.kept hp20 hS.2.1)) hFc, hU, by rw [hU]; exact vx_Zq.narrow (vx_Zq.moved hW.alike (vx_Zq.kept hp8 hS.2.1)) hFc, by rw [hU]; exact vx_Zq.narrow (vx_Zq.moved hW.alike (vx_Zq.kept hp9 hS.2.1)) hFc⟩⟩ rfl rfl hl.1 rfl (lv_room (Nat.le_of_ble_eq_true rfl)) dX16_end_90 ⟨(show (0 + kc_180) + ((13 * (z16_n - z0_172) + 20).toNat) ≤ (14 * (z16_n - z16_at) + 4 * z16_goalN + 120).toNat from (by omega)), (show (0 + ks_181) + ((110 * (z16_n - z0_172) + 120).toNat) ≤ (120 * (z16_n - z16_at) + 16 * z16_goalN + 700).toNat from (by omega))⟩) hS (fun q _ h => hFc q h) hFc (fun q _ h => hFc q h) (fun E ce q9 u t H1 locs ht hvm _ hB hz1 hk1 hS hce hcv hcl => ?_) (fun  u t H1 locs ht hvm hw hB hz1 hk1 hS => ?_)
      · obtain ⟨rfl, zp_223, Ln_224, Pn_225, kc_226, ks_227, hxt_228, hP1, hD1⟩ := hB
        rw [ht] at hP1
        obtain ⟨hP, hD⟩ := va_joinP (X := [(q_gp, .inl (cI, mg, .inl (fun j : Nat => zI (a_gp (j : Int))))), (q_gs, .inl (cI, ng, .inl (fun j : Nat => zI (a_gs (j : Int))))), (h0, .inr (14, [.ref q_t, .int (zI (z16_n)), .int (zI (z0_172)), .int (zI (z1_173)), .int (zI (z2_174)), .int (zI (z3_175)), .int (zI (z4_176)), .ref q5_177, v16_8, v16_9, v16_10, .ref q_gp, .ref q_gs, .int (zI (z16_goalN))])), (q_t, .inl (cT, 8192, .inl (fun j : Nat => zI (a_t (j : Int)))))]) (cx := [(h0, .inr (14, [.ref q_t, .int (zI (z16_n)), .int (zI (z0_172)), .int (zI (z1_173)), .int (zI (z2_174)), .int (zI (z3_175)), .int (zI (z4_176)), .ref q5_177, v16_8, v16_9, v16_10, .ref q_gp, .ref q_gs, .int (zI (z16_goalN))])), (q_t, .inl (cT, 8192, .inl (fun j : Nat => zI (a_t (j : Int)))))]) (wr := [(q_gp, .inl (cI, mg, .inl (fun j : Nat => zI (a_gp (j : Int))))), (q_gs, .inl (cI, ng, .inl (fun j : Nat => zI (a_gs (j : Int)))))]) (rx := [(q_t, .inl (cT, 8192, .inl (fun j : Nat => zI (a_t (j : Int))))), (q9, .inr (15, [.null, .null, .null, .null, .null, .int 0, .int (zI (zp_223))]))]) (pl := va_pl Ln_178 (pE Pw_204)) (pl1 := va_pl Ln_224 (pE Pn_225)) hP hD [2, 3] [0, 1] rfl rfl (by decide) (by decide) hk1 hFc hP1 hD1
        have hrmC := hxt_228.1.1
        rw [ht] at hrmC
        refine vx_tightS (hrmA.trans hrmC) ?_
        have hrb := hxt_228.1.2
        generalize H1 = H at hP hS hce ⊢
        have hP : va_P (dC, dI) vwQ ([(q_gp, .inl (cI, mg, .inl (fun j : Nat => zI (a_gp (j : Int))))), (q_gs, .inl (cI, ng, .inl (fun j : Nat => zI (a_gs (j : Int))))), (q_t, .inl (cT, 8192, .inl (fun j : Nat => zI (a_t (j : Int))))), (q9, .inr (15, [.null, .null, .null, .null, .null, .int 0, .int (zI (zp_223))]))] ++ va_pl Ln_224 (pE Pn_225)) H := hP
        have hD : va_D A ([(q_gp, .inl (cI, mg, .inl (fun j : Nat => zI (a_gp (j : Int))))), (q_gs, .inl (cI, ng, .inl (fun j : Nat => zI (a_gs (j : Int))))), (q_t, .inl (cT, 8192, .inl (fun j : Nat => zI (a_t (j : Int))))), (q9, .inr (15, [.null, .null, .null, .null, .null, .int 0, .int (zI (zp_223))]))] ++ va_pl Ln_224 (pE Pn_225)) := hD
        have hzp : 0 ≤ zp_223 ∧ zp_223 ≤ 8192 := hxt_228.2.1
        subst hQ
        have hP := hP.part (X := [(q_gp, .inl (cI, mg, .inl (fun j : Nat => zI (a_gp (j : Int))))), (q_gs, .inl (cI, ng, .inl (fun j : Nat => zI (a_gs (j : Int))))), (q_t, .inl (cT, 8192, .inl (fun j : Nat => zI (a_t (j : Int))))), (q9, .inr (15, [.null, .null, .null, .null, .null, .int 0, .int (zI (zp_223))]))]) (cx := [(q_t, .inl (cT, 8192, .inl (fun j : Nat => zI (a_t (j : Int))))), (q9, .inr (15, [.null, .null, .null, .null, .null, .int 0, .int (zI (zp_223))]))]) (pl := va_pl Ln_224 (pE Pn_225)) [2, 3] rfl
        have hD := hD.part (X := [(q_gp, .inl (cI, mg, .inl (fun j : Nat => zI (a_gp (j : Int))))), (q_gs, .inl (cI, ng, .inl (fun j : Nat => zI (a_gs (j : Int))))), (q_t, .inl (cT, 8192, .inl (fun j : Nat => zI (a_t (j : Int))))), (q9, .inr (15, [.null, .null, .null, .null, .null, .int 0, .int (zI (zp_223))]))]) (cx := [(q_t, .inl (cT, 8192, .inl (fun j : Nat => zI (a_t (j : Int))))), (q9, .inr (15, [.null, .null, .null, .null, .null, .int 0, .int (zI (zp_223))]))]) (pl := va_pl Ln_224 (pE Pn_225)) [2, 3] (by decide) rfl
        refine vx_knowS (fun hrm9 => ?_)
        refine vx_widen (k := ((14 * (z16_n - z16_at) + 4 * z16_goalN + 120).toNat)) (n := ((120 * (z16_n - z16_at) + 16 * z16_goalN + 700).toNat)) (by omega) (by omega) ?_
        exact vx_out (fun x9 h9 => (hnt x9 h9).elim) hlocks hce hcv hcl (fun t ht hvm => ⟨(), trivial, ⟨rfl, zp_223, Ln_224, Pn_225, ((0 + kc_180) + kc_226), ((0 + ks_181) + ks_227), ⟨⟨(by rw [ht, ← hp10]; exact hrm9), (by omega)⟩, ⟨(by omega), ⟨hA_217.trans hxt_228.2.2.1, hxt_228.2.2.2.1, (hcx_221.cpa hg00.owa (fun z _ q => by rcases (show z = xb ∨ z = P.be xb from q) with q | q; rw [q, hX_bk]; decide; rw [q, (hg00.gb hX_b hX_bk).1.2.1]; decide)).trans hA_217 hxt_228.2.2.2.2⟩⟩⟩, by rw [ht]; exact hP, hD⟩, hS.F ht⟩) hS.2.2 (Nat.le_refl _) (Nat.le_refl _)
      obtain ⟨z0_229, z1_230, z2_231, z3_232, z4_233, q5_234, Ln_235, Pn_236, kc_237, ks_238, hxt_238, hP1, hK1, hD1⟩ := hB
      rw [ht] at hP1
      have hK1 := va_K.moved hvm.symm hK1
      obtain ⟨hP, hD⟩ := va_joinP (X := [(q_gp, .inl (cI, mg, .inl (fun j : Nat => zI (a_gp (j : Int))))), (q_gs, .inl (cI, ng, .inl (fun j : Nat => zI (a_gs (j : Int))))), (h0, .inr (14, [.ref q_t, .int (zI (z16_n)), .int (zI (z0_172)), .int (zI (z1_173)), .int (zI (z2_174)), .int (zI (z3_175)), .int (zI (z4_176)), .ref q5_177, v16_8, v16_9, v16_10, .ref q_gp, .ref q_gs, .int (zI (z16_goalN))])), (q_t, .inl (cT, 8192, .inl (fun j : Nat => zI (a_t (j : Int)))))]) (cx := [(h0, .inr (14, [.ref q_t, .int (zI (z16_n)), .int (zI (z0_172)), .int (zI (z1_173)), .int (zI (z2_174)), .int (zI (z3_175)), .int (zI (z4_176)), .ref q5_177, v16_8, v16_9, v16_10, .ref q_gp, .ref q_gs, .int (zI (z16_goalN))])), (q_t, .inl (cT, 8192, .inl (fun j : Nat => zI (a_t (j : Int)))))]) (wr := [(q_gp, .inl (cI, mg, .inl (fun j : Nat => zI (a_gp (j : Int))))), (q_gs, .inl (cI, ng, .inl (fun j : Nat => zI (a_gs (j : Int)))))]) (rx := [(h0, .inr (14, [.ref q_t, .int (zI (z16_n)), .int (zI (z0_229)), .int (zI (z1_230)), .int (zI (z2_231)), .int (zI (z3_232)), .int (zI (z4_233)), .ref q5_234, v16_8, v16_9, v16_10, .ref q_gp, .ref q_gs, .int (zI (z16_goalN))])), (q_t, .inl (cT, 8192, .inl (fun j : Nat => zI (a_t (j : Int)))))]) (pl := va_pl Ln_178 (pE Pw_204)) (pl1 := va_pl Ln_235 (pE Pn_236)) hP hD [2, 3] [0, 1] rfl rfl (by decide) (by decide) hk1 hFc hP1 hD1
      have hK := (hK.sub (tys' := [(cI, .int)]) [0] rfl).app hK1
      have hrmC := hxt_238.1.1
      rw [ht] at hrmC
      refine W_tightS (hrmA.trans hrmC) ?_
      have hrb := hxt_238.1.2
      generalize H1 = H at hP hS ⊢
      have hP : va_P (dC, dI) vwQ ([(q_gp, .inl (cI, mg, .inl (fun j : Nat => zI (a_gp (j : Int))))), (q_gs, .inl (cI, ng, .inl (fun j : Nat => zI (a_gs (j : Int))))), (h0, .inr (14, [.ref q_t, .int (zI (z16_n)), .int (zI (z0_229)), .int (zI (z1_230)), .int (zI (z2_231)), .int (zI (z3_232)), .int (zI (z4_233)), .ref q5_234, v16_8, v16_9, v16_10, .ref q_gp, .ref q_gs, .int (zI (z16_goalN))])), (q_t, .inl (cT, 8192, .inl (fun j : Nat => zI (a_t (j : Int)))))] ++ va_pl Ln_235 (pE Pn_236)) H := hP
      have hD : va_D A ([(q_gp, .inl (cI, mg, .inl (fun j : Nat => zI (a_gp (j : Int))))), (q_gs, .inl (cI, ng, .inl (fun j : Nat => zI (a_gs (j : Int))))), (h0, .inr (14, [.ref q_t, .int (zI (z16_n)), .int (zI (z0_229)), .int (zI (z1_230)), .int (zI (z2_231)), .int (zI (z3_232)), .int (zI (z4_233)), .ref q5_234, v16_8, v16_9, v16_10, .ref q_gp, .ref q_gs, .int (zI (z16_goalN))])), (q_t, .inl (cT, 8192, .inl (fun j : Nat => zI (a_t (j : Int)))))] ++ va_pl Ln_235 (pE Pn_236)) := hD
      have hK : va_K (dC, dI) vwQ [(cI, .int), (cT, .byte), (cO, .object "java/lang/Object"), (cI, .int), (cZ, .boolean)] s := hK
      refine W.widen (k := ((0 + kc_180) + kc_237)) (n := ((0 + ks_181) + ks_238)) (by omega) (by omega) ?_
      obtain ⟨rk_239, rk_240, rk_241, rk_242, rk_243, hu_243⟩ := hxt_238.2
      have hu_244 := hu_243
      have hsm_245 := (hu_244.2.2.2.1 xb hq_214.1 (fun e9 => absurd e9 (kd_ne hq_214.2 hq_215.2 (by decide)))).2
      have : Pn_236.bf xb = Pw_204.bf xb := hsm_245.1 0
      have : Pn_236.bs xb = Pw_204.bs xb := hsm_245.1 1
      have hoc9 := hu_244.2.2.1.2
      have hoq9 : OPQ (Pn_236.rA pr_2) (Pn_236.ra pr_2) := hu_244.2.2.1.1
      have hgo9 := hkd_191.go (by omega)
      have hkd_246 := hu_244.2.2.2.2.2.1
      have hX_kv := hkd_246.2
      have hq_247 : la ∈ Ln_235 ∧ Pn_236.kd la = 30 := hu_244.1.mem hq_213.1 hq_213.2 (by decide)
      have hq_248 : xb ∈ Ln_235 ∧ Pn_236.kd xb = 12 := hu_244.1.mem hq_214.1 hq_214.2 (by decide)
      have hq_249 : pr_2 ∈ Ln_235 ∧ Pn_236.kd pr_2 = 17 := hu_244.1.mem hq_215.1 hq_215.2 (by decide)
      have ha_250 : Pn_236.be xb = pr_2 := hu_244.1.be hq_214.1 hq_214.2 ha_216
      have hA_251 : KEG [] L P Ln_235 Pn_236 := hA_217.trans hu_244.1
      have : Pn_236.lz la = Pw_204.lz la := (hu_244.2.2.2.1 la hq_213.1 (fun e9 => absurd e9 (kd_ne hq_213.2 hq_215.2 (by decide)))).2.1 0
      have hek_252 : Pn_236.ek la = 12 := (by rw [hu_244.1.ek hq_213.1 hq_213.2 (by decide)]; exact hek_218)
      have how_253 : Pn_236.ow la = la := ((hu_244.1.1 la hq_213.1 (by rw [hq_213.2]; decide)).2.2.2.1 hq_213.2 how_219).1
      have hcz := (((hu_244.1.1 la hq_213.1 (by rw [hq_213.2]; decide)).2.2.2.1 hq_213.2 how_219).2 (by simp)).1
      have hE_254 : Pn_236.ek pr_2 = 1 := (by rw [hu_244.1.ek hq_215.1 hq_215.2 (by decide)]; exact hE_220)
      have hX_tx := hu_244.2.2.2.2.2.2.1
      have hxk9 := hu_244.2.2.2.2.2.2.2
      have hcx_255 : CHG (fun z => z = xb ∨ z = P.be xb) L P Ln_235 Pn_236 := hcx_221.trans hu_244.2.2.2.1 (fun z m q => Or.inr (q.trans epr_2))
      refine lv_aload_n hx hb dX16_end_93 rfl (lv_at hl 2 rfl) ?_
      refine lv_aload_n hx hb dX16_end_94 rfl (lv_at hl 1 rfl) ?_
      have hPc := hP.part (X := [(q_gp, .inl (cI, mg, .inl (fun j : Nat => zI (a_gp (j : Int))))), (q_gs, .inl (cI, ng, .inl (fun j : Nat => zI (a_gs (j : Int))))), (h0, .inr (14, [.ref q_t, .int (zI (z16_n)), .int (zI (z0_229)), .int (zI (z1_230)), .int (zI (z2_231)), .int (zI (z3_232)), .int (zI (z4_233)), .ref q5_234, v16_8, v16_9, v16_10, .ref q_gp, .ref q_gs, .int (zI (z16_goalN))])), (q_t, .inl (cT, 8192, .inl (fun j : Nat => zI (a_t (j : Int)))))]) (cx := [(h0, .inr (14, [.ref q_t, .int (zI (z16_n)), .int (zI (z0_229)), .int (zI (z1_230)), .int (zI (z2_231)), .int (zI (z3_232)), .int (zI (z4_233)), .ref q5_234, v16_8, v16_9, v16_10, .ref q_gp, .ref q_gs, .int (zI (z16_goalN))])), (q_t, .inl (cT, 8192, .inl (fun j : Nat => zI (a_t (j : Int))))), (q_gp, .inl (cI, mg, .inl (fun j : Nat => zI (a_gp (j : Int))))), (q_gs, .inl (cI, ng, .inl (fun j : Nat => zI (a_gs (j : Int)))))]) (pl := va_pl Ln_235 (pE Pn_236)) [2, 3, 0, 1] rfl
      have hDc := hD.part (X := [(q_gp, .inl (cI, mg, .inl (fun j : Nat => zI (a_gp (j : Int))))), (q_gs, .inl (cI, ng, .inl (fun j : Nat => zI (a_gs (j : Int))))), (h0, .inr (14, [.ref q_t, .int (zI (z16_n)), .int (zI (z0_229)), .int (zI (z1_230)), .int (zI (z2_231)), .int (zI (z3_232)), .int (zI (z4_233)), .ref q5_234, v16_8, v16_9, v16_10, .ref q_gp, .ref q_gs, .int (zI (z16_goalN))])), (q_t, .inl (cT, 8192, .inl (fun j : Nat => zI (a_t (j : Int)))))]) (cx := [(h0, .inr (14, [.ref q_t, .int (zI (z16_n)), .int (zI (z0_229)), .int (zI (z1_230)), .int (zI (z2_231)), .int (zI (z3_232)), .int (zI (z4_233)), .ref q5_234, v16_8, v16_9, v16_10, .ref q_gp, .ref q_gs, .int (zI (z16_goalN))])), (q_t, .inl (cT, 8192, .inl (fun j : Nat => zI (a_t (j : Int))))), (q_gp, .inl (cI, mg, .inl (fun j : Nat => zI (a_gp (j : Int))))), (q_gs, .inl (cI, ng, .inl (fun j : Nat => zI (a_gs (j : Int)))))]) (pl := va_pl Ln_235 (pE Pn_236)) [2, 3, 0, 1] (by decide) rfl
      have hKc := hK.sub (tys' := [(cT, .byte), (cI, .int)]) [1, 0] rfl
      have hFc := va_freeP (X := [(q_gp, .inl (cI, mg, .inl (fun j : Nat => zI (a_gp (j : Int))))), (q_gs, .inl (cI, ng, .inl (fun j : Nat => zI (a_gs (j : Int))))), (h0, .inr (14, [.ref q_t, .int (zI (z16_n)), .int (zI (z0_229)), .int (zI (z1_230)), .int (zI (z2_231)), .int (zI (z3_232)), .int (zI (z4_233)), .ref q5_234, v16_8, v16_9, v16_10, .ref q_gp, .ref q_gs, .int (zI (z16_goalN))])), (q_t, .inl (cT, 8192, .inl (fun j : Nat => zI (a_t (j : Int)))))]) (cx := [(h0, .inr (14, [.ref q_t, .int (zI (z16_n)), .int (zI (z0_229)), .int (zI (z1_230)), .int (zI (z2_231)), .int (zI (z3_232)), .int (zI (z4_233)), .ref q5_234, v16_8, v16_9, v16_10, .ref q_gp, .ref q_gs, .int (zI (z16_goalN))])), (q_t, .inl (cT, 8192, .inl (fun j : Nat => zI (a_t (j : Int))))), (q_gp, .inl (cI, mg, .inl (fun j : Nat => zI (a_gp (j : Int))))), (q_gs, .inl (cI, ng, .inl (fun j : Nat => zI (a_gs (j : Int)))))]) (pl := va_pl Ln_235 (pE Pn_236)) hD hS hA [2, 3, 0, 1] rfl
      refine W_knowS (fun hrmA => ?_)
      refine vx_calli (vx_runV (As := []) (rest := [.ref xb]) ⟨hx, hb, hml, hown, hts⟩ (c_X16_goalM l dC dI h0 z16_n z0_229 z1_230 z2_231 z3_232 z4_233 v16_8 v16_9 v16_10 z16_goalN q_t cT a_t q5_234 q_gp q_gs cI ng mg a_gp a_gs Ln_235 Pn_236 sa_RX16_9 (by omega) (by omega) (by omega) (by omega) (by omega) (by omega) (by omega) hR_a_t (by omega) hR_a_gp hR_a_gs hX_tx (by omega) hX_kv H.size sv_RX16_9 sa_RX16_119 sv_RX16_119 sa_RX16_100 sv_RX16_100 sa_RX16_117 sv_RX16_117 sa_RX16_98 sv_RX16_98 H) (cwV 0 hts g_X16_endM_X16_goalM rfl rfl rfl (by decide +kernel) ⟨(Nat.le_of_ble_eq_true rfl), (Nat.le_of_ble_eq_true rfl)⟩) ⟨fun a U g mk q => by obtain ⟨q0, q1, qP, qK, qD, e0, e1, e2, e3, e4, e5, e6, e7, e8, e9, e10, e11, e12, e13, e14⟩ := q; exact ⟨q0, q1, qP, va_K.moved (u := U) (U := U.calling g mk a) (Vm.Alike.refl U.vm) qK, qD, vk_R.same (u := U) (U := U.calling g mk a) rfl e0, va_Z.moved (u := U) (U := U.calling g mk a) (Vm.Alike.refl U.vm) e1, vs_S.moved (u := U) (U := U.calling g mk a) (Vm.Alike.refl U.vm) e2, va_Nw.same rfl (u := U) (U := U.calling g mk a) rfl e3, vk_R.same (u := U) (U := U.calling g mk a) rfl e4, vs_S.moved (u := U) (U := U.calling g mk a) (Vm.Alike.refl U.vm) e5, vs_S.moved (u := U) (U := U.calling g mk a) (Vm.Alike.refl U.vm) e6, vk_R.same (u := U) (U := U.calling g mk a) rfl e7, vk_R.same (u := U) (U := U.calling g mk a) rfl e8, vs_S.moved (u := U) (U := U.calling g mk a) (Vm.Alike.refl U.vm) e9, vk_R.same (u := U) (U := U.calling g mk a) rfl e10, vs_S.moved (u := U) (U := U.calling g mk a) (Vm.Alike.refl U.vm) e11, vx_Zq.moved (u := U) (U := U.calling g mk a) (Vm.Alike.refl U.vm) e12, vx_Zq.moved (u := U) (U := U.calling g mk a) (Vm.Alike.refl U.vm) e13, e14⟩, va_recv hKc hPc (ci := 14) (q0 := 0) rfl rfl, fun U hU hW => ⟨rfl, by rw [hU], by rw [hU]; exact hPc, va_K.moved hW.alike hKc, hDc.weaken (fun _ _ _ _ => trivial), vk_R.warm hW hp11, by rw [hU]; exact va_Z.narrow (va_Z.moved hW.alike (va_Z.kept hp3 hS.2.1)) hFc, by rw [hU]; exact vs_S.narrow (vs_S.moved hW.alike (vs_S.kept hp2 hS.2.1)) hFc, va_Nw.warmC hW hp12, vk_R.warm hW hp13, by rw [hU]; exact vs_S.narrow (vs_S.moved hW.alike (vs_S.kept hp14 hS.2.1)) hFc, by rw [hU]; exact vs_S.narrow (vs_S.moved hW.alike (vs_S.kept hp15 hS.2.1)) hFc, vk_R.warm hW hp16, vk_R.warm hW hp17, by rw [hU]; exact vs_S.narrow (vs_S.moved hW.alike (vs_S.kept hp18 hS.2.1)) hFc, vk_R.warm hW hp19, by rw [hU]; exact vs_S.narrow (vs_S.moved hW.alike (vs_S.kept hp20 hS.2.1)) hFc, by rw [hU]; exact vx_Zq.narrow (vx_Zq.moved hW.alike (vx_Zq.kept hp8 hS.2.1)) hFc, by rw [hU]; exact vx_Zq.narrow (vx_Zq.moved hW.alike (vx_Zq.kept hp9 hS.2.1)) hFc, hU⟩⟩ rfl rfl hl.1 rfl (lv_room (Nat.le_of_ble_eq_true rfl)) dX16_end_95 ⟨(show ((0 + kc_180) + kc_237) + ((13 * (z16_n - z0_229) + 22).toNat) ≤ (14 * (z16_n - z16_at) + 4 * z16_goalN + 120).toNat from (by omega)), (show ((0 + ks_181) + ks_238) + ((110 * (z16_n - z0_229) + 4 * z16_goalN + 120).toNat) ≤ (120 * (z16_n - z16_at) + 16 * z16_goalN + 700).toNat from (by omega))⟩) hS (fun q _ h => hFc q h) hFc (fun q _ h => hFc q h) (fun E ce q9 u t H1 locs ht hvm _ hB hz1 hk1 hS hce hcv hcl => ?_) (fun r_256 z_257 t H1 locs ht hvm hw hB hz1 hk1 hS => ?_)
      · obtain ⟨rfl, zp_258, Ln_259, Pn_260, kc_261, ks_262, hxt_263, hP1, hD1⟩ := hB
        rw [ht] at hP1
        obtain ⟨hP, hD⟩ := va_joinP (X := [(q_gp, .inl (cI, mg, .inl (fun j : Nat => zI (a_gp (j : Int))))), (q_gs, .inl (cI, ng, .inl (fun j : Nat => zI (a_gs (j : Int))))), (h0, .inr (14, [.ref q_t, .int (zI (z16_n)), .int (zI (z0_229)), .int (zI (z1_230)), .int (zI (z2_231)), .int (zI (z3_232)), .int (zI (z4_233)), .ref q5_234, v16_8, v16_9, v16_10, .ref q_gp, .ref q_gs, .int (zI (z16_goalN))])), (q_t, .inl (cT, 8192, .inl (fun j : Nat => zI (a_t (j : Int)))))]) (cx := [(h0, .inr (14, [.ref q_t, .int (zI (z16_n)), .int (zI (z0_229)), .int (zI (z1_230)), .int (zI (z2_231)), .int (zI (z3_232)), .int (zI (z4_233)), .ref q5_234, v16_8, v16_9, v16_10, .ref q_gp, .ref q_gs, .int (zI (z16_goalN))])), (q_t, .inl (cT, 8192, .inl (fun j : Nat => zI (a_t (j : Int))))), (q_gp, .inl (cI, mg, .inl (fun j : Nat => zI (a_gp (j : Int))))), (q_gs, .inl (cI, ng, .inl (fun j : Nat => zI (a_gs (j : Int)))))]) (wr := []) (rx := [(q_t, .inl (cT, 8192, .inl (fun j : Nat => zI (a_t (j : Int))))), (q9, .inr (15, [.null, .null, .null, .null, .null, .int 0, .int (zI (zp_258))]))]) (pl := va_pl Ln_235 (pE Pn_236)) (pl1 := va_pl Ln_259 (pE Pn_260)) hP hD [2, 3, 0, 1] [] rfl rfl (by decide) (by decide) hk1 hFc hP1 hD1
        have hrmC := hxt_263.1.1
        rw [ht] at hrmC
        refine vx_tightS (hrmA.trans hrmC) ?_
        have hrb := hxt_263.1.2
        generalize H1 = H at hP hS hce ⊢
        have hP : va_P (dC, dI) vwQ ([(q_t, .inl (cT, 8192, .inl (fun j : Nat => zI (a_t (j : Int))))), (q9, .inr (15, [.null, .null, .null, .null, .null, .int 0, .int (zI (zp_258))]))] ++ va_pl Ln_259 (pE Pn_260)) H := hP
        have hD : va_D A ([(q_t, .inl (cT, 8192, .inl (fun j : Nat => zI (a_t (j : Int))))), (q9, .inr (15, [.null, .null, .null, .null, .null, .int 0, .int (zI (zp_258))]))] ++ va_pl Ln_259 (pE Pn_260)) := hD
        have hzp : 0 ≤ zp_258 ∧ zp_258 ≤ 8192 := hxt_263.2.1
        subst hQ
        refine vx_knowS (fun hrm9 => ?_)
        refine vx_widen (k := ((14 * (z16_n - z16_at) + 4 * z16_goalN + 120).toNat)) (n := ((120 * (z16_n - z16_at) + 16 * z16_goalN + 700).toNat)) (by omega) (by omega) ?_
        exact vx_out (fun x9 h9 => (hnt x9 h9).elim) hlocks hce hcv hcl (fun t ht hvm => ⟨(), trivial, ⟨rfl, zp_258, Ln_259, Pn_260, (((0 + kc_180) + kc_237) + kc_261), (((0 + ks_181) + ks_238) + ks_262), ⟨⟨(by rw [ht, ← hp10]; exact hrm9), (by omega)⟩, ⟨(by omega), ⟨hA_251.trans (hxt_263.2.2.1.keg hu_244.2.1), hu_244.2.1.txt hxt_263.2.2.1 hxt_263.2.2.2, (hcx_255.cpa hg00.owa (fun z _ q => by rcases (show z = xb ∨ z = P.be xb from q) with q | q; rw [q, hX_bk]; decide; rw [q, (hg00.gb hX_b hX_bk).1.2.1]; decide)).trans hA_251 (hxt_263.2.2.1.cpa hu_244.2.1.owa)⟩⟩⟩, by rw [ht]; exact hP, hD⟩, hS.F ht⟩) hS.2.2 (Nat.le_refl _) (Nat.le_refl _)
      obtain ⟨z0_264, z1_265, z2_266, z3_267, z4_268, q5_269, z6_270, qn0_271, nn0_272, an0_273, qn1_274, nn1_275, an1_276, Ln_277, Pn_278, kc_279, ks_280, hxt_280, hP1, hK1, hD1⟩ := hB
      rw [ht] at hP1
      have hK1 := va_K.moved hvm.symm hK1
      obtain ⟨hP, hD⟩ := va_joinP (X := [(q_gp, .inl (cI, mg, .inl (fun j : Nat => zI (a_gp (j : Int))))), (q_gs, .inl (cI, ng, .inl (fun j : Nat => zI (a_gs (j : Int))))), (h0, .inr (14, [.ref q_t, .int (zI (z16_n)), .int (zI (z0_229)), .int (zI (z1_230)), .int (zI (z2_231)), .int (zI (z3_232)), .int (zI (z4_233)), .ref q5_234, v16_8, v16_9, v16_10, .ref q_gp, .ref q_gs, .int (zI (z16_goalN))])), (q_t, .inl (cT, 8192, .inl (fun j : Nat => zI (a_t (j : Int)))))]) (cx := [(h0, .inr (14, [.ref q_t, .int (zI (z16_n)), .int (zI (z0_229)), .int (zI (z1_230)), .int (zI (z2_231)), .int (zI (z3_232)), .int (zI (z4_233)), .ref q5_234, v16_8, v16_9, v16_10, .ref q_gp, .ref q_gs, .int (zI (z16_goalN))])), (q_t, .inl (cT, 8192, .inl (fun j : Nat => zI (a_t (j : Int))))), (q_gp, .inl (cI, mg, .inl (fun j : Nat => zI (a_gp (j : Int))))), (q_gs, .inl (cI, ng, .inl (fun j : Nat => zI (a_gs (j : Int)))))]) (wr := []) (rx := [(h0, .inr (14, [.ref q_t, .int (zI (z16_n)), .int (zI (z0_264)), .int (zI (z1_265)), .int (zI (z2_266)), .int (zI (z3_267)), .int (zI (z4_268)), .ref q5_269, v16_8, v16_9, v16_10, .ref qn0_271, .ref qn1_274, .int (zI (z6_270))])), (q_t, .inl (cT, 8192, .inl (fun j : Nat => zI (a_t (j : Int))))), (qn0_271, .inl (cI, nn0_272, .inl (fun j : Nat => zI (an0_273 (j : Int))))), (qn1_274, .inl (cI, nn1_275, .inl (fun j : Nat => zI (an1_276 (j : Int)))))]) (pl := va_pl Ln_235 (pE Pn_236)) (pl1 := va_pl Ln_277 (pE Pn_278)) hP hD [2, 3, 0, 1] [] rfl rfl (by decide) (by decide) hk1 hFc hP1 hD1
      have hK := (hK.sub (tys' := [(cO, .object "java/lang/Object"), (cZ, .boolean)]) [2, 4] rfl).app hK1
      have hrmC := hxt_280.1.1
      rw [ht] at hrmC
      refine W_tightS (hrmA.trans hrmC) ?_
      have hrb := hxt_280.1.2
      generalize H1 = H at hP hS ⊢
      have hP : va_P (dC, dI) vwQ ([(h0, .inr (14, [.ref q_t, .int (zI (z16_n)), .int (zI (z0_264)), .int (zI (z1_265)), .int (zI (z2_266)), .int (zI (z3_267)), .int (zI (z4_268)), .ref q5_269, v16_8, v16_9, v16_10, .ref qn0_271, .ref qn1_274, .int (zI (z6_270))])), (q_t, .inl (cT, 8192, .inl (fun j : Nat => zI (a_t (j : Int))))), (qn0_271, .inl (cI, nn0_272, .inl (fun j : Nat => zI (an0_273 (j : Int))))), (qn1_274, .inl (cI, nn1_275, .inl (fun j : Nat => zI (an1_276 (j : Int)))))] ++ va_pl Ln_277 (pE Pn_278)) H := hP
      have hD : va_D A ([(h0, .inr (14, [.ref q_t, .int (zI (z16_n)), .int (zI (z0_264)), .int (zI (z1_265)), .int (zI (z2_266)), .int (zI (z3_267)), .int (zI (z4_268)), .ref q5_269, v16_8, v16_9, v16_10, .ref qn0_271, .ref qn1_274, .int (zI (z6_270))])), (q_t, .inl (cT, 8192, .inl (fun j : Nat => zI (a_t (j : Int))))), (qn0_271, .inl (cI, nn0_272, .inl (fun j : Nat => zI (an0_273 (j : Int))))), (qn1_274, .inl (cI, nn1_275, .inl (fun j : Nat => zI (an1_276 (j : Int)))))] ++ va_pl Ln_277 (pE Pn_278)) := hD
      have hK : va_K (dC, dI) vwQ [(cO, .object "java/lang/Object"), (cZ, .boolean), (cT, .byte), (cI, .int)] s := hK
      refine W.widen (k := (((0 + kc_180) + kc_237) + kc_279)) (n := (((0 + ks_181) + ks_238) + ks_280)) (by omega) (by omega) ?_
      obtain ⟨rfl, hzz_257⟩ := hw
      obtain ⟨rk_281, rk_282, rk_283, rk_284, rk_285, rk_286, rk_287, rk_288, hu_288⟩ := hxt_280.2
      have hgo9 := hkd_246.go (by omega)
      have hkd_293 := hu_288.2.2.2.2.1
      have hX_kv := hkd_293.2
      have hu_289 := hu_288.2.2.2.2.2
      have hex_290 : EXT9 Ln_235 Pn_236 Ln_277 Pn_278 := hu_289.1
      have hke_291 : KEG [] Ln_235 Pn_236 Ln_277 Pn_278 := hex_290.keg hu_244.2.1
      have hak_292 : GLF Ln_277 Pn_278 cO cI cZ sx_ed := hu_244.2.1.txt hex_290 hu_289.2.1
      have hsm_294 := (hex_290 xb hq_248.1).2
      have : Pn_278.bf xb = Pn_236.bf xb := hsm_294.1 0
      have : Pn_278.bs xb = Pn_236.bs xb := hsm_294.1 1
      have hsm_295 := (hex_290 pr_2 hq_249.1).2
      have : Pn_278.ro pr_2 = Pn_236.ro pr_2 := hsm_295.1 0
      have : Pn_278.rt pr_2 = Pn_236.rt pr_2 := hsm_295.1 1
      have : Pn_278.ra pr_2 = Pn_236.ra pr_2 := hsm_295.1 2
      have : Pn_278.rb pr_2 = Pn_236.rb pr_2 := hsm_295.1 3
      have : Pn_278.rA pr_2 = Pn_236.rA pr_2 := hsm_295.1 4
      have : Pn_278.rB pr_2 = Pn_236.rB pr_2 := hsm_295.1 5
      have : Pn_278.rg pr_2 = Pn_236.rg pr_2 := hsm_295.1 6
      have hq_296 : la ∈ Ln_277 ∧ Pn_278.kd la = 30 := hke_291.mem hq_247.1 hq_247.2 (by decide)
      have hq_297 : xb ∈ Ln_277 ∧ Pn_278.kd xb = 12 := hke_291.mem hq_248.1 hq_248.2 (by decide)
      have hq_298 : pr_2 ∈ Ln_277 ∧ Pn_278.kd pr_2 = 17 := hke_291.mem hq_249.1 hq_249.2 (by decide)
      have ha_299 : Pn_278.be xb = pr_2 := hke_291.be hq_248.1 hq_248.2 ha_250
      have hA_300 : KEG [] L P Ln_277 Pn_278 := hA_251.trans hke_291
      have : Pn_278.lz la = Pn_236.lz la := (hex_290 la hq_247.1).2.1 0
      have hek_301 : Pn_278.ek la = 12 := (by rw [hke_291.ek hq_247.1 hq_247.2 (by decide)]; exact hek_252)
      have how_302 : Pn_278.ow la = la := ((hke_291.1 la hq_247.1 (by rw [hq_247.2]; decide)).2.2.2.1 hq_247.2 how_253).1
      have hcz := (((hke_291.1 la hq_247.1 (by rw [hq_247.2]; decide)).2.2.2.1 hq_247.2 how_253).2 (by simp)).1
      have hE_303 : Pn_278.ek pr_2 = 1 := (by rw [hke_291.ek hq_249.1 hq_249.2 (by decide)]; exact hE_254)
      have hX_tx := hu_289.2.2
      have hcx_304 : CHG (fun z => z = xb ∨ z = P.be xb) L P Ln_277 Pn_278 := hcx_255.trans hex_290.chg (fun z m q => q.elim)
      have hgo1 := hu_288
      have hgn1 := hgo1.1
      have hfb := (hak_292.gb hq_297.1 hq_297.2).2
      obtain ⟨kp_305, gkp_305⟩ := va_pl_get (X := [(h0, .inr (14, [.ref q_t, .int (zI (z16_n)), .int (zI (z0_264)), .int (zI (z1_265)), .int (zI (z2_266)), .int (zI (z3_267)), .int (zI (z4_268)), .ref q5_269, v16_8, v16_9, v16_10, .ref qn0_271, .ref qn1_274, .int (zI (z6_270))])), (q_t, .inl (cT, 8192, .inl (fun j : Nat => zI (a_t (j : Int))))), (qn0_271, .inl (cI, nn0_272, .inl (fun j : Nat => zI (an0_273 (j : Int))))), (qn1_274, .inl (cI, nn1_275, .inl (fun j : Nat => zI (an1_276 (j : Int)))))]) (f := pE Pn_278) hq_297.1
      have hkp_305 := gkp_305
      rw [pE_block hq_297.2] at hkp_305
      have hD0 := hD
      refine va_put (D := (dC, dI)) (ci := 19) (v := .int (zI (z_257))) (ty := .int) (C := RX12) (T := TX12) (N := 5) hx hb hts mem_X16_endM_0 tyX12 tyX12_ok nmX12 hown hK hP hD hS kp_305 hkp_305 rfl 3 (by decide) (ow (k := 4) rfl) (fun _ h9 => h9) rfl (by decide +kernel) rfl rfl (by first | exact Nat.le_of_ble_eq_true rfl | exact (show (((0 + kc_180) + kc_237) + kc_279) ≤ (14 * (z16_n - z16_at) + 4 * z16_goalN + 120).toNat from (by omega)) | exact (show (((0 + ks_181) + ks_238) + ks_280) ≤ (120 * (z16_n - z16_at) + 16 * z16_goalN + 700).toNat from (by omega))) dX16_end_98 (fun H locs hP hD hS => ?_)
      obtain ⟨Pw_306, ePw_306⟩ : ∃ q9 : PO, q9 = Pn_278.rw9 0 xb (z_257) := ⟨_, rfl⟩
      have eU : (([(h0, .inr (14, [.ref q_t, .int (zI (z16_n)), .int (zI (z0_264)), .int (zI (z1_265)), .int (zI (z2_266)), .int (zI (z3_267)), .int (zI (z4_268)), .ref q5_269, v16_8, v16_9, v16_10, .ref qn0_271, .ref qn1_274, .int (zI (z6_270))])), (q_t, .inl (cT, 8192, .inl (fun j : Nat => zI (a_t (j : Int))))), (qn0_271, .inl (cI, nn0_272, .inl (fun j : Nat => zI (an0_273 (j : Int))))), (qn1_274, .inl (cI, nn1_275, .inl (fun j : Nat => zI (an1_276 (j : Int)))))] : va_W) ++ va_pl Ln_277 (pE Pn_278)).set kp_305 (xb, blockE (Pn_278.bp xb) (Pn_278.br xb) (Pn_278.be xb) (z_257) (Pn_278.bs xb)) = ([(h0, .inr (14, [.ref q_t, .int (zI (z16_n)), .int (zI (z0_264)), .int (zI (z1_265)), .int (zI (z2_266)), .int (zI (z3_267)), .int (zI (z4_268)), .ref q5_269, v16_8, v16_9, v16_10, .ref qn0_271, .ref qn1_274, .int (zI (z6_270))])), (q_t, .inl (cT, 8192, .inl (fun j : Nat => zI (a_t (j : Int))))), (qn0_271, .inl (cI, nn0_272, .inl (fun j : Nat => zI (an0_273 (j : Int))))), (qn1_274, .inl (cI, nn1_275, .inl (fun j : Nat => zI (an1_276 (j : Int)))))] : va_W) ++ va_pl Ln_277 (pE Pw_306) := (by rw [va_pl_set hD0 hq_297.1 gkp_305, ePw_306]; exact congrArg (fun f9 => ([(h0, .inr (14, [.ref q_t, .int (zI (z16_n)), .int (zI (z0_264)), .int (zI (z1_265)), .int (zI (z2_266)), .int (zI (z3_267)), .int (zI (z4_268)), .ref q5_269, v16_8, v16_9, v16_10, .ref qn0_271, .ref qn1_274, .int (zI (z6_270))])), (q_t, .inl (cT, 8192, .inl (fun j : Nat => zI (a_t (j : Int))))), (qn0_271, .inl (cI, nn0_272, .inl (fun j : Nat => zI (an0_273 (j : Int))))), (qn1_274, .inl (cI, nn1_275, .inl (fun j : Nat => zI (an1_276 (j : Int)))))] : va_W) ++ va_pl Ln_277 f9) (put12_0 hq_297.2))
      have hP : va_P (dC, dI) vwQ ([(h0, .inr (14, [.ref q_t, .int (zI (z16_n)), .int (zI (z0_264)), .int (zI (z1_265)), .int (zI (z2_266)), .int (zI (z3_267)), .int (zI (z4_268)), .ref q5_269, v16_8, v16_9, v16_10, .ref qn0_271, .ref qn1_274, .int (zI (z6_270))])), (q_t, .inl (cT, 8192, .inl (fun j : Nat => zI (a_t (j : Int))))), (qn0_271, .inl (cI, nn0_272, .inl (fun j : Nat => zI (an0_273 (j : Int))))), (qn1_274, .inl (cI, nn1_275, .inl (fun j : Nat => zI (an1_276 (j : Int)))))] ++ va_pl Ln_277 (pE Pw_306)) H := (by rw [← eU]; exact hP)
      have hD : va_D A ([(h0, .inr (14, [.ref q_t, .int (zI (z16_n)), .int (zI (z0_264)), .int (zI (z1_265)), .int (zI (z2_266)), .int (zI (z3_267)), .int (zI (z4_268)), .ref q5_269, v16_8, v16_9, v16_10, .ref qn0_271, .ref qn1_274, .int (zI (z6_270))])), (q_t, .inl (cT, 8192, .inl (fun j : Nat => zI (a_t (j : Int))))), (qn0_271, .inl (cI, nn0_272, .inl (fun j : Nat => zI (an0_273 (j : Int))))), (qn1_274, .inl (cI, nn1_275, .inl (fun j : Nat => zI (an1_276 (j : Int)))))] ++ va_pl Ln_277 (pE Pw_306)) := (by rw [← eU]; exact hD)
      clear eU hD0 gkp_305 hkp_305
      have wPw_306 : RW1 xb Pn_278 Pw_306 := (by rw [ePw_306]; exact RW1.put _ _ _ _)
      have hy_307 : Pw_306.kd la = 30 := (by rw [ePw_306]; exact hq_296.2)
      have hy_308 : Pw_306.kd xb = 12 := (by rw [ePw_306]; exact hq_297.2)
      have : Pw_306.bf xb = z_257 := (by rw [ePw_306]; exact rw9_at _ _ _ _)
      have : Pw_306.bs xb = Pn_278.bs xb := (by rw [ePw_306]; exact rw9_of _ (by decide))
      have hy_309 : Pw_306.kd pr_2 = 17 := (by rw [ePw_306]; exact hq_298.2)
      have : Pw_306.ro pr_2 = Pn_278.ro pr_2 := wPw_306.2 _ (kd_ne hq_298.2 hq_297.2 (by decide)) _
      have : Pw_306.rt pr_2 = Pn_278.rt pr_2 := wPw_306.2 _ (kd_ne hq_298.2 hq_297.2 (by decide)) _
      have : Pw_306.ra pr_2 = Pn_278.ra pr_2 := wPw_306.2 _ (kd_ne hq_298.2 hq_297.2 (by decide)) _
      have : Pw_306.rb pr_2 = Pn_278.rb pr_2 := wPw_306.2 _ (kd_ne hq_298.2 hq_297.2 (by decide)) _
      have : Pw_306.rA pr_2 = Pn_278.rA pr_2 := wPw_306.2 _ (kd_ne hq_298.2 hq_297.2 (by decide)) _
      have : Pw_306.rB pr_2 = Pn_278.rB pr_2 := wPw_306.2 _ (kd_ne hq_298.2 hq_297.2 (by decide)) _
      have : Pw_306.rg pr_2 = Pn_278.rg pr_2 := wPw_306.2 _ (kd_ne hq_298.2 hq_297.2 (by decide)) _
      have ha_310 : Pw_306.be xb = pr_2 := (by rw [ePw_306]; exact ha_299)
      have hW_311 : RW1 xb Pn_278 Pw_306 := wPw_306
      have hak_313 : GLF Ln_277 Pw_306 cO cI cZ sx_ed := hak_292.goal hW_311 hq_297.2 (by omega)
      have hke_312 : KEG [] Ln_277 Pn_278 Ln_277 Pw_306 := hW_311.keg _ hq_296.2 (by omega)
      have hq_315 : la ∈ Ln_277 ∧ Pw_306.kd la = 30 := hke_312.mem hq_296.1 hq_296.2 (by decide)
      have hq_316 : xb ∈ Ln_277 ∧ Pw_306.kd xb = 12 := hke_312.mem hq_297.1 hq_297.2 (by decide)
      have hq_317 : pr_2 ∈ Ln_277 ∧ Pw_306.kd pr_2 = 17 := hke_312.mem hq_298.1 hq_298.2 (by decide)
      have ha_318 : Pw_306.be xb = pr_2 := hke_312.be hq_297.1 hq_297.2 ha_299
      have hA_319 : KEG [] L P Ln_277 Pw_306 := hA_300.trans hke_312
      have : Pw_306.cap la = Pn_278.cap la := hW_311.cap la
      have hek_320 : Pw_306.ek la = 12 := (by rw [hke_312.ek hq_296.1 hq_296.2 (by decide)]; exact hek_301)
      have how_321 : Pw_306.ow la = la := ((hke_312.1 la hq_296.1 (by rw [hq_296.2]; decide)).2.2.2.1 hq_296.2 how_302).1
      have hcz := (((hke_312.1 la hq_296.1 (by rw [hq_296.2]; decide)).2.2.2.1 hq_296.2 how_302).2 (by simp)).1
      have hE_322 : Pw_306.ek pr_2 = 1 := (by rw [hke_312.ek hq_298.1 hq_298.2 (by decide)]; exact hE_303)
      have hX_tx := hX_tx.rw1 hW_311 (Or.inr hq_297.2)
      have hcx_323 : CHG (fun z => z = xb ∨ z = P.be xb) L P Ln_277 Pw_306 := hcx_304.trans (hW_311.chg _) (fun z m q => Or.inl q)
      have hsm_324 := (hW_311.chg Ln_277 pr_2 hq_317.1 (fun e9 => absurd e9 (kd_ne hq_317.2 hq_316.2 (by decide)))).2
      have : Pw_306.ro pr_2 = Pn_278.ro pr_2 := hsm_324.1 0
      have : Pw_306.rt pr_2 = Pn_278.rt pr_2 := hsm_324.1 1
      have : Pw_306.ra pr_2 = Pn_278.ra pr_2 := hsm_324.1 2
      have : Pw_306.rb pr_2 = Pn_278.rb pr_2 := hsm_324.1 3
      have : Pw_306.rA pr_2 = Pn_278.rA pr_2 := hsm_324.1 4
      have : Pw_306.rB pr_2 = Pn_278.rB pr_2 := hsm_324.1 5
      have : Pw_306.rg pr_2 = Pn_278.rg pr_2 := hsm_324.1 6
      refine lv_aload_n hx hb dX16_end_101 rfl (lv_at hl 2 rfl) ?_
      refine lv_aload_n hx hb dX16_end_102 rfl (lv_at hl 1 rfl) ?_
      have hPc := hP.part (X := [(h0, .inr (14, [.ref q_t, .int (zI (z16_n)), .int (zI (z0_264)), .int (zI (z1_265)), .int (zI (z2_266)), .int (zI (z3_267)), .int (zI (z4_268)), .ref q5_269, v16_8, v16_9, v16_10, .ref qn0_271, .ref qn1_274, .int (zI (z6_270))])), (q_t, .inl (cT, 8192, .inl (fun j : Nat => zI (a_t (j : Int))))), (qn0_271, .inl (cI, nn0_272, .inl (fun j : Nat => zI (an0_273 (j : Int))))), (qn1_274, .inl (cI, nn1_275, .inl (fun j : Nat => zI (an1_276 (j : Int)))))]) (cx := [(h0, .inr (14, [.ref q_t, .int (zI (z16_n)), .int (zI (z0_264)), .int (zI (z1_265)), .int (zI (z2_266)), .int (zI (z3_267)), .int (zI (z4_268)), .ref q5_269, v16_8, v16_9, v16_10, .ref qn0_271, .ref qn1_274, .int (zI (z6_270))])), (q_t, .inl (cT, 8192, .inl (fun j : Nat => zI (a_t (j : Int))))), (qn0_271, .inl (cI, nn0_272, .inl (fun j : Nat => zI (an0_273 (j : Int))))), (qn1_274, .inl (cI, nn1_275, .inl (fun j : Nat => zI (an1_276 (j : Int)))))]) (pl := va_pl Ln_277 (pE Pw_306)) [0, 1, 2, 3] rfl
      have hDc := hD.part (X := [(h0, .inr (14, [.ref q_t, .int (zI (z16_n)), .int (zI (z0_264)), .int (zI (z1_265)), .int (zI (z2_266)), .int (zI (z3_267)), .int (zI (z4_268)), .ref q5_269, v16_8, v16_9, v16_10, .ref qn0_271, .ref qn1_274, .int (zI (z6_270))])), (q_t, .inl (cT, 8192, .inl (fun j : Nat => zI (a_t (j : Int))))), (qn0_271, .inl (cI, nn0_272, .inl (fun j : Nat => zI (an0_273 (j : Int))))), (qn1_274, .inl (cI, nn1_275, .inl (fun j : Nat => zI (an1_276 (j : Int)))))]) (cx := [(h0, .inr (14, [.ref q_t, .int (zI (z16_n)), .int (zI (z0_264)), .int (zI (z1_265)), .int (zI (z2_266)), .int (zI (z3_267)), .int (zI (z4_268)), .ref q5_269, v16_8, v16_9, v16_10, .ref qn0_271, .ref qn1_274, .int (zI (z6_270))])), (q_t, .inl (cT, 8192, .inl (fun j : Nat => zI (a_t (j : Int))))), (qn0_271, .inl (cI, nn0_272, .inl (fun j : Nat => zI (an0_273 (j : Int))))), (qn1_274, .inl (cI, nn1_275, .inl (fun j : Nat => zI (an1_276 (j : Int)))))]) (pl := va_pl Ln_277 (pE Pw_306)) [0, 1, 2, 3] (by decide) rfl
      have hKc := hK.sub (tys' := [(cT, .byte), (cI, .int)]) [2, 3] rfl
      have hFc := va_freeP (X := [(h0, .inr (14, [.ref q_t, .int (zI (z16_n)), .int (zI (z0_264)), .int (zI (z1_265)), .int (zI (z2_266)), .int (zI (z3_267)), .int (zI (z4_268)), .ref q5_269, v16_8, v16_9, v16_10, .ref qn0_271, .ref qn1_274, .int (zI (z6_270))])), (q_t, .inl (cT, 8192, .inl (fun j : Nat => zI (a_t (j : Int))))), (qn0_271, .inl (cI, nn0_272, .inl (fun j : Nat => zI (an0_273 (j : Int))))), (qn1_274, .inl (cI, nn1_275, .inl (fun j : Nat => zI (an1_276 (j : Int)))))]) (cx := [(h0, .inr (14, [.ref q_t, .int (zI (z16_n)), .int (zI (z0_264)), .int (zI (z1_265)), .int (zI (z2_266)), .int (zI (z3_267)), .int (zI (z4_268)), .ref q5_269, v16_8, v16_9, v16_10, .ref qn0_271, .ref qn1_274, .int (zI (z6_270))])), (q_t, .inl (cT, 8192, .inl (fun j : Nat => zI (a_t (j : Int))))), (qn0_271, .inl (cI, nn0_272, .inl (fun j : Nat => zI (an0_273 (j : Int))))), (qn1_274, .inl (cI, nn1_275, .inl (fun j : Nat => zI (an1_276 (j : Int)))))]) (pl := va_pl Ln_277 (pE Pw_306)) hD hS hA [0, 1, 2, 3] rfl
      refine W_knowS (fun hrmA => ?_)
      refine vx_calli (vx_runV (As := []) (rest := [.ref xb]) ⟨hx, hb, hml, hown, hts⟩ (c_X16_goalM l dC dI h0 z16_n z0_264 z1_265 z2_266 z3_267 z4_268 v16_8 v16_9 v16_10 z6_270 q_t cT a_t q5_269 qn0_271 qn1_274 cI nn1_275 nn0_272 an0_273 an1_276 Ln_277 Pw_306 sa_RX16_9 (by omega) (by omega) (by omega) (by omega) (by omega) (by omega) (by omega) hR_a_t (by omega) rk_287 rk_288 hX_tx (by omega) hX_kv H.size sv_RX16_9 sa_RX16_119 sv_RX16_119 sa_RX16_100 sv_RX16_100 sa_RX16_117 sv_RX16_117 sa_RX16_98 sv_RX16_98 H) (cwV 0 hts g_X16_endM_X16_goalM rfl rfl rfl (by decide +kernel) ⟨(Nat.le_of_ble_eq_true rfl), (Nat.le_of_ble_eq_true rfl)⟩) ⟨fun a U g mk q => by obtain ⟨q0, q1, qP, qK, qD, e0, e1, e2, e3, e4, e5, e6, e7, e8, e9, e10, e11, e12, e13, e14⟩ := q; exact ⟨q0, q1, qP, va_K.moved (u := U) (U := U.calling g mk a) (Vm.Alike.refl U.vm) qK, qD, vk_R.same (u := U) (U := U.calling g mk a) rfl e0, va_Z.moved (u := U) (U := U.calling g mk a) (Vm.Alike.refl U.vm) e1, vs_S.moved (u := U) (U := U.calling g mk a) (Vm.Alike.refl U.vm) e2, va_Nw.same rfl (u := U) (U := U.calling g mk a) rfl e3, vk_R.same (u := U) (U := U.calling g mk a) rfl e4, vs_S.moved (u := U) (U := U.calling g mk a) (Vm.Alike.refl U.vm) e5, vs_S.moved (u := U) (U := U.calling g mk a) (Vm.Alike.refl U.vm) e6, vk_R.same (u := U) (U := U.calling g mk a) rfl e7, vk_R.same (u := U) (U := U.calling g mk a) rfl e8, vs_S.moved (u := U) (U := U.calling g mk a) (Vm.Alike.refl U.vm) e9, vk_R.same (u := U) (U := U.calling g mk a) rfl e10, vs_S.moved (u := U) (U := U.calling g mk a) (Vm.Alike.refl U.vm) e11, vx_Zq.moved (u := U) (U := U.calling g mk a) (Vm.Alike.refl U.vm) e12, vx_Zq.moved (u := U) (U := U.calling g mk a) (Vm.Alike.refl U.vm) e13, e14⟩, va_recv hKc hPc (ci := 14) (q0 := 0) rfl rfl, fun U hU hW => ⟨rfl, by rw [hU], by rw [hU]; exact hPc, va_K.moved hW.alike hKc, hDc.weaken (fun _ _ _ _ => trivial), vk_R.warm hW hp11, by rw [hU]; exact va_Z.narrow (va_Z.moved hW.alike (va_Z.kept hp3 hS.2.1)) hFc, by rw [hU]; exact vs_S.narrow (vs_S.moved hW.alike (vs_S.kept hp2 hS.2.1)) hFc, va_Nw.warmC hW hp12, vk_R.warm hW hp13, by rw [hU]; exact vs_S.narrow (vs_S.moved hW.alike (vs_S.kept hp14 hS.2.1)) hFc, by rw [hU]; exact vs_S.narrow (vs_S.moved hW.alike (vs_S.kept hp15 hS.2.1)) hFc, vk_R.warm hW hp16, vk_R.warm hW hp17, by rw [hU]; exact vs_S.narrow (vs_S.moved hW.alike (vs_S.kept hp18 hS.2.1)) hFc, vk_R.warm hW hp19, by rw [hU]; exact vs_S.narrow (vs_S.moved hW.alike (vs_S.kept hp20 hS.2.1)) hFc, by rw [hU]; exact vx_Zq.narrow (vx_Zq.moved hW.alike (vx_Zq.kept hp8 hS.2.1)) hFc, by rw [hU]; exact vx_Zq.narrow (vx_Zq.moved hW.alike (vx_Zq.kept hp9 hS.2.1)) hFc, hU⟩⟩ rfl rfl hl.1 rfl (lv_room (Nat.le_of_ble_eq_true rfl)) dX16_end_103 ⟨(show (((0 + kc_180) + kc_237) + kc_279) + ((13 * (z16_n - z0_264) + 22).toNat) ≤ (14 * (z16_n - z16_at) + 4 * z16_goalN + 120).toNat from (by omega)), (show (((0 + ks_181) + ks_238) + ks_280) + ((110 * (z16_n - z0_264) + 4 * z6_270 + 120).toNat) ≤ (120 * (z16_n - z16_at) + 16 * z16_goalN + 700).toNat from (by omega))⟩) hS (fun q _ h => hFc q h) hFc (fun q _ h => hFc q h) (fun E ce q9 u t H1 locs ht hvm _ hB hz1 hk1 hS hce hcv hcl => ?_) (fun r_325 z_326 t H1 locs ht hvm hw hB hz1 hk1 hS => ?_)
      · obtain ⟨rfl, zp_327, Ln_328, Pn_329, kc_330, ks_331, hxt_332, hP1, hD1⟩ := hB
        rw [ht] at hP1
        obtain ⟨hP, hD⟩ := va_joinP (X := [(h0, .inr (14, [.ref q_t, .int (zI (z16_n)), .int (zI (z0_264)), .int (zI (z1_265)), .int (zI (z2_266)), .int (zI (z3_267)), .int (zI (z4_268)), .ref q5_269, v16_8, v16_9, v16_10, .ref qn0_271, .ref qn1_274, .int (zI (z6_270))])), (q_t, .inl (cT, 8192, .inl (fun j : Nat => zI (a_t (j : Int))))), (qn0_271, .inl (cI, nn0_272, .inl (fun j : Nat => zI (an0_273 (j : Int))))), (qn1_274, .inl (cI, nn1_275, .inl (fun j : Nat => zI (an1_276 (j : Int)))))]) (cx := [(h0, .inr (14, [.ref q_t, .int (zI (z16_n)), .int (zI (z0_264)), .int (zI (z1_265)), .int (zI (z2_266)), .int (zI (z3_267)), .int (zI (z4_268)), .ref q5_269, v16_8, v16_9, v16_10, .ref qn0_271, .ref qn1_274, .int (zI (z6_270))])), (q_t, .inl (cT, 8192, .inl (fun j : Nat => zI (a_t (j : Int))))), (qn0_271, .inl (cI, nn0_272, .inl (fun j : Nat => zI (an0_273 (j : Int))))), (qn1_274, .inl (cI, nn1_275, .inl (fun j : Nat => zI (an1_276 (j : Int)))))]) (wr := []) (rx := [(q_t, .inl (cT, 8192, .inl (fun j : Nat => zI (a_t (j : Int))))), (q9, .inr (15, [.null, .null, .null, .null, .null, .int 0, .int (zI (zp_327))]))]) (pl := va_pl Ln_277 (pE Pw_306)) (pl1 := va_pl Ln_328 (pE Pn_329)) hP hD [0, 1, 2, 3] [] rfl rfl (by decide) (by decide) hk1 hFc hP1 hD1
        have hrmC := hxt_332.1.1
        rw [ht] at hrmC
        refine vx_tightS (hrmA.trans hrmC) ?_
        have hrb := hxt_332.1.2
        generalize H1 = H at hP hS hce ⊢
        have hP : va_P (dC, dI) vwQ ([(q_t, .inl (cT, 8192, .inl (fun j : Nat => zI (a_t (j : Int))))), (q9, .inr (15, [.null, .null, .null, .null, .null, .int 0, .int (zI (zp_327))]))] ++ va_pl Ln_328 (pE Pn_329)) H := hP
        have hD : va_D A ([(q_t, .inl (cT, 8192, .inl (fun j : Nat => zI (a_t (j : Int))))), (q9, .inr (15, [.null, .null, .null, .null, .null, .int 0, .int (zI (zp_327))]))] ++ va_pl Ln_328 (pE Pn_329)) := hD
        have hzp : 0 ≤ zp_327 ∧ zp_327 ≤ 8192 := hxt_332.2.1
        subst hQ
        refine vx_knowS (fun hrm9 => ?_)
        refine vx_widen (k := ((14 * (z16_n - z16_at) + 4 * z16_goalN + 120).toNat)) (n := ((120 * (z16_n - z16_at) + 16 * z16_goalN + 700).toNat)) (by omega) (by omega) ?_
        exact vx_out (fun x9 h9 => (hnt x9 h9).elim) hlocks hce hcv hcl (fun t ht hvm => ⟨(), trivial, ⟨rfl, zp_327, Ln_328, Pn_329, ((((0 + kc_180) + kc_237) + kc_279) + kc_330), ((((0 + ks_181) + ks_238) + ks_280) + ks_331), ⟨⟨(by rw [ht, ← hp10]; exact hrm9), (by omega)⟩, ⟨(by omega), ⟨hA_319.trans (hxt_332.2.2.1.keg hak_313), hak_313.txt hxt_332.2.2.1 hxt_332.2.2.2, (hcx_323.cpa hg00.owa (fun z _ q => by rcases (show z = xb ∨ z = P.be xb from q) with q | q; rw [q, hX_bk]; decide; rw [q, (hg00.gb hX_b hX_bk).1.2.1]; decide)).trans hA_319 (hxt_332.2.2.1.cpa hak_313.owa)⟩⟩⟩, by rw [ht]; exact hP, hD⟩, hS.F ht⟩) hS.2.2 (Nat.le_refl _) (Nat.le_refl _)
      obtain ⟨z0_333, z1_334, z2_335, z3_336, z4_337, q5_338, z6_339, qn0_340, nn0_341, an0_342, qn1_343, nn1_344, an1_345, Ln_346, Pn_347, kc_348, ks_349, hxt_349, hP1, hK1, hD1⟩ := hB
      rw [ht] at hP1
      have hK1 := va_K.moved hvm.symm hK1
      obtain ⟨hP, hD⟩ := va_joinP (X := [(h0, .inr (14, [.ref q_t, .int (zI (z16_n)), .int (zI (z0_264)), .int (zI (z1_265)), .int (zI (z2_266)), .int (zI (z3_267)), .int (zI (z4_268)), .ref q5_269, v16_8, v16_9, v16_10, .ref qn0_271, .ref qn1_274, .int (zI (z6_270))])), (q_t, .inl (cT, 8192, .inl (fun j : Nat => zI (a_t (j : Int))))), (qn0_271, .inl (cI, nn0_272, .inl (fun j : Nat => zI (an0_273 (j : Int))))), (qn1_274, .inl (cI, nn1_275, .inl (fun j : Nat => zI (an1_276 (j : Int)))))]) (cx := [(h0, .inr (14, [.ref q_t, .int (zI (z16_n)), .int (zI (z0_264)), .int (zI (z1_265)), .int (zI (z2_266)), .int (zI (z3_267)), .int (zI (z4_268)), .ref q5_269, v16_8, v16_9, v16_10, .ref qn0_271, .ref qn1_274, .int (zI (z6_270))])), (q_t, .inl (cT, 8192, .inl (fun j : Nat => zI (a_t (j : Int))))), (qn0_271, .inl (cI, nn0_272, .inl (fun j : Nat => zI (an0_273 (j : Int))))), (qn1_274, .inl (cI, nn1_275, .inl (fun j : Nat => zI (an1_276 (j : Int)))))]) (wr := []) (rx := [(h0, .inr (14, [.ref q_t, .int (zI (z16_n)), .int (zI (z0_333)), .int (zI (z1_334)), .int (zI (z2_335)), .int (zI (z3_336)), .int (zI (z4_337)), .ref q5_338, v16_8, v16_9, v16_10, .ref qn0_340, .ref qn1_343, .int (zI (z6_339))])), (q_t, .inl (cT, 8192, .inl (fun j : Nat => zI (a_t (j : Int))))), (qn0_340, .inl (cI, nn0_341, .inl (fun j : Nat => zI (an0_342 (j : Int))))), (qn1_343, .inl (cI, nn1_344, .inl (fun j : Nat => zI (an1_345 (j : Int)))))]) (pl := va_pl Ln_277 (pE Pw_306)) (pl1 := va_pl Ln_346 (pE Pn_347)) hP hD [0, 1, 2, 3] [] rfl rfl (by decide) (by decide) hk1 hFc hP1 hD1
      have hK := (hK.sub (tys' := [(cO, .object "java/lang/Object"), (cZ, .boolean)]) [0, 1] rfl).app hK1
      have hrmC := hxt_349.1.1
      rw [ht] at hrmC
      refine W_tightS (hrmA.trans hrmC) ?_
      have hrb := hxt_349.1.2
      generalize H1 = H at hP hS ⊢
      have hP : va_P (dC, dI) vwQ ([(h0, .inr (14, [.ref q_t, .int (zI (z16_n)), .int (zI (z0_333)), .int (zI (z1_334)), .int (zI (z2_335)), .int (zI (z3_336)), .int (zI (z4_337)), .ref q5_338, v16_8, v16_9, v16_10, .ref qn0_340, .ref qn1_343, .int (zI (z6_339))])), (q_t, .inl (cT, 8192, .inl (fun j : Nat => zI (a_t (j : Int))))), (qn0_340, .inl (cI, nn0_341, .inl (fun j : Nat => zI (an0_342 (j : Int))))), (qn1_343, .inl (cI, nn1_344, .inl (fun j : Nat => zI (an1_345 (j : Int)))))] ++ va_pl Ln_346 (pE Pn_347)) H := hP
      have hD : va_D A ([(h0, .inr (14, [.ref q_t, .int (zI (z16_n)), .int (zI (z0_333)), .int (zI (z1_334)), .int (zI (z2_335)), .int (zI (z3_336)), .int (zI (z4_337)), .ref q5_338, v16_8, v16_9, v16_10, .ref qn0_340, .ref qn1_343, .int (zI (z6_339))])), (q_t, .inl (cT, 8192, .inl (fun j : Nat => zI (a_t (j : Int))))), (qn0_340, .inl (cI, nn0_341, .inl (fun j : Nat => zI (an0_342 (j : Int))))), (qn1_343, .inl (cI, nn1_344, .inl (fun j : Nat => zI (an1_345 (j : Int)))))] ++ va_pl Ln_346 (pE Pn_347)) := hD
      have hK : va_K (dC, dI) vwQ [(cO, .object "java/lang/Object"), (cZ, .boolean), (cT, .byte), (cI, .int)] s := hK
      refine W.widen (k := ((((0 + kc_180) + kc_237) + kc_279) + kc_348)) (n := ((((0 + ks_181) + ks_238) + ks_280) + ks_349)) (by omega) (by omega) ?_
      obtain ⟨rfl, hzz_326⟩ := hw
      obtain ⟨rk_350, rk_351, rk_352, rk_353, rk_354, rk_355, rk_356, rk_357, hu_357⟩ := hxt_349.2
      have hgo9 := hkd_293.go (by omega)
      have hkd_362 := hu_357.2.2.2.2.1
      have hX_kv := hkd_362.2
      have hu_358 := hu_357.2.2.2.2.2
      have hex_359 : EXT9 Ln_277 Pw_306 Ln_346 Pn_347 := hu_358.1
      have hke_360 : KEG [] Ln_277 Pw_306 Ln_346 Pn_347 := hex_359.keg hak_313
      have hak_361 : GLF Ln_346 Pn_347 cO cI cZ sx_ed := hak_313.txt hex_359 hu_358.2.1
      have hsm_363 := (hex_359 xb hq_316.1).2
      have : Pn_347.bf xb = Pw_306.bf xb := hsm_363.1 0
      have : Pn_347.bs xb = Pw_306.bs xb := hsm_363.1 1
      have hsm_364 := (hex_359 pr_2 hq_317.1).2
      have : Pn_347.ro pr_2 = Pw_306.ro pr_2 := hsm_364.1 0
      have : Pn_347.rt pr_2 = Pw_306.rt pr_2 := hsm_364.1 1
      have : Pn_347.ra pr_2 = Pw_306.ra pr_2 := hsm_364.1 2
      have : Pn_347.rb pr_2 = Pw_306.rb pr_2 := hsm_364.1 3
      have : Pn_347.rA pr_2 = Pw_306.rA pr_2 := hsm_364.1 4
      have : Pn_347.rB pr_2 = Pw_306.rB pr_2 := hsm_364.1 5
      have : Pn_347.rg pr_2 = Pw_306.rg pr_2 := hsm_364.1 6
      have hq_365 : la ∈ Ln_346 ∧ Pn_347.kd la = 30 := hke_360.mem hq_315.1 hq_315.2 (by decide)
      have hq_366 : xb ∈ Ln_346 ∧ Pn_347.kd xb = 12 := hke_360.mem hq_316.1 hq_316.2 (by decide)
      have hq_367 : pr_2 ∈ Ln_346 ∧ Pn_347.kd pr_2 = 17 := hke_360.mem hq_317.1 hq_317.2 (by decide)
      have ha_368 : Pn_347.be xb = pr_2 := hke_360.be hq_316.1 hq_316.2 ha_318
      have hA_369 : KEG [] L P Ln_346 Pn_347 := hA_319.trans hke_360
      have : Pn_347.lz la = Pw_306.lz la := (hex_359 la hq_315.1).2.1 0
      have hek_370 : Pn_347.ek la = 12 := (by rw [hke_360.ek hq_315.1 hq_315.2 (by decide)]; exact hek_320)
      have how_371 : Pn_347.ow la = la := ((hke_360.1 la hq_315.1 (by rw [hq_315.2]; decide)).2.2.2.1 hq_315.2 how_321).1
      have hcz := (((hke_360.1 la hq_315.1 (by rw [hq_315.2]; decide)).2.2.2.1 hq_315.2 how_321).2 (by simp)).1
      have hE_372 : Pn_347.ek pr_2 = 1 := (by rw [hke_360.ek hq_317.1 hq_317.2 (by decide)]; exact hE_322)
      have hX_tx := hu_358.2.2
      have hcx_373 : CHG (fun z => z = xb ∨ z = P.be xb) L P Ln_346 Pn_347 := hcx_323.trans hex_359.chg (fun z m q => q.elim)
      have hgo2 := hu_357
      have hgn2 := hgo2.1
      have hfb := (hak_361.gb hq_366.1 hq_366.2).2
      obtain ⟨kp_374, gkp_374⟩ := va_pl_get (X := [(h0, .inr (14, [.ref q_t, .int (zI (z16_n)), .int (zI (z0_333)), .int (zI (z1_334)), .int (zI (z2_335)), .int (zI (z3_336)), .int (zI (z4_337)), .ref q5_338, v16_8, v16_9, v16_10, .ref qn0_340, .ref qn1_343, .int (zI (z6_339))])), (q_t, .inl (cT, 8192, .inl (fun j : Nat => zI (a_t (j : Int))))), (qn0_340, .inl (cI, nn0_341, .inl (fun j : Nat => zI (an0_342 (j : Int))))), (qn1_343, .inl (cI, nn1_344, .inl (fun j : Nat => zI (an1_345 (j : Int)))))]) (f := pE Pn_347) hq_366.1
      have hkp_374 := gkp_374
      rw [pE_block hq_366.2] at hkp_374
      have hD0 := hD
      refine va_put (D := (dC, dI)) (ci := 19) (v := .int (zI (z_326))) (ty := .int) (C := RX12) (T := TX12) (N := 5) hx hb hts mem_X16_endM_0 tyX12 tyX12_ok nmX12 hown hK hP hD hS kp_374 hkp_374 rfl 4 (by decide) (ow (k := 5) rfl) (fun _ h9 => h9) rfl (by decide +kernel) rfl rfl (by first | exact Nat.le_of_ble_eq_true rfl | exact (show ((((0 + kc_180) + kc_237) + kc_279) + kc_348) ≤ (14 * (z16_n - z16_at) + 4 * z16_goalN + 120).toNat from (by omega)) | exact (show ((((0 + ks_181) + ks_238) + ks_280) + ks_349) ≤ (120 * (z16_n - z16_at) + 16 * z16_goalN + 700).toNat from (by omega))) dX16_end_106 (fun H locs hP hD hS => ?_)
      obtain ⟨Pw_375, ePw_375⟩ : ∃ q9 : PO, q9 = Pn_347.rw9 1 xb (z_326) := ⟨_, rfl⟩
      have eU : (([(h0, .inr (14, [.ref q_t, .int (zI (z16_n)), .int (zI (z0_333)), .int (zI (z1_334)), .int (zI (z2_335)), .int (zI (z3_336)), .int (zI (z4_337)), .ref q5_338, v16_8, v16_9, v16_10, .ref qn0_340, .ref qn1_343, .int (zI (z6_339))])), (q_t, .inl (cT, 8192, .inl (fun j : Nat => zI (a_t (j : Int))))), (qn0_340, .inl (cI, nn0_341, .inl (fun j : Nat => zI (an0_342 (j : Int))))), (qn1_343, .inl (cI, nn1_344, .inl (fun j : Nat => zI (an1_345 (j : Int)))))] : va_W) ++ va_pl Ln_346 (pE Pn_347)).set kp_374 (xb, blockE (Pn_347.bp xb) (Pn_347.br xb) (Pn_347.be xb) (Pn_347.bf xb) (z_326)) = ([(h0, .inr (14, [.ref q_t, .int (zI (z16_n)), .int (zI (z0_333)), .int (zI (z1_334)), .int (zI (z2_335)), .int (zI (z3_336)), .int (zI (z4_337)), .ref q5_338, v16_8, v16_9, v16_10, .ref qn0_340, .ref qn1_343, .int (zI (z6_339))])), (q_t, .inl (cT, 8192, .inl (fun j : Nat => zI (a_t (j : Int))))), (qn0_340, .inl (cI, nn0_341, .inl (fun j : Nat => zI (an0_342 (j : Int))))), (qn1_343, .inl (cI, nn1_344, .inl (fun j : Nat => zI (an1_345 (j : Int)))))] : va_W) ++ va_pl Ln_346 (pE Pw_375) := (by rw [va_pl_set hD0 hq_366.1 gkp_374, ePw_375]; exact congrArg (fun f9 => ([(h0, .inr (14, [.ref q_t, .int (zI (z16_n)), .int (zI (z0_333)), .int (zI (z1_334)), .int (zI (z2_335)), .int (zI (z3_336)), .int (zI (z4_337)), .ref q5_338, v16_8, v16_9, v16_10, .ref qn0_340, .ref qn1_343, .int (zI (z6_339))])), (q_t, .inl (cT, 8192, .inl (fun j : Nat => zI (a_t (j : Int))))), (qn0_340, .inl (cI, nn0_341, .inl (fun j : Nat => zI (an0_342 (j : Int))))), (qn1_343, .inl (cI, nn1_344, .inl (fun j : Nat => zI (an1_345 (j : Int)))))] : va_W) ++ va_pl Ln_346 f9) (put12_1 hq_366.2))
      have hP : va_P (dC, dI) vwQ ([(h0, .inr (14, [.ref q_t, .int (zI (z16_n)), .int (zI (z0_333)), .int (zI (z1_334)), .int (zI (z2_335)), .int (zI (z3_336)), .int (zI (z4_337)), .ref q5_338, v16_8, v16_9, v16_10, .ref qn0_340, .ref qn1_343, .int (zI (z6_339))])), (q_t, .inl (cT, 8192, .inl (fun j : Nat => zI (a_t (j : Int))))), (qn0_340, .inl (cI, nn0_341, .inl (fun j : Nat => zI (an0_342 (j : Int))))), (qn1_343, .inl (cI, nn1_344, .inl (fun j : Nat => zI (an1_345 (j : Int)))))] ++ va_pl Ln_346 (pE Pw_375)) H := (by rw [← eU]; exact hP)
      have hD : va_D A ([(h0, .inr (14, [.ref q_t, .int (zI (z16_n)), .int (zI (z0_333)), .int (zI (z1_334)), .int (zI (z2_335)), .int (zI (z3_336)), .int (zI (z4_337)), .ref q5_338, v16_8, v16_9, v16_10, .ref qn0_340, .ref qn1_343, .int (zI (z6_339))])), (q_t, .inl (cT, 8192, .inl (fun j : Nat => zI (a_t (j : Int))))), (qn0_340, .inl (cI, nn0_341, .inl (fun j : Nat => zI (an0_342 (j : Int))))), (qn1_343, .inl (cI, nn1_344, .inl (fun j : Nat => zI (an1_345 (j : Int)))))] ++ va_pl Ln_346 (pE Pw_375)) := (by rw [← eU]; exact hD)
      clear eU hD0 gkp_374 hkp_374
      have wPw_375 : RW1 xb Pn_347 Pw_375 := (by rw [ePw_375]; exact RW1.put _ _ _ _)
      have hy_376 : Pw_375.kd la = 30 := (by rw [ePw_375]; exact hq_365.2)
      have hy_377 : Pw_375.kd xb = 12 := (by rw [ePw_375]; exact hq_366.2)
      have : Pw_375.bf xb = Pn_347.bf xb := (by rw [ePw_375]; exact rw9_of _ (by decide))
      have : Pw_375.bs xb = z_326 := (by rw [ePw_375]; exact rw9_at _ _ _ _)
      have hy_378 : Pw_375.kd pr_2 = 17 := (by rw [ePw_375]; exact hq_367.2)
      have : Pw_375.ro pr_2 = Pn_347.ro pr_2 := wPw_375.2 _ (kd_ne hq_367.2 hq_366.2 (by decide)) _
      have : Pw_375.rt pr_2 = Pn_347.rt pr_2 := wPw_375.2 _ (kd_ne hq_367.2 hq_366.2 (by decide)) _
      have : Pw_375.ra pr_2 = Pn_347.ra pr_2 := wPw_375.2 _ (kd_ne hq_367.2 hq_366.2 (by decide)) _
      have : Pw_375.rb pr_2 = Pn_347.rb pr_2 := wPw_375.2 _ (kd_ne hq_367.2 hq_366.2 (by decide)) _
      have : Pw_375.rA pr_2 = Pn_347.rA pr_2 := wPw_375.2 _ (kd_ne hq_367.2 hq_366.2 (by decide)) _
      have : Pw_375.rB pr_2 = Pn_347.rB pr_2 := wPw_375.2 _ (kd_ne hq_367.2 hq_366.2 (by decide)) _
      have : Pw_375.rg pr_2 = Pn_347.rg pr_2 := wPw_375.2 _ (kd_ne hq_367.2 hq_366.2 (by decide)) _
      have ha_379 : Pw_375.be xb = pr_2 := (by rw [ePw_375]; exact ha_368)
      have hW_380 : RW1 xb Pn_347 Pw_375 := wPw_375
      have hak_382 : GLF Ln_346 Pw_375 cO cI cZ sx_ed := hak_361.goal hW_380 hq_366.2 (by omega)
      have hke_381 : KEG [] Ln_346 Pn_347 Ln_346 Pw_375 := hW_380.keg _ hq_365.2 (by omega)
      have hq_384 : la ∈ Ln_346 ∧ Pw_375.kd la = 30 := hke_381.mem hq_365.1 hq_365.2 (by decide)
      have hq_385 : xb ∈ Ln_346 ∧ Pw_375.kd xb = 12 := hke_381.mem hq_366.1 hq_366.2 (by decide)
      have hq_386 : pr_2 ∈ Ln_346 ∧ Pw_375.kd pr_2 = 17 := hke_381.mem hq_367.1 hq_367.2 (by decide)
      have ha_387 : Pw_375.be xb = pr_2 := hke_381.be hq_366.1 hq_366.2 ha_368
      have hA_388 : KEG [] L P Ln_346 Pw_375 := hA_369.trans hke_381
      have : Pw_375.cap la = Pn_347.cap la := hW_380.cap la
      have hek_389 : Pw_375.ek la = 12 := (by rw [hke_381.ek hq_365.1 hq_365.2 (by decide)]; exact hek_370)
      have how_390 : Pw_375.ow la = la := ((hke_381.1 la hq_365.1 (by rw [hq_365.2]; decide)).2.2.2.1 hq_365.2 how_371).1
      have hcz := (((hke_381.1 la hq_365.1 (by rw [hq_365.2]; decide)).2.2.2.1 hq_365.2 how_371).2 (by simp)).1
      have hE_391 : Pw_375.ek pr_2 = 1 := (by rw [hke_381.ek hq_367.1 hq_367.2 (by decide)]; exact hE_372)
      have hX_tx := hX_tx.rw1 hW_380 (Or.inr hq_366.2)
      have hcx_392 : CHG (fun z => z = xb ∨ z = P.be xb) L P Ln_346 Pw_375 := hcx_373.trans (hW_380.chg _) (fun z m q => Or.inl q)
      have hsm_393 := (hW_380.chg Ln_346 pr_2 hq_386.1 (fun e9 => absurd e9 (kd_ne hq_386.2 hq_385.2 (by decide)))).2
      have : Pw_375.ro pr_2 = Pn_347.ro pr_2 := hsm_393.1 0
      have : Pw_375.rt pr_2 = Pn_347.rt pr_2 := hsm_393.1 1
      have : Pw_375.ra pr_2 = Pn_347.ra pr_2 := hsm_393.1 2
      have : Pw_375.rb pr_2 = Pn_347.rb pr_2 := hsm_393.1 3
      have : Pw_375.rA pr_2 = Pn_347.rA pr_2 := hsm_393.1 4
      have : Pw_375.rB pr_2 = Pn_347.rB pr_2 := hsm_393.1 5
      have : Pw_375.rg pr_2 = Pn_347.rg pr_2 := hsm_393.1 6
      refine lv_goto (tgt := 145) hx hb dX16_end_109 (by decide) ?_
      subst hQ
      have hK := hK.sub (tys' := [(cT, .byte), (cI, .int), (cO, .object "java/lang/Object"), (cZ, .boolean)]) [2, 3, 0, 1] rfl
      refine W_knowS (fun hrm9 => ?_)
      refine W.widen (k := ((14 * (z16_n - z16_at) + 4 * z16_goalN + 120).toNat)) (n := ((120 * (z16_n - z16_at) + 16 * z16_goalN + 700).toNat)) (by omega) (by omega) ?_
      refine vx_ret ?_
      exact W.vret hx hb hr (fun t ht hW => ⟨⟨(), rfl, trivial, z0_333, z1_334, z2_335, z3_336, z4_337, q5_338, z6_339, qn0_340, nn0_341, an0_342, qn1_343, nn1_344, an1_345, Ln_346, Pw_375, ((((0 + kc_180) + kc_237) + kc_279) + kc_348), ((((0 + ks_181) + ks_238) + ks_280) + ks_349), ⟨⟨(by rw [ht, ← hp10]; exact hrm9), (by omega)⟩, ⟨(by omega), (by omega), (by omega), (by omega), (by omega), (by omega), rk_356, rk_357, ⟨hA_388, hak_382, ⟨(hkd_362.mono (by omega)).ms (by omega) (by omega) (by omega), by omega⟩, hcx_392, ⟨by omega, by omega, by omega, by omega, by omega, by omega, by omega, (by unfold GRW; omega)⟩, (fun j j0 j1 => (hgo2.2.1 j j0 (by omega)).trans (hgo1.2.1 j j0 j1)), (GIN.mk (k := z16_goalN) (by omega) (by omega) ((hgo2.2.1 _ (by omega) (by omega)).trans (hgo1.2.2.1.trans (by omega)))), (GIN.mk (k := z6_270) (by omega) (by omega) (hgo2.2.2.1.trans (by omega))), (by rw [← epr_2]; omega), ⟨by omega, by omega, by omega⟩, hkd_362.mono (by omega), hX_tx⟩⟩⟩, by rw [ht]; exact hP, va_K.moved hW.alike hK, hD⟩, hS.F ht⟩) hS.2.2 dX16_end_145
  · have yb36 : ¬ (z_79 : Int) = (0 : Int) := fun q => b36 ((zI_eq (a := z_79) (b := 0) (by omega) (by omega) (by omega) (by omega)).mpr q)
    skip
    refine lv_aload_n hx hb dX16_end_39 rfl (lv_at hl 1 rfl) ?_
    have hPc := hP.part (X := [(q_gp, .inl (cI, mg, .inl (fun j : Nat => zI (a_gp (j : Int))))), (q_gs, .inl (cI, ng, .inl (fun j : Nat => zI (a_gs (j : Int))))), (h0, .inr (14, [.ref q_t, .int (zI (z16_n)), .int (zI (z16_at)), .int (zI (z16_kind)), .int (zI (z16_place)), .int (zI (z16_value)), .int (zI (z16_before)), .ref tx9, v16_8, v16_9, v16_10, .ref q_gp, .ref q_gs, .int (zI (z16_goalN))])), (q_t, .inl (cT, 8192, .inl (fun j : Nat => zI (a_t (j : Int)))))]) (cx := [(h0, .inr (14, [.ref q_t, .int (zI (z16_n)), .int (zI (z16_at)), .int (zI (z16_kind)), .int (zI (z16_place)), .int (zI (z16_value)), .int (zI (z16_before)), .ref tx9, v16_8, v16_9, v16_10, .ref q_gp, .ref q_gs, .int (zI (z16_goalN))])), (q_t, .inl (cT, 8192, .inl (fun j : Nat => zI (a_t (j : Int)))))]) (pl := va_pl L (pE Pw_58)) [2, 3] rfl
    have hDc := hD.part (X := [(q_gp, .inl (cI, mg, .inl (fun j : Nat => zI (a_gp (j : Int))))), (q_gs, .inl (cI, ng, .inl (fun j : Nat => zI (a_gs (j : Int))))), (h0, .inr (14, [.ref q_t, .int (zI (z16_n)), .int (zI (z16_at)), .int (zI (z16_kind)), .int (zI (z16_place)), .int (zI (z16_value)), .int (zI (z16_before)), .ref tx9, v16_8, v16_9, v16_10, .ref q_gp, .ref q_gs, .int (zI (z16_goalN))])), (q_t, .inl (cT, 8192, .inl (fun j : Nat => zI (a_t (j : Int)))))]) (cx := [(h0, .inr (14, [.ref q_t, .int (zI (z16_n)), .int (zI (z16_at)), .int (zI (z16_kind)), .int (zI (z16_place)), .int (zI (z16_value)), .int (zI (z16_before)), .ref tx9, v16_8, v16_9, v16_10, .ref q_gp, .ref q_gs, .int (zI (z16_goalN))])), (q_t, .inl (cT, 8192, .inl (fun j : Nat => zI (a_t (j : Int)))))]) (pl := va_pl L (pE Pw_58)) [2, 3] (by decide) rfl
    have hKc := hK.sub (tys' := [(cT, .byte)]) [3] rfl
    have hFc := va_freeP (X := [(q_gp, .inl (cI, mg, .inl (fun j : Nat => zI (a_gp (j : Int))))), (q_gs, .inl (cI, ng, .inl (fun j : Nat => zI (a_gs (j : Int))))), (h0, .inr (14, [.ref q_t, .int (zI (z16_n)), .int (zI (z16_at)), .int (zI (z16_kind)), .int (zI (z16_place)), .int (zI (z16_value)), .int (zI (z16_before)), .ref tx9, v16_8, v16_9, v16_10, .ref q_gp, .ref q_gs, .int (zI (z16_goalN))])), (q_t, .inl (cT, 8192, .inl (fun j : Nat => zI (a_t (j : Int)))))]) (cx := [(h0, .inr (14, [.ref q_t, .int (zI (z16_n)), .int (zI (z16_at)), .int (zI (z16_kind)), .int (zI (z16_place)), .int (zI (z16_value)), .int (zI (z16_before)), .ref tx9, v16_8, v16_9, v16_10, .ref q_gp, .ref q_gs, .int (zI (z16_goalN))])), (q_t, .inl (cT, 8192, .inl (fun j : Nat => zI (a_t (j : Int)))))]) (pl := va_pl L (pE Pw_58)) hD hS hA [2, 3] rfl
    refine W_knowS (fun hrmA => ?_)
    refine va_callv (va_runV (As := []) (rest := []) ⟨hx, hb, hml, hown, hts⟩ (c_X16_nextM l dC dI h0 z16_n z16_at z16_kind z16_place z16_value z16_before (.ref tx9) v16_8 v16_9 v16_10 (.ref q_gp) (.ref q_gs) (.int (zI (z16_goalN))) q_t cT a_t L Pw_58 sa_RX16_9 (by omega) (by omega) (by omega) (by omega) (by omega) (by omega) hR_a_t (by omega) H.size sa_RX16_9 H sv_RX16_9 sa_RX16_119 sv_RX16_119 sa_RX16_100 sv_RX16_100 sa_RX16_117 sa_RX16_100 sv_RX16_117 sa_RX16_98 sv_RX16_98) (cwV 0 hts g_X16_endM_X16_nextM rfl rfl rfl (by decide +kernel) ⟨(Nat.le_of_ble_eq_true rfl), (Nat.le_of_ble_eq_true rfl)⟩) ⟨fun a U g mk q => by obtain ⟨q0, q1, qP, qK, qD, e0, e1, e2, e3, e4, e5, e6, e7, e8, e9, e10, e11, e12⟩ := q; exact ⟨q0, q1, qP, va_K.moved (u := U) (U := U.calling g mk a) (Vm.Alike.refl U.vm) qK, qD, vk_R.same (u := U) (U := U.calling g mk a) rfl e0, e1, va_Z.moved (u := U) (U := U.calling g mk a) (Vm.Alike.refl U.vm) e2, vs_S.moved (u := U) (U := U.calling g mk a) (Vm.Alike.refl U.vm) e3, va_Nw.same rfl (u := U) (U := U.calling g mk a) rfl e4, vk_R.same (u := U) (U := U.calling g mk a) rfl e5, vs_S.moved (u := U) (U := U.calling g mk a) (Vm.Alike.refl U.vm) e6, vs_S.moved (u := U) (U := U.calling g mk a) (Vm.Alike.refl U.vm) e7, vk_R.same (u := U) (U := U.calling g mk a) rfl e8, vk_R.same (u := U) (U := U.calling g mk a) rfl e9, vs_S.moved (u := U) (U := U.calling g mk a) (Vm.Alike.refl U.vm) e10, vk_R.same (u := U) (U := U.calling g mk a) rfl e11, vs_S.moved (u := U) (U := U.calling g mk a) (Vm.Alike.refl U.vm) e12⟩, va_recv hKc hPc (ci := 14) (q0 := 0) rfl rfl, fun U hU hW => ⟨rfl, by rw [hU], by rw [hU]; exact hPc, va_K.moved hW.alike hKc, hDc.weaken (fun _ _ _ _ => trivial), vk_R.warm hW hp11, hU, by rw [hU]; exact va_Z.narrow (va_Z.moved hW.alike (va_Z.kept hp3 hS.2.1)) hFc, by rw [hU]; exact vs_S.narrow (vs_S.moved hW.alike (vs_S.kept hp2 hS.2.1)) hFc, va_Nw.warmC hW hp12, vk_R.warm hW hp13, by rw [hU]; exact vs_S.narrow (vs_S.moved hW.alike (vs_S.kept hp14 hS.2.1)) hFc, by rw [hU]; exact vs_S.narrow (vs_S.moved hW.alike (vs_S.kept hp15 hS.2.1)) hFc, vk_R.warm hW hp16, vk_R.warm hW hp17, by rw [hU]; exact vs_S.narrow (vs_S.moved hW.alike (vs_S.kept hp18 hS.2.1)) hFc, vk_R.warm hW hp19, by rw [hU]; exact vs_S.narrow (vs_S.moved hW.alike (vs_S.kept hp20 hS.2.1)) hFc⟩⟩ rfl rfl hl.1 rfl (lv_room (Nat.le_of_ble_eq_true rfl)) dX16_end_40 ⟨(show 0 + ((z16_n - z16_at + 20).toNat) ≤ (14 * (z16_n - z16_at) + 4 * z16_goalN + 120).toNat from (by omega)), (show 0 + ((10 * (z16_n - z16_at) + 120).toNat) ≤ (120 * (z16_n - z16_at) + 16 * z16_goalN + 700).toNat from (by omega))⟩) hS (fun q _ h => hFc q h) hFc (fun  u t H1 locs ht hvm hw hB hz1 hk1 hS => ?_)
    obtain ⟨z0_394, z1_395, z2_396, z3_397, z4_398, q5_399, Ln_400, Pn_401, kc_402, ks_403, hxt_403, hP1, hK1, hD1⟩ := hB
    rw [ht] at hP1
    have hK1 := va_K.moved hvm.symm hK1
    obtain ⟨hP, hD⟩ := va_joinP (X := [(q_gp, .inl (cI, mg, .inl (fun j : Nat => zI (a_gp (j : Int))))), (q_gs, .inl (cI, ng, .inl (fun j : Nat => zI (a_gs (j : Int))))), (h0, .inr (14, [.ref q_t, .int (zI (z16_n)), .int (zI (z16_at)), .int (zI (z16_kind)), .int (zI (z16_place)), .int (zI (z16_value)), .int (zI (z16_before)), .ref tx9, v16_8, v16_9, v16_10, .ref q_gp, .ref q_gs, .int (zI (z16_goalN))])), (q_t, .inl (cT, 8192, .inl (fun j : Nat => zI (a_t (j : Int)))))]) (cx := [(h0, .inr (14, [.ref q_t, .int (zI (z16_n)), .int (zI (z16_at)), .int (zI (z16_kind)), .int (zI (z16_place)), .int (zI (z16_value)), .int (zI (z16_before)), .ref tx9, v16_8, v16_9, v16_10, .ref q_gp, .ref q_gs, .int (zI (z16_goalN))])), (q_t, .inl (cT, 8192, .inl (fun j : Nat => zI (a_t (j : Int)))))]) (wr := [(q_gp, .inl (cI, mg, .inl (fun j : Nat => zI (a_gp (j : Int))))), (q_gs, .inl (cI, ng, .inl (fun j : Nat => zI (a_gs (j : Int)))))]) (rx := [(h0, .inr (14, [.ref q_t, .int (zI (z16_n)), .int (zI (z0_394)), .int (zI (z1_395)), .int (zI (z2_396)), .int (zI (z3_397)), .int (zI (z4_398)), .ref q5_399, v16_8, v16_9, v16_10, .ref q_gp, .ref q_gs, .int (zI (z16_goalN))])), (q_t, .inl (cT, 8192, .inl (fun j : Nat => zI (a_t (j : Int)))))]) (pl := va_pl L (pE Pw_58)) (pl1 := va_pl Ln_400 (pE Pn_401)) hP hD [2, 3] [0, 1] rfl rfl (by decide) (by decide) hk1 hFc hP1 hD1
    have hK := (hK.sub (tys' := [(cI, .int), (cO, .object "java/lang/Object"), (cZ, .boolean)]) [0, 1, 2] rfl).app hK1
    have hrmC := hxt_403.1.1
    rw [ht] at hrmC
    refine W_tightS (hrmA.trans hrmC) ?_
    have hrb := hxt_403.1.2
    generalize H1 = H at hP hS ⊢
    have hP : va_P (dC, dI) vwQ ([(q_gp, .inl (cI, mg, .inl (fun j : Nat => zI (a_gp (j : Int))))), (q_gs, .inl (cI, ng, .inl (fun j : Nat => zI (a_gs (j : Int))))), (h0, .inr (14, [.ref q_t, .int (zI (z16_n)), .int (zI (z0_394)), .int (zI (z1_395)), .int (zI (z2_396)), .int (zI (z3_397)), .int (zI (z4_398)), .ref q5_399, v16_8, v16_9, v16_10, .ref q_gp, .ref q_gs, .int (zI (z16_goalN))])), (q_t, .inl (cT, 8192, .inl (fun j : Nat => zI (a_t (j : Int)))))] ++ va_pl Ln_400 (pE Pn_401)) H := hP
    have hD : va_D A ([(q_gp, .inl (cI, mg, .inl (fun j : Nat => zI (a_gp (j : Int))))), (q_gs, .inl (cI, ng, .inl (fun j : Nat => zI (a_gs (j : Int))))), (h0, .inr (14, [.ref q_t, .int (zI (z16_n)), .int (zI (z0_394)), .int (zI (z1_395)), .int (zI (z2_396)), .int (zI (z3_397)), .int (zI (z4_398)), .ref q5_399, v16_8, v16_9, v16_10, .ref q_gp, .ref q_gs, .int (zI (z16_goalN))])), (q_t, .inl (cT, 8192, .inl (fun j : Nat => zI (a_t (j : Int)))))] ++ va_pl Ln_400 (pE Pn_401)) := hD
    have hK : va_K (dC, dI) vwQ [(cI, .int), (cO, .object "java/lang/Object"), (cZ, .boolean), (cT, .byte)] s := hK
    refine W.widen (k := (0 + kc_402)) (n := (0 + ks_403)) (by omega) (by omega) ?_
    obtain ⟨rk_404, rk_405, rk_406, rk_407, rk_408, hu_408⟩ := hxt_403.2
    have hkd_413 := hu_408.2.1
    have hX_kv := hkd_413.2
    have hu_409 := hu_408.2.2
    have hex_410 : EXT9 L Pw_58 Ln_400 Pn_401 := hu_409.1
    have hke_411 : KEG [] L Pw_58 Ln_400 Pn_401 := hex_410.keg hak_65
    have hak_412 : GLF Ln_400 Pn_401 cO cI cZ sx_ed := hak_65.txt hex_410 hu_409.2.1
    have hsm_414 := (hex_410 xb hq_68.1).2
    have : Pn_401.bf xb = Pw_58.bf xb := hsm_414.1 0
    have : Pn_401.bs xb = Pw_58.bs xb := hsm_414.1 1
    have hsm_415 := (hex_410 pr_2 hq_69.1).2
    have : Pn_401.ro pr_2 = Pw_58.ro pr_2 := hsm_415.1 0
    have : Pn_401.rt pr_2 = Pw_58.rt pr_2 := hsm_415.1 1
    have : Pn_401.ra pr_2 = Pw_58.ra pr_2 := hsm_415.1 2
    have : Pn_401.rb pr_2 = Pw_58.rb pr_2 := hsm_415.1 3
    have : Pn_401.rA pr_2 = Pw_58.rA pr_2 := hsm_415.1 4
    have : Pn_401.rB pr_2 = Pw_58.rB pr_2 := hsm_415.1 5
    have : Pn_401.rg pr_2 = Pw_58.rg pr_2 := hsm_415.1 6
    have hq_416 : la ∈ Ln_400 ∧ Pn_401.kd la = 30 := hke_411.mem hq_67.1 hq_67.2 (by decide)
    have hq_417 : xb ∈ Ln_400 ∧ Pn_401.kd xb = 12 := hke_411.mem hq_68.1 hq_68.2 (by decide)
    have hq_418 : pr_2 ∈ Ln_400 ∧ Pn_401.kd pr_2 = 17 := hke_411.mem hq_69.1 hq_69.2 (by decide)
    have ha_419 : Pn_401.be xb = pr_2 := hke_411.be hq_68.1 hq_68.2 ha_70
    have hA_420 : KEG [] L P Ln_400 Pn_401 := hA_71.trans hke_411
    have : Pn_401.lz la = Pw_58.lz la := (hex_410 la hq_67.1).2.1 0
    have hek_421 : Pn_401.ek la = 12 := (by rw [hke_411.ek hq_67.1 hq_67.2 (by decide)]; exact hek_72)
    have how_422 : Pn_401.ow la = la := ((hke_411.1 la hq_67.1 (by rw [hq_67.2]; decide)).2.2.2.1 hq_67.2 how_73).1
    have hcz := (((hke_411.1 la hq_67.1 (by rw [hq_67.2]; decide)).2.2.2.1 hq_67.2 how_73).2 (by simp)).1
    have hE_423 : Pn_401.ek pr_2 = 1 := (by rw [hke_411.ek hq_69.1 hq_69.2 (by decide)]; exact hE_74)
    have hX_tx := hu_409.2.2.1
    have hxk9 := hu_409.2.2.2
    have hcx_424 : CHG (fun z => z = xb ∨ z = P.be xb) L P Ln_400 Pn_401 := hcx_75.trans hex_410.chg (fun z m q => q.elim)
    refine lv_aload_n hx hb dX16_end_43 rfl (lv_at hl 0 rfl) ?_
    refine lv_bipush (v := 30) hx hb dX16_end_44 (by decide) ?_
    have hr7 := (hak_412.rok hq_418.1 hq_418.2).n7
    refine lv_topi (fun z ez => ?_)
    obtain rfl : z = zI (30) := ez
    obtain ⟨kp_425, gkp_425⟩ := va_pl_get (X := [(q_gp, .inl (cI, mg, .inl (fun j : Nat => zI (a_gp (j : Int))))), (q_gs, .inl (cI, ng, .inl (fun j : Nat => zI (a_gs (j : Int))))), (h0, .inr (14, [.ref q_t, .int (zI (z16_n)), .int (zI (z0_394)), .int (zI (z1_395)), .int (zI (z2_396)), .int (zI (z3_397)), .int (zI (z4_398)), .ref q5_399, v16_8, v16_9, v16_10, .ref q_gp, .ref q_gs, .int (zI (z16_goalN))])), (q_t, .inl (cT, 8192, .inl (fun j : Nat => zI (a_t (j : Int)))))]) (f := pE Pn_401) hq_418.1
    have hkp_425 := gkp_425
    rw [pE_row hq_418.2] at hkp_425
    have hD0 := hD
    refine va_put (D := (dC, dI)) (ci := 21) (v := .int (zI (30))) (ty := .int) (C := RX17) (T := TX17) (N := 7) hx hb hts mem_X16_endM_1 tyX17 tyX17_ok nmX17 hown hK hP hD hS kp_425 hkp_425 rfl 0 (by decide) (ow (k := 16) rfl) (fun _ h9 => h9) rfl (by decide +kernel) rfl rfl (by first | exact Nat.le_of_ble_eq_true rfl | exact (show (0 + kc_402) ≤ (14 * (z16_n - z16_at) + 4 * z16_goalN + 120).toNat from (by omega)) | exact (show (0 + ks_403) ≤ (120 * (z16_n - z16_at) + 16 * z16_goalN + 700).toNat from (by omega))) dX16_end_46 (fun H locs hP hD hS => ?_)
    obtain ⟨Pw_426, ePw_426⟩ : ∃ q9 : PO, q9 = Pn_401.rw9 0 pr_2 (30) := ⟨_, rfl⟩
    have eU : (([(q_gp, .inl (cI, mg, .inl (fun j : Nat => zI (a_gp (j : Int))))), (q_gs, .inl (cI, ng, .inl (fun j : Nat => zI (a_gs (j : Int))))), (h0, .inr (14, [.ref q_t, .int (zI (z16_n)), .int (zI (z0_394)), .int (zI (z1_395)), .int (zI (z2_396)), .int (zI (z3_397)), .int (zI (z4_398)), .ref q5_399, v16_8, v16_9, v16_10, .ref q_gp, .ref q_gs, .int (zI (z16_goalN))])), (q_t, .inl (cT, 8192, .inl (fun j : Nat => zI (a_t (j : Int)))))] : va_W) ++ va_pl Ln_400 (pE Pn_401)).set kp_425 (pr_2, rowE (30) (Pn_401.rt pr_2) (Pn_401.ra pr_2) (Pn_401.rb pr_2) (Pn_401.rA pr_2) (Pn_401.rB pr_2) (Pn_401.rg pr_2)) = ([(q_gp, .inl (cI, mg, .inl (fun j : Nat => zI (a_gp (j : Int))))), (q_gs, .inl (cI, ng, .inl (fun j : Nat => zI (a_gs (j : Int))))), (h0, .inr (14, [.ref q_t, .int (zI (z16_n)), .int (zI (z0_394)), .int (zI (z1_395)), .int (zI (z2_396)), .int (zI (z3_397)), .int (zI (z4_398)), .ref q5_399, v16_8, v16_9, v16_10, .ref q_gp, .ref q_gs, .int (zI (z16_goalN))])), (q_t, .inl (cT, 8192, .inl (fun j : Nat => zI (a_t (j : Int)))))] : va_W) ++ va_pl Ln_400 (pE Pw_426) := (by rw [va_pl_set hD0 hq_418.1 gkp_425, ePw_426]; exact congrArg (fun f9 => ([(q_gp, .inl (cI, mg, .inl (fun j : Nat => zI (a_gp (j : Int))))), (q_gs, .inl (cI, ng, .inl (fun j : Nat => zI (a_gs (j : Int))))), (h0, .inr (14, [.ref q_t, .int (zI (z16_n)), .int (zI (z0_394)), .int (zI (z1_395)), .int (zI (z2_396)), .int (zI (z3_397)), .int (zI (z4_398)), .ref q5_399, v16_8, v16_9, v16_10, .ref q_gp, .ref q_gs, .int (zI (z16_goalN))])), (q_t, .inl (cT, 8192, .inl (fun j : Nat => zI (a_t (j : Int)))))] : va_W) ++ va_pl Ln_400 f9) (put17_0 hq_418.2))
    have hP : va_P (dC, dI) vwQ ([(q_gp, .inl (cI, mg, .inl (fun j : Nat => zI (a_gp (j : Int))))), (q_gs, .inl (cI, ng, .inl (fun j : Nat => zI (a_gs (j : Int))))), (h0, .inr (14, [.ref q_t, .int (zI (z16_n)), .int (zI (z0_394)), .int (zI (z1_395)), .int (zI (z2_396)), .int (zI (z3_397)), .int (zI (z4_398)), .ref q5_399, v16_8, v16_9, v16_10, .ref q_gp, .ref q_gs, .int (zI (z16_goalN))])), (q_t, .inl (cT, 8192, .inl (fun j : Nat => zI (a_t (j : Int)))))] ++ va_pl Ln_400 (pE Pw_426)) H := (by rw [← eU]; exact hP)
    have hD : va_D A ([(q_gp, .inl (cI, mg, .inl (fun j : Nat => zI (a_gp (j : Int))))), (q_gs, .inl (cI, ng, .inl (fun j : Nat => zI (a_gs (j : Int))))), (h0, .inr (14, [.ref q_t, .int (zI (z16_n)), .int (zI (z0_394)), .int (zI (z1_395)), .int (zI (z2_396)), .int (zI (z3_397)), .int (zI (z4_398)), .ref q5_399, v16_8, v16_9, v16_10, .ref q_gp, .ref q_gs, .int (zI (z16_goalN))])), (q_t, .inl (cT, 8192, .inl (fun j : Nat => zI (a_t (j : Int)))))] ++ va_pl Ln_400 (pE Pw_426)) := (by rw [← eU]; exact hD)
    clear eU hD0 gkp_425 hkp_425
    have wPw_426 : RW1 pr_2 Pn_401 Pw_426 := (by rw [ePw_426]; exact RW1.put _ _ _ _)
    have hy_427 : Pw_426.kd la = 30 := (by rw [ePw_426]; exact hq_416.2)
    have hy_428 : Pw_426.kd xb = 12 := (by rw [ePw_426]; exact hq_417.2)
    have : Pw_426.bf xb = Pn_401.bf xb := wPw_426.2 _ (kd_ne hq_417.2 hq_418.2 (by decide)) _
    have : Pw_426.bs xb = Pn_401.bs xb := wPw_426.2 _ (kd_ne hq_417.2 hq_418.2 (by decide)) _
    have hy_429 : Pw_426.kd pr_2 = 17 := (by rw [ePw_426]; exact hq_418.2)
    have : Pw_426.ro pr_2 = 30 := (by rw [ePw_426]; exact rw9_at _ _ _ _)
    have : Pw_426.rt pr_2 = Pn_401.rt pr_2 := (by rw [ePw_426]; exact rw9_of _ (by decide))
    have : Pw_426.ra pr_2 = Pn_401.ra pr_2 := (by rw [ePw_426]; exact rw9_of _ (by decide))
    have : Pw_426.rb pr_2 = Pn_401.rb pr_2 := (by rw [ePw_426]; exact rw9_of _ (by decide))
    have : Pw_426.rA pr_2 = Pn_401.rA pr_2 := (by rw [ePw_426]; exact rw9_of _ (by decide))
    have : Pw_426.rB pr_2 = Pn_401.rB pr_2 := (by rw [ePw_426]; exact rw9_of _ (by decide))
    have : Pw_426.rg pr_2 = Pn_401.rg pr_2 := (by rw [ePw_426]; exact rw9_of _ (by decide))
    have ha_430 : Pw_426.be xb = pr_2 := (by rw [ePw_426]; exact ha_419)
    have hW_431 : RW1 pr_2 Pn_401 Pw_426 := wPw_426
    have hrw_434 : RWD Pn_401 Pw_426 := hW_431.rwd (Or.inl hq_418.2)
    have hak_433 : GLF Ln_400 Pw_426 cO cI cZ sx_ed := hak_412.row hW_431 hq_418.2 (ROK9.of (by omega) (by omega) (by omega) (by omega) (by omega) (by omega) (by omega) (uaZ (by omega)) (ubG (by omega))) (fun e9 => by have q9 := hak_412.op21 hq_418.1 hq_418.2 e9; omega)
    have hke_432 : KEG [] Ln_400 Pn_401 Ln_400 Pw_426 := hrw_434.keg _ hq_416.2
    have hq_435 : la ∈ Ln_400 ∧ Pw_426.kd la = 30 := hke_432.mem hq_416.1 hq_416.2 (by decide)
    have hq_436 : xb ∈ Ln_400 ∧ Pw_426.kd xb = 12 := hke_432.mem hq_417.1 hq_417.2 (by decide)
    have hq_437 : pr_2 ∈ Ln_400 ∧ Pw_426.kd pr_2 = 17 := hke_432.mem hq_418.1 hq_418.2 (by decide)
    have ha_438 : Pw_426.be xb = pr_2 := hke_432.be hq_417.1 hq_417.2 ha_419
    have hA_439 : KEG [] L P Ln_400 Pw_426 := hA_420.trans hke_432
    have : Pw_426.lz la = Pn_401.lz la := hrw_434.lz hq_416.2
    have : Pw_426.cap la = Pn_401.cap la := hW_431.cap la
    have hek_440 : Pw_426.ek la = 12 := (by rw [hke_432.ek hq_416.1 hq_416.2 (by decide)]; exact hek_421)
    have how_441 : Pw_426.ow la = la := ((hke_432.1 la hq_416.1 (by rw [hq_416.2]; decide)).2.2.2.1 hq_416.2 how_422).1
    have hcz := (((hke_432.1 la hq_416.1 (by rw [hq_416.2]; decide)).2.2.2.1 hq_416.2 how_422).2 (by simp)).1
    have hE_442 : Pw_426.ek pr_2 = 1 := (by rw [hke_432.ek hq_418.1 hq_418.2 (by decide)]; exact hE_423)
    have hX_tx := hX_tx.rw1 hW_431 (Or.inl hq_418.2)
    have hcx_443 : CHG (fun z => z = xb ∨ z = P.be xb) L P Ln_400 Pw_426 := hcx_424.trans (hW_431.chg _) (fun z m q => Or.inr (q.trans epr_2))
    have hsm_444 := (hW_431.chg Ln_400 xb hq_436.1 (fun e9 => absurd e9 (kd_ne hq_436.2 hq_437.2 (by decide)))).2
    have : Pw_426.bf xb = Pn_401.bf xb := hsm_444.1 0
    have : Pw_426.bs xb = Pn_401.bs xb := hsm_444.1 1
    refine lv_aload_n hx hb dX16_end_49 rfl (lv_at hl 2 rfl) ?_
    refine lv_aload_n hx hb dX16_end_50 rfl (lv_at hl 1 rfl) ?_
    have hPc := hP.part (X := [(q_gp, .inl (cI, mg, .inl (fun j : Nat => zI (a_gp (j : Int))))), (q_gs, .inl (cI, ng, .inl (fun j : Nat => zI (a_gs (j : Int))))), (h0, .inr (14, [.ref q_t, .int (zI (z16_n)), .int (zI (z0_394)), .int (zI (z1_395)), .int (zI (z2_396)), .int (zI (z3_397)), .int (zI (z4_398)), .ref q5_399, v16_8, v16_9, v16_10, .ref q_gp, .ref q_gs, .int (zI (z16_goalN))])), (q_t, .inl (cT, 8192, .inl (fun j : Nat => zI (a_t (j : Int)))))]) (cx := [(h0, .inr (14, [.ref q_t, .int (zI (z16_n)), .int (zI (z0_394)), .int (zI (z1_395)), .int (zI (z2_396)), .int (zI (z3_397)), .int (zI (z4_398)), .ref q5_399, v16_8, v16_9, v16_10, .ref q_gp, .ref q_gs, .int (zI (z16_goalN))])), (q_t, .inl (cT, 8192, .inl (fun j : Nat => zI (a_t (j : Int))))), (q_gp, .inl (cI, mg, .inl (fun j : Nat => zI (a_gp (j : Int))))), (q_gs, .inl (cI, ng, .inl (fun j : Nat => zI (a_gs (j : Int)))))]) (pl := va_pl Ln_400 (pE Pw_426)) [2, 3, 0, 1] rfl
    have hDc := hD.part (X := [(q_gp, .inl (cI, mg, .inl (fun j : Nat => zI (a_gp (j : Int))))), (q_gs, .inl (cI, ng, .inl (fun j : Nat => zI (a_gs (j : Int))))), (h0, .inr (14, [.ref q_t, .int (zI (z16_n)), .int (zI (z0_394)), .int (zI (z1_395)), .int (zI (z2_396)), .int (zI (z3_397)), .int (zI (z4_398)), .ref q5_399, v16_8, v16_9, v16_10, .ref q_gp, .ref q_gs, .int (zI (z16_goalN))])), (q_t, .inl (cT, 8192, .inl (fun j : Nat => zI (a_t (j : Int)))))]) (cx := [(h0, .inr (14, [.ref q_t, .int (zI (z16_n)), .int (zI (z0_394)), .int (zI (z1_395)), .int (zI (z2_396)), .int (zI (z3_397)), .int (zI (z4_398)), .ref q5_399, v16_8, v16_9, v16_10, .ref q_gp, .ref q_gs, .int (zI (z16_goalN))])), (q_t, .inl (cT, 8192, .inl (fun j : Nat => zI (a_t (j : Int))))), (q_gp, .inl (cI, mg, .inl (fun j : Nat => zI (a_gp (j : Int))))), (q_gs, .inl (cI, ng, .inl (fun j : Nat => zI (a_gs (j : Int)))))]) (pl := va_pl Ln_400 (pE Pw_426)) [2, 3, 0, 1] (by decide) rfl
    have hKc := hK.sub (tys' := [(cT, .byte), (cI, .int)]) [3, 0] rfl
    have hFc := va_freeP (X := [(q_gp, .inl (cI, mg, .inl (fun j : Nat => zI (a_gp (j : Int))))), (q_gs, .inl (cI, ng, .inl (fun j : Nat => zI (a_gs (j : Int))))), (h0, .inr (14, [.ref q_t, .int (zI (z16_n)), .int (zI (z0_394)), .int (zI (z1_395)), .int (zI (z2_396)), .int (zI (z3_397)), .int (zI (z4_398)), .ref q5_399, v16_8, v16_9, v16_10, .ref q_gp, .ref q_gs, .int (zI (z16_goalN))])), (q_t, .inl (cT, 8192, .inl (fun j : Nat => zI (a_t (j : Int)))))]) (cx := [(h0, .inr (14, [.ref q_t, .int (zI (z16_n)), .int (zI (z0_394)), .int (zI (z1_395)), .int (zI (z2_396)), .int (zI (z3_397)), .int (zI (z4_398)), .ref q5_399, v16_8, v16_9, v16_10, .ref q_gp, .ref q_gs, .int (zI (z16_goalN))])), (q_t, .inl (cT, 8192, .inl (fun j : Nat => zI (a_t (j : Int))))), (q_gp, .inl (cI, mg, .inl (fun j : Nat => zI (a_gp (j : Int))))), (q_gs, .inl (cI, ng, .inl (fun j : Nat => zI (a_gs (j : Int)))))]) (pl := va_pl Ln_400 (pE Pw_426)) hD hS hA [2, 3, 0, 1] rfl
    refine W_knowS (fun hrmA => ?_)
    refine vx_calli (vx_runV (As := []) (rest := [.ref xb]) ⟨hx, hb, hml, hown, hts⟩ (c_X16_goalM l dC dI h0 z16_n z0_394 z1_395 z2_396 z3_397 z4_398 v16_8 v16_9 v16_10 z16_goalN q_t cT a_t q5_399 q_gp q_gs cI ng mg a_gp a_gs Ln_400 Pw_426 sa_RX16_9 (by omega) (by omega) (by omega) (by omega) (by omega) (by omega) (by omega) hR_a_t (by omega) hR_a_gp hR_a_gs hX_tx (by omega) hX_kv H.size sv_RX16_9 sa_RX16_119 sv_RX16_119 sa_RX16_100 sv_RX16_100 sa_RX16_117 sv_RX16_117 sa_RX16_98 sv_RX16_98 H) (cwV 0 hts g_X16_endM_X16_goalM rfl rfl rfl (by decide +kernel) ⟨(Nat.le_of_ble_eq_true rfl), (Nat.le_of_ble_eq_true rfl)⟩) ⟨fun a U g mk q => by obtain ⟨q0, q1, qP, qK, qD, e0, e1, e2, e3, e4, e5, e6, e7, e8, e9, e10, e11, e12, e13, e14⟩ := q; exact ⟨q0, q1, qP, va_K.moved (u := U) (U := U.calling g mk a) (Vm.Alike.refl U.vm) qK, qD, vk_R.same (u := U) (U := U.calling g mk a) rfl e0, va_Z.moved (u := U) (U := U.calling g mk a) (Vm.Alike.refl U.vm) e1, vs_S.moved (u := U) (U := U.calling g mk a) (Vm.Alike.refl U.vm) e2, va_Nw.same rfl (u := U) (U := U.calling g mk a) rfl e3, vk_R.same (u := U) (U := U.calling g mk a) rfl e4, vs_S.moved (u := U) (U := U.calling g mk a) (Vm.Alike.refl U.vm) e5, vs_S.moved (u := U) (U := U.calling g mk a) (Vm.Alike.refl U.vm) e6, vk_R.same (u := U) (U := U.calling g mk a) rfl e7, vk_R.same (u := U) (U := U.calling g mk a) rfl e8, vs_S.moved (u := U) (U := U.calling g mk a) (Vm.Alike.refl U.vm) e9, vk_R.same (u := U) (U := U.calling g mk a) rfl e10, vs_S.moved (u := U) (U := U.calling g mk a) (Vm.Alike.refl U.vm) e11, vx_Zq.moved (u := U) (U := U.calling g mk a) (Vm.Alike.refl U.vm) e12, vx_Zq.moved (u := U) (U := U.calling g mk a) (Vm.Alike.refl U.vm) e13, e14⟩, va_recv hKc hPc (ci := 14) (q0 := 0) rfl rfl, fun U hU hW => ⟨rfl, by rw [hU], by rw [hU]; exact hPc, va_K.moved hW.alike hKc, hDc.weaken (fun _ _ _ _ => trivial), vk_R.warm hW hp11, by rw [hU]; exact va_Z.narrow (va_Z.moved hW.alike (va_Z.kept hp3 hS.2.1)) hFc, by rw [hU]; exact vs_S.narrow (vs_S.moved hW.alike (vs_S.kept hp2 hS.2.1)) hFc, va_Nw.warmC hW hp12, vk_R.warm hW hp13, by rw [hU]; exact vs_S.narrow (vs_S.moved hW.alike (vs_S.kept hp14 hS.2.1)) hFc, by rw [hU]; exact vs_S.narrow (vs_S.moved hW.alike (vs_S.kept hp15 hS.2.1)) hFc, vk_R.warm hW hp16, vk_R.warm hW hp17, by rw [hU]; exact vs_S.narrow (vs_S.moved hW.alike (vs_S.kept hp18 hS.2.1)) hFc, vk_R.warm hW hp19, by rw [hU]; exact vs_S.narrow (vs_S.moved hW.alike (vs_S.kept hp20 hS.2.1)) hFc, by rw [hU]; exact vx_Zq.narrow (vx_Zq.moved hW.alike (vx_Zq.kept hp8 hS.2.1)) hFc, by rw [hU]; exact vx_Zq.narrow (vx_Zq.moved hW.alike (vx_Zq.kept hp9 hS.2.1)) hFc, hU⟩⟩ rfl rfl hl.1 rfl (lv_room (Nat.le_of_ble_eq_true rfl)) dX16_end_51 ⟨(show (0 + kc_402) + ((13 * (z16_n - z0_394) + 22).toNat) ≤ (14 * (z16_n - z16_at) + 4 * z16_goalN + 120).toNat from (by omega)), (show (0 + ks_403) + ((110 * (z16_n - z0_394) + 4 * z16_goalN + 120).toNat) ≤ (120 * (z16_n - z16_at) + 16 * z16_goalN + 700).toNat from (by omega))⟩) hS (fun q _ h => hFc q h) hFc (fun q _ h => hFc q h) (fun E ce q9 u t H1 locs ht hvm _ hB hz1 hk1 hS hce hcv hcl => ?_) (fun r_445 z_446 t H1 locs ht hvm hw hB hz1 hk1 hS => ?_)
    · obtain ⟨rfl, zp_447, Ln_448, Pn_449, kc_450, ks_451, hxt_452, hP1, hD1⟩ := hB
      rw [ht] at hP1
      obtain ⟨hP, hD⟩ := va_joinP (X := [(q_gp, .inl (cI, mg, .inl (fun j : Nat => zI (a_gp (j : Int))))), (q_gs, .inl (cI, ng, .inl (fun j : Nat => zI (a_gs (j : Int))))), (h0, .inr (14, [.ref q_t, .int (zI (z16_n)), .int (zI (z0_394)), .int (zI (z1_395)), .int (zI (z2_396)), .int (zI (z3_397)), .int (zI (z4_398)), .ref q5_399, v16_8, v16_9, v16_10, .ref q_gp, .ref q_gs, .int (zI (z16_goalN))])), (q_t, .inl (cT, 8192, .inl (fun j : Nat => zI (a_t (j : Int)))))]) (cx := [(h0, .inr (14, [.ref q_t, .int (zI (z16_n)), .int (zI (z0_394)), .int (zI (z1_395)), .int (zI (z2_396)), .int (zI (z3_397)), .int (zI (z4_398)), .ref q5_399, v16_8, v16_9, v16_10, .ref q_gp, .ref q_gs, .int (zI (z16_goalN))])), (q_t, .inl (cT, 8192, .inl (fun j : Nat => zI (a_t (j : Int))))), (q_gp, .inl (cI, mg, .inl (fun j : Nat => zI (a_gp (j : Int))))), (q_gs, .inl (cI, ng, .inl (fun j : Nat => zI (a_gs (j : Int)))))]) (wr := []) (rx := [(q_t, .inl (cT, 8192, .inl (fun j : Nat => zI (a_t (j : Int))))), (q9, .inr (15, [.null, .null, .null, .null, .null, .int 0, .int (zI (zp_447))]))]) (pl := va_pl Ln_400 (pE Pw_426)) (pl1 := va_pl Ln_448 (pE Pn_449)) hP hD [2, 3, 0, 1] [] rfl rfl (by decide) (by decide) hk1 hFc hP1 hD1
      have hrmC := hxt_452.1.1
      rw [ht] at hrmC
      refine vx_tightS (hrmA.trans hrmC) ?_
      have hrb := hxt_452.1.2
      generalize H1 = H at hP hS hce ⊢
      have hP : va_P (dC, dI) vwQ ([(q_t, .inl (cT, 8192, .inl (fun j : Nat => zI (a_t (j : Int))))), (q9, .inr (15, [.null, .null, .null, .null, .null, .int 0, .int (zI (zp_447))]))] ++ va_pl Ln_448 (pE Pn_449)) H := hP
      have hD : va_D A ([(q_t, .inl (cT, 8192, .inl (fun j : Nat => zI (a_t (j : Int))))), (q9, .inr (15, [.null, .null, .null, .null, .null, .int 0, .int (zI (zp_447))]))] ++ va_pl Ln_448 (pE Pn_449)) := hD
      have hzp : 0 ≤ zp_447 ∧ zp_447 ≤ 8192 := hxt_452.2.1
      subst hQ
      refine vx_knowS (fun hrm9 => ?_)
      refine vx_widen (k := ((14 * (z16_n - z16_at) + 4 * z16_goalN + 120).toNat)) (n := ((120 * (z16_n - z16_at) + 16 * z16_goalN + 700).toNat)) (by omega) (by omega) ?_
      exact vx_out (fun x9 h9 => (hnt x9 h9).elim) hlocks hce hcv hcl (fun t ht hvm => ⟨(), trivial, ⟨rfl, zp_447, Ln_448, Pn_449, ((0 + kc_402) + kc_450), ((0 + ks_403) + ks_451), ⟨⟨(by rw [ht, ← hp10]; exact hrm9), (by omega)⟩, ⟨(by omega), ⟨hA_439.trans (hxt_452.2.2.1.keg hak_433), hak_433.txt hxt_452.2.2.1 hxt_452.2.2.2, (hcx_443.cpa hg00.owa (fun z _ q => by rcases (show z = xb ∨ z = P.be xb from q) with q | q; rw [q, hX_bk]; decide; rw [q, (hg00.gb hX_b hX_bk).1.2.1]; decide)).trans hA_439 (hxt_452.2.2.1.cpa hak_433.owa)⟩⟩⟩, by rw [ht]; exact hP, hD⟩, hS.F ht⟩) hS.2.2 (Nat.le_refl _) (Nat.le_refl _)
    obtain ⟨z0_453, z1_454, z2_455, z3_456, z4_457, q5_458, z6_459, qn0_460, nn0_461, an0_462, qn1_463, nn1_464, an1_465, Ln_466, Pn_467, kc_468, ks_469, hxt_469, hP1, hK1, hD1⟩ := hB
    rw [ht] at hP1
    have hK1 := va_K.moved hvm.symm hK1
    obtain ⟨hP, hD⟩ := va_joinP (X := [(q_gp, .inl (cI, mg, .inl (fun j : Nat => zI (a_gp (j : Int))))), (q_gs, .inl (cI, ng, .inl (fun j : Nat => zI (a_gs (j : Int))))), (h0, .inr (14, [.ref q_t, .int (zI (z16_n)), .int (zI (z0_394)), .int (zI (z1_395)), .int (zI (z2_396)), .int (zI (z3_397)), .int (zI (z4_398)), .ref q5_399, v16_8, v16_9, v16_10, .ref q_gp, .ref q_gs, .int (zI (z16_goalN))])), (q_t, .inl (cT, 8192, .inl (fun j : Nat => zI (a_t (j : Int)))))]) (cx := [(h0, .inr (14, [.ref q_t, .int (zI (z16_n)), .int (zI (z0_394)), .int (zI (z1_395)), .int (zI (z2_396)), .int (zI (z3_397)), .int (zI (z4_398)), .ref q5_399, v16_8, v16_9, v16_10, .ref q_gp, .ref q_gs, .int (zI (z16_goalN))])), (q_t, .inl (cT, 8192, .inl (fun j : Nat => zI (a_t (j : Int))))), (q_gp, .inl (cI, mg, .inl (fun j : Nat => zI (a_gp (j : Int))))), (q_gs, .inl (cI, ng, .inl (fun j : Nat => zI (a_gs (j : Int)))))]) (wr := []) (rx := [(h0, .inr (14, [.ref q_t, .int (zI (z16_n)), .int (zI (z0_453)), .int (zI (z1_454)), .int (zI (z2_455)), .int (zI (z3_456)), .int (zI (z4_457)), .ref q5_458, v16_8, v16_9, v16_10, .ref qn0_460, .ref qn1_463, .int (zI (z6_459))])), (q_t, .inl (cT, 8192, .inl (fun j : Nat => zI (a_t (j : Int))))), (qn0_460, .inl (cI, nn0_461, .inl (fun j : Nat => zI (an0_462 (j : Int))))), (qn1_463, .inl (cI, nn1_464, .inl (fun j : Nat => zI (an1_465 (j : Int)))))]) (pl := va_pl Ln_400 (pE Pw_426)) (pl1 := va_pl Ln_466 (pE Pn_467)) hP hD [2, 3, 0, 1] [] rfl rfl (by decide) (by decide) hk1 hFc hP1 hD1
    have hK := (hK.sub (tys' := [(cO, .object "java/lang/Object"), (cZ, .boolean)]) [1, 2] rfl).app hK1
    have hrmC := hxt_469.1.1
    rw [ht] at hrmC
    refine W_tightS (hrmA.trans hrmC) ?_
    have hrb := hxt_469.1.2
    generalize H1 = H at hP hS ⊢
    have hP : va_P (dC, dI) vwQ ([(h0, .inr (14, [.ref q_t, .int (zI (z16_n)), .int (zI (z0_453)), .int (zI (z1_454)), .int (zI (z2_455)), .int (zI (z3_456)), .int (zI (z4_457)), .ref q5_458, v16_8, v16_9, v16_10, .ref qn0_460, .ref qn1_463, .int (zI (z6_459))])), (q_t, .inl (cT, 8192, .inl (fun j : Nat => zI (a_t (j : Int))))), (qn0_460, .inl (cI, nn0_461, .inl (fun j : Nat => zI (an0_462 (j : Int))))), (qn1_463, .inl (cI, nn1_464, .inl (fun j : Nat => zI (an1_465 (j : Int)))))] ++ va_pl Ln_466 (pE Pn_467)) H := hP
    have hD : va_D A ([(h0, .inr (14, [.ref q_t, .int (zI (z16_n)), .int (zI (z0_453)), .int (zI (z1_454)), .int (zI (z2_455)), .int (zI (z3_456)), .int (zI (z4_457)), .ref q5_458, v16_8, v16_9, v16_10, .ref qn0_460, .ref qn1_463, .int (zI (z6_459))])), (q_t, .inl (cT, 8192, .inl (fun j : Nat => zI (a_t (j : Int))))), (qn0_460, .inl (cI, nn0_461, .inl (fun j : Nat => zI (an0_462 (j : Int))))), (qn1_463, .inl (cI, nn1_464, .inl (fun j : Nat => zI (an1_465 (j : Int)))))] ++ va_pl Ln_466 (pE Pn_467)) := hD
    have hK : va_K (dC, dI) vwQ [(cO, .object "java/lang/Object"), (cZ, .boolean), (cT, .byte), (cI, .int)] s := hK
    refine W.widen (k := ((0 + kc_402) + kc_468)) (n := ((0 + ks_403) + ks_469)) (by omega) (by omega) ?_
    obtain ⟨rfl, hzz_446⟩ := hw
    obtain ⟨rk_470, rk_471, rk_472, rk_473, rk_474, rk_475, rk_476, rk_477, hu_477⟩ := hxt_469.2
    have hgo9 := hkd_413.go (by omega)
    have hkd_482 := hu_477.2.2.2.2.1
    have hX_kv := hkd_482.2
    have hu_478 := hu_477.2.2.2.2.2
    have hex_479 : EXT9 Ln_400 Pw_426 Ln_466 Pn_467 := hu_478.1
    have hke_480 : KEG [] Ln_400 Pw_426 Ln_466 Pn_467 := hex_479.keg hak_433
    have hak_481 : GLF Ln_466 Pn_467 cO cI cZ sx_ed := hak_433.txt hex_479 hu_478.2.1
    have hsm_483 := (hex_479 xb hq_436.1).2
    have : Pn_467.bf xb = Pw_426.bf xb := hsm_483.1 0
    have : Pn_467.bs xb = Pw_426.bs xb := hsm_483.1 1
    have hsm_484 := (hex_479 pr_2 hq_437.1).2
    have : Pn_467.ro pr_2 = Pw_426.ro pr_2 := hsm_484.1 0
    have : Pn_467.rt pr_2 = Pw_426.rt pr_2 := hsm_484.1 1
    have : Pn_467.ra pr_2 = Pw_426.ra pr_2 := hsm_484.1 2
    have : Pn_467.rb pr_2 = Pw_426.rb pr_2 := hsm_484.1 3
    have : Pn_467.rA pr_2 = Pw_426.rA pr_2 := hsm_484.1 4
    have : Pn_467.rB pr_2 = Pw_426.rB pr_2 := hsm_484.1 5
    have : Pn_467.rg pr_2 = Pw_426.rg pr_2 := hsm_484.1 6
    have hq_485 : la ∈ Ln_466 ∧ Pn_467.kd la = 30 := hke_480.mem hq_435.1 hq_435.2 (by decide)
    have hq_486 : xb ∈ Ln_466 ∧ Pn_467.kd xb = 12 := hke_480.mem hq_436.1 hq_436.2 (by decide)
    have hq_487 : pr_2 ∈ Ln_466 ∧ Pn_467.kd pr_2 = 17 := hke_480.mem hq_437.1 hq_437.2 (by decide)
    have ha_488 : Pn_467.be xb = pr_2 := hke_480.be hq_436.1 hq_436.2 ha_438
    have hA_489 : KEG [] L P Ln_466 Pn_467 := hA_439.trans hke_480
    have : Pn_467.lz la = Pw_426.lz la := (hex_479 la hq_435.1).2.1 0
    have hek_490 : Pn_467.ek la = 12 := (by rw [hke_480.ek hq_435.1 hq_435.2 (by decide)]; exact hek_440)
    have how_491 : Pn_467.ow la = la := ((hke_480.1 la hq_435.1 (by rw [hq_435.2]; decide)).2.2.2.1 hq_435.2 how_441).1
    have hcz := (((hke_480.1 la hq_435.1 (by rw [hq_435.2]; decide)).2.2.2.1 hq_435.2 how_441).2 (by simp)).1
    have hE_492 : Pn_467.ek pr_2 = 1 := (by rw [hke_480.ek hq_437.1 hq_437.2 (by decide)]; exact hE_442)
    have hX_tx := hu_478.2.2
    have hcx_493 : CHG (fun z => z = xb ∨ z = P.be xb) L P Ln_466 Pn_467 := hcx_443.trans hex_479.chg (fun z m q => q.elim)
    have hgo1 := hu_477
    have hgn1 := hgo1.1
    have hfb := (hak_481.gb hq_486.1 hq_486.2).2
    obtain ⟨kp_494, gkp_494⟩ := va_pl_get (X := [(h0, .inr (14, [.ref q_t, .int (zI (z16_n)), .int (zI (z0_453)), .int (zI (z1_454)), .int (zI (z2_455)), .int (zI (z3_456)), .int (zI (z4_457)), .ref q5_458, v16_8, v16_9, v16_10, .ref qn0_460, .ref qn1_463, .int (zI (z6_459))])), (q_t, .inl (cT, 8192, .inl (fun j : Nat => zI (a_t (j : Int))))), (qn0_460, .inl (cI, nn0_461, .inl (fun j : Nat => zI (an0_462 (j : Int))))), (qn1_463, .inl (cI, nn1_464, .inl (fun j : Nat => zI (an1_465 (j : Int)))))]) (f := pE Pn_467) hq_486.1
    have hkp_494 := gkp_494
    rw [pE_block hq_486.2] at hkp_494
    have hD0 := hD
    refine va_put (D := (dC, dI)) (ci := 19) (v := .int (zI (z_446))) (ty := .int) (C := RX12) (T := TX12) (N := 5) hx hb hts mem_X16_endM_0 tyX12 tyX12_ok nmX12 hown hK hP hD hS kp_494 hkp_494 rfl 3 (by decide) (ow (k := 4) rfl) (fun _ h9 => h9) rfl (by decide +kernel) rfl rfl (by first | exact Nat.le_of_ble_eq_true rfl | exact (show ((0 + kc_402) + kc_468) ≤ (14 * (z16_n - z16_at) + 4 * z16_goalN + 120).toNat from (by omega)) | exact (show ((0 + ks_403) + ks_469) ≤ (120 * (z16_n - z16_at) + 16 * z16_goalN + 700).toNat from (by omega))) dX16_end_54 (fun H locs hP hD hS => ?_)
    obtain ⟨Pw_495, ePw_495⟩ : ∃ q9 : PO, q9 = Pn_467.rw9 0 xb (z_446) := ⟨_, rfl⟩
    have eU : (([(h0, .inr (14, [.ref q_t, .int (zI (z16_n)), .int (zI (z0_453)), .int (zI (z1_454)), .int (zI (z2_455)), .int (zI (z3_456)), .int (zI (z4_457)), .ref q5_458, v16_8, v16_9, v16_10, .ref qn0_460, .ref qn1_463, .int (zI (z6_459))])), (q_t, .inl (cT, 8192, .inl (fun j : Nat => zI (a_t (j : Int))))), (qn0_460, .inl (cI, nn0_461, .inl (fun j : Nat => zI (an0_462 (j : Int))))), (qn1_463, .inl (cI, nn1_464, .inl (fun j : Nat => zI (an1_465 (j : Int)))))] : va_W) ++ va_pl Ln_466 (pE Pn_467)).set kp_494 (xb, blockE (Pn_467.bp xb) (Pn_467.br xb) (Pn_467.be xb) (z_446) (Pn_467.bs xb)) = ([(h0, .inr (14, [.ref q_t, .int (zI (z16_n)), .int (zI (z0_453)), .int (zI (z1_454)), .int (zI (z2_455)), .int (zI (z3_456)), .int (zI (z4_457)), .ref q5_458, v16_8, v16_9, v16_10, .ref qn0_460, .ref qn1_463, .int (zI (z6_459))])), (q_t, .inl (cT, 8192, .inl (fun j : Nat => zI (a_t (j : Int))))), (qn0_460, .inl (cI, nn0_461, .inl (fun j : Nat => zI (an0_462 (j : Int))))), (qn1_463, .inl (cI, nn1_464, .inl (fun j : Nat => zI (an1_465 (j : Int)))))] : va_W) ++ va_pl Ln_466 (pE Pw_495) := (by rw [va_pl_set hD0 hq_486.1 gkp_494, ePw_495]; exact congrArg (fun f9 => ([(h0, .inr (14, [.ref q_t, .int (zI (z16_n)), .int (zI (z0_453)), .int (zI (z1_454)), .int (zI (z2_455)), .int (zI (z3_456)), .int (zI (z4_457)), .ref q5_458, v16_8, v16_9, v16_10, .ref qn0_460, .ref qn1_463, .int (zI (z6_459))])), (q_t, .inl (cT, 8192, .inl (fun j : Nat => zI (a_t (j : Int))))), (qn0_460, .inl (cI, nn0_461, .inl (fun j : Nat => zI (an0_462 (j : Int))))), (qn1_463, .inl (cI, nn1_464, .inl (fun j : Nat => zI (an1_465 (j : Int)))))] : va_W) ++ va_pl Ln_466 f9) (put12_0 hq_486.2))
    have hP : va_P (dC, dI) vwQ ([(h0, .inr (14, [.ref q_t, .int (zI (z16_n)), .int (zI (z0_453)), .int (zI (z1_454)), .int (zI (z2_455)), .int (zI (z3_456)), .int (zI (z4_457)), .ref q5_458, v16_8, v16_9, v16_10, .ref qn0_460, .ref qn1_463, .int (zI (z6_459))])), (q_t, .inl (cT, 8192, .inl (fun j : Nat => zI (a_t (j : Int))))), (qn0_460, .inl (cI, nn0_461, .inl (fun j : Nat => zI (an0_462 (j : Int))))), (qn1_463, .inl (cI, nn1_464, .inl (fun j : Nat => zI (an1_465 (j : Int)))))] ++ va_pl Ln_466 (pE Pw_495)) H := (by rw [← eU]; exact hP)
    have hD : va_D A ([(h0, .inr (14, [.ref q_t, .int (zI (z16_n)), .int (zI (z0_453)), .int (zI (z1_454)), .int (zI (z2_455)), .int (zI (z3_456)), .int (zI (z4_457)), .ref q5_458, v16_8, v16_9, v16_10, .ref qn0_460, .ref qn1_463, .int (zI (z6_459))])), (q_t, .inl (cT, 8192, .inl (fun j : Nat => zI (a_t (j : Int))))), (qn0_460, .inl (cI, nn0_461, .inl (fun j : Nat => zI (an0_462 (j : Int))))), (qn1_463, .inl (cI, nn1_464, .inl (fun j : Nat => zI (an1_465 (j : Int)))))] ++ va_pl Ln_466 (pE Pw_495)) := (by rw [← eU]; exact hD)
    clear eU hD0 gkp_494 hkp_494
    have wPw_495 : RW1 xb Pn_467 Pw_495 := (by rw [ePw_495]; exact RW1.put _ _ _ _)
    have hy_496 : Pw_495.kd la = 30 := (by rw [ePw_495]; exact hq_485.2)
    have hy_497 : Pw_495.kd xb = 12 := (by rw [ePw_495]; exact hq_486.2)
    have : Pw_495.bf xb = z_446 := (by rw [ePw_495]; exact rw9_at _ _ _ _)
    have : Pw_495.bs xb = Pn_467.bs xb := (by rw [ePw_495]; exact rw9_of _ (by decide))
    have hy_498 : Pw_495.kd pr_2 = 17 := (by rw [ePw_495]; exact hq_487.2)
    have : Pw_495.ro pr_2 = Pn_467.ro pr_2 := wPw_495.2 _ (kd_ne hq_487.2 hq_486.2 (by decide)) _
    have : Pw_495.rt pr_2 = Pn_467.rt pr_2 := wPw_495.2 _ (kd_ne hq_487.2 hq_486.2 (by decide)) _
    have : Pw_495.ra pr_2 = Pn_467.ra pr_2 := wPw_495.2 _ (kd_ne hq_487.2 hq_486.2 (by decide)) _
    have : Pw_495.rb pr_2 = Pn_467.rb pr_2 := wPw_495.2 _ (kd_ne hq_487.2 hq_486.2 (by decide)) _
    have : Pw_495.rA pr_2 = Pn_467.rA pr_2 := wPw_495.2 _ (kd_ne hq_487.2 hq_486.2 (by decide)) _
    have : Pw_495.rB pr_2 = Pn_467.rB pr_2 := wPw_495.2 _ (kd_ne hq_487.2 hq_486.2 (by decide)) _
    have : Pw_495.rg pr_2 = Pn_467.rg pr_2 := wPw_495.2 _ (kd_ne hq_487.2 hq_486.2 (by decide)) _
    have ha_499 : Pw_495.be xb = pr_2 := (by rw [ePw_495]; exact ha_488)
    have hW_500 : RW1 xb Pn_467 Pw_495 := wPw_495
    have hak_502 : GLF Ln_466 Pw_495 cO cI cZ sx_ed := hak_481.goal hW_500 hq_486.2 (by omega)
    have hke_501 : KEG [] Ln_466 Pn_467 Ln_466 Pw_495 := hW_500.keg _ hq_485.2 (by omega)
    have hq_504 : la ∈ Ln_466 ∧ Pw_495.kd la = 30 := hke_501.mem hq_485.1 hq_485.2 (by decide)
    have hq_505 : xb ∈ Ln_466 ∧ Pw_495.kd xb = 12 := hke_501.mem hq_486.1 hq_486.2 (by decide)
    have hq_506 : pr_2 ∈ Ln_466 ∧ Pw_495.kd pr_2 = 17 := hke_501.mem hq_487.1 hq_487.2 (by decide)
    have ha_507 : Pw_495.be xb = pr_2 := hke_501.be hq_486.1 hq_486.2 ha_488
    have hA_508 : KEG [] L P Ln_466 Pw_495 := hA_489.trans hke_501
    have : Pw_495.cap la = Pn_467.cap la := hW_500.cap la
    have hek_509 : Pw_495.ek la = 12 := (by rw [hke_501.ek hq_485.1 hq_485.2 (by decide)]; exact hek_490)
    have how_510 : Pw_495.ow la = la := ((hke_501.1 la hq_485.1 (by rw [hq_485.2]; decide)).2.2.2.1 hq_485.2 how_491).1
    have hcz := (((hke_501.1 la hq_485.1 (by rw [hq_485.2]; decide)).2.2.2.1 hq_485.2 how_491).2 (by simp)).1
    have hE_511 : Pw_495.ek pr_2 = 1 := (by rw [hke_501.ek hq_487.1 hq_487.2 (by decide)]; exact hE_492)
    have hX_tx := hX_tx.rw1 hW_500 (Or.inr hq_486.2)
    have hcx_512 : CHG (fun z => z = xb ∨ z = P.be xb) L P Ln_466 Pw_495 := hcx_493.trans (hW_500.chg _) (fun z m q => Or.inl q)
    have hsm_513 := (hW_500.chg Ln_466 pr_2 hq_506.1 (fun e9 => absurd e9 (kd_ne hq_506.2 hq_505.2 (by decide)))).2
    have : Pw_495.ro pr_2 = Pn_467.ro pr_2 := hsm_513.1 0
    have : Pw_495.rt pr_2 = Pn_467.rt pr_2 := hsm_513.1 1
    have : Pw_495.ra pr_2 = Pn_467.ra pr_2 := hsm_513.1 2
    have : Pw_495.rb pr_2 = Pn_467.rb pr_2 := hsm_513.1 3
    have : Pw_495.rA pr_2 = Pn_467.rA pr_2 := hsm_513.1 4
    have : Pw_495.rB pr_2 = Pn_467.rB pr_2 := hsm_513.1 5
    have : Pw_495.rg pr_2 = Pn_467.rg pr_2 := hsm_513.1 6
    refine lv_aload_n hx hb dX16_end_57 rfl (lv_at hl 2 rfl) ?_
    refine lv_aload_n hx hb dX16_end_58 rfl (lv_at hl 2 rfl) ?_
    have hfb := (hak_502.gb hq_505.1 hq_505.2).2
    obtain ⟨kp_514, hkp_514⟩ := va_pl_get (X := [(h0, .inr (14, [.ref q_t, .int (zI (z16_n)), .int (zI (z0_453)), .int (zI (z1_454)), .int (zI (z2_455)), .int (zI (z3_456)), .int (zI (z4_457)), .ref q5_458, v16_8, v16_9, v16_10, .ref qn0_460, .ref qn1_463, .int (zI (z6_459))])), (q_t, .inl (cT, 8192, .inl (fun j : Nat => zI (a_t (j : Int))))), (qn0_460, .inl (cI, nn0_461, .inl (fun j : Nat => zI (an0_462 (j : Int))))), (qn1_463, .inl (cI, nn1_464, .inl (fun j : Nat => zI (an1_465 (j : Int)))))]) (f := pE Pw_495) hq_505.1
    rw [pE_block hq_505.2] at hkp_514
    refine va_get (D := (dC, dI)) (ci := 19) (v := .int (zI (Pw_495.bf xb))) (C := RX12) (T := TX12) (N := 5) hx hb hts mem_X16_endM_0 hown hK hP kp_514 hkp_514 rfl 3 (by decide) (ow (k := 4) rfl) (fun _ h9 => h9) rfl dX16_end_59 ?_
    obtain ⟨kp_515, gkp_515⟩ := va_pl_get (X := [(h0, .inr (14, [.ref q_t, .int (zI (z16_n)), .int (zI (z0_453)), .int (zI (z1_454)), .int (zI (z2_455)), .int (zI (z3_456)), .int (zI (z4_457)), .ref q5_458, v16_8, v16_9, v16_10, .ref qn0_460, .ref qn1_463, .int (zI (z6_459))])), (q_t, .inl (cT, 8192, .inl (fun j : Nat => zI (a_t (j : Int))))), (qn0_460, .inl (cI, nn0_461, .inl (fun j : Nat => zI (an0_462 (j : Int))))), (qn1_463, .inl (cI, nn1_464, .inl (fun j : Nat => zI (an1_465 (j : Int)))))]) (f := pE Pw_495) hq_505.1
    have hkp_515 := gkp_515
    rw [pE_block hq_505.2] at hkp_515
    have hD0 := hD
    refine va_put (D := (dC, dI)) (ci := 19) (v := .int (zI (Pw_495.bf xb))) (ty := .int) (C := RX12) (T := TX12) (N := 5) hx hb hts mem_X16_endM_0 tyX12 tyX12_ok nmX12 hown hK hP hD hS kp_515 hkp_515 rfl 4 (by decide) (ow (k := 5) rfl) (fun _ h9 => h9) rfl (by decide +kernel) rfl rfl (by first | exact Nat.le_of_ble_eq_true rfl | exact (show ((0 + kc_402) + kc_468) ≤ (14 * (z16_n - z16_at) + 4 * z16_goalN + 120).toNat from (by omega)) | exact (show ((0 + ks_403) + ks_469) ≤ (120 * (z16_n - z16_at) + 16 * z16_goalN + 700).toNat from (by omega))) dX16_end_62 (fun H locs hP hD hS => ?_)
    obtain ⟨Pw_516, ePw_516⟩ : ∃ q9 : PO, q9 = Pw_495.rw9 1 xb (Pw_495.bf xb) := ⟨_, rfl⟩
    have eU : (([(h0, .inr (14, [.ref q_t, .int (zI (z16_n)), .int (zI (z0_453)), .int (zI (z1_454)), .int (zI (z2_455)), .int (zI (z3_456)), .int (zI (z4_457)), .ref q5_458, v16_8, v16_9, v16_10, .ref qn0_460, .ref qn1_463, .int (zI (z6_459))])), (q_t, .inl (cT, 8192, .inl (fun j : Nat => zI (a_t (j : Int))))), (qn0_460, .inl (cI, nn0_461, .inl (fun j : Nat => zI (an0_462 (j : Int))))), (qn1_463, .inl (cI, nn1_464, .inl (fun j : Nat => zI (an1_465 (j : Int)))))] : va_W) ++ va_pl Ln_466 (pE Pw_495)).set kp_515 (xb, blockE (Pw_495.bp xb) (Pw_495.br xb) (Pw_495.be xb) (Pw_495.bf xb) (Pw_495.bf xb)) = ([(h0, .inr (14, [.ref q_t, .int (zI (z16_n)), .int (zI (z0_453)), .int (zI (z1_454)), .int (zI (z2_455)), .int (zI (z3_456)), .int (zI (z4_457)), .ref q5_458, v16_8, v16_9, v16_10, .ref qn0_460, .ref qn1_463, .int (zI (z6_459))])), (q_t, .inl (cT, 8192, .inl (fun j : Nat => zI (a_t (j : Int))))), (qn0_460, .inl (cI, nn0_461, .inl (fun j : Nat => zI (an0_462 (j : Int))))), (qn1_463, .inl (cI, nn1_464, .inl (fun j : Nat => zI (an1_465 (j : Int)))))] : va_W) ++ va_pl Ln_466 (pE Pw_516) := (by rw [va_pl_set hD0 hq_505.1 gkp_515, ePw_516]; exact congrArg (fun f9 => ([(h0, .inr (14, [.ref q_t, .int (zI (z16_n)), .int (zI (z0_453)), .int (zI (z1_454)), .int (zI (z2_455)), .int (zI (z3_456)), .int (zI (z4_457)), .ref q5_458, v16_8, v16_9, v16_10, .ref qn0_460, .ref qn1_463, .int (zI (z6_459))])), (q_t, .inl (cT, 8192, .inl (fun j : Nat => zI (a_t (j : Int))))), (qn0_460, .inl (cI, nn0_461, .inl (fun j : Nat => zI (an0_462 (j : Int))))), (qn1_463, .inl (cI, nn1_464, .inl (fun j : Nat => zI (an1_465 (j : Int)))))] : va_W) ++ va_pl Ln_466 f9) (put12_1 hq_505.2))
    have hP : va_P (dC, dI) vwQ ([(h0, .inr (14, [.ref q_t, .int (zI (z16_n)), .int (zI (z0_453)), .int (zI (z1_454)), .int (zI (z2_455)), .int (zI (z3_456)), .int (zI (z4_457)), .ref q5_458, v16_8, v16_9, v16_10, .ref qn0_460, .ref qn1_463, .int (zI (z6_459))])), (q_t, .inl (cT, 8192, .inl (fun j : Nat => zI (a_t (j : Int))))), (qn0_460, .inl (cI, nn0_461, .inl (fun j : Nat => zI (an0_462 (j : Int))))), (qn1_463, .inl (cI, nn1_464, .inl (fun j : Nat => zI (an1_465 (j : Int)))))] ++ va_pl Ln_466 (pE Pw_516)) H := (by rw [← eU]; exact hP)
    have hD : va_D A ([(h0, .inr (14, [.ref q_t, .int (zI (z16_n)), .int (zI (z0_453)), .int (zI (z1_454)), .int (zI (z2_455)), .int (zI (z3_456)), .int (zI (z4_457)), .ref q5_458, v16_8, v16_9, v16_10, .ref qn0_460, .ref qn1_463, .int (zI (z6_459))])), (q_t, .inl (cT, 8192, .inl (fun j : Nat => zI (a_t (j : Int))))), (qn0_460, .inl (cI, nn0_461, .inl (fun j : Nat => zI (an0_462 (j : Int))))), (qn1_463, .inl (cI, nn1_464, .inl (fun j : Nat => zI (an1_465 (j : Int)))))] ++ va_pl Ln_466 (pE Pw_516)) := (by rw [← eU]; exact hD)
    clear eU hD0 gkp_515 hkp_515
    have wPw_516 : RW1 xb Pw_495 Pw_516 := (by rw [ePw_516]; exact RW1.put _ _ _ _)
    have hy_517 : Pw_516.kd la = 30 := (by rw [ePw_516]; exact hq_504.2)
    have hy_518 : Pw_516.kd xb = 12 := (by rw [ePw_516]; exact hq_505.2)
    have : Pw_516.bf xb = Pw_495.bf xb := (by rw [ePw_516]; exact rw9_of _ (by decide))
    have : Pw_516.bs xb = Pw_495.bf xb := (by rw [ePw_516]; exact rw9_at _ _ _ _)
    have hy_519 : Pw_516.kd pr_2 = 17 := (by rw [ePw_516]; exact hq_506.2)
    have : Pw_516.ro pr_2 = Pw_495.ro pr_2 := wPw_516.2 _ (kd_ne hq_506.2 hq_505.2 (by decide)) _
    have : Pw_516.rt pr_2 = Pw_495.rt pr_2 := wPw_516.2 _ (kd_ne hq_506.2 hq_505.2 (by decide)) _
    have : Pw_516.ra pr_2 = Pw_495.ra pr_2 := wPw_516.2 _ (kd_ne hq_506.2 hq_505.2 (by decide)) _
    have : Pw_516.rb pr_2 = Pw_495.rb pr_2 := wPw_516.2 _ (kd_ne hq_506.2 hq_505.2 (by decide)) _
    have : Pw_516.rA pr_2 = Pw_495.rA pr_2 := wPw_516.2 _ (kd_ne hq_506.2 hq_505.2 (by decide)) _
    have : Pw_516.rB pr_2 = Pw_495.rB pr_2 := wPw_516.2 _ (kd_ne hq_506.2 hq_505.2 (by decide)) _
    have : Pw_516.rg pr_2 = Pw_495.rg pr_2 := wPw_516.2 _ (kd_ne hq_506.2 hq_505.2 (by decide)) _
    have ha_520 : Pw_516.be xb = pr_2 := (by rw [ePw_516]; exact ha_507)
    have hW_521 : RW1 xb Pw_495 Pw_516 := wPw_516
    have hak_523 : GLF Ln_466 Pw_516 cO cI cZ sx_ed := hak_502.goal hW_521 hq_505.2 (by omega)
    have hke_522 : KEG [] Ln_466 Pw_495 Ln_466 Pw_516 := hW_521.keg _ hq_504.2 (by omega)
    have hq_525 : la ∈ Ln_466 ∧ Pw_516.kd la = 30 := hke_522.mem hq_504.1 hq_504.2 (by decide)
    have hq_526 : xb ∈ Ln_466 ∧ Pw_516.kd xb = 12 := hke_522.mem hq_505.1 hq_505.2 (by decide)
    have hq_527 : pr_2 ∈ Ln_466 ∧ Pw_516.kd pr_2 = 17 := hke_522.mem hq_506.1 hq_506.2 (by decide)
    have ha_528 : Pw_516.be xb = pr_2 := hke_522.be hq_505.1 hq_505.2 ha_507
    have hA_529 : KEG [] L P Ln_466 Pw_516 := hA_508.trans hke_522
    have : Pw_516.cap la = Pw_495.cap la := hW_521.cap la
    have hek_530 : Pw_516.ek la = 12 := (by rw [hke_522.ek hq_504.1 hq_504.2 (by decide)]; exact hek_509)
    have how_531 : Pw_516.ow la = la := ((hke_522.1 la hq_504.1 (by rw [hq_504.2]; decide)).2.2.2.1 hq_504.2 how_510).1
    have hcz := (((hke_522.1 la hq_504.1 (by rw [hq_504.2]; decide)).2.2.2.1 hq_504.2 how_510).2 (by simp)).1
    have hE_532 : Pw_516.ek pr_2 = 1 := (by rw [hke_522.ek hq_506.1 hq_506.2 (by decide)]; exact hE_511)
    have hX_tx := hX_tx.rw1 hW_521 (Or.inr hq_505.2)
    have hcx_533 : CHG (fun z => z = xb ∨ z = P.be xb) L P Ln_466 Pw_516 := hcx_512.trans (hW_521.chg _) (fun z m q => Or.inl q)
    have hsm_534 := (hW_521.chg Ln_466 pr_2 hq_527.1 (fun e9 => absurd e9 (kd_ne hq_527.2 hq_526.2 (by decide)))).2
    have : Pw_516.ro pr_2 = Pw_495.ro pr_2 := hsm_534.1 0
    have : Pw_516.rt pr_2 = Pw_495.rt pr_2 := hsm_534.1 1
    have : Pw_516.ra pr_2 = Pw_495.ra pr_2 := hsm_534.1 2
    have : Pw_516.rb pr_2 = Pw_495.rb pr_2 := hsm_534.1 3
    have : Pw_516.rA pr_2 = Pw_495.rA pr_2 := hsm_534.1 4
    have : Pw_516.rB pr_2 = Pw_495.rB pr_2 := hsm_534.1 5
    have : Pw_516.rg pr_2 = Pw_495.rg pr_2 := hsm_534.1 6
    refine lv_goto (tgt := 145) hx hb dX16_end_65 (by decide) ?_
    subst hQ
    have hK := hK.sub (tys' := [(cT, .byte), (cI, .int), (cO, .object "java/lang/Object"), (cZ, .boolean)]) [2, 3, 0, 1] rfl
    refine W_knowS (fun hrm9 => ?_)
    refine W.widen (k := ((14 * (z16_n - z16_at) + 4 * z16_goalN + 120).toNat)) (n := ((120 * (z16_n - z16_at) + 16 * z16_goalN + 700).toNat)) (by omega) (by omega) ?_
    refine vx_ret ?_
    exact W.vret hx hb hr (fun t ht hW => ⟨⟨(), rfl, trivial, z0_453, z1_454, z2_455, z3_456, z4_457, q5_458, z6_459, qn0_460, nn0_461, an0_462, qn1_463, nn1_464, an1_465, Ln_466, Pw_516, ((0 + kc_402) + kc_468), ((0 + ks_403) + ks_469), ⟨⟨(by rw [ht, ← hp10]; exact hrm9), (by omega)⟩, ⟨(by omega), (by omega), (by omega), (by omega), (by omega), (by omega), rk_476, rk_477, ⟨hA_529, hak_523, ⟨(hkd_482.mono (by omega)).ms (by omega) (by omega) (by omega), by omega⟩, hcx_533, ⟨by omega, by omega, by omega, by omega, by omega, by omega, by omega, (by unfold GRW; omega)⟩, hgo1.2.1, (GIN.mk (k := z16_goalN) (by omega) (by omega) (hgo1.2.2.1.trans (by omega))), (GIN.mk (k := z16_goalN) (by omega) (by omega) (hgo1.2.2.1.trans (by omega))), (by rw [← epr_2]; omega), ⟨by omega, by omega, by omega⟩, hkd_482.mono (by omega), hX_tx⟩⟩⟩, by rw [ht]; exact hP, va_K.moved hW.alike hK, hD⟩, hS.F ht⟩) hS.2.2 dX16_end_145
