def o_X16_endR : List Cond := [.fieldLink RX16 236 "SsaForgeModel$Block" "end" "LSsaForgeModel$Row;", .fieldLink RX16 239 "SsaForgeModel$Row" "gone" "Z", .fieldLink RX16 217 "SsaForgeModel$Row" "regA" "Z", .fieldLink RX16 214 "SsaForgeModel$Row" "a" "I", .fieldLink RX16 242 "SsaForgeModel$Block" "first" "I", .fieldLink RX16 245 "SsaForgeModel$Block" "second" "I", .methodLink RX16 132 yX16_is, .instanceMethod yX16_is, .selects RX16 yX16_is yX16_is, .initialized RX16, .methodLink RX16 136 yX16_no, .instanceMethod yX16_no, .selects RX16 yX16_no yX16_no, .methodLink RX16 35 yX16_next, .instanceMethod yX16_next, .selects RX16 yX16_next yX16_next, .fieldLink RX16 220 "SsaForgeModel$Row" "op" "I", .methodLink RX16 223 yX16_operand, .instanceMethod yX16_operand, .selects RX16 yX16_operand yX16_operand, .methodLink RX16 250 yX16_goal, .instanceMethod yX16_goal, .selects RX16 yX16_goal yX16_goal]
def v_X16_endR : List Cond := .code yX16_end cX16_end 3 none :: (o_X16_endR ++ (wsX120 ++ (wsX170 ++ (v_X16_isKK ++ (v_X16_no ++ (v_X16_nextK ++ (v_X16_opAR ++ (v_X16_goalK ++ []))))))))
theorem mow_X16_endR : ∀ w ∈ o_X16_endR, w ∈ v_X16_endR := fun _ h => List.mem_cons_of_mem _ (List.mem_append_left _ h)
theorem mem_X16_endR_0 : ∀ w ∈ wsX120, w ∈ v_X16_endR := fun _ h => List.mem_cons_of_mem _ (List.mem_append_right _ (List.mem_append_left _ h))
theorem mem_X16_endR_1 : ∀ w ∈ wsX170, w ∈ v_X16_endR := fun _ h => List.mem_cons_of_mem _ (List.mem_append_right _ (List.mem_append_right _ (List.mem_append_left _ h)))
theorem mem_X16_endR_2 : ∀ w ∈ v_X16_isKK, w ∈ v_X16_endR := fun _ h => List.mem_cons_of_mem _ (List.mem_append_right _ (List.mem_append_right _ (List.mem_append_right _ (List.mem_append_left _ h))))
theorem mem_X16_endR_3 : ∀ w ∈ v_X16_no, w ∈ v_X16_endR := fun _ h => List.mem_cons_of_mem _ (List.mem_append_right _ (List.mem_append_right _ (List.mem_append_right _ (List.mem_append_right _ (List.mem_append_left _ h)))))
theorem mem_X16_endR_4 : ∀ w ∈ v_X16_nextK, w ∈ v_X16_endR := fun _ h => List.mem_cons_of_mem _ (List.mem_append_right _ (List.mem_append_right _ (List.mem_append_right _ (List.mem_append_right _ (List.mem_append_right _ (List.mem_append_left _ h))))))
theorem mem_X16_endR_5 : ∀ w ∈ v_X16_opAR, w ∈ v_X16_endR := fun _ h => List.mem_cons_of_mem _ (List.mem_append_right _ (List.mem_append_right _ (List.mem_append_right _ (List.mem_append_right _ (List.mem_append_right _ (List.mem_append_right _ (List.mem_append_left _ h)))))))
theorem mem_X16_endR_6 : ∀ w ∈ v_X16_goalK, w ∈ v_X16_endR := fun _ h => List.mem_cons_of_mem _ (List.mem_append_right _ (List.mem_append_right _ (List.mem_append_right _ (List.mem_append_right _ (List.mem_append_right _ (List.mem_append_right _ (List.mem_append_right _ (List.mem_append_left _ h))))))))
set_option maxRecDepth 20000 in
theorem gw_X16_endR : v_X16_endR.all goodWord = true := by decide +kernel
set_option maxRecDepth 20000 in
theorem g_X16_endR_X16_isKK : GoodIn v_X16_endR (wsV RX16 132 RX16 yX16_is v_X16_isKK) := goodIn_app (goodIn_sub (fun w h => mow_X16_endR w (by revert w h; decide +kernel)) (by decide +kernel)) (goodIn_sub mem_X16_endR_2 gw_X16_isKK)
set_option maxRecDepth 20000 in
theorem g_X16_endR_X16_no : GoodIn v_X16_endR (wsV RX16 136 RX16 yX16_no v_X16_no) := goodIn_app (goodIn_sub (fun w h => mow_X16_endR w (by revert w h; decide +kernel)) (by decide +kernel)) (goodIn_sub mem_X16_endR_3 gw_X16_no)
set_option maxRecDepth 20000 in
theorem g_X16_endR_X16_nextK : GoodIn v_X16_endR (wsV RX16 35 RX16 yX16_next v_X16_nextK) := goodIn_app (goodIn_sub (fun w h => mow_X16_endR w (by revert w h; decide +kernel)) (by decide +kernel)) (goodIn_sub mem_X16_endR_4 gw_X16_nextK)
set_option maxRecDepth 20000 in
theorem g_X16_endR_X16_opAR : GoodIn v_X16_endR (wsV RX16 223 RX16 yX16_operand v_X16_opAR) := goodIn_app (goodIn_sub (fun w h => mow_X16_endR w (by revert w h; decide +kernel)) (by decide +kernel)) (goodIn_sub mem_X16_endR_5 gw_X16_opAR)
set_option maxRecDepth 20000 in
theorem g_X16_endR_X16_goalK : GoodIn v_X16_endR (wsV RX16 250 RX16 yX16_goal v_X16_goalK) := goodIn_app (goodIn_sub (fun w h => mow_X16_endR w (by revert w h; decide +kernel)) (by decide +kernel)) (goodIn_sub mem_X16_endR_6 gw_X16_goalK)
set_option maxHeartbeats 40000000 in
set_option maxRecDepth 100000 in
theorem c_X16_endR (l : Launch) (dC : Nat → ClassId) (dI : Nat → Nat → Nat) (cZ : ClassId) (h0 : Nat) (z16_n : Int) (z16_at : Int) (z16_kind : Int) (z16_place : Int) (z16_value : Int) (z16_before : Int) (v16_8 : Value) (v16_9 : Value) (v16_10 : Value) (z16_goalN : Int) (q_t : Nat) (cT : ClassId) (a_t : Int → Int) (tx9 : Nat) (q_gp : Nat) (q_gs : Nat) (cI : ClassId) (ng : Nat) (mg : Nat) (a_gp : Int → Int) (a_gs : Int → Int) (L : List Nat) (P : PO) (sa_RX16_9 : Nat) (cO : ClassId) (la : Nat) (sx_ed : Nat) (xb : Nat) (hNz16_n : 0 ≤ z16_n ∧ z16_n ≤ 8192) (hNz16_at : 0 ≤ z16_at ∧ z16_at ≤ 8192) (hNz16_kind : 0 ≤ z16_kind ∧ z16_kind ≤ 6) (hNz16_place : 0 ≤ z16_place ∧ z16_place ≤ 8192) (hNz16_value : -2147483648 ≤ z16_value ∧ z16_value ≤ 2147483647) (hNz16_before : 0 ≤ z16_before ∧ z16_before ≤ 6) (hNz16_goalN : 0 ≤ z16_goalN ∧ z16_goalN ≤ 20000) (hR_a_t : ∀ j : Int, -128 ≤ a_t j ∧ a_t j ≤ 127) (hNng : (mg : Int) = ng ∧ z16_goalN ≤ ng ∧ 1 ≤ ng ∧ ng ≤ 17000 ∧ z16_goalN ≤ 8192) (hR_a_gp : ∀ j : Int, 0 ≤ a_gp j ∧ a_gp j ≤ 8192) (hR_a_gs : ∀ j : Int, 0 ≤ a_gs j ∧ a_gs j ≤ 59) (hX_g : GLR L P cO cI cZ sx_ed) (hX_la : la ∈ L ∧ P.kd la = 30 ∧ P.ek la = 12 ∧ P.ow la = la) (hX_b : xb ∈ L) (hX_bk : P.kd xb = 12) (hX_tx : TXT L P cT sa_RX16_9 tx9) (hNd : z16_at ≤ z16_n ∧ z16_place ≤ z16_at) (hX_kv : KV9 z16_kind z16_value) (hX_tn : TKQ z16_kind z16_place z16_at) (hNga : z16_goalN ≤ z16_at) (sz : Nat) (sa_RX16_248 : Nat) (sv_RX16_248 : Nat) (sv_RX16_9 : Nat) (sa_RX16_253 : Nat) (sv_RX16_253 : Nat) (sa_RX16_255 : Nat) (sv_RX16_255 : Nat) (HU : Heap) (sa_RX16_119 : Nat) (sv_RX16_119 : Nat) (sa_RX16_100 : Nat) (sv_RX16_100 : Nat) (sa_RX16_117 : Nat) (sv_RX16_117 : Nat) (sa_RX16_98 : Nat) (sv_RX16_98 : Nat) : vx_Met l yX16_end v_X16_endR ({ frames := 10, cells := ((8 * (z16_n - z16_place) + 4 * z16_goalN + 120).toNat), slots := ((40 * (z16_n - z16_place) + 16 * z16_goalN + 700).toNat), locals := 259 }) (va_Pc [.ref h0, .ref xb] (fun U => U.heap.size = sz ∧ va_P (dC, dI) vwQ ([(h0, .inr (14, [.ref q_t, .int (zI (z16_n)), .int (zI (z16_at)), .int (zI (z16_kind)), .int (zI (z16_place)), .int (zI (z16_value)), .int (zI (z16_before)), .ref tx9, v16_8, v16_9, v16_10, .ref q_gp, .ref q_gs, .int (zI (z16_goalN))])), (q_t, .inl (cT, 8192, .inl (fun j : Nat => zI (a_t (j : Int))))), (q_gp, .inl (cI, mg, .inl (fun j : Nat => zI (a_gp (j : Int))))), (q_gs, .inl (cI, ng, .inl (fun j : Nat => zI (a_gs (j : Int)))))] ++ va_pl L (pE P)) U.heap ∧ va_K (dC, dI) vwQ [(cT, .byte), (cI, .int), (cO, .object "java/lang/Object"), (cZ, .boolean)] U ∧ va_D (fun _ => True) ([(h0, .inr (14, [.ref q_t, .int (zI (z16_n)), .int (zI (z16_at)), .int (zI (z16_kind)), .int (zI (z16_place)), .int (zI (z16_value)), .int (zI (z16_before)), .ref tx9, v16_8, v16_9, v16_10, .ref q_gp, .ref q_gs, .int (zI (z16_goalN))])), (q_t, .inl (cT, 8192, .inl (fun j : Nat => zI (a_t (j : Int))))), (q_gp, .inl (cI, mg, .inl (fun j : Nat => zI (a_gp (j : Int))))), (q_gs, .inl (cI, ng, .inl (fun j : Nat => zI (a_gs (j : Int)))))] ++ va_pl L (pE P)) ∧ vk_R RX16 248 "jump" sa_RX16_248 U ∧ vs_S sa_RX16_248 sv_RX16_248 4 (fun j : Nat => ([106, 117, 109, 112] : List Int32).getD j 0) (va_A ([(h0, .inr (14, [.ref q_t, .int (zI (z16_n)), .int (zI (z16_at)), .int (zI (z16_kind)), .int (zI (z16_place)), .int (zI (z16_value)), .int (zI (z16_before)), .ref tx9, v16_8, v16_9, v16_10, .ref q_gp, .ref q_gs, .int (zI (z16_goalN))])), (q_t, .inl (cT, 8192, .inl (fun j : Nat => zI (a_t (j : Int))))), (q_gp, .inl (cI, mg, .inl (fun j : Nat => zI (a_gp (j : Int))))), (q_gs, .inl (cI, ng, .inl (fun j : Nat => zI (a_gs (j : Int)))))] ++ va_pl L (pE P)) sz) U U.heap ∧ vs_S sa_RX16_9 sv_RX16_9 0 (fun j : Nat => ([] : List Int32).getD j 0) (va_A ([(h0, .inr (14, [.ref q_t, .int (zI (z16_n)), .int (zI (z16_at)), .int (zI (z16_kind)), .int (zI (z16_place)), .int (zI (z16_value)), .int (zI (z16_before)), .ref tx9, v16_8, v16_9, v16_10, .ref q_gp, .ref q_gs, .int (zI (z16_goalN))])), (q_t, .inl (cT, 8192, .inl (fun j : Nat => zI (a_t (j : Int))))), (q_gp, .inl (cI, mg, .inl (fun j : Nat => zI (a_gp (j : Int))))), (q_gs, .inl (cI, ng, .inl (fun j : Nat => zI (a_gs (j : Int)))))] ++ va_pl L (pE P)) sz) U U.heap ∧ va_Z "java/lang/String" "COMPACT_STRINGS" "Z" (.int 1) (va_A ([(h0, .inr (14, [.ref q_t, .int (zI (z16_n)), .int (zI (z16_at)), .int (zI (z16_kind)), .int (zI (z16_place)), .int (zI (z16_value)), .int (zI (z16_before)), .ref tx9, v16_8, v16_9, v16_10, .ref q_gp, .ref q_gs, .int (zI (z16_goalN))])), (q_t, .inl (cT, 8192, .inl (fun j : Nat => zI (a_t (j : Int))))), (q_gp, .inl (cI, mg, .inl (fun j : Nat => zI (a_gp (j : Int))))), (q_gs, .inl (cI, ng, .inl (fun j : Nat => zI (a_gs (j : Int)))))] ++ va_pl L (pE P)) sz) U U.heap ∧ vk_R RX16 253 "if" sa_RX16_253 U ∧ vs_S sa_RX16_253 sv_RX16_253 2 (fun j : Nat => ([105, 102] : List Int32).getD j 0) (va_A ([(h0, .inr (14, [.ref q_t, .int (zI (z16_n)), .int (zI (z16_at)), .int (zI (z16_kind)), .int (zI (z16_place)), .int (zI (z16_value)), .int (zI (z16_before)), .ref tx9, v16_8, v16_9, v16_10, .ref q_gp, .ref q_gs, .int (zI (z16_goalN))])), (q_t, .inl (cT, 8192, .inl (fun j : Nat => zI (a_t (j : Int))))), (q_gp, .inl (cI, mg, .inl (fun j : Nat => zI (a_gp (j : Int))))), (q_gs, .inl (cI, ng, .inl (fun j : Nat => zI (a_gs (j : Int)))))] ++ va_pl L (pE P)) sz) U U.heap ∧ vk_R RX16 255 "ret" sa_RX16_255 U ∧ vs_S sa_RX16_255 sv_RX16_255 3 (fun j : Nat => ([114, 101, 116] : List Int32).getD j 0) (va_A ([(h0, .inr (14, [.ref q_t, .int (zI (z16_n)), .int (zI (z16_at)), .int (zI (z16_kind)), .int (zI (z16_place)), .int (zI (z16_value)), .int (zI (z16_before)), .ref tx9, v16_8, v16_9, v16_10, .ref q_gp, .ref q_gs, .int (zI (z16_goalN))])), (q_t, .inl (cT, 8192, .inl (fun j : Nat => zI (a_t (j : Int))))), (q_gp, .inl (cI, mg, .inl (fun j : Nat => zI (a_gp (j : Int))))), (q_gs, .inl (cI, ng, .inl (fun j : Nat => zI (a_gs (j : Int)))))] ++ va_pl L (pE P)) sz) U U.heap ∧ vx_Zq Bundle.tN "UNASSIGNED_STACK" Bundle.steD (va_A ([(h0, .inr (14, [.ref q_t, .int (zI (z16_n)), .int (zI (z16_at)), .int (zI (z16_kind)), .int (zI (z16_place)), .int (zI (z16_value)), .int (zI (z16_before)), .ref tx9, v16_8, v16_9, v16_10, .ref q_gp, .ref q_gs, .int (zI (z16_goalN))])), (q_t, .inl (cT, 8192, .inl (fun j : Nat => zI (a_t (j : Int))))), (q_gp, .inl (cI, mg, .inl (fun j : Nat => zI (a_gp (j : Int))))), (q_gs, .inl (cI, ng, .inl (fun j : Nat => zI (a_gs (j : Int)))))] ++ va_pl L (pE P)) sz) U U.heap ∧ vx_Zq Bundle.tN "SUPPRESSED_SENTINEL" Bundle.listD (va_A ([(h0, .inr (14, [.ref q_t, .int (zI (z16_n)), .int (zI (z16_at)), .int (zI (z16_kind)), .int (zI (z16_place)), .int (zI (z16_value)), .int (zI (z16_before)), .ref tx9, v16_8, v16_9, v16_10, .ref q_gp, .ref q_gs, .int (zI (z16_goalN))])), (q_t, .inl (cT, 8192, .inl (fun j : Nat => zI (a_t (j : Int))))), (q_gp, .inl (cI, mg, .inl (fun j : Nat => zI (a_gp (j : Int))))), (q_gs, .inl (cI, ng, .inl (fun j : Nat => zI (a_gs (j : Int)))))] ++ va_pl L (pE P)) sz) U U.heap ∧ U.heap = HU ∧ vk_R RX16 9 "" sa_RX16_9 U ∧ va_Nw (.castable "[B" "java/lang/Cloneable") U ∧ vk_R RX16 119 "+-*/%&|^<(),:=" sa_RX16_119 U ∧ vs_S sa_RX16_119 sv_RX16_119 14 (fun j : Nat => ([43, 45, 42, 47, 37, 38, 124, 94, 60, 40, 41, 44, 58, 61] : List Int32).getD j 0) (va_A ([(h0, .inr (14, [.ref q_t, .int (zI (z16_n)), .int (zI (z16_at)), .int (zI (z16_kind)), .int (zI (z16_place)), .int (zI (z16_value)), .int (zI (z16_before)), .ref tx9, v16_8, v16_9, v16_10, .ref q_gp, .ref q_gs, .int (zI (z16_goalN))])), (q_t, .inl (cT, 8192, .inl (fun j : Nat => zI (a_t (j : Int))))), (q_gp, .inl (cI, mg, .inl (fun j : Nat => zI (a_gp (j : Int))))), (q_gs, .inl (cI, ng, .inl (fun j : Nat => zI (a_gs (j : Int)))))] ++ va_pl L (pE P)) sz) U U.heap ∧ vs_S sa_RX16_100 sv_RX16_100 1 (fun j : Nat => ([32] : List Int32).getD j 0) (va_A ([(h0, .inr (14, [.ref q_t, .int (zI (z16_n)), .int (zI (z16_at)), .int (zI (z16_kind)), .int (zI (z16_place)), .int (zI (z16_value)), .int (zI (z16_before)), .ref tx9, v16_8, v16_9, v16_10, .ref q_gp, .ref q_gs, .int (zI (z16_goalN))])), (q_t, .inl (cT, 8192, .inl (fun j : Nat => zI (a_t (j : Int))))), (q_gp, .inl (cI, mg, .inl (fun j : Nat => zI (a_gp (j : Int))))), (q_gs, .inl (cI, ng, .inl (fun j : Nat => zI (a_gs (j : Int)))))] ++ va_pl L (pE P)) sz) U U.heap ∧ vk_R RX16 117 " << >> <= == != " sa_RX16_117 U ∧ vk_R RX16 100 " " sa_RX16_100 U ∧ vs_S sa_RX16_117 sv_RX16_117 16 (fun j : Nat => ([32, 60, 60, 32, 62, 62, 32, 60, 61, 32, 61, 61, 32, 33, 61, 32] : List Int32).getD j 0) (va_A ([(h0, .inr (14, [.ref q_t, .int (zI (z16_n)), .int (zI (z16_at)), .int (zI (z16_kind)), .int (zI (z16_place)), .int (zI (z16_value)), .int (zI (z16_before)), .ref tx9, v16_8, v16_9, v16_10, .ref q_gp, .ref q_gs, .int (zI (z16_goalN))])), (q_t, .inl (cT, 8192, .inl (fun j : Nat => zI (a_t (j : Int))))), (q_gp, .inl (cI, mg, .inl (fun j : Nat => zI (a_gp (j : Int))))), (q_gs, .inl (cI, ng, .inl (fun j : Nat => zI (a_gs (j : Int)))))] ++ va_pl L (pE P)) sz) U U.heap ∧ vk_R RX16 98 " in show if jump ret phi " sa_RX16_98 U ∧ vs_S sa_RX16_98 sv_RX16_98 25 (fun j : Nat => ([32, 105, 110, 32, 115, 104, 111, 119, 32, 105, 102, 32, 106, 117, 109, 112, 32, 114, 101, 116, 32, 112, 104, 105, 32] : List Int32).getD j 0) (va_A ([(h0, .inr (14, [.ref q_t, .int (zI (z16_n)), .int (zI (z16_at)), .int (zI (z16_kind)), .int (zI (z16_place)), .int (zI (z16_value)), .int (zI (z16_before)), .ref tx9, v16_8, v16_9, v16_10, .ref q_gp, .ref q_gs, .int (zI (z16_goalN))])), (q_t, .inl (cT, 8192, .inl (fun j : Nat => zI (a_t (j : Int))))), (q_gp, .inl (cI, mg, .inl (fun j : Nat => zI (a_gp (j : Int))))), (q_gs, .inl (cI, ng, .inl (fun j : Nat => zI (a_gs (j : Int)))))] ++ va_pl L (pE P)) sz) U U.heap)) (va_Qv (fun _ : Unit => True) (fun (_ : Unit) (t : State) => ∃ (z0_9 : Int) (z1_9 : Int) (z2_9 : Int) (z3_9 : Int) (z4_9 : Int) (q5_9 : Nat) (z6_9 : Int) (qn0_9 : Nat) (nn0_9 : Nat) (an0_9 : Int → Int) (qn1_9 : Nat) (nn1_9 : Nat) (an1_9 : Int → Int) (Ln_9 : List Nat) (Pn_9 : PO) (kc_9 : Nat) (ks_9 : Nat), ((RM HU t.heap kc_9 ks_9 ∧ ((ks_9 : Int) ≤ 4 * ((nn1_9 : Int) - ng) + 40 * (z2_9 - z16_place) - TKV z16_kind (z16_at - z16_place) + TKV (z1_9) (z0_9 - z2_9) ∧ (kc_9 : Int) ≤ 2 * ((nn1_9 : Int) - ng) + 8 * (z2_9 - z16_place) - TKW z16_kind (z16_at - z16_place) + TKW (z1_9) (z0_9 - z2_9))) ∧ ((0 ≤ z0_9 ∧ z0_9 ≤ 8192) ∧ (0 ≤ z1_9 ∧ z1_9 ≤ 6) ∧ (0 ≤ z2_9 ∧ z2_9 ≤ 8192) ∧ (-2147483648 ≤ z3_9 ∧ z3_9 ≤ 2147483647) ∧ (0 ≤ z4_9 ∧ z4_9 ≤ 6) ∧ (0 ≤ z6_9 ∧ z6_9 ≤ 20000) ∧ (∀ j : Int, 0 ≤ an0_9 j ∧ an0_9 j ≤ 8192) ∧ (∀ j : Int, 0 ≤ an1_9 j ∧ an1_9 j ≤ 59) ∧ (KEG [] L P Ln_9 Pn_9 ∧ GLR Ln_9 Pn_9 cO cI cZ sx_ed ∧ (7 * (z16_n - z0_9) + z1_9 < 7 * (z16_n - z16_at) + z16_kind ∧ z16_at + 1 ≤ z0_9) ∧ CHG (fun z => z = xb ∨ z = P.be xb) L P Ln_9 Pn_9 ∧ (z16_goalN ≤ z6_9 ∧ z6_9 ≤ z16_goalN + 2 ∧ z6_9 ≤ (nn1_9 : Int) ∧ (nn0_9 : Int) = nn1_9 ∧ (ng : Int) ≤ nn1_9 ∧ (nn1_9 : Int) ≤ 17000 ∧ z6_9 ≤ z0_9 ∧ GRW (nn1_9 : Int) ng (z6_9)) ∧ (∀ j : Int, 0 ≤ j → j < z16_goalN → an1_9 j = a_gs j) ∧ GIN an1_9 (z6_9) (Pn_9.bf xb) ∧ GIN an1_9 (z6_9) (Pn_9.bs xb) ∧ (30 ≤ Pn_9.ro (P.be xb) ∧ Pn_9.ro (P.be xb) ≤ 32 ∧ OPQ (Pn_9.rA (P.be xb)) (Pn_9.ra (P.be xb))) ∧ ((z16_at ≤ z2_9 ∧ z2_9 ≤ z0_9 ∧ z0_9 ≤ z16_n) ∧ TKQ (z1_9) (z2_9) (z0_9)) ∧ KDN (z1_9) (z0_9) (z3_9) z16_n z16_at ∧ TXT Ln_9 Pn_9 cT sa_RX16_9 q5_9))) ∧ va_P (dC, dI) vwQ ([(h0, .inr (14, [.ref q_t, .int (zI (z16_n)), .int (zI (z0_9)), .int (zI (z1_9)), .int (zI (z2_9)), .int (zI (z3_9)), .int (zI (z4_9)), .ref q5_9, v16_8, v16_9, v16_10, .ref qn0_9, .ref qn1_9, .int (zI (z6_9))])), (q_t, .inl (cT, 8192, .inl (fun j : Nat => zI (a_t (j : Int))))), (qn0_9, .inl (cI, nn0_9, .inl (fun j : Nat => zI (an0_9 (j : Int))))), (qn1_9, .inl (cI, nn1_9, .inl (fun j : Nat => zI (an1_9 (j : Int)))))] ++ va_pl Ln_9 (pE Pn_9)) t.heap ∧ va_K (dC, dI) vwQ [(cT, .byte), (cI, .int), (cO, .object "java/lang/Object"), (cZ, .boolean)] t ∧ va_D (va_A ([(h0, .inr (14, [.ref q_t, .int (zI (z16_n)), .int (zI (z16_at)), .int (zI (z16_kind)), .int (zI (z16_place)), .int (zI (z16_value)), .int (zI (z16_before)), .ref tx9, v16_8, v16_9, v16_10, .ref q_gp, .ref q_gs, .int (zI (z16_goalN))])), (q_t, .inl (cT, 8192, .inl (fun j : Nat => zI (a_t (j : Int))))), (q_gp, .inl (cI, mg, .inl (fun j : Nat => zI (a_gp (j : Int))))), (q_gs, .inl (cI, ng, .inl (fun j : Nat => zI (a_gs (j : Int)))))] ++ va_pl L (pE P)) sz) ([(h0, .inr (14, [.ref q_t, .int (zI (z16_n)), .int (zI (z0_9)), .int (zI (z1_9)), .int (zI (z2_9)), .int (zI (z3_9)), .int (zI (z4_9)), .ref q5_9, v16_8, v16_9, v16_10, .ref qn0_9, .ref qn1_9, .int (zI (z6_9))])), (q_t, .inl (cT, 8192, .inl (fun j : Nat => zI (a_t (j : Int))))), (qn0_9, .inl (cI, nn0_9, .inl (fun j : Nat => zI (an0_9 (j : Int))))), (qn1_9, .inl (cI, nn1_9, .inl (fun j : Nat => zI (an1_9 (j : Int)))))] ++ va_pl Ln_9 (pE Pn_9))) (va_A ([(h0, .inr (14, [.ref q_t, .int (zI (z16_n)), .int (zI (z16_at)), .int (zI (z16_kind)), .int (zI (z16_place)), .int (zI (z16_value)), .int (zI (z16_before)), .ref tx9, v16_8, v16_9, v16_10, .ref q_gp, .ref q_gs, .int (zI (z16_goalN))])), (q_t, .inl (cT, 8192, .inl (fun j : Nat => zI (a_t (j : Int))))), (q_gp, .inl (cI, mg, .inl (fun j : Nat => zI (a_gp (j : Int))))), (q_gs, .inl (cI, ng, .inl (fun j : Nat => zI (a_gs (j : Int)))))] ++ va_pl L (pE P)) sz)) (vx_X (fun _ : Unit => True) (fun E (q9 : Addr) (_ : Unit) (t9 : State) => (E = RX18 ∧ ∃ (zp_9 : Int) (Ln_9 : List Nat) (Pn_9 : PO) (kc_9 : Nat) (ks_9 : Nat), ((RM HU t9.heap kc_9 ks_9 ∧ ((ks_9 : Int) ≤ 40 * (z16_n - z16_place) + 8 * z16_goalN + 300 ∧ (kc_9 : Int) ≤ 8 * (z16_n - z16_place) + 2 * z16_goalN + 60)) ∧ ((0 ≤ zp_9 ∧ zp_9 ≤ 8192) ∧ (KEG [] L P Ln_9 Pn_9 ∧ GLR Ln_9 Pn_9 cO cI cZ sx_ed ∧ CPA L P Pn_9))) ∧ va_P (dC, dI) vwQ ([(q_t, .inl (cT, 8192, .inl (fun j : Nat => zI (a_t (j : Int))))), (q9, .inr (15, [.null, .null, .null, .null, .null, .int 0, .int (zI (zp_9))]))] ++ va_pl Ln_9 (pE Pn_9)) t9.heap ∧ va_D (va_A ([(h0, .inr (14, [.ref q_t, .int (zI (z16_n)), .int (zI (z16_at)), .int (zI (z16_kind)), .int (zI (z16_place)), .int (zI (z16_value)), .int (zI (z16_before)), .ref tx9, v16_8, v16_9, v16_10, .ref q_gp, .ref q_gs, .int (zI (z16_goalN))])), (q_t, .inl (cT, 8192, .inl (fun j : Nat => zI (a_t (j : Int))))), (q_gp, .inl (cI, mg, .inl (fun j : Nat => zI (a_gp (j : Int))))), (q_gs, .inl (cI, ng, .inl (fun j : Nat => zI (a_gs (j : Int)))))] ++ va_pl L (pE P)) sz) ([(q_t, .inl (cT, 8192, .inl (fun j : Nat => zI (a_t (j : Int))))), (q9, .inr (15, [.null, .null, .null, .null, .null, .int 0, .int (zI (zp_9))]))] ++ va_pl Ln_9 (pE Pn_9)))) (va_A ([(h0, .inr (14, [.ref q_t, .int (zI (z16_n)), .int (zI (z16_at)), .int (zI (z16_kind)), .int (zI (z16_place)), .int (zI (z16_value)), .int (zI (z16_before)), .ref tx9, v16_8, v16_9, v16_10, .ref q_gp, .ref q_gs, .int (zI (z16_goalN))])), (q_t, .inl (cT, 8192, .inl (fun j : Nat => zI (a_t (j : Int))))), (q_gp, .inl (cI, mg, .inl (fun j : Nat => zI (a_gp (j : Int))))), (q_gs, .inl (cI, ng, .inl (fun j : Nat => zI (a_gs (j : Int)))))] ++ va_pl L (pE P)) sz)) ((8 * (z16_n - z16_place) + 4 * z16_goalN + 120).toNat) ((40 * (z16_n - z16_place) + 16 * z16_goalN + 700).toNat) (va_A ([(h0, .inr (14, [.ref q_t, .int (zI (z16_n)), .int (zI (z16_at)), .int (zI (z16_kind)), .int (zI (z16_place)), .int (zI (z16_value)), .int (zI (z16_before)), .ref tx9, v16_8, v16_9, v16_10, .ref q_gp, .ref q_gs, .int (zI (z16_goalN))])), (q_t, .inl (cT, 8192, .inl (fun j : Nat => zI (a_t (j : Int))))), (q_gp, .inl (cI, mg, .inl (fun j : Nat => zI (a_gp (j : Int))))), (q_gs, .inl (cI, ng, .inl (fun j : Nat => zI (a_gs (j : Int)))))] ++ va_pl L (pE P)) sz) := by
  refine vx_ofW (cc := cX16_end) (maxL := 3) (ret := none) (by decide) rfl ?_
  intro p e s m args below meth c s₁ B hml hnt hv
  obtain ⟨rfl, hsz, hP, hK, hD0, hp0, hp1, hp2, hp3, hp4, hp5, hp6, hp7, hp8, hp9, hp10, hp11, hp12, hp13, hp14, hp15, hp16, hp17, hp18, hp19, hp20⟩ := hv
  have hx := B.exec
  have hb := B.bytes
  have hr := B.returns
  have hts := atoms_spec (ws := v_X16_endR) B.pre
  have hown : s.vm.findClass RX16 = some m.cls := findClass_of_methodNamed B.named
  have hlocks := B.notSynchronized
  have ow : ∀ {k : Nat} {w : Cond}, o_X16_endR[k]? = some w → w.before ([.ref h0, .ref xb] : List Value).toArray s = true := fun h => hts _ (mow_X16_endR _ (List.mem_of_getElem? h))
  subst hsz
  have hD := hD0.self (sz := s.heap.size)
  generalize hAe : va_A ([(h0, .inr (14, [.ref q_t, .int (zI (z16_n)), .int (zI (z16_at)), .int (zI (z16_kind)), .int (zI (z16_place)), .int (zI (z16_value)), .int (zI (z16_before)), .ref tx9, v16_8, v16_9, v16_10, .ref q_gp, .ref q_gs, .int (zI (z16_goalN))])), (q_t, .inl (cT, 8192, .inl (fun j : Nat => zI (a_t (j : Int))))), (q_gp, .inl (cI, mg, .inl (fun j : Nat => zI (a_gp (j : Int))))), (q_gs, .inl (cI, ng, .inl (fun j : Nat => zI (a_gs (j : Int)))))] ++ va_pl L (pE P)) s.heap.size = A at hD hp1 hp2 hp3 hp5 hp7 hp8 hp9 hp14 hp15 hp18 hp20 ⊢
  have hA : ∀ q : Nat, s.heap.size ≤ q → A q := fun q h => by rw [← hAe]; exact Or.inr h
  have hS : va_S A s.heap s.heap [] := va_S.rf
  have hP : va_P (dC, dI) vwQ ([(h0, .inr (14, [.ref q_t, .int (zI (z16_n)), .int (zI (z16_at)), .int (zI (z16_kind)), .int (zI (z16_place)), .int (zI (z16_value)), .int (zI (z16_before)), .ref tx9, v16_8, v16_9, v16_10, .ref q_gp, .ref q_gs, .int (zI (z16_goalN))])), (q_t, .inl (cT, 8192, .inl (fun j : Nat => zI (a_t (j : Int))))), (q_gp, .inl (cI, mg, .inl (fun j : Nat => zI (a_gp (j : Int))))), (q_gs, .inl (cI, ng, .inl (fun j : Nat => zI (a_gs (j : Int)))))] ++ va_pl L (pE P)) s.heap := hP
  have hl := lv_entry ([.ref h0, .ref xb]) (n := 3) (Nat.le_of_ble_eq_true rfl)
  rw [lg_entry_eq]
  generalize (lg_sl ([.ref h0, .ref xb]) ++ List.replicate (3 - (lg_sl ([.ref h0, .ref xb])).length) Slot.unset).toArray = ls at hl ⊢
  have hl : lv_has ls 3 [(0, .ref h0), (1, .ref xb)] := hl
  obtain ⟨H, hH⟩ : ∃ H, H = s.heap := ⟨_, rfl⟩
  rw [← hH] at hP
  have hS : va_S A s.heap H [] := by rw [hH]; exact hS
  rw [← hH]
  refine zW_cap (fun Q hQ => ?_)
  have hX_g9 := hX_g
  have hX_tn9 := hX_tn
  have hX_tg9 := hX_tn.1
  have hnn9 := TKV.nn (k := z16_kind) (d := z16_at - z16_place) (by omega)
  have hC_la := hX_la
  have hg00 := hX_g
  have hcx0 : CHG (fun z => z = xb ∨ z = P.be xb) L P L P := CHG.refl _ _ _
  refine lv_aload_n hx hb dX16_end_0 rfl (lv_at hl 1 rfl) ?_
  have hfb := (hX_g9.gb hX_b hX_bk).2
  obtain ⟨kp_1, hkp_1⟩ := va_pl_get (X := [(h0, .inr (14, [.ref q_t, .int (zI (z16_n)), .int (zI (z16_at)), .int (zI (z16_kind)), .int (zI (z16_place)), .int (zI (z16_value)), .int (zI (z16_before)), .ref tx9, v16_8, v16_9, v16_10, .ref q_gp, .ref q_gs, .int (zI (z16_goalN))])), (q_t, .inl (cT, 8192, .inl (fun j : Nat => zI (a_t (j : Int))))), (q_gp, .inl (cI, mg, .inl (fun j : Nat => zI (a_gp (j : Int))))), (q_gs, .inl (cI, ng, .inl (fun j : Nat => zI (a_gs (j : Int)))))]) (f := pE P) hX_b
  rw [pE_block hX_bk] at hkp_1
  refine va_get (D := (dC, dI)) (ci := 19) (v := .ref (P.be xb)) (C := RX12) (T := TX12) (N := 5) hx hb hts mem_X16_endR_0 hown hK hP kp_1 hkp_1 rfl 2 (by decide) (ow (k := 0) rfl) (fun _ h9 => h9) rfl dX16_end_1 ?_
  obtain ⟨pr_2, epr_2⟩ : ∃ q9 : Nat, q9 = P.be xb := ⟨_, rfl⟩
  rw [← epr_2]
  have hbe_3 : pr_2 ∈ L ∧ P.kd pr_2 = 17 ∧ P.ek pr_2 = 1 := (by rw [epr_2]; exact (hX_g9.gb hX_b hX_bk).1)
  have hE_4 : HID (P.ek pr_2 = 1) := hbe_3.2.2
  refine lv_astore_n (lv' := [(2, .ref pr_2), (0, .ref h0), (1, .ref xb)]) hx hb dX16_end_4 rfl hl (by decide) rfl (fun ls hl => ?_)
  refine lv_aload_n hx hb dX16_end_5 rfl (lv_at hl 0 rfl) ?_
  refine lv_iconst (v := 0) hx hb dX16_end_6 (by decide) ?_
  have hr7 := (hX_g9.rokR hbe_3.1 hbe_3.2.1).n7
  refine lv_topi (fun z ez => ?_)
  obtain rfl : z = zI (0) := ez
  obtain ⟨kp_5, gkp_5⟩ := va_pl_get (X := [(h0, .inr (14, [.ref q_t, .int (zI (z16_n)), .int (zI (z16_at)), .int (zI (z16_kind)), .int (zI (z16_place)), .int (zI (z16_value)), .int (zI (z16_before)), .ref tx9, v16_8, v16_9, v16_10, .ref q_gp, .ref q_gs, .int (zI (z16_goalN))])), (q_t, .inl (cT, 8192, .inl (fun j : Nat => zI (a_t (j : Int))))), (q_gp, .inl (cI, mg, .inl (fun j : Nat => zI (a_gp (j : Int))))), (q_gs, .inl (cI, ng, .inl (fun j : Nat => zI (a_gs (j : Int)))))]) (f := pE P) hbe_3.1
  have hkp_5 := gkp_5
  rw [pE_row hbe_3.2.1] at hkp_5
  have hD0 := hD
  refine va_put (D := (dC, dI)) (ci := 21) (v := .int (zI (0))) (ty := .boolean) (C := RX17) (T := TX17) (N := 7) hx hb hts mem_X16_endR_1 tyX17 tyX17_ok nmX17 hown hK hP hD hS kp_5 hkp_5 rfl 6 (by decide) (ow (k := 1) rfl) (fun _ h9 => h9) rfl (by decide +kernel) (zI_bool (by omega) (by omega)) (zI_fitb (by omega) (by omega)) (by first | exact Nat.le_of_ble_eq_true rfl | exact (show 0 ≤ (8 * (z16_n - z16_place) + 4 * z16_goalN + 120).toNat from (rmW (by omega))) | exact (show 0 ≤ (40 * (z16_n - z16_place) + 16 * z16_goalN + 700).toNat from (rmW (by omega)))) dX16_end_7 (fun H locs hP hD hS => ?_)
  obtain ⟨Pw_6, ePw_6⟩ : ∃ q9 : PO, q9 = P.rw9 6 pr_2 (0) := ⟨_, rfl⟩
  have eU : (([(h0, .inr (14, [.ref q_t, .int (zI (z16_n)), .int (zI (z16_at)), .int (zI (z16_kind)), .int (zI (z16_place)), .int (zI (z16_value)), .int (zI (z16_before)), .ref tx9, v16_8, v16_9, v16_10, .ref q_gp, .ref q_gs, .int (zI (z16_goalN))])), (q_t, .inl (cT, 8192, .inl (fun j : Nat => zI (a_t (j : Int))))), (q_gp, .inl (cI, mg, .inl (fun j : Nat => zI (a_gp (j : Int))))), (q_gs, .inl (cI, ng, .inl (fun j : Nat => zI (a_gs (j : Int)))))] : va_W) ++ va_pl L (pE P)).set kp_5 (pr_2, rowE (P.ro pr_2) (P.rt pr_2) (P.ra pr_2) (P.rb pr_2) (P.rA pr_2) (P.rB pr_2) (0)) = ([(h0, .inr (14, [.ref q_t, .int (zI (z16_n)), .int (zI (z16_at)), .int (zI (z16_kind)), .int (zI (z16_place)), .int (zI (z16_value)), .int (zI (z16_before)), .ref tx9, v16_8, v16_9, v16_10, .ref q_gp, .ref q_gs, .int (zI (z16_goalN))])), (q_t, .inl (cT, 8192, .inl (fun j : Nat => zI (a_t (j : Int))))), (q_gp, .inl (cI, mg, .inl (fun j : Nat => zI (a_gp (j : Int))))), (q_gs, .inl (cI, ng, .inl (fun j : Nat => zI (a_gs (j : Int)))))] : va_W) ++ va_pl L (pE Pw_6) := (by rw [va_pl_set hD0 hbe_3.1 gkp_5, ePw_6]; exact congrArg (fun f9 => ([(h0, .inr (14, [.ref q_t, .int (zI (z16_n)), .int (zI (z16_at)), .int (zI (z16_kind)), .int (zI (z16_place)), .int (zI (z16_value)), .int (zI (z16_before)), .ref tx9, v16_8, v16_9, v16_10, .ref q_gp, .ref q_gs, .int (zI (z16_goalN))])), (q_t, .inl (cT, 8192, .inl (fun j : Nat => zI (a_t (j : Int))))), (q_gp, .inl (cI, mg, .inl (fun j : Nat => zI (a_gp (j : Int))))), (q_gs, .inl (cI, ng, .inl (fun j : Nat => zI (a_gs (j : Int)))))] : va_W) ++ va_pl L f9) (put17_6 hbe_3.2.1))
  have hP : va_P (dC, dI) vwQ ([(h0, .inr (14, [.ref q_t, .int (zI (z16_n)), .int (zI (z16_at)), .int (zI (z16_kind)), .int (zI (z16_place)), .int (zI (z16_value)), .int (zI (z16_before)), .ref tx9, v16_8, v16_9, v16_10, .ref q_gp, .ref q_gs, .int (zI (z16_goalN))])), (q_t, .inl (cT, 8192, .inl (fun j : Nat => zI (a_t (j : Int))))), (q_gp, .inl (cI, mg, .inl (fun j : Nat => zI (a_gp (j : Int))))), (q_gs, .inl (cI, ng, .inl (fun j : Nat => zI (a_gs (j : Int)))))] ++ va_pl L (pE Pw_6)) H := (by rw [← eU]; exact hP)
  have hD : va_D A ([(h0, .inr (14, [.ref q_t, .int (zI (z16_n)), .int (zI (z16_at)), .int (zI (z16_kind)), .int (zI (z16_place)), .int (zI (z16_value)), .int (zI (z16_before)), .ref tx9, v16_8, v16_9, v16_10, .ref q_gp, .ref q_gs, .int (zI (z16_goalN))])), (q_t, .inl (cT, 8192, .inl (fun j : Nat => zI (a_t (j : Int))))), (q_gp, .inl (cI, mg, .inl (fun j : Nat => zI (a_gp (j : Int))))), (q_gs, .inl (cI, ng, .inl (fun j : Nat => zI (a_gs (j : Int)))))] ++ va_pl L (pE Pw_6)) := (by rw [← eU]; exact hD)
  clear eU hD0 gkp_5 hkp_5
  have wPw_6 : RW1 pr_2 P Pw_6 := (by rw [ePw_6]; exact RW1.put _ _ _ _)
  have hy_7 : Pw_6.kd la = 30 := (by rw [ePw_6]; exact hC_la.2.1)
  have hy_8 : Pw_6.kd xb = 12 := (by rw [ePw_6]; exact hX_bk)
  have : Pw_6.bf xb = P.bf xb := wPw_6.2 _ (kd_ne hX_bk hbe_3.2.1 (by decide)) _
  have : Pw_6.bs xb = P.bs xb := wPw_6.2 _ (kd_ne hX_bk hbe_3.2.1 (by decide)) _
  have hy_9 : Pw_6.kd pr_2 = 17 := (by rw [ePw_6]; exact hbe_3.2.1)
  have : Pw_6.ro pr_2 = P.ro pr_2 := (by rw [ePw_6]; exact rw9_of _ (by decide))
  have : Pw_6.rt pr_2 = P.rt pr_2 := (by rw [ePw_6]; exact rw9_of _ (by decide))
  have : Pw_6.ra pr_2 = P.ra pr_2 := (by rw [ePw_6]; exact rw9_of _ (by decide))
  have : Pw_6.rb pr_2 = P.rb pr_2 := (by rw [ePw_6]; exact rw9_of _ (by decide))
  have : Pw_6.rA pr_2 = P.rA pr_2 := (by rw [ePw_6]; exact rw9_of _ (by decide))
  have : Pw_6.rB pr_2 = P.rB pr_2 := (by rw [ePw_6]; exact rw9_of _ (by decide))
  have : Pw_6.rg pr_2 = 0 := (by rw [ePw_6]; exact rw9_at _ _ _ _)
  have : Pw_6.ek pr_2 = P.ek pr_2 := (by rw [ePw_6]; rfl)
  have ha_10 : HID (Pw_6.be xb = pr_2) := (by rw [ePw_6]; exact epr_2.symm)
  refine lv_aload_n hx hb dX16_end_10 rfl (lv_at hl 0 rfl) ?_
  refine lv_iconst (v := 0) hx hb dX16_end_11 (by decide) ?_
  refine lv_topi (fun z ez => ?_)
  obtain rfl : z = zI (0) := ez
  obtain ⟨kp_11, gkp_11⟩ := va_pl_get (X := [(h0, .inr (14, [.ref q_t, .int (zI (z16_n)), .int (zI (z16_at)), .int (zI (z16_kind)), .int (zI (z16_place)), .int (zI (z16_value)), .int (zI (z16_before)), .ref tx9, v16_8, v16_9, v16_10, .ref q_gp, .ref q_gs, .int (zI (z16_goalN))])), (q_t, .inl (cT, 8192, .inl (fun j : Nat => zI (a_t (j : Int))))), (q_gp, .inl (cI, mg, .inl (fun j : Nat => zI (a_gp (j : Int))))), (q_gs, .inl (cI, ng, .inl (fun j : Nat => zI (a_gs (j : Int)))))]) (f := pE Pw_6) hbe_3.1
  have hkp_11 := gkp_11
  rw [pE_row hy_9] at hkp_11
  have hD0 := hD
  refine va_put (D := (dC, dI)) (ci := 21) (v := .int (zI (0))) (ty := .boolean) (C := RX17) (T := TX17) (N := 7) hx hb hts mem_X16_endR_1 tyX17 tyX17_ok nmX17 hown hK hP hD hS kp_11 hkp_11 rfl 4 (by decide) (ow (k := 2) rfl) (fun _ h9 => h9) rfl (by decide +kernel) (zI_bool (by omega) (by omega)) (zI_fitb (by omega) (by omega)) (by first | exact Nat.le_of_ble_eq_true rfl | exact (show 0 ≤ (8 * (z16_n - z16_place) + 4 * z16_goalN + 120).toNat from (rmW (by omega))) | exact (show 0 ≤ (40 * (z16_n - z16_place) + 16 * z16_goalN + 700).toNat from (rmW (by omega)))) dX16_end_12 (fun H locs hP hD hS => ?_)
  obtain ⟨Pw_12, ePw_12⟩ : ∃ q9 : PO, q9 = Pw_6.rw9 4 pr_2 (0) := ⟨_, rfl⟩
  have eU : (([(h0, .inr (14, [.ref q_t, .int (zI (z16_n)), .int (zI (z16_at)), .int (zI (z16_kind)), .int (zI (z16_place)), .int (zI (z16_value)), .int (zI (z16_before)), .ref tx9, v16_8, v16_9, v16_10, .ref q_gp, .ref q_gs, .int (zI (z16_goalN))])), (q_t, .inl (cT, 8192, .inl (fun j : Nat => zI (a_t (j : Int))))), (q_gp, .inl (cI, mg, .inl (fun j : Nat => zI (a_gp (j : Int))))), (q_gs, .inl (cI, ng, .inl (fun j : Nat => zI (a_gs (j : Int)))))] : va_W) ++ va_pl L (pE Pw_6)).set kp_11 (pr_2, rowE (Pw_6.ro pr_2) (Pw_6.rt pr_2) (Pw_6.ra pr_2) (Pw_6.rb pr_2) (0) (Pw_6.rB pr_2) (Pw_6.rg pr_2)) = ([(h0, .inr (14, [.ref q_t, .int (zI (z16_n)), .int (zI (z16_at)), .int (zI (z16_kind)), .int (zI (z16_place)), .int (zI (z16_value)), .int (zI (z16_before)), .ref tx9, v16_8, v16_9, v16_10, .ref q_gp, .ref q_gs, .int (zI (z16_goalN))])), (q_t, .inl (cT, 8192, .inl (fun j : Nat => zI (a_t (j : Int))))), (q_gp, .inl (cI, mg, .inl (fun j : Nat => zI (a_gp (j : Int))))), (q_gs, .inl (cI, ng, .inl (fun j : Nat => zI (a_gs (j : Int)))))] : va_W) ++ va_pl L (pE Pw_12) := (by rw [va_pl_set hD0 hbe_3.1 gkp_11, ePw_12]; exact congrArg (fun f9 => ([(h0, .inr (14, [.ref q_t, .int (zI (z16_n)), .int (zI (z16_at)), .int (zI (z16_kind)), .int (zI (z16_place)), .int (zI (z16_value)), .int (zI (z16_before)), .ref tx9, v16_8, v16_9, v16_10, .ref q_gp, .ref q_gs, .int (zI (z16_goalN))])), (q_t, .inl (cT, 8192, .inl (fun j : Nat => zI (a_t (j : Int))))), (q_gp, .inl (cI, mg, .inl (fun j : Nat => zI (a_gp (j : Int))))), (q_gs, .inl (cI, ng, .inl (fun j : Nat => zI (a_gs (j : Int)))))] : va_W) ++ va_pl L f9) (put17_4 hy_9))
  have hP : va_P (dC, dI) vwQ ([(h0, .inr (14, [.ref q_t, .int (zI (z16_n)), .int (zI (z16_at)), .int (zI (z16_kind)), .int (zI (z16_place)), .int (zI (z16_value)), .int (zI (z16_before)), .ref tx9, v16_8, v16_9, v16_10, .ref q_gp, .ref q_gs, .int (zI (z16_goalN))])), (q_t, .inl (cT, 8192, .inl (fun j : Nat => zI (a_t (j : Int))))), (q_gp, .inl (cI, mg, .inl (fun j : Nat => zI (a_gp (j : Int))))), (q_gs, .inl (cI, ng, .inl (fun j : Nat => zI (a_gs (j : Int)))))] ++ va_pl L (pE Pw_12)) H := (by rw [← eU]; exact hP)
  have hD : va_D A ([(h0, .inr (14, [.ref q_t, .int (zI (z16_n)), .int (zI (z16_at)), .int (zI (z16_kind)), .int (zI (z16_place)), .int (zI (z16_value)), .int (zI (z16_before)), .ref tx9, v16_8, v16_9, v16_10, .ref q_gp, .ref q_gs, .int (zI (z16_goalN))])), (q_t, .inl (cT, 8192, .inl (fun j : Nat => zI (a_t (j : Int))))), (q_gp, .inl (cI, mg, .inl (fun j : Nat => zI (a_gp (j : Int))))), (q_gs, .inl (cI, ng, .inl (fun j : Nat => zI (a_gs (j : Int)))))] ++ va_pl L (pE Pw_12)) := (by rw [← eU]; exact hD)
  clear eU hD0 gkp_11 hkp_11
  have wPw_12 : RW1 pr_2 Pw_6 Pw_12 := (by rw [ePw_12]; exact RW1.put _ _ _ _)
  have hy_13 : Pw_12.kd la = 30 := (by rw [ePw_12]; exact hy_7)
  have hy_14 : Pw_12.kd xb = 12 := (by rw [ePw_12]; exact hy_8)
  have : Pw_12.bf xb = Pw_6.bf xb := wPw_12.2 _ (kd_ne hy_8 hy_9 (by decide)) _
  have : Pw_12.bs xb = Pw_6.bs xb := wPw_12.2 _ (kd_ne hy_8 hy_9 (by decide)) _
  have hy_15 : Pw_12.kd pr_2 = 17 := (by rw [ePw_12]; exact hy_9)
  have : Pw_12.ro pr_2 = Pw_6.ro pr_2 := (by rw [ePw_12]; exact rw9_of _ (by decide))
  have : Pw_12.rt pr_2 = Pw_6.rt pr_2 := (by rw [ePw_12]; exact rw9_of _ (by decide))
  have : Pw_12.ra pr_2 = Pw_6.ra pr_2 := (by rw [ePw_12]; exact rw9_of _ (by decide))
  have : Pw_12.rb pr_2 = Pw_6.rb pr_2 := (by rw [ePw_12]; exact rw9_of _ (by decide))
  have : Pw_12.rA pr_2 = 0 := (by rw [ePw_12]; exact rw9_at _ _ _ _)
  have : Pw_12.rB pr_2 = Pw_6.rB pr_2 := (by rw [ePw_12]; exact rw9_of _ (by decide))
  have : Pw_12.rg pr_2 = Pw_6.rg pr_2 := (by rw [ePw_12]; exact rw9_of _ (by decide))
  have : Pw_12.ek pr_2 = Pw_6.ek pr_2 := (by rw [ePw_12]; rfl)
  have ha_16 : HID (Pw_12.be xb = pr_2) := (by rw [ePw_12]; exact ha_10.out)
  refine lv_aload_n hx hb dX16_end_15 rfl (lv_at hl 0 rfl) ?_
  refine lv_iconst (v := 0) hx hb dX16_end_16 (by decide) ?_
  refine lv_topi (fun z ez => ?_)
  obtain rfl : z = zI (0) := ez
  obtain ⟨kp_17, gkp_17⟩ := va_pl_get (X := [(h0, .inr (14, [.ref q_t, .int (zI (z16_n)), .int (zI (z16_at)), .int (zI (z16_kind)), .int (zI (z16_place)), .int (zI (z16_value)), .int (zI (z16_before)), .ref tx9, v16_8, v16_9, v16_10, .ref q_gp, .ref q_gs, .int (zI (z16_goalN))])), (q_t, .inl (cT, 8192, .inl (fun j : Nat => zI (a_t (j : Int))))), (q_gp, .inl (cI, mg, .inl (fun j : Nat => zI (a_gp (j : Int))))), (q_gs, .inl (cI, ng, .inl (fun j : Nat => zI (a_gs (j : Int)))))]) (f := pE Pw_12) hbe_3.1
  have hkp_17 := gkp_17
  rw [pE_row hy_15] at hkp_17
  have hD0 := hD
  refine va_put (D := (dC, dI)) (ci := 21) (v := .int (zI (0))) (ty := .int) (C := RX17) (T := TX17) (N := 7) hx hb hts mem_X16_endR_1 tyX17 tyX17_ok nmX17 hown hK hP hD hS kp_17 hkp_17 rfl 2 (by decide) (ow (k := 3) rfl) (fun _ h9 => h9) rfl (by decide +kernel) rfl rfl (by first | exact Nat.le_of_ble_eq_true rfl | exact (show 0 ≤ (8 * (z16_n - z16_place) + 4 * z16_goalN + 120).toNat from (rmW (by omega))) | exact (show 0 ≤ (40 * (z16_n - z16_place) + 16 * z16_goalN + 700).toNat from (rmW (by omega)))) dX16_end_17 (fun H locs hP hD hS => ?_)
  obtain ⟨Pw_18, ePw_18⟩ : ∃ q9 : PO, q9 = Pw_12.rw9 2 pr_2 (0) := ⟨_, rfl⟩
  have eU : (([(h0, .inr (14, [.ref q_t, .int (zI (z16_n)), .int (zI (z16_at)), .int (zI (z16_kind)), .int (zI (z16_place)), .int (zI (z16_value)), .int (zI (z16_before)), .ref tx9, v16_8, v16_9, v16_10, .ref q_gp, .ref q_gs, .int (zI (z16_goalN))])), (q_t, .inl (cT, 8192, .inl (fun j : Nat => zI (a_t (j : Int))))), (q_gp, .inl (cI, mg, .inl (fun j : Nat => zI (a_gp (j : Int))))), (q_gs, .inl (cI, ng, .inl (fun j : Nat => zI (a_gs (j : Int)))))] : va_W) ++ va_pl L (pE Pw_12)).set kp_17 (pr_2, rowE (Pw_12.ro pr_2) (Pw_12.rt pr_2) (0) (Pw_12.rb pr_2) (Pw_12.rA pr_2) (Pw_12.rB pr_2) (Pw_12.rg pr_2)) = ([(h0, .inr (14, [.ref q_t, .int (zI (z16_n)), .int (zI (z16_at)), .int (zI (z16_kind)), .int (zI (z16_place)), .int (zI (z16_value)), .int (zI (z16_before)), .ref tx9, v16_8, v16_9, v16_10, .ref q_gp, .ref q_gs, .int (zI (z16_goalN))])), (q_t, .inl (cT, 8192, .inl (fun j : Nat => zI (a_t (j : Int))))), (q_gp, .inl (cI, mg, .inl (fun j : Nat => zI (a_gp (j : Int))))), (q_gs, .inl (cI, ng, .inl (fun j : Nat => zI (a_gs (j : Int)))))] : va_W) ++ va_pl L (pE Pw_18) := (by rw [va_pl_set hD0 hbe_3.1 gkp_17, ePw_18]; exact congrArg (fun f9 => ([(h0, .inr (14, [.ref q_t, .int (zI (z16_n)), .int (zI (z16_at)), .int (zI (z16_kind)), .int (zI (z16_place)), .int (zI (z16_value)), .int (zI (z16_before)), .ref tx9, v16_8, v16_9, v16_10, .ref q_gp, .ref q_gs, .int (zI (z16_goalN))])), (q_t, .inl (cT, 8192, .inl (fun j : Nat => zI (a_t (j : Int))))), (q_gp, .inl (cI, mg, .inl (fun j : Nat => zI (a_gp (j : Int))))), (q_gs, .inl (cI, ng, .inl (fun j : Nat => zI (a_gs (j : Int)))))] : va_W) ++ va_pl L f9) (put17_2 hy_15))
  have hP : va_P (dC, dI) vwQ ([(h0, .inr (14, [.ref q_t, .int (zI (z16_n)), .int (zI (z16_at)), .int (zI (z16_kind)), .int (zI (z16_place)), .int (zI (z16_value)), .int (zI (z16_before)), .ref tx9, v16_8, v16_9, v16_10, .ref q_gp, .ref q_gs, .int (zI (z16_goalN))])), (q_t, .inl (cT, 8192, .inl (fun j : Nat => zI (a_t (j : Int))))), (q_gp, .inl (cI, mg, .inl (fun j : Nat => zI (a_gp (j : Int))))), (q_gs, .inl (cI, ng, .inl (fun j : Nat => zI (a_gs (j : Int)))))] ++ va_pl L (pE Pw_18)) H := (by rw [← eU]; exact hP)
  have hD : va_D A ([(h0, .inr (14, [.ref q_t, .int (zI (z16_n)), .int (zI (z16_at)), .int (zI (z16_kind)), .int (zI (z16_place)), .int (zI (z16_value)), .int (zI (z16_before)), .ref tx9, v16_8, v16_9, v16_10, .ref q_gp, .ref q_gs, .int (zI (z16_goalN))])), (q_t, .inl (cT, 8192, .inl (fun j : Nat => zI (a_t (j : Int))))), (q_gp, .inl (cI, mg, .inl (fun j : Nat => zI (a_gp (j : Int))))), (q_gs, .inl (cI, ng, .inl (fun j : Nat => zI (a_gs (j : Int)))))] ++ va_pl L (pE Pw_18)) := (by rw [← eU]; exact hD)
  clear eU hD0 gkp_17 hkp_17
  have wPw_18 : RW1 pr_2 Pw_12 Pw_18 := (by rw [ePw_18]; exact RW1.put _ _ _ _)
  have hy_19 : Pw_18.kd la = 30 := (by rw [ePw_18]; exact hy_13)
  have hy_20 : Pw_18.kd xb = 12 := (by rw [ePw_18]; exact hy_14)
  have : Pw_18.bf xb = Pw_12.bf xb := wPw_18.2 _ (kd_ne hy_14 hy_15 (by decide)) _
  have : Pw_18.bs xb = Pw_12.bs xb := wPw_18.2 _ (kd_ne hy_14 hy_15 (by decide)) _
  have hy_21 : Pw_18.kd pr_2 = 17 := (by rw [ePw_18]; exact hy_15)
  have : Pw_18.ro pr_2 = Pw_12.ro pr_2 := (by rw [ePw_18]; exact rw9_of _ (by decide))
  have : Pw_18.rt pr_2 = Pw_12.rt pr_2 := (by rw [ePw_18]; exact rw9_of _ (by decide))
  have : Pw_18.ra pr_2 = 0 := (by rw [ePw_18]; exact rw9_at _ _ _ _)
  have : Pw_18.rb pr_2 = Pw_12.rb pr_2 := (by rw [ePw_18]; exact rw9_of _ (by decide))
  have : Pw_18.rA pr_2 = Pw_12.rA pr_2 := (by rw [ePw_18]; exact rw9_of _ (by decide))
  have : Pw_18.rB pr_2 = Pw_12.rB pr_2 := (by rw [ePw_18]; exact rw9_of _ (by decide))
  have : Pw_18.rg pr_2 = Pw_12.rg pr_2 := (by rw [ePw_18]; exact rw9_of _ (by decide))
  have : Pw_18.ek pr_2 = Pw_12.ek pr_2 := (by rw [ePw_18]; rfl)
  have ha_22 : HID (Pw_18.be xb = pr_2) := (by rw [ePw_18]; exact ha_16.out)
  have hW_23 : RW1 pr_2 P Pw_18 := wPw_6.trans (wPw_12.trans (wPw_18))
  have hrw_26 : RWD P Pw_18 := hW_23.rwd (Or.inl hbe_3.2.1)
  have hak_25 : GLR L Pw_18 cO cI cZ sx_ed := hX_g9.row hW_23 hbe_3.2.1 (ROKR.of (by omega) (by omega) (by omega) (by omega) (by omega) (by omega) (by omega) (uaZR (by omega)) ((hX_g9.rokR hbe_3.1 hbe_3.2.1).ub (by omega) (by omega) (by omega))) (fun e9 => absurd hE_4.out e9)
  have hke_24 : KEG [] L P L Pw_18 := hrw_26.kegR _ hC_la.2.1
  have hq_27 : HID (la ∈ L ∧ Pw_18.kd la = 30) := hke_24.mem hC_la.1 hC_la.2.1 (by decide)
  have hq_28 : HID (xb ∈ L ∧ Pw_18.kd xb = 12) := hke_24.mem hX_b hX_bk (by decide)
  have hq_29 : HID (pr_2 ∈ L ∧ Pw_18.kd pr_2 = 17) := hke_24.mem hbe_3.1 hbe_3.2.1 (by decide)
  have ha_30 : HID (Pw_18.be xb = pr_2) := hke_24.be hX_b hX_bk epr_2.symm
  have hA_31 : KEG [] L P L Pw_18 := (KEG.refl [] L P).trans hke_24
  have : Pw_18.lz la = P.lz la := hrw_26.lz hC_la.2.1
  have : Pw_18.cap la = P.cap la := hW_23.cap la
  have hek_32 : HID (Pw_18.ek la = 12) := (by rw [hke_24.ek hC_la.1 hC_la.2.1 (by decide)]; exact hC_la.2.2.1)
  have how_33 : HID (Pw_18.ow la = la) := ((hke_24.1 la hC_la.1 (by rw [hC_la.2.1]; decide)).2.2.2.1 hC_la.2.1 hC_la.2.2.2).1
  have hcz := (((hke_24.1 la hC_la.1 (by rw [hC_la.2.1]; decide)).2.2.2.1 hC_la.2.1 hC_la.2.2.2).2 (by simp)).1
  have hE_34 : HID (Pw_18.ek pr_2 = 1) := (by rw [hke_24.ek hbe_3.1 hbe_3.2.1 (by decide)]; exact hE_4.out)
  have hX_tx := hX_tx.rw1R hW_23 (Or.inl hbe_3.2.1)
  have hcx_35 : CHG (fun z => z = xb ∨ z = P.be xb) L P L Pw_18 := hcx0.trans (hW_23.chg _) (fun z m q => Or.inr (q.trans epr_2))
  have hsm_36 := (hW_23.chg L xb hq_28.1 (fun e9 => absurd e9 (kd_ne hq_28.2 hq_29.2 (by decide)))).2
  have : Pw_18.bf xb = P.bf xb := hsm_36.1 0
  have : Pw_18.bs xb = P.bs xb := hsm_36.1 1
  refine lv_aload_n hx hb dX16_end_20 rfl (lv_at hl 2 rfl) ?_
  refine lv_iconst (v := 0) hx hb dX16_end_21 (by decide) ?_
  have hfb := (hak_25.gb hq_28.1 hq_28.2).2
  refine lv_topi (fun z ez => ?_)
  obtain rfl : z = zI (0) := ez
  obtain ⟨kp_37, gkp_37⟩ := va_pl_get (X := [(h0, .inr (14, [.ref q_t, .int (zI (z16_n)), .int (zI (z16_at)), .int (zI (z16_kind)), .int (zI (z16_place)), .int (zI (z16_value)), .int (zI (z16_before)), .ref tx9, v16_8, v16_9, v16_10, .ref q_gp, .ref q_gs, .int (zI (z16_goalN))])), (q_t, .inl (cT, 8192, .inl (fun j : Nat => zI (a_t (j : Int))))), (q_gp, .inl (cI, mg, .inl (fun j : Nat => zI (a_gp (j : Int))))), (q_gs, .inl (cI, ng, .inl (fun j : Nat => zI (a_gs (j : Int)))))]) (f := pE Pw_18) hq_28.1
  have hkp_37 := gkp_37
  rw [pE_block hq_28.2] at hkp_37
  have hD0 := hD
  refine va_put (D := (dC, dI)) (ci := 19) (v := .int (zI (0))) (ty := .int) (C := RX12) (T := TX12) (N := 5) hx hb hts mem_X16_endR_0 tyX12 tyX12_ok nmX12 hown hK hP hD hS kp_37 hkp_37 rfl 3 (by decide) (ow (k := 4) rfl) (fun _ h9 => h9) rfl (by decide +kernel) rfl rfl (by first | exact Nat.le_of_ble_eq_true rfl | exact (show 0 ≤ (8 * (z16_n - z16_place) + 4 * z16_goalN + 120).toNat from (rmW (by omega))) | exact (show 0 ≤ (40 * (z16_n - z16_place) + 16 * z16_goalN + 700).toNat from (rmW (by omega)))) dX16_end_22 (fun H locs hP hD hS => ?_)
  obtain ⟨Pw_38, ePw_38⟩ : ∃ q9 : PO, q9 = Pw_18.rw9 0 xb (0) := ⟨_, rfl⟩
  have eU : (([(h0, .inr (14, [.ref q_t, .int (zI (z16_n)), .int (zI (z16_at)), .int (zI (z16_kind)), .int (zI (z16_place)), .int (zI (z16_value)), .int (zI (z16_before)), .ref tx9, v16_8, v16_9, v16_10, .ref q_gp, .ref q_gs, .int (zI (z16_goalN))])), (q_t, .inl (cT, 8192, .inl (fun j : Nat => zI (a_t (j : Int))))), (q_gp, .inl (cI, mg, .inl (fun j : Nat => zI (a_gp (j : Int))))), (q_gs, .inl (cI, ng, .inl (fun j : Nat => zI (a_gs (j : Int)))))] : va_W) ++ va_pl L (pE Pw_18)).set kp_37 (xb, blockE (Pw_18.bp xb) (Pw_18.br xb) (Pw_18.be xb) (0) (Pw_18.bs xb)) = ([(h0, .inr (14, [.ref q_t, .int (zI (z16_n)), .int (zI (z16_at)), .int (zI (z16_kind)), .int (zI (z16_place)), .int (zI (z16_value)), .int (zI (z16_before)), .ref tx9, v16_8, v16_9, v16_10, .ref q_gp, .ref q_gs, .int (zI (z16_goalN))])), (q_t, .inl (cT, 8192, .inl (fun j : Nat => zI (a_t (j : Int))))), (q_gp, .inl (cI, mg, .inl (fun j : Nat => zI (a_gp (j : Int))))), (q_gs, .inl (cI, ng, .inl (fun j : Nat => zI (a_gs (j : Int)))))] : va_W) ++ va_pl L (pE Pw_38) := (by rw [va_pl_set hD0 hq_28.1 gkp_37, ePw_38]; exact congrArg (fun f9 => ([(h0, .inr (14, [.ref q_t, .int (zI (z16_n)), .int (zI (z16_at)), .int (zI (z16_kind)), .int (zI (z16_place)), .int (zI (z16_value)), .int (zI (z16_before)), .ref tx9, v16_8, v16_9, v16_10, .ref q_gp, .ref q_gs, .int (zI (z16_goalN))])), (q_t, .inl (cT, 8192, .inl (fun j : Nat => zI (a_t (j : Int))))), (q_gp, .inl (cI, mg, .inl (fun j : Nat => zI (a_gp (j : Int))))), (q_gs, .inl (cI, ng, .inl (fun j : Nat => zI (a_gs (j : Int)))))] : va_W) ++ va_pl L f9) (put12_0 hq_28.2))
  have hP : va_P (dC, dI) vwQ ([(h0, .inr (14, [.ref q_t, .int (zI (z16_n)), .int (zI (z16_at)), .int (zI (z16_kind)), .int (zI (z16_place)), .int (zI (z16_value)), .int (zI (z16_before)), .ref tx9, v16_8, v16_9, v16_10, .ref q_gp, .ref q_gs, .int (zI (z16_goalN))])), (q_t, .inl (cT, 8192, .inl (fun j : Nat => zI (a_t (j : Int))))), (q_gp, .inl (cI, mg, .inl (fun j : Nat => zI (a_gp (j : Int))))), (q_gs, .inl (cI, ng, .inl (fun j : Nat => zI (a_gs (j : Int)))))] ++ va_pl L (pE Pw_38)) H := (by rw [← eU]; exact hP)
  have hD : va_D A ([(h0, .inr (14, [.ref q_t, .int (zI (z16_n)), .int (zI (z16_at)), .int (zI (z16_kind)), .int (zI (z16_place)), .int (zI (z16_value)), .int (zI (z16_before)), .ref tx9, v16_8, v16_9, v16_10, .ref q_gp, .ref q_gs, .int (zI (z16_goalN))])), (q_t, .inl (cT, 8192, .inl (fun j : Nat => zI (a_t (j : Int))))), (q_gp, .inl (cI, mg, .inl (fun j : Nat => zI (a_gp (j : Int))))), (q_gs, .inl (cI, ng, .inl (fun j : Nat => zI (a_gs (j : Int)))))] ++ va_pl L (pE Pw_38)) := (by rw [← eU]; exact hD)
  clear eU hD0 gkp_37 hkp_37
  have wPw_38 : RW1 xb Pw_18 Pw_38 := (by rw [ePw_38]; exact RW1.put _ _ _ _)
  have hy_39 : Pw_38.kd la = 30 := (by rw [ePw_38]; exact hq_27.2)
  have hy_40 : Pw_38.kd xb = 12 := (by rw [ePw_38]; exact hq_28.2)
  have : Pw_38.bf xb = 0 := (by rw [ePw_38]; exact rw9_at _ _ _ _)
  have : Pw_38.bs xb = Pw_18.bs xb := (by rw [ePw_38]; exact rw9_of _ (by decide))
  have hy_41 : Pw_38.kd pr_2 = 17 := (by rw [ePw_38]; exact hq_29.2)
  have : Pw_38.ro pr_2 = Pw_18.ro pr_2 := wPw_38.2 _ (kd_ne hq_29.2 hq_28.2 (by decide)) _
  have : Pw_38.rt pr_2 = Pw_18.rt pr_2 := wPw_38.2 _ (kd_ne hq_29.2 hq_28.2 (by decide)) _
  have : Pw_38.ra pr_2 = Pw_18.ra pr_2 := wPw_38.2 _ (kd_ne hq_29.2 hq_28.2 (by decide)) _
  have : Pw_38.rb pr_2 = Pw_18.rb pr_2 := wPw_38.2 _ (kd_ne hq_29.2 hq_28.2 (by decide)) _
  have : Pw_38.rA pr_2 = Pw_18.rA pr_2 := wPw_38.2 _ (kd_ne hq_29.2 hq_28.2 (by decide)) _
  have : Pw_38.rB pr_2 = Pw_18.rB pr_2 := wPw_38.2 _ (kd_ne hq_29.2 hq_28.2 (by decide)) _
  have : Pw_38.rg pr_2 = Pw_18.rg pr_2 := wPw_38.2 _ (kd_ne hq_29.2 hq_28.2 (by decide)) _
  have ha_42 : HID (Pw_38.be xb = pr_2) := (by rw [ePw_38]; exact ha_30.out)
  have hW_43 : RW1 xb Pw_18 Pw_38 := wPw_38
  have hak_45 : GLR L Pw_38 cO cI cZ sx_ed := hak_25.goal hW_43 hq_28.2 (by omega)
  have hke_44 : KEG [] L Pw_18 L Pw_38 := hW_43.kegR _ hq_27.2 (by have q9 := hq_28.2; omega)
  have hq_47 : HID (la ∈ L ∧ Pw_38.kd la = 30) := hke_44.mem hq_27.1 hq_27.2 (by decide)
  have hq_48 : HID (xb ∈ L ∧ Pw_38.kd xb = 12) := hke_44.mem hq_28.1 hq_28.2 (by decide)
  have hq_49 : HID (pr_2 ∈ L ∧ Pw_38.kd pr_2 = 17) := hke_44.mem hq_29.1 hq_29.2 (by decide)
  have ha_50 : HID (Pw_38.be xb = pr_2) := hke_44.be hq_28.1 hq_28.2 ha_30.out
  have hA_51 : KEG [] L P L Pw_38 := hA_31.trans hke_44
  have : Pw_38.cap la = Pw_18.cap la := hW_43.cap la
  have hek_52 : HID (Pw_38.ek la = 12) := (by rw [hke_44.ek hq_27.1 hq_27.2 (by decide)]; exact hek_32.out)
  have how_53 : HID (Pw_38.ow la = la) := ((hke_44.1 la hq_27.1 (by rw [hq_27.2]; decide)).2.2.2.1 hq_27.2 how_33.out).1
  have hcz := (((hke_44.1 la hq_27.1 (by rw [hq_27.2]; decide)).2.2.2.1 hq_27.2 how_33.out).2 (by simp)).1
  have hE_54 : HID (Pw_38.ek pr_2 = 1) := (by rw [hke_44.ek hq_29.1 hq_29.2 (by decide)]; exact hE_34.out)
  have hX_tx := hX_tx.rw1R hW_43 (Or.inr hq_28.2)
  have hcx_55 : CHG (fun z => z = xb ∨ z = P.be xb) L P L Pw_38 := hcx_35.trans (hW_43.chg _) (fun z m q => Or.inl q)
  have hsm_56 := (hW_43.chg L pr_2 hq_49.1 (fun e9 => absurd e9 (kd_ne hq_49.2 hq_48.2 (by decide)))).2
  have : Pw_38.ro pr_2 = Pw_18.ro pr_2 := hsm_56.1 0
  have : Pw_38.rt pr_2 = Pw_18.rt pr_2 := hsm_56.1 1
  have : Pw_38.ra pr_2 = Pw_18.ra pr_2 := hsm_56.1 2
  have : Pw_38.rb pr_2 = Pw_18.rb pr_2 := hsm_56.1 3
  have : Pw_38.rA pr_2 = Pw_18.rA pr_2 := hsm_56.1 4
  have : Pw_38.rB pr_2 = Pw_18.rB pr_2 := hsm_56.1 5
  have : Pw_38.rg pr_2 = Pw_18.rg pr_2 := hsm_56.1 6
  have : Pw_38.ek pr_2 = Pw_18.ek pr_2 := hsm_56.2.1 8
  refine lv_aload_n hx hb dX16_end_25 rfl (lv_at hl 2 rfl) ?_
  refine lv_iconst (v := 0) hx hb dX16_end_26 (by decide) ?_
  have hfb := (hak_45.gb hq_48.1 hq_48.2).2
  refine lv_topi (fun z ez => ?_)
  obtain rfl : z = zI (0) := ez
  obtain ⟨kp_57, gkp_57⟩ := va_pl_get (X := [(h0, .inr (14, [.ref q_t, .int (zI (z16_n)), .int (zI (z16_at)), .int (zI (z16_kind)), .int (zI (z16_place)), .int (zI (z16_value)), .int (zI (z16_before)), .ref tx9, v16_8, v16_9, v16_10, .ref q_gp, .ref q_gs, .int (zI (z16_goalN))])), (q_t, .inl (cT, 8192, .inl (fun j : Nat => zI (a_t (j : Int))))), (q_gp, .inl (cI, mg, .inl (fun j : Nat => zI (a_gp (j : Int))))), (q_gs, .inl (cI, ng, .inl (fun j : Nat => zI (a_gs (j : Int)))))]) (f := pE Pw_38) hq_48.1
  have hkp_57 := gkp_57
  rw [pE_block hq_48.2] at hkp_57
  have hD0 := hD
  refine va_put (D := (dC, dI)) (ci := 19) (v := .int (zI (0))) (ty := .int) (C := RX12) (T := TX12) (N := 5) hx hb hts mem_X16_endR_0 tyX12 tyX12_ok nmX12 hown hK hP hD hS kp_57 hkp_57 rfl 4 (by decide) (ow (k := 5) rfl) (fun _ h9 => h9) rfl (by decide +kernel) rfl rfl (by first | exact Nat.le_of_ble_eq_true rfl | exact (show 0 ≤ (8 * (z16_n - z16_place) + 4 * z16_goalN + 120).toNat from (rmW (by omega))) | exact (show 0 ≤ (40 * (z16_n - z16_place) + 16 * z16_goalN + 700).toNat from (rmW (by omega)))) dX16_end_27 (fun H locs hP hD hS => ?_)
  obtain ⟨Pw_58, ePw_58⟩ : ∃ q9 : PO, q9 = Pw_38.rw9 1 xb (0) := ⟨_, rfl⟩
  have eU : (([(h0, .inr (14, [.ref q_t, .int (zI (z16_n)), .int (zI (z16_at)), .int (zI (z16_kind)), .int (zI (z16_place)), .int (zI (z16_value)), .int (zI (z16_before)), .ref tx9, v16_8, v16_9, v16_10, .ref q_gp, .ref q_gs, .int (zI (z16_goalN))])), (q_t, .inl (cT, 8192, .inl (fun j : Nat => zI (a_t (j : Int))))), (q_gp, .inl (cI, mg, .inl (fun j : Nat => zI (a_gp (j : Int))))), (q_gs, .inl (cI, ng, .inl (fun j : Nat => zI (a_gs (j : Int)))))] : va_W) ++ va_pl L (pE Pw_38)).set kp_57 (xb, blockE (Pw_38.bp xb) (Pw_38.br xb) (Pw_38.be xb) (Pw_38.bf xb) (0)) = ([(h0, .inr (14, [.ref q_t, .int (zI (z16_n)), .int (zI (z16_at)), .int (zI (z16_kind)), .int (zI (z16_place)), .int (zI (z16_value)), .int (zI (z16_before)), .ref tx9, v16_8, v16_9, v16_10, .ref q_gp, .ref q_gs, .int (zI (z16_goalN))])), (q_t, .inl (cT, 8192, .inl (fun j : Nat => zI (a_t (j : Int))))), (q_gp, .inl (cI, mg, .inl (fun j : Nat => zI (a_gp (j : Int))))), (q_gs, .inl (cI, ng, .inl (fun j : Nat => zI (a_gs (j : Int)))))] : va_W) ++ va_pl L (pE Pw_58) := (by rw [va_pl_set hD0 hq_48.1 gkp_57, ePw_58]; exact congrArg (fun f9 => ([(h0, .inr (14, [.ref q_t, .int (zI (z16_n)), .int (zI (z16_at)), .int (zI (z16_kind)), .int (zI (z16_place)), .int (zI (z16_value)), .int (zI (z16_before)), .ref tx9, v16_8, v16_9, v16_10, .ref q_gp, .ref q_gs, .int (zI (z16_goalN))])), (q_t, .inl (cT, 8192, .inl (fun j : Nat => zI (a_t (j : Int))))), (q_gp, .inl (cI, mg, .inl (fun j : Nat => zI (a_gp (j : Int))))), (q_gs, .inl (cI, ng, .inl (fun j : Nat => zI (a_gs (j : Int)))))] : va_W) ++ va_pl L f9) (put12_1 hq_48.2))
  have hP : va_P (dC, dI) vwQ ([(h0, .inr (14, [.ref q_t, .int (zI (z16_n)), .int (zI (z16_at)), .int (zI (z16_kind)), .int (zI (z16_place)), .int (zI (z16_value)), .int (zI (z16_before)), .ref tx9, v16_8, v16_9, v16_10, .ref q_gp, .ref q_gs, .int (zI (z16_goalN))])), (q_t, .inl (cT, 8192, .inl (fun j : Nat => zI (a_t (j : Int))))), (q_gp, .inl (cI, mg, .inl (fun j : Nat => zI (a_gp (j : Int))))), (q_gs, .inl (cI, ng, .inl (fun j : Nat => zI (a_gs (j : Int)))))] ++ va_pl L (pE Pw_58)) H := (by rw [← eU]; exact hP)
  have hD : va_D A ([(h0, .inr (14, [.ref q_t, .int (zI (z16_n)), .int (zI (z16_at)), .int (zI (z16_kind)), .int (zI (z16_place)), .int (zI (z16_value)), .int (zI (z16_before)), .ref tx9, v16_8, v16_9, v16_10, .ref q_gp, .ref q_gs, .int (zI (z16_goalN))])), (q_t, .inl (cT, 8192, .inl (fun j : Nat => zI (a_t (j : Int))))), (q_gp, .inl (cI, mg, .inl (fun j : Nat => zI (a_gp (j : Int))))), (q_gs, .inl (cI, ng, .inl (fun j : Nat => zI (a_gs (j : Int)))))] ++ va_pl L (pE Pw_58)) := (by rw [← eU]; exact hD)
  clear eU hD0 gkp_57 hkp_57
  have wPw_58 : RW1 xb Pw_38 Pw_58 := (by rw [ePw_58]; exact RW1.put _ _ _ _)
  have hy_59 : Pw_58.kd la = 30 := (by rw [ePw_58]; exact hq_47.2)
  have hy_60 : Pw_58.kd xb = 12 := (by rw [ePw_58]; exact hq_48.2)
  have : Pw_58.bf xb = Pw_38.bf xb := (by rw [ePw_58]; exact rw9_of _ (by decide))
  have : Pw_58.bs xb = 0 := (by rw [ePw_58]; exact rw9_at _ _ _ _)
  have hy_61 : Pw_58.kd pr_2 = 17 := (by rw [ePw_58]; exact hq_49.2)
  have : Pw_58.ro pr_2 = Pw_38.ro pr_2 := wPw_58.2 _ (kd_ne hq_49.2 hq_48.2 (by decide)) _
  have : Pw_58.rt pr_2 = Pw_38.rt pr_2 := wPw_58.2 _ (kd_ne hq_49.2 hq_48.2 (by decide)) _
  have : Pw_58.ra pr_2 = Pw_38.ra pr_2 := wPw_58.2 _ (kd_ne hq_49.2 hq_48.2 (by decide)) _
  have : Pw_58.rb pr_2 = Pw_38.rb pr_2 := wPw_58.2 _ (kd_ne hq_49.2 hq_48.2 (by decide)) _
  have : Pw_58.rA pr_2 = Pw_38.rA pr_2 := wPw_58.2 _ (kd_ne hq_49.2 hq_48.2 (by decide)) _
  have : Pw_58.rB pr_2 = Pw_38.rB pr_2 := wPw_58.2 _ (kd_ne hq_49.2 hq_48.2 (by decide)) _
  have : Pw_58.rg pr_2 = Pw_38.rg pr_2 := wPw_58.2 _ (kd_ne hq_49.2 hq_48.2 (by decide)) _
  have ha_62 : HID (Pw_58.be xb = pr_2) := (by rw [ePw_58]; exact ha_50.out)
  have hW_63 : RW1 xb Pw_38 Pw_58 := wPw_58
  have hak_65 : GLR L Pw_58 cO cI cZ sx_ed := hak_45.goal hW_63 hq_48.2 (by omega)
  have hke_64 : KEG [] L Pw_38 L Pw_58 := hW_63.kegR _ hq_47.2 (by have q9 := hq_48.2; omega)
  have hq_67 : HID (la ∈ L ∧ Pw_58.kd la = 30) := hke_64.mem hq_47.1 hq_47.2 (by decide)
  have hq_68 : HID (xb ∈ L ∧ Pw_58.kd xb = 12) := hke_64.mem hq_48.1 hq_48.2 (by decide)
  have hq_69 : HID (pr_2 ∈ L ∧ Pw_58.kd pr_2 = 17) := hke_64.mem hq_49.1 hq_49.2 (by decide)
  have ha_70 : HID (Pw_58.be xb = pr_2) := hke_64.be hq_48.1 hq_48.2 ha_50.out
  have hA_71 : KEG [] L P L Pw_58 := hA_51.trans hke_64
  have : Pw_58.cap la = Pw_38.cap la := hW_63.cap la
  have hek_72 : HID (Pw_58.ek la = 12) := (by rw [hke_64.ek hq_47.1 hq_47.2 (by decide)]; exact hek_52.out)
  have how_73 : HID (Pw_58.ow la = la) := ((hke_64.1 la hq_47.1 (by rw [hq_47.2]; decide)).2.2.2.1 hq_47.2 how_53.out).1
  have hcz := (((hke_64.1 la hq_47.1 (by rw [hq_47.2]; decide)).2.2.2.1 hq_47.2 how_53.out).2 (by simp)).1
  have hE_74 : HID (Pw_58.ek pr_2 = 1) := (by rw [hke_64.ek hq_49.1 hq_49.2 (by decide)]; exact hE_54.out)
  have hX_tx := hX_tx.rw1R hW_63 (Or.inr hq_48.2)
  have hcx_75 : CHG (fun z => z = xb ∨ z = P.be xb) L P L Pw_58 := hcx_55.trans (hW_63.chg _) (fun z m q => Or.inl q)
  have hsm_76 := (hW_63.chg L pr_2 hq_69.1 (fun e9 => absurd e9 (kd_ne hq_69.2 hq_68.2 (by decide)))).2
  have : Pw_58.ro pr_2 = Pw_38.ro pr_2 := hsm_76.1 0
  have : Pw_58.rt pr_2 = Pw_38.rt pr_2 := hsm_76.1 1
  have : Pw_58.ra pr_2 = Pw_38.ra pr_2 := hsm_76.1 2
  have : Pw_58.rb pr_2 = Pw_38.rb pr_2 := hsm_76.1 3
  have : Pw_58.rA pr_2 = Pw_38.rA pr_2 := hsm_76.1 4
  have : Pw_58.rB pr_2 = Pw_38.rB pr_2 := hsm_76.1 5
  have : Pw_58.rg pr_2 = Pw_38.rg pr_2 := hsm_76.1 6
  have : Pw_58.ek pr_2 = Pw_38.ek pr_2 := hsm_76.2.1 8
  refine lv_aload_n hx hb dX16_end_30 rfl (lv_at hl 1 rfl) ?_
  refine va_ldcS hx hb hown hp0 dX16_end_31 ?_
  have hPc := hP.part (X := [(h0, .inr (14, [.ref q_t, .int (zI (z16_n)), .int (zI (z16_at)), .int (zI (z16_kind)), .int (zI (z16_place)), .int (zI (z16_value)), .int (zI (z16_before)), .ref tx9, v16_8, v16_9, v16_10, .ref q_gp, .ref q_gs, .int (zI (z16_goalN))])), (q_t, .inl (cT, 8192, .inl (fun j : Nat => zI (a_t (j : Int))))), (q_gp, .inl (cI, mg, .inl (fun j : Nat => zI (a_gp (j : Int))))), (q_gs, .inl (cI, ng, .inl (fun j : Nat => zI (a_gs (j : Int)))))]) (cx := [(h0, .inr (14, [.ref q_t, .int (zI (z16_n)), .int (zI (z16_at)), .int (zI (z16_kind)), .int (zI (z16_place)), .int (zI (z16_value)), .int (zI (z16_before)), .ref tx9, v16_8, v16_9, v16_10, .ref q_gp, .ref q_gs, .int (zI (z16_goalN))])), (q_t, .inl (cT, 8192, .inl (fun j : Nat => zI (a_t (j : Int)))))]) (pl := va_pl L (pE Pw_58)) [0, 1] rfl
  have hDc := hD.part (X := [(h0, .inr (14, [.ref q_t, .int (zI (z16_n)), .int (zI (z16_at)), .int (zI (z16_kind)), .int (zI (z16_place)), .int (zI (z16_value)), .int (zI (z16_before)), .ref tx9, v16_8, v16_9, v16_10, .ref q_gp, .ref q_gs, .int (zI (z16_goalN))])), (q_t, .inl (cT, 8192, .inl (fun j : Nat => zI (a_t (j : Int))))), (q_gp, .inl (cI, mg, .inl (fun j : Nat => zI (a_gp (j : Int))))), (q_gs, .inl (cI, ng, .inl (fun j : Nat => zI (a_gs (j : Int)))))]) (cx := [(h0, .inr (14, [.ref q_t, .int (zI (z16_n)), .int (zI (z16_at)), .int (zI (z16_kind)), .int (zI (z16_place)), .int (zI (z16_value)), .int (zI (z16_before)), .ref tx9, v16_8, v16_9, v16_10, .ref q_gp, .ref q_gs, .int (zI (z16_goalN))])), (q_t, .inl (cT, 8192, .inl (fun j : Nat => zI (a_t (j : Int)))))]) (pl := va_pl L (pE Pw_58)) [0, 1] (by decide) rfl
  have hKc := hK.sub (tys' := [(cT, .byte)]) [0] rfl
  have hFc := va_freeP (X := [(h0, .inr (14, [.ref q_t, .int (zI (z16_n)), .int (zI (z16_at)), .int (zI (z16_kind)), .int (zI (z16_place)), .int (zI (z16_value)), .int (zI (z16_before)), .ref tx9, v16_8, v16_9, v16_10, .ref q_gp, .ref q_gs, .int (zI (z16_goalN))])), (q_t, .inl (cT, 8192, .inl (fun j : Nat => zI (a_t (j : Int))))), (q_gp, .inl (cI, mg, .inl (fun j : Nat => zI (a_gp (j : Int))))), (q_gs, .inl (cI, ng, .inl (fun j : Nat => zI (a_gs (j : Int)))))]) (cx := [(h0, .inr (14, [.ref q_t, .int (zI (z16_n)), .int (zI (z16_at)), .int (zI (z16_kind)), .int (zI (z16_place)), .int (zI (z16_value)), .int (zI (z16_before)), .ref tx9, v16_8, v16_9, v16_10, .ref q_gp, .ref q_gs, .int (zI (z16_goalN))])), (q_t, .inl (cT, 8192, .inl (fun j : Nat => zI (a_t (j : Int)))))]) (pl := va_pl L (pE Pw_58)) hD hS hA [0, 1] rfl
  refine va_calli (va_runV (As := [.ref sa_RX16_248]) (rest := []) ⟨hx, hb, hml, hown, hts⟩ (c_X16_isKK l dC dI h0 (.int (zI (z16_n))) (.int (zI (z16_at))) z16_kind (.int (zI (z16_place))) (.int (zI (z16_value))) (.int (zI (z16_before))) v16_8 v16_9 v16_10 (.ref q_gp) (.ref q_gs) (.int (zI (z16_goalN))) q_t cT a_t tx9 L Pw_58 sa_RX16_9 sa_RX16_248 sv_RX16_248 4 ((fun j : Nat => ([106, 117, 109, 112] : List Int32).getD j 0)) (by omega) hR_a_t hX_tx (by omega) H.size sv_RX16_9) (cwV 1 hts g_X16_endR_X16_isKK rfl rfl rfl (by decide +kernel) ⟨(Nat.le_of_ble_eq_true rfl), (Nat.le_of_ble_eq_true rfl)⟩) ⟨fun a U g mk q => by obtain ⟨q0, q1, qP, qK, qD, e0, e1, e2⟩ := q; exact ⟨q0, q1, qP, va_K.moved (u := U) (U := U.calling g mk a) (Vm.Alike.refl U.vm) qK, qD, vs_S.moved (u := U) (U := U.calling g mk a) (Vm.Alike.refl U.vm) e0, vs_S.moved (u := U) (U := U.calling g mk a) (Vm.Alike.refl U.vm) e1, va_Z.moved (u := U) (U := U.calling g mk a) (Vm.Alike.refl U.vm) e2⟩, va_recv hKc hPc (ci := 14) (q0 := 0) rfl rfl, fun U hU hW => ⟨rfl, by rw [hU], by rw [hU]; exact hPc, va_K.moved hW.alike hKc, hDc.weaken (fun _ _ _ _ => trivial), vs_S.go hp2 hS hFc hU hW.alike, vs_S.go hp1 hS hFc hU hW.alike, va_Z.go hp3 hS hFc hU hW.alike⟩⟩ rfl rfl hl.1 rfl (lv_room (Nat.le_of_ble_eq_true rfl)) dX16_end_33 ⟨(Nat.zero_le _), (Nat.zero_le _)⟩) hS (fun q _ h => hFc q h) hFc (fun r_77 u t H1 locs ht hvm hw hB hz1 hk1 hS => ?_)
  obtain ⟨hP1, hK1, hD1⟩ := hB
  rw [ht] at hP1
  have hK1 := va_K.moved hvm.symm hK1
  obtain ⟨hP, hD⟩ := va_joinP (X := [(h0, .inr (14, [.ref q_t, .int (zI (z16_n)), .int (zI (z16_at)), .int (zI (z16_kind)), .int (zI (z16_place)), .int (zI (z16_value)), .int (zI (z16_before)), .ref tx9, v16_8, v16_9, v16_10, .ref q_gp, .ref q_gs, .int (zI (z16_goalN))])), (q_t, .inl (cT, 8192, .inl (fun j : Nat => zI (a_t (j : Int))))), (q_gp, .inl (cI, mg, .inl (fun j : Nat => zI (a_gp (j : Int))))), (q_gs, .inl (cI, ng, .inl (fun j : Nat => zI (a_gs (j : Int)))))]) (cx := [(h0, .inr (14, [.ref q_t, .int (zI (z16_n)), .int (zI (z16_at)), .int (zI (z16_kind)), .int (zI (z16_place)), .int (zI (z16_value)), .int (zI (z16_before)), .ref tx9, v16_8, v16_9, v16_10, .ref q_gp, .ref q_gs, .int (zI (z16_goalN))])), (q_t, .inl (cT, 8192, .inl (fun j : Nat => zI (a_t (j : Int)))))]) (wr := [(q_gp, .inl (cI, mg, .inl (fun j : Nat => zI (a_gp (j : Int))))), (q_gs, .inl (cI, ng, .inl (fun j : Nat => zI (a_gs (j : Int)))))]) (rx := [(h0, .inr (14, [.ref q_t, .int (zI (z16_n)), .int (zI (z16_at)), .int (zI (z16_kind)), .int (zI (z16_place)), .int (zI (z16_value)), .int (zI (z16_before)), .ref tx9, v16_8, v16_9, v16_10, .ref q_gp, .ref q_gs, .int (zI (z16_goalN))])), (q_t, .inl (cT, 8192, .inl (fun j : Nat => zI (a_t (j : Int)))))]) (pl := va_pl L (pE Pw_58)) (pl1 := va_pl L (pE Pw_58)) hP hD [0, 1] [2, 3] rfl rfl (by decide) (by decide) hk1 hFc hP1 hD1
  have hK := (hK.sub (tys' := [(cI, .int), (cO, .object "java/lang/Object"), (cZ, .boolean)]) [1, 2, 3] rfl).app hK1
  generalize H1 = H at hP hS ⊢
  have hP : va_P (dC, dI) vwQ ([(q_gp, .inl (cI, mg, .inl (fun j : Nat => zI (a_gp (j : Int))))), (q_gs, .inl (cI, ng, .inl (fun j : Nat => zI (a_gs (j : Int))))), (h0, .inr (14, [.ref q_t, .int (zI (z16_n)), .int (zI (z16_at)), .int (zI (z16_kind)), .int (zI (z16_place)), .int (zI (z16_value)), .int (zI (z16_before)), .ref tx9, v16_8, v16_9, v16_10, .ref q_gp, .ref q_gs, .int (zI (z16_goalN))])), (q_t, .inl (cT, 8192, .inl (fun j : Nat => zI (a_t (j : Int)))))] ++ va_pl L (pE Pw_58)) H := hP
  have hD : va_D A ([(q_gp, .inl (cI, mg, .inl (fun j : Nat => zI (a_gp (j : Int))))), (q_gs, .inl (cI, ng, .inl (fun j : Nat => zI (a_gs (j : Int))))), (h0, .inr (14, [.ref q_t, .int (zI (z16_n)), .int (zI (z16_at)), .int (zI (z16_kind)), .int (zI (z16_place)), .int (zI (z16_value)), .int (zI (z16_before)), .ref tx9, v16_8, v16_9, v16_10, .ref q_gp, .ref q_gs, .int (zI (z16_goalN))])), (q_t, .inl (cT, 8192, .inl (fun j : Nat => zI (a_t (j : Int)))))] ++ va_pl L (pE Pw_58)) := hD
  have hK : va_K (dC, dI) vwQ [(cI, .int), (cO, .object "java/lang/Object"), (cZ, .boolean), (cT, .byte)] s := hK
  refine W.widen (k := 0) (n := 0) (Nat.le_of_ble_eq_true rfl) (Nat.le_of_ble_eq_true rfl) ?_
  have hw_78 := hw
  obtain ⟨z_79, rfl, hzz_79⟩ := hw_78
  skip
  refine lv_if_eq (tgt := 68) hx hb dX16_end_36 (by decide) (fun b36 => ?_) (fun b36 => ?_)
  · have yb36 : (z_79 : Int) = (0 : Int) := (zI_eq (a := z_79) (b := 0) (by omega) (by omega) (by omega) (by omega)).mp b36
    refine lv_aload_n hx hb dX16_end_68 rfl (lv_at hl 1 rfl) ?_
    refine va_ldcS hx hb hown hp4 dX16_end_69 ?_
    have hPc := hP.part (X := [(q_gp, .inl (cI, mg, .inl (fun j : Nat => zI (a_gp (j : Int))))), (q_gs, .inl (cI, ng, .inl (fun j : Nat => zI (a_gs (j : Int))))), (h0, .inr (14, [.ref q_t, .int (zI (z16_n)), .int (zI (z16_at)), .int (zI (z16_kind)), .int (zI (z16_place)), .int (zI (z16_value)), .int (zI (z16_before)), .ref tx9, v16_8, v16_9, v16_10, .ref q_gp, .ref q_gs, .int (zI (z16_goalN))])), (q_t, .inl (cT, 8192, .inl (fun j : Nat => zI (a_t (j : Int)))))]) (cx := [(h0, .inr (14, [.ref q_t, .int (zI (z16_n)), .int (zI (z16_at)), .int (zI (z16_kind)), .int (zI (z16_place)), .int (zI (z16_value)), .int (zI (z16_before)), .ref tx9, v16_8, v16_9, v16_10, .ref q_gp, .ref q_gs, .int (zI (z16_goalN))])), (q_t, .inl (cT, 8192, .inl (fun j : Nat => zI (a_t (j : Int)))))]) (pl := va_pl L (pE Pw_58)) [2, 3] rfl
    have hDc := hD.part (X := [(q_gp, .inl (cI, mg, .inl (fun j : Nat => zI (a_gp (j : Int))))), (q_gs, .inl (cI, ng, .inl (fun j : Nat => zI (a_gs (j : Int))))), (h0, .inr (14, [.ref q_t, .int (zI (z16_n)), .int (zI (z16_at)), .int (zI (z16_kind)), .int (zI (z16_place)), .int (zI (z16_value)), .int (zI (z16_before)), .ref tx9, v16_8, v16_9, v16_10, .ref q_gp, .ref q_gs, .int (zI (z16_goalN))])), (q_t, .inl (cT, 8192, .inl (fun j : Nat => zI (a_t (j : Int)))))]) (cx := [(h0, .inr (14, [.ref q_t, .int (zI (z16_n)), .int (zI (z16_at)), .int (zI (z16_kind)), .int (zI (z16_place)), .int (zI (z16_value)), .int (zI (z16_before)), .ref tx9, v16_8, v16_9, v16_10, .ref q_gp, .ref q_gs, .int (zI (z16_goalN))])), (q_t, .inl (cT, 8192, .inl (fun j : Nat => zI (a_t (j : Int)))))]) (pl := va_pl L (pE Pw_58)) [2, 3] (by decide) rfl
    have hKc := hK.sub (tys' := [(cT, .byte)]) [3] rfl
    have hFc := va_freeP (X := [(q_gp, .inl (cI, mg, .inl (fun j : Nat => zI (a_gp (j : Int))))), (q_gs, .inl (cI, ng, .inl (fun j : Nat => zI (a_gs (j : Int))))), (h0, .inr (14, [.ref q_t, .int (zI (z16_n)), .int (zI (z16_at)), .int (zI (z16_kind)), .int (zI (z16_place)), .int (zI (z16_value)), .int (zI (z16_before)), .ref tx9, v16_8, v16_9, v16_10, .ref q_gp, .ref q_gs, .int (zI (z16_goalN))])), (q_t, .inl (cT, 8192, .inl (fun j : Nat => zI (a_t (j : Int)))))]) (cx := [(h0, .inr (14, [.ref q_t, .int (zI (z16_n)), .int (zI (z16_at)), .int (zI (z16_kind)), .int (zI (z16_place)), .int (zI (z16_value)), .int (zI (z16_before)), .ref tx9, v16_8, v16_9, v16_10, .ref q_gp, .ref q_gs, .int (zI (z16_goalN))])), (q_t, .inl (cT, 8192, .inl (fun j : Nat => zI (a_t (j : Int)))))]) (pl := va_pl L (pE Pw_58)) hD hS hA [2, 3] rfl
    refine va_calli (va_runV (As := [.ref sa_RX16_253]) (rest := []) ⟨hx, hb, hml, hown, hts⟩ (c_X16_isKK l dC dI h0 (.int (zI (z16_n))) (.int (zI (z16_at))) z16_kind (.int (zI (z16_place))) (.int (zI (z16_value))) (.int (zI (z16_before))) v16_8 v16_9 v16_10 (.ref q_gp) (.ref q_gs) (.int (zI (z16_goalN))) q_t cT a_t tx9 L Pw_58 sa_RX16_9 sa_RX16_253 sv_RX16_253 2 ((fun j : Nat => ([105, 102] : List Int32).getD j 0)) (by omega) hR_a_t hX_tx (by omega) H.size sv_RX16_9) (cwV 1 hts g_X16_endR_X16_isKK rfl rfl rfl (by decide +kernel) ⟨(Nat.le_of_ble_eq_true rfl), (Nat.le_of_ble_eq_true rfl)⟩) ⟨fun a U g mk q => by obtain ⟨q0, q1, qP, qK, qD, e0, e1, e2⟩ := q; exact ⟨q0, q1, qP, va_K.moved (u := U) (U := U.calling g mk a) (Vm.Alike.refl U.vm) qK, qD, vs_S.moved (u := U) (U := U.calling g mk a) (Vm.Alike.refl U.vm) e0, vs_S.moved (u := U) (U := U.calling g mk a) (Vm.Alike.refl U.vm) e1, va_Z.moved (u := U) (U := U.calling g mk a) (Vm.Alike.refl U.vm) e2⟩, va_recv hKc hPc (ci := 14) (q0 := 0) rfl rfl, fun U hU hW => ⟨rfl, by rw [hU], by rw [hU]; exact hPc, va_K.moved hW.alike hKc, hDc.weaken (fun _ _ _ _ => trivial), vs_S.go hp2 hS hFc hU hW.alike, vs_S.go hp5 hS hFc hU hW.alike, va_Z.go hp3 hS hFc hU hW.alike⟩⟩ rfl rfl hl.1 rfl (lv_room (Nat.le_of_ble_eq_true rfl)) dX16_end_71 ⟨(Nat.zero_le _), (Nat.zero_le _)⟩) hS (fun q _ h => hFc q h) hFc (fun r_80 u t H1 locs ht hvm hw hB hz1 hk1 hS => ?_)
    obtain ⟨hP1, hK1, hD1⟩ := hB
    rw [ht] at hP1
    have hK1 := va_K.moved hvm.symm hK1
    obtain ⟨hP, hD⟩ := va_joinP (X := [(q_gp, .inl (cI, mg, .inl (fun j : Nat => zI (a_gp (j : Int))))), (q_gs, .inl (cI, ng, .inl (fun j : Nat => zI (a_gs (j : Int))))), (h0, .inr (14, [.ref q_t, .int (zI (z16_n)), .int (zI (z16_at)), .int (zI (z16_kind)), .int (zI (z16_place)), .int (zI (z16_value)), .int (zI (z16_before)), .ref tx9, v16_8, v16_9, v16_10, .ref q_gp, .ref q_gs, .int (zI (z16_goalN))])), (q_t, .inl (cT, 8192, .inl (fun j : Nat => zI (a_t (j : Int)))))]) (cx := [(h0, .inr (14, [.ref q_t, .int (zI (z16_n)), .int (zI (z16_at)), .int (zI (z16_kind)), .int (zI (z16_place)), .int (zI (z16_value)), .int (zI (z16_before)), .ref tx9, v16_8, v16_9, v16_10, .ref q_gp, .ref q_gs, .int (zI (z16_goalN))])), (q_t, .inl (cT, 8192, .inl (fun j : Nat => zI (a_t (j : Int)))))]) (wr := [(q_gp, .inl (cI, mg, .inl (fun j : Nat => zI (a_gp (j : Int))))), (q_gs, .inl (cI, ng, .inl (fun j : Nat => zI (a_gs (j : Int)))))]) (rx := [(h0, .inr (14, [.ref q_t, .int (zI (z16_n)), .int (zI (z16_at)), .int (zI (z16_kind)), .int (zI (z16_place)), .int (zI (z16_value)), .int (zI (z16_before)), .ref tx9, v16_8, v16_9, v16_10, .ref q_gp, .ref q_gs, .int (zI (z16_goalN))])), (q_t, .inl (cT, 8192, .inl (fun j : Nat => zI (a_t (j : Int)))))]) (pl := va_pl L (pE Pw_58)) (pl1 := va_pl L (pE Pw_58)) hP hD [2, 3] [0, 1] rfl rfl (by decide) (by decide) hk1 hFc hP1 hD1
    have hK := (hK.sub (tys' := [(cI, .int), (cO, .object "java/lang/Object"), (cZ, .boolean)]) [0, 1, 2] rfl).app hK1
    generalize H1 = H at hP hS ⊢
    have hP : va_P (dC, dI) vwQ ([(q_gp, .inl (cI, mg, .inl (fun j : Nat => zI (a_gp (j : Int))))), (q_gs, .inl (cI, ng, .inl (fun j : Nat => zI (a_gs (j : Int))))), (h0, .inr (14, [.ref q_t, .int (zI (z16_n)), .int (zI (z16_at)), .int (zI (z16_kind)), .int (zI (z16_place)), .int (zI (z16_value)), .int (zI (z16_before)), .ref tx9, v16_8, v16_9, v16_10, .ref q_gp, .ref q_gs, .int (zI (z16_goalN))])), (q_t, .inl (cT, 8192, .inl (fun j : Nat => zI (a_t (j : Int)))))] ++ va_pl L (pE Pw_58)) H := hP
    have hD : va_D A ([(q_gp, .inl (cI, mg, .inl (fun j : Nat => zI (a_gp (j : Int))))), (q_gs, .inl (cI, ng, .inl (fun j : Nat => zI (a_gs (j : Int))))), (h0, .inr (14, [.ref q_t, .int (zI (z16_n)), .int (zI (z16_at)), .int (zI (z16_kind)), .int (zI (z16_place)), .int (zI (z16_value)), .int (zI (z16_before)), .ref tx9, v16_8, v16_9, v16_10, .ref q_gp, .ref q_gs, .int (zI (z16_goalN))])), (q_t, .inl (cT, 8192, .inl (fun j : Nat => zI (a_t (j : Int)))))] ++ va_pl L (pE Pw_58)) := hD
    have hK : va_K (dC, dI) vwQ [(cI, .int), (cO, .object "java/lang/Object"), (cZ, .boolean), (cT, .byte)] s := hK
    refine W.widen (k := 0) (n := 0) (Nat.le_of_ble_eq_true rfl) (Nat.le_of_ble_eq_true rfl) ?_
    have hw_81 := hw
    obtain ⟨z_82, rfl, hzz_82⟩ := hw_81
    skip
    refine lv_if_eq (tgt := 112) hx hb dX16_end_74 (by decide) (fun b74 => ?_) (fun b74 => ?_)
    · have yb74 : (z_82 : Int) = (0 : Int) := (zI_eq (a := z_82) (b := 0) (by omega) (by omega) (by omega) (by omega)).mp b74
      refine lv_aload_n hx hb dX16_end_112 rfl (lv_at hl 1 rfl) ?_
      refine va_ldcS hx hb hown hp6 dX16_end_113 ?_
      have hPc := hP.part (X := [(q_gp, .inl (cI, mg, .inl (fun j : Nat => zI (a_gp (j : Int))))), (q_gs, .inl (cI, ng, .inl (fun j : Nat => zI (a_gs (j : Int))))), (h0, .inr (14, [.ref q_t, .int (zI (z16_n)), .int (zI (z16_at)), .int (zI (z16_kind)), .int (zI (z16_place)), .int (zI (z16_value)), .int (zI (z16_before)), .ref tx9, v16_8, v16_9, v16_10, .ref q_gp, .ref q_gs, .int (zI (z16_goalN))])), (q_t, .inl (cT, 8192, .inl (fun j : Nat => zI (a_t (j : Int)))))]) (cx := [(h0, .inr (14, [.ref q_t, .int (zI (z16_n)), .int (zI (z16_at)), .int (zI (z16_kind)), .int (zI (z16_place)), .int (zI (z16_value)), .int (zI (z16_before)), .ref tx9, v16_8, v16_9, v16_10, .ref q_gp, .ref q_gs, .int (zI (z16_goalN))])), (q_t, .inl (cT, 8192, .inl (fun j : Nat => zI (a_t (j : Int)))))]) (pl := va_pl L (pE Pw_58)) [2, 3] rfl
      have hDc := hD.part (X := [(q_gp, .inl (cI, mg, .inl (fun j : Nat => zI (a_gp (j : Int))))), (q_gs, .inl (cI, ng, .inl (fun j : Nat => zI (a_gs (j : Int))))), (h0, .inr (14, [.ref q_t, .int (zI (z16_n)), .int (zI (z16_at)), .int (zI (z16_kind)), .int (zI (z16_place)), .int (zI (z16_value)), .int (zI (z16_before)), .ref tx9, v16_8, v16_9, v16_10, .ref q_gp, .ref q_gs, .int (zI (z16_goalN))])), (q_t, .inl (cT, 8192, .inl (fun j : Nat => zI (a_t (j : Int)))))]) (cx := [(h0, .inr (14, [.ref q_t, .int (zI (z16_n)), .int (zI (z16_at)), .int (zI (z16_kind)), .int (zI (z16_place)), .int (zI (z16_value)), .int (zI (z16_before)), .ref tx9, v16_8, v16_9, v16_10, .ref q_gp, .ref q_gs, .int (zI (z16_goalN))])), (q_t, .inl (cT, 8192, .inl (fun j : Nat => zI (a_t (j : Int)))))]) (pl := va_pl L (pE Pw_58)) [2, 3] (by decide) rfl
      have hKc := hK.sub (tys' := [(cT, .byte)]) [3] rfl
      have hFc := va_freeP (X := [(q_gp, .inl (cI, mg, .inl (fun j : Nat => zI (a_gp (j : Int))))), (q_gs, .inl (cI, ng, .inl (fun j : Nat => zI (a_gs (j : Int))))), (h0, .inr (14, [.ref q_t, .int (zI (z16_n)), .int (zI (z16_at)), .int (zI (z16_kind)), .int (zI (z16_place)), .int (zI (z16_value)), .int (zI (z16_before)), .ref tx9, v16_8, v16_9, v16_10, .ref q_gp, .ref q_gs, .int (zI (z16_goalN))])), (q_t, .inl (cT, 8192, .inl (fun j : Nat => zI (a_t (j : Int)))))]) (cx := [(h0, .inr (14, [.ref q_t, .int (zI (z16_n)), .int (zI (z16_at)), .int (zI (z16_kind)), .int (zI (z16_place)), .int (zI (z16_value)), .int (zI (z16_before)), .ref tx9, v16_8, v16_9, v16_10, .ref q_gp, .ref q_gs, .int (zI (z16_goalN))])), (q_t, .inl (cT, 8192, .inl (fun j : Nat => zI (a_t (j : Int)))))]) (pl := va_pl L (pE Pw_58)) hD hS hA [2, 3] rfl
      refine va_calli (va_runV (As := [.ref sa_RX16_255]) (rest := []) ⟨hx, hb, hml, hown, hts⟩ (c_X16_isKK l dC dI h0 (.int (zI (z16_n))) (.int (zI (z16_at))) z16_kind (.int (zI (z16_place))) (.int (zI (z16_value))) (.int (zI (z16_before))) v16_8 v16_9 v16_10 (.ref q_gp) (.ref q_gs) (.int (zI (z16_goalN))) q_t cT a_t tx9 L Pw_58 sa_RX16_9 sa_RX16_255 sv_RX16_255 3 ((fun j : Nat => ([114, 101, 116] : List Int32).getD j 0)) (by omega) hR_a_t hX_tx (by omega) H.size sv_RX16_9) (cwV 1 hts g_X16_endR_X16_isKK rfl rfl rfl (by decide +kernel) ⟨(Nat.le_of_ble_eq_true rfl), (Nat.le_of_ble_eq_true rfl)⟩) ⟨fun a U g mk q => by obtain ⟨q0, q1, qP, qK, qD, e0, e1, e2⟩ := q; exact ⟨q0, q1, qP, va_K.moved (u := U) (U := U.calling g mk a) (Vm.Alike.refl U.vm) qK, qD, vs_S.moved (u := U) (U := U.calling g mk a) (Vm.Alike.refl U.vm) e0, vs_S.moved (u := U) (U := U.calling g mk a) (Vm.Alike.refl U.vm) e1, va_Z.moved (u := U) (U := U.calling g mk a) (Vm.Alike.refl U.vm) e2⟩, va_recv hKc hPc (ci := 14) (q0 := 0) rfl rfl, fun U hU hW => ⟨rfl, by rw [hU], by rw [hU]; exact hPc, va_K.moved hW.alike hKc, hDc.weaken (fun _ _ _ _ => trivial), vs_S.go hp2 hS hFc hU hW.alike, vs_S.go hp7 hS hFc hU hW.alike, va_Z.go hp3 hS hFc hU hW.alike⟩⟩ rfl rfl hl.1 rfl (lv_room (Nat.le_of_ble_eq_true rfl)) dX16_end_115 ⟨(Nat.zero_le _), (Nat.zero_le _)⟩) hS (fun q _ h => hFc q h) hFc (fun r_83 u t H1 locs ht hvm hw hB hz1 hk1 hS => ?_)
      obtain ⟨hP1, hK1, hD1⟩ := hB
      rw [ht] at hP1
      have hK1 := va_K.moved hvm.symm hK1
      obtain ⟨hP, hD⟩ := va_joinP (X := [(q_gp, .inl (cI, mg, .inl (fun j : Nat => zI (a_gp (j : Int))))), (q_gs, .inl (cI, ng, .inl (fun j : Nat => zI (a_gs (j : Int))))), (h0, .inr (14, [.ref q_t, .int (zI (z16_n)), .int (zI (z16_at)), .int (zI (z16_kind)), .int (zI (z16_place)), .int (zI (z16_value)), .int (zI (z16_before)), .ref tx9, v16_8, v16_9, v16_10, .ref q_gp, .ref q_gs, .int (zI (z16_goalN))])), (q_t, .inl (cT, 8192, .inl (fun j : Nat => zI (a_t (j : Int)))))]) (cx := [(h0, .inr (14, [.ref q_t, .int (zI (z16_n)), .int (zI (z16_at)), .int (zI (z16_kind)), .int (zI (z16_place)), .int (zI (z16_value)), .int (zI (z16_before)), .ref tx9, v16_8, v16_9, v16_10, .ref q_gp, .ref q_gs, .int (zI (z16_goalN))])), (q_t, .inl (cT, 8192, .inl (fun j : Nat => zI (a_t (j : Int)))))]) (wr := [(q_gp, .inl (cI, mg, .inl (fun j : Nat => zI (a_gp (j : Int))))), (q_gs, .inl (cI, ng, .inl (fun j : Nat => zI (a_gs (j : Int)))))]) (rx := [(h0, .inr (14, [.ref q_t, .int (zI (z16_n)), .int (zI (z16_at)), .int (zI (z16_kind)), .int (zI (z16_place)), .int (zI (z16_value)), .int (zI (z16_before)), .ref tx9, v16_8, v16_9, v16_10, .ref q_gp, .ref q_gs, .int (zI (z16_goalN))])), (q_t, .inl (cT, 8192, .inl (fun j : Nat => zI (a_t (j : Int)))))]) (pl := va_pl L (pE Pw_58)) (pl1 := va_pl L (pE Pw_58)) hP hD [2, 3] [0, 1] rfl rfl (by decide) (by decide) hk1 hFc hP1 hD1
      have hK := (hK.sub (tys' := [(cI, .int), (cO, .object "java/lang/Object"), (cZ, .boolean)]) [0, 1, 2] rfl).app hK1
      generalize H1 = H at hP hS ⊢
      have hP : va_P (dC, dI) vwQ ([(q_gp, .inl (cI, mg, .inl (fun j : Nat => zI (a_gp (j : Int))))), (q_gs, .inl (cI, ng, .inl (fun j : Nat => zI (a_gs (j : Int))))), (h0, .inr (14, [.ref q_t, .int (zI (z16_n)), .int (zI (z16_at)), .int (zI (z16_kind)), .int (zI (z16_place)), .int (zI (z16_value)), .int (zI (z16_before)), .ref tx9, v16_8, v16_9, v16_10, .ref q_gp, .ref q_gs, .int (zI (z16_goalN))])), (q_t, .inl (cT, 8192, .inl (fun j : Nat => zI (a_t (j : Int)))))] ++ va_pl L (pE Pw_58)) H := hP
      have hD : va_D A ([(q_gp, .inl (cI, mg, .inl (fun j : Nat => zI (a_gp (j : Int))))), (q_gs, .inl (cI, ng, .inl (fun j : Nat => zI (a_gs (j : Int))))), (h0, .inr (14, [.ref q_t, .int (zI (z16_n)), .int (zI (z16_at)), .int (zI (z16_kind)), .int (zI (z16_place)), .int (zI (z16_value)), .int (zI (z16_before)), .ref tx9, v16_8, v16_9, v16_10, .ref q_gp, .ref q_gs, .int (zI (z16_goalN))])), (q_t, .inl (cT, 8192, .inl (fun j : Nat => zI (a_t (j : Int)))))] ++ va_pl L (pE Pw_58)) := hD
      have hK : va_K (dC, dI) vwQ [(cI, .int), (cO, .object "java/lang/Object"), (cZ, .boolean), (cT, .byte)] s := hK
      refine W.widen (k := 0) (n := 0) (Nat.le_of_ble_eq_true rfl) (Nat.le_of_ble_eq_true rfl) ?_
      have hw_84 := hw
      obtain ⟨z_85, rfl, hzz_85⟩ := hw_84
      skip
      refine lv_if_eq (tgt := 140) hx hb dX16_end_118 (by decide) (fun b118 => ?_) (fun b118 => ?_)
      · have yb118 : (z_85 : Int) = (0 : Int) := (zI_eq (a := z_85) (b := 0) (by omega) (by omega) (by omega) (by omega)).mp b118
        refine lv_aload_n hx hb dX16_end_140 rfl (lv_at hl 1 rfl) ?_
        have hPc := hP.sub (ws' := [(h0, .inr (14, [.ref q_t, .int (zI (z16_n)), .int (zI (z16_at)), .int (zI (z16_kind)), .int (zI (z16_place)), .int (zI (z16_value)), .int (zI (z16_before)), .ref tx9, v16_8, v16_9, v16_10, .ref q_gp, .ref q_gs, .int (zI (z16_goalN))]))]) [2] rfl
        have hDc := hD.sub (ws' := [(h0, .inr (14, [.ref q_t, .int (zI (z16_n)), .int (zI (z16_at)), .int (zI (z16_kind)), .int (zI (z16_place)), .int (zI (z16_value)), .int (zI (z16_before)), .ref tx9, v16_8, v16_9, v16_10, .ref q_gp, .ref q_gs, .int (zI (z16_goalN))]))]) [2] (by decide) rfl
        have hKc := hK.sub (tys' := []) [] rfl
        have hFc := va_free (wc := [(h0, .inr (14, [.ref q_t, .int (zI (z16_n)), .int (zI (z16_at)), .int (zI (z16_kind)), .int (zI (z16_place)), .int (zI (z16_value)), .int (zI (z16_before)), .ref tx9, v16_8, v16_9, v16_10, .ref q_gp, .ref q_gs, .int (zI (z16_goalN))]))]) hD hS hA [2] rfl
        refine va_callr (va_runV (As := []) (rest := []) ⟨hx, hb, hml, hown, hts⟩ (c_X16_no l dC dI h0 (.ref q_t) (.int (zI (z16_n))) (.int (zI (z16_at))) (.int (zI (z16_kind))) z16_place (.int (zI (z16_value))) (.int (zI (z16_before))) (.ref tx9) v16_8 v16_9 v16_10 (.ref q_gp) (.ref q_gs) (.int (zI (z16_goalN))) (by omega) H.size) (cwV 0 hts g_X16_endR_X16_no rfl rfl rfl (by decide +kernel) ⟨(Nat.le_of_ble_eq_true rfl), (Nat.le_of_ble_eq_true rfl)⟩) ⟨fun a U g mk q => by obtain ⟨q0, q1, qP, qK, qD, e0, e1⟩ := q; exact ⟨q0, q1, qP, va_K.moved (u := U) (U := U.calling g mk a) (Vm.Alike.refl U.vm) qK, qD, vx_Zq.moved (u := U) (U := U.calling g mk a) (Vm.Alike.refl U.vm) e0, vx_Zq.moved (u := U) (U := U.calling g mk a) (Vm.Alike.refl U.vm) e1⟩, va_recv hKc hPc (ci := 14) (q0 := 0) rfl rfl, fun U hU hW => ⟨rfl, by rw [hU], by rw [hU]; exact hPc, va_K.moved hW.alike hKc, hDc.weaken (fun _ _ _ _ => trivial), vx_Zq.go hp8 hS hFc hU hW.alike, vx_Zq.go hp9 hS hFc hU hW.alike⟩⟩ rfl rfl hl.1 rfl (lv_room (Nat.le_of_ble_eq_true rfl)) dX16_end_141 ⟨(show 0 + 1 ≤ (8 * (z16_n - z16_place) + 4 * z16_goalN + 120).toNat from (rmW (by omega))), (show 0 + 7 ≤ (40 * (z16_n - z16_place) + 16 * z16_goalN + 700).toNat from (rmW (by omega)))⟩) hS (fun q _ h => hFc q h) hFc (fun u q_86 t H1 locs ht hvm hw hB hz1 hk1 hS => ?_)
        obtain ⟨zq_87, hxt_87, hP1, hK1, hD1⟩ := hB
        rw [ht] at hP1
        have hK1 := va_K.moved hvm.symm hK1
        obtain ⟨hP, hD⟩ := va_joinQ (X := [(q_gp, .inl (cI, mg, .inl (fun j : Nat => zI (a_gp (j : Int))))), (q_gs, .inl (cI, ng, .inl (fun j : Nat => zI (a_gs (j : Int))))), (h0, .inr (14, [.ref q_t, .int (zI (z16_n)), .int (zI (z16_at)), .int (zI (z16_kind)), .int (zI (z16_place)), .int (zI (z16_value)), .int (zI (z16_before)), .ref tx9, v16_8, v16_9, v16_10, .ref q_gp, .ref q_gs, .int (zI (z16_goalN))])), (q_t, .inl (cT, 8192, .inl (fun j : Nat => zI (a_t (j : Int)))))]) (cx := [(h0, .inr (14, [.ref q_t, .int (zI (z16_n)), .int (zI (z16_at)), .int (zI (z16_kind)), .int (zI (z16_place)), .int (zI (z16_value)), .int (zI (z16_before)), .ref tx9, v16_8, v16_9, v16_10, .ref q_gp, .ref q_gs, .int (zI (z16_goalN))]))]) (wr := [(q_gp, .inl (cI, mg, .inl (fun j : Nat => zI (a_gp (j : Int))))), (q_gs, .inl (cI, ng, .inl (fun j : Nat => zI (a_gs (j : Int))))), (q_t, .inl (cT, 8192, .inl (fun j : Nat => zI (a_t (j : Int)))))]) (w1 := [(h0, .inr (14, [.ref q_t, .int (zI (z16_n)), .int (zI (z16_at)), .int (zI (z16_kind)), .int (zI (z16_place)), .int (zI (z16_value)), .int (zI (z16_before)), .ref tx9, v16_8, v16_9, v16_10, .ref q_gp, .ref q_gs, .int (zI (z16_goalN))])), (q_86, .inr (15, [.null, .null, .null, .null, .null, .int 0, .int (zI (zq_87))]))]) (pl := va_pl L (pE Pw_58)) hP hD [2] [0, 1, 3] rfl rfl (by decide) (by decide) hk1 hFc hP1 hD1
        have hK := (hK.sub (tys' := [(cI, .int), (cO, .object "java/lang/Object"), (cZ, .boolean), (cT, .byte)]) [0, 1, 2, 3] rfl).app hK1
        generalize H1 = H at hP hS ⊢
        have hP : va_P (dC, dI) vwQ ([(q_gp, .inl (cI, mg, .inl (fun j : Nat => zI (a_gp (j : Int))))), (q_gs, .inl (cI, ng, .inl (fun j : Nat => zI (a_gs (j : Int))))), (q_t, .inl (cT, 8192, .inl (fun j : Nat => zI (a_t (j : Int))))), (h0, .inr (14, [.ref q_t, .int (zI (z16_n)), .int (zI (z16_at)), .int (zI (z16_kind)), .int (zI (z16_place)), .int (zI (z16_value)), .int (zI (z16_before)), .ref tx9, v16_8, v16_9, v16_10, .ref q_gp, .ref q_gs, .int (zI (z16_goalN))])), (q_86, .inr (15, [.null, .null, .null, .null, .null, .int 0, .int (zI (zq_87))]))] ++ va_pl L (pE Pw_58)) H := hP
        have hD : va_D A ([(q_gp, .inl (cI, mg, .inl (fun j : Nat => zI (a_gp (j : Int))))), (q_gs, .inl (cI, ng, .inl (fun j : Nat => zI (a_gs (j : Int))))), (q_t, .inl (cT, 8192, .inl (fun j : Nat => zI (a_t (j : Int))))), (h0, .inr (14, [.ref q_t, .int (zI (z16_n)), .int (zI (z16_at)), .int (zI (z16_kind)), .int (zI (z16_place)), .int (zI (z16_value)), .int (zI (z16_before)), .ref tx9, v16_8, v16_9, v16_10, .ref q_gp, .ref q_gs, .int (zI (z16_goalN))])), (q_86, .inr (15, [.null, .null, .null, .null, .null, .int 0, .int (zI (zq_87))]))] ++ va_pl L (pE Pw_58)) := hD
        have hK : va_K (dC, dI) vwQ [(cI, .int), (cO, .object "java/lang/Object"), (cZ, .boolean), (cT, .byte)] s := hK
        refine W.widen (k := 1) (n := 7) (Nat.le_of_ble_eq_true rfl) (Nat.le_of_ble_eq_true rfl) ?_
        subst hQ
        obtain ⟨ce9, h91, h92, h93⟩ := vy_cell (C := RX18) (T := TX18) (N := 7) hK hP (k := 4) rfl rfl
        have hP := hP.part (X := [(q_gp, .inl (cI, mg, .inl (fun j : Nat => zI (a_gp (j : Int))))), (q_gs, .inl (cI, ng, .inl (fun j : Nat => zI (a_gs (j : Int))))), (q_t, .inl (cT, 8192, .inl (fun j : Nat => zI (a_t (j : Int))))), (h0, .inr (14, [.ref q_t, .int (zI (z16_n)), .int (zI (z16_at)), .int (zI (z16_kind)), .int (zI (z16_place)), .int (zI (z16_value)), .int (zI (z16_before)), .ref tx9, v16_8, v16_9, v16_10, .ref q_gp, .ref q_gs, .int (zI (z16_goalN))])), (q_86, .inr (15, [.null, .null, .null, .null, .null, .int 0, .int (zI (zq_87))]))]) (cx := [(q_t, .inl (cT, 8192, .inl (fun j : Nat => zI (a_t (j : Int))))), (q_86, .inr (15, [.null, .null, .null, .null, .null, .int 0, .int (zI (zq_87))]))]) (pl := va_pl L (pE Pw_58)) [2, 4] rfl
        have hD := hD.part (X := [(q_gp, .inl (cI, mg, .inl (fun j : Nat => zI (a_gp (j : Int))))), (q_gs, .inl (cI, ng, .inl (fun j : Nat => zI (a_gs (j : Int))))), (q_t, .inl (cT, 8192, .inl (fun j : Nat => zI (a_t (j : Int))))), (h0, .inr (14, [.ref q_t, .int (zI (z16_n)), .int (zI (z16_at)), .int (zI (z16_kind)), .int (zI (z16_place)), .int (zI (z16_value)), .int (zI (z16_before)), .ref tx9, v16_8, v16_9, v16_10, .ref q_gp, .ref q_gs, .int (zI (z16_goalN))])), (q_86, .inr (15, [.null, .null, .null, .null, .null, .int 0, .int (zI (zq_87))]))]) (cx := [(q_t, .inl (cT, 8192, .inl (fun j : Nat => zI (a_t (j : Int))))), (q_86, .inr (15, [.null, .null, .null, .null, .null, .int 0, .int (zI (zq_87))]))]) (pl := va_pl L (pE Pw_58)) [2, 4] (by decide) rfl
        refine W_knowS (fun hrm9 => ?_)
        refine W.widen (k := ((8 * (z16_n - z16_place) + 4 * z16_goalN + 120).toNat)) (n := ((40 * (z16_n - z16_place) + 16 * z16_goalN + 700).toNat)) (rmW (by omega)) (rmW (by omega)) ?_
        exact vy_athrow hx hb (fun x9 h9 => (hnt x9 h9).elim) hlocks h91 h92 h93 (fun t ht hvm => ⟨(), trivial, ⟨rfl, zq_87, L, Pw_58, 1, 7, ⟨⟨(by rw [ht, ← hp10]; exact hrm9), (by omega)⟩, ⟨(by omega), ⟨hA_71, hak_65, (hcx_75.cpa hg00.owa (fun z _ q => by rcases (show z = xb ∨ z = P.be xb from q) with q | q; rw [q, hX_bk]; decide; rw [q, (hg00.gb hX_b hX_bk).1.2.1]; decide))⟩⟩⟩, by rw [ht]; exact hP, hD⟩, hS.F ht⟩) hS.2.2 (Nat.le_refl _) (Nat.le_refl _) dX16_end_144
      · have yb118 : ¬ (z_85 : Int) = (0 : Int) := fun q => b118 ((zI_eq (a := z_85) (b := 0) (by omega) (by omega) (by omega) (by omega)).mpr q)
        have hni9 := TKQ.is hX_tn (hzz_85.2.2.2 (by omega))
        skip
        refine lv_aload_n hx hb dX16_end_121 rfl (lv_at hl 1 rfl) ?_
        have hPc := hP.part (X := [(q_gp, .inl (cI, mg, .inl (fun j : Nat => zI (a_gp (j : Int))))), (q_gs, .inl (cI, ng, .inl (fun j : Nat => zI (a_gs (j : Int))))), (h0, .inr (14, [.ref q_t, .int (zI (z16_n)), .int (zI (z16_at)), .int (zI (z16_kind)), .int (zI (z16_place)), .int (zI (z16_value)), .int (zI (z16_before)), .ref tx9, v16_8, v16_9, v16_10, .ref q_gp, .ref q_gs, .int (zI (z16_goalN))])), (q_t, .inl (cT, 8192, .inl (fun j : Nat => zI (a_t (j : Int)))))]) (cx := [(h0, .inr (14, [.ref q_t, .int (zI (z16_n)), .int (zI (z16_at)), .int (zI (z16_kind)), .int (zI (z16_place)), .int (zI (z16_value)), .int (zI (z16_before)), .ref tx9, v16_8, v16_9, v16_10, .ref q_gp, .ref q_gs, .int (zI (z16_goalN))])), (q_t, .inl (cT, 8192, .inl (fun j : Nat => zI (a_t (j : Int)))))]) (pl := va_pl L (pE Pw_58)) [2, 3] rfl
        have hDc := hD.part (X := [(q_gp, .inl (cI, mg, .inl (fun j : Nat => zI (a_gp (j : Int))))), (q_gs, .inl (cI, ng, .inl (fun j : Nat => zI (a_gs (j : Int))))), (h0, .inr (14, [.ref q_t, .int (zI (z16_n)), .int (zI (z16_at)), .int (zI (z16_kind)), .int (zI (z16_place)), .int (zI (z16_value)), .int (zI (z16_before)), .ref tx9, v16_8, v16_9, v16_10, .ref q_gp, .ref q_gs, .int (zI (z16_goalN))])), (q_t, .inl (cT, 8192, .inl (fun j : Nat => zI (a_t (j : Int)))))]) (cx := [(h0, .inr (14, [.ref q_t, .int (zI (z16_n)), .int (zI (z16_at)), .int (zI (z16_kind)), .int (zI (z16_place)), .int (zI (z16_value)), .int (zI (z16_before)), .ref tx9, v16_8, v16_9, v16_10, .ref q_gp, .ref q_gs, .int (zI (z16_goalN))])), (q_t, .inl (cT, 8192, .inl (fun j : Nat => zI (a_t (j : Int)))))]) (pl := va_pl L (pE Pw_58)) [2, 3] (by decide) rfl
        have hKc := hK.sub (tys' := [(cT, .byte)]) [3] rfl
        have hFc := va_freeP (X := [(q_gp, .inl (cI, mg, .inl (fun j : Nat => zI (a_gp (j : Int))))), (q_gs, .inl (cI, ng, .inl (fun j : Nat => zI (a_gs (j : Int))))), (h0, .inr (14, [.ref q_t, .int (zI (z16_n)), .int (zI (z16_at)), .int (zI (z16_kind)), .int (zI (z16_place)), .int (zI (z16_value)), .int (zI (z16_before)), .ref tx9, v16_8, v16_9, v16_10, .ref q_gp, .ref q_gs, .int (zI (z16_goalN))])), (q_t, .inl (cT, 8192, .inl (fun j : Nat => zI (a_t (j : Int)))))]) (cx := [(h0, .inr (14, [.ref q_t, .int (zI (z16_n)), .int (zI (z16_at)), .int (zI (z16_kind)), .int (zI (z16_place)), .int (zI (z16_value)), .int (zI (z16_before)), .ref tx9, v16_8, v16_9, v16_10, .ref q_gp, .ref q_gs, .int (zI (z16_goalN))])), (q_t, .inl (cT, 8192, .inl (fun j : Nat => zI (a_t (j : Int)))))]) (pl := va_pl L (pE Pw_58)) hD hS hA [2, 3] rfl
        refine W_knowS (fun hrmA => ?_)
        refine va_callv (va_runV (As := []) (rest := []) ⟨hx, hb, hml, hown, hts⟩ (c_X16_nextK l dC dI h0 z16_n z16_at z16_kind z16_place z16_value z16_before (.ref tx9) v16_8 v16_9 v16_10 (.ref q_gp) (.ref q_gs) (.int (zI (z16_goalN))) q_t cT a_t L Pw_58 sa_RX16_9 (by omega) (by omega) (by omega) (by omega) (by omega) (by omega) hR_a_t (by omega) H.size sa_RX16_9 H sv_RX16_9 sa_RX16_119 sv_RX16_119 sa_RX16_100 sv_RX16_100 sa_RX16_117 sa_RX16_100 sv_RX16_117 sa_RX16_98 sv_RX16_98) (cwV 0 hts g_X16_endR_X16_nextK rfl rfl rfl (by decide +kernel) ⟨(Nat.le_of_ble_eq_true rfl), (Nat.le_of_ble_eq_true rfl)⟩) ⟨fun a U g mk q => by obtain ⟨q0, q1, qP, qK, qD, e0, e1, e2, e3, e4, e5, e6, e7, e8, e9, e10, e11, e12⟩ := q; exact ⟨q0, q1, qP, va_K.moved (u := U) (U := U.calling g mk a) (Vm.Alike.refl U.vm) qK, qD, vk_R.same (u := U) (U := U.calling g mk a) rfl e0, e1, va_Z.moved (u := U) (U := U.calling g mk a) (Vm.Alike.refl U.vm) e2, vs_S.moved (u := U) (U := U.calling g mk a) (Vm.Alike.refl U.vm) e3, va_Nw.same rfl (u := U) (U := U.calling g mk a) rfl e4, vk_R.same (u := U) (U := U.calling g mk a) rfl e5, vs_S.moved (u := U) (U := U.calling g mk a) (Vm.Alike.refl U.vm) e6, vs_S.moved (u := U) (U := U.calling g mk a) (Vm.Alike.refl U.vm) e7, vk_R.same (u := U) (U := U.calling g mk a) rfl e8, vk_R.same (u := U) (U := U.calling g mk a) rfl e9, vs_S.moved (u := U) (U := U.calling g mk a) (Vm.Alike.refl U.vm) e10, vk_R.same (u := U) (U := U.calling g mk a) rfl e11, vs_S.moved (u := U) (U := U.calling g mk a) (Vm.Alike.refl U.vm) e12⟩, va_recv hKc hPc (ci := 14) (q0 := 0) rfl rfl, fun U hU hW => ⟨rfl, by rw [hU], by rw [hU]; exact hPc, va_K.moved hW.alike hKc, hDc.weaken (fun _ _ _ _ => trivial), vk_R.warm hW hp11, hU, va_Z.go hp3 hS hFc hU hW.alike, vs_S.go hp2 hS hFc hU hW.alike, va_Nw.warmC hW hp12, vk_R.warm hW hp13, vs_S.go hp14 hS hFc hU hW.alike, vs_S.go hp15 hS hFc hU hW.alike, vk_R.warm hW hp16, vk_R.warm hW hp17, vs_S.go hp18 hS hFc hU hW.alike, vk_R.warm hW hp19, vs_S.go hp20 hS hFc hU hW.alike⟩⟩ rfl rfl hl.1 rfl (lv_room (Nat.le_of_ble_eq_true rfl)) dX16_end_122 ⟨(show 0 + ((z16_n - z16_at + 20).toNat) ≤ (8 * (z16_n - z16_place) + 4 * z16_goalN + 120).toNat from (rmT (by omega) (by omega))), (show 0 + ((10 * (z16_n - z16_at) + 120).toNat) ≤ (40 * (z16_n - z16_place) + 16 * z16_goalN + 700).toNat from (rmT (by omega) (by omega)))⟩) hS (fun q _ h => hFc q h) hFc (fun  u t H1 locs ht hvm hw hB hz1 hk1 hS => ?_)
        obtain ⟨z0_88, z1_89, z2_90, z3_91, z4_92, q5_93, Ln_94, Pn_95, kc_96, ks_97, hxt_97, hP1, hK1, hD1⟩ := hB
        rw [ht] at hP1
        have hK1 := va_K.moved hvm.symm hK1
        obtain ⟨hP, hD⟩ := va_joinP (X := [(q_gp, .inl (cI, mg, .inl (fun j : Nat => zI (a_gp (j : Int))))), (q_gs, .inl (cI, ng, .inl (fun j : Nat => zI (a_gs (j : Int))))), (h0, .inr (14, [.ref q_t, .int (zI (z16_n)), .int (zI (z16_at)), .int (zI (z16_kind)), .int (zI (z16_place)), .int (zI (z16_value)), .int (zI (z16_before)), .ref tx9, v16_8, v16_9, v16_10, .ref q_gp, .ref q_gs, .int (zI (z16_goalN))])), (q_t, .inl (cT, 8192, .inl (fun j : Nat => zI (a_t (j : Int)))))]) (cx := [(h0, .inr (14, [.ref q_t, .int (zI (z16_n)), .int (zI (z16_at)), .int (zI (z16_kind)), .int (zI (z16_place)), .int (zI (z16_value)), .int (zI (z16_before)), .ref tx9, v16_8, v16_9, v16_10, .ref q_gp, .ref q_gs, .int (zI (z16_goalN))])), (q_t, .inl (cT, 8192, .inl (fun j : Nat => zI (a_t (j : Int)))))]) (wr := [(q_gp, .inl (cI, mg, .inl (fun j : Nat => zI (a_gp (j : Int))))), (q_gs, .inl (cI, ng, .inl (fun j : Nat => zI (a_gs (j : Int)))))]) (rx := [(h0, .inr (14, [.ref q_t, .int (zI (z16_n)), .int (zI (z0_88)), .int (zI (z1_89)), .int (zI (z2_90)), .int (zI (z3_91)), .int (zI (z4_92)), .ref q5_93, v16_8, v16_9, v16_10, .ref q_gp, .ref q_gs, .int (zI (z16_goalN))])), (q_t, .inl (cT, 8192, .inl (fun j : Nat => zI (a_t (j : Int)))))]) (pl := va_pl L (pE Pw_58)) (pl1 := va_pl Ln_94 (pE Pn_95)) hP hD [2, 3] [0, 1] rfl rfl (by decide) (by decide) hk1 hFc hP1 hD1
        have hK := (hK.sub (tys' := [(cI, .int), (cO, .object "java/lang/Object"), (cZ, .boolean)]) [0, 1, 2] rfl).app hK1
        have hrmC := hxt_97.1.1
        rw [ht] at hrmC
        refine W_tightS (hrmA.trans hrmC) ?_
        have hrb := hxt_97.1.2
        generalize H1 = H at hP hS ⊢
        have hP : va_P (dC, dI) vwQ ([(q_gp, .inl (cI, mg, .inl (fun j : Nat => zI (a_gp (j : Int))))), (q_gs, .inl (cI, ng, .inl (fun j : Nat => zI (a_gs (j : Int))))), (h0, .inr (14, [.ref q_t, .int (zI (z16_n)), .int (zI (z0_88)), .int (zI (z1_89)), .int (zI (z2_90)), .int (zI (z3_91)), .int (zI (z4_92)), .ref q5_93, v16_8, v16_9, v16_10, .ref q_gp, .ref q_gs, .int (zI (z16_goalN))])), (q_t, .inl (cT, 8192, .inl (fun j : Nat => zI (a_t (j : Int)))))] ++ va_pl Ln_94 (pE Pn_95)) H := hP
        have hD : va_D A ([(q_gp, .inl (cI, mg, .inl (fun j : Nat => zI (a_gp (j : Int))))), (q_gs, .inl (cI, ng, .inl (fun j : Nat => zI (a_gs (j : Int))))), (h0, .inr (14, [.ref q_t, .int (zI (z16_n)), .int (zI (z0_88)), .int (zI (z1_89)), .int (zI (z2_90)), .int (zI (z3_91)), .int (zI (z4_92)), .ref q5_93, v16_8, v16_9, v16_10, .ref q_gp, .ref q_gs, .int (zI (z16_goalN))])), (q_t, .inl (cT, 8192, .inl (fun j : Nat => zI (a_t (j : Int)))))] ++ va_pl Ln_94 (pE Pn_95)) := hD
        have hK : va_K (dC, dI) vwQ [(cI, .int), (cO, .object "java/lang/Object"), (cZ, .boolean), (cT, .byte)] s := hK
        refine W.widen (k := (0 + kc_96)) (n := (0 + ks_97)) (by omega) (by omega) ?_
        obtain ⟨rk_98, rk_99, rk_100, rk_101, rk_102, hu_102⟩ := hxt_97.2
        have htk_103 := hu_102.1.2
        have hrg_103 := hu_102.1.1
        have htq_103 := htk_103.1
        have hkd_108 := hu_102.2.1
        have hX_kv := hkd_108.2
        have hu_104 := hu_102.2.2
        have hex_105 : EXT9 L Pw_58 Ln_94 Pn_95 := hu_104.1
        have hke_106 : KEG [] L Pw_58 Ln_94 Pn_95 := hex_105.kegR hak_65
        have hak_107 : GLR Ln_94 Pn_95 cO cI cZ sx_ed := hak_65.txt hex_105 hu_104.2.1
        have hsm_109 := (hex_105 xb hq_68.1).2
        have : Pn_95.bf xb = Pw_58.bf xb := hsm_109.1 0
        have : Pn_95.bs xb = Pw_58.bs xb := hsm_109.1 1
        have hsm_110 := (hex_105 pr_2 hq_69.1).2
        have : Pn_95.ro pr_2 = Pw_58.ro pr_2 := hsm_110.1 0
        have : Pn_95.rt pr_2 = Pw_58.rt pr_2 := hsm_110.1 1
        have : Pn_95.ra pr_2 = Pw_58.ra pr_2 := hsm_110.1 2
        have : Pn_95.rb pr_2 = Pw_58.rb pr_2 := hsm_110.1 3
        have : Pn_95.rA pr_2 = Pw_58.rA pr_2 := hsm_110.1 4
        have : Pn_95.rB pr_2 = Pw_58.rB pr_2 := hsm_110.1 5
        have : Pn_95.rg pr_2 = Pw_58.rg pr_2 := hsm_110.1 6
        have : Pn_95.ek pr_2 = Pw_58.ek pr_2 := hsm_110.2.1 8
        have hq_111 : HID (la ∈ Ln_94 ∧ Pn_95.kd la = 30) := hke_106.mem hq_67.1 hq_67.2 (by decide)
        have hq_112 : HID (xb ∈ Ln_94 ∧ Pn_95.kd xb = 12) := hke_106.mem hq_68.1 hq_68.2 (by decide)
        have hq_113 : HID (pr_2 ∈ Ln_94 ∧ Pn_95.kd pr_2 = 17) := hke_106.mem hq_69.1 hq_69.2 (by decide)
        have ha_114 : HID (Pn_95.be xb = pr_2) := hke_106.be hq_68.1 hq_68.2 ha_70.out
        have hA_115 : KEG [] L P Ln_94 Pn_95 := hA_71.trans hke_106
        have : Pn_95.lz la = Pw_58.lz la := (hex_105 la hq_67.1).2.1 0
        have hek_116 : HID (Pn_95.ek la = 12) := (by rw [hke_106.ek hq_67.1 hq_67.2 (by decide)]; exact hek_72.out)
        have how_117 : HID (Pn_95.ow la = la) := ((hke_106.1 la hq_67.1 (by rw [hq_67.2]; decide)).2.2.2.1 hq_67.2 how_73.out).1
        have hcz := (((hke_106.1 la hq_67.1 (by rw [hq_67.2]; decide)).2.2.2.1 hq_67.2 how_73.out).2 (by simp)).1
        have hE_118 : HID (Pn_95.ek pr_2 = 1) := (by rw [hke_106.ek hq_69.1 hq_69.2 (by decide)]; exact hE_74.out)
        have hX_tx := hu_104.2.2.1
        have hxk9 := hu_104.2.2.2
        have hcx_119 : CHG (fun z => z = xb ∨ z = P.be xb) L P Ln_94 Pn_95 := hcx_75.trans hex_105.chg (fun z m q => q.elim)
        have hnn_103 := TKV.nn (k := z1_89) (d := z0_88 - z2_90) (by omega)
        have hri_120 : (((0 + ks_97) : Nat) : Int) ≤ 40 * (z2_90 - z16_place) - TKV z16_kind (z16_at - z16_place) + TKV (z1_89) (z0_88 - z2_90) + 40 ∧ (((0 + kc_96) : Nat) : Int) ≤ 8 * (z2_90 - z16_place) - TKW z16_kind (z16_at - z16_place) + TKW (z1_89) (z0_88 - z2_90) + 5 := (by omega)
        clear hrb
        skip
        refine lv_aload_n hx hb dX16_end_125 rfl (lv_at hl 0 rfl) ?_
        refine lv_bipush (v := 32) hx hb dX16_end_126 (by decide) ?_
        have hr7 := (hak_107.rokR hq_113.1 hq_113.2).n7
        refine lv_topi (fun z ez => ?_)
        obtain rfl : z = zI (32) := ez
        obtain ⟨kp_121, gkp_121⟩ := va_pl_get (X := [(q_gp, .inl (cI, mg, .inl (fun j : Nat => zI (a_gp (j : Int))))), (q_gs, .inl (cI, ng, .inl (fun j : Nat => zI (a_gs (j : Int))))), (h0, .inr (14, [.ref q_t, .int (zI (z16_n)), .int (zI (z0_88)), .int (zI (z1_89)), .int (zI (z2_90)), .int (zI (z3_91)), .int (zI (z4_92)), .ref q5_93, v16_8, v16_9, v16_10, .ref q_gp, .ref q_gs, .int (zI (z16_goalN))])), (q_t, .inl (cT, 8192, .inl (fun j : Nat => zI (a_t (j : Int)))))]) (f := pE Pn_95) hq_113.1
        have hkp_121 := gkp_121
        rw [pE_row hq_113.2] at hkp_121
        have hD0 := hD
        refine va_put (D := (dC, dI)) (ci := 21) (v := .int (zI (32))) (ty := .int) (C := RX17) (T := TX17) (N := 7) hx hb hts mem_X16_endR_1 tyX17 tyX17_ok nmX17 hown hK hP hD hS kp_121 hkp_121 rfl 0 (by decide) (ow (k := 16) rfl) (fun _ h9 => h9) rfl (by decide +kernel) rfl rfl (by first | exact Nat.le_of_ble_eq_true rfl | exact (show (0 + kc_96) ≤ (8 * (z16_n - z16_place) + 4 * z16_goalN + 120).toNat from (rmW (by omega))) | exact (show (0 + ks_97) ≤ (40 * (z16_n - z16_place) + 16 * z16_goalN + 700).toNat from (rmW (by omega)))) dX16_end_128 (fun H locs hP hD hS => ?_)
        obtain ⟨Pw_122, ePw_122⟩ : ∃ q9 : PO, q9 = Pn_95.rw9 0 pr_2 (32) := ⟨_, rfl⟩
        have eU : (([(q_gp, .inl (cI, mg, .inl (fun j : Nat => zI (a_gp (j : Int))))), (q_gs, .inl (cI, ng, .inl (fun j : Nat => zI (a_gs (j : Int))))), (h0, .inr (14, [.ref q_t, .int (zI (z16_n)), .int (zI (z0_88)), .int (zI (z1_89)), .int (zI (z2_90)), .int (zI (z3_91)), .int (zI (z4_92)), .ref q5_93, v16_8, v16_9, v16_10, .ref q_gp, .ref q_gs, .int (zI (z16_goalN))])), (q_t, .inl (cT, 8192, .inl (fun j : Nat => zI (a_t (j : Int)))))] : va_W) ++ va_pl Ln_94 (pE Pn_95)).set kp_121 (pr_2, rowE (32) (Pn_95.rt pr_2) (Pn_95.ra pr_2) (Pn_95.rb pr_2) (Pn_95.rA pr_2) (Pn_95.rB pr_2) (Pn_95.rg pr_2)) = ([(q_gp, .inl (cI, mg, .inl (fun j : Nat => zI (a_gp (j : Int))))), (q_gs, .inl (cI, ng, .inl (fun j : Nat => zI (a_gs (j : Int))))), (h0, .inr (14, [.ref q_t, .int (zI (z16_n)), .int (zI (z0_88)), .int (zI (z1_89)), .int (zI (z2_90)), .int (zI (z3_91)), .int (zI (z4_92)), .ref q5_93, v16_8, v16_9, v16_10, .ref q_gp, .ref q_gs, .int (zI (z16_goalN))])), (q_t, .inl (cT, 8192, .inl (fun j : Nat => zI (a_t (j : Int)))))] : va_W) ++ va_pl Ln_94 (pE Pw_122) := (by rw [va_pl_set hD0 hq_113.1 gkp_121, ePw_122]; exact congrArg (fun f9 => ([(q_gp, .inl (cI, mg, .inl (fun j : Nat => zI (a_gp (j : Int))))), (q_gs, .inl (cI, ng, .inl (fun j : Nat => zI (a_gs (j : Int))))), (h0, .inr (14, [.ref q_t, .int (zI (z16_n)), .int (zI (z0_88)), .int (zI (z1_89)), .int (zI (z2_90)), .int (zI (z3_91)), .int (zI (z4_92)), .ref q5_93, v16_8, v16_9, v16_10, .ref q_gp, .ref q_gs, .int (zI (z16_goalN))])), (q_t, .inl (cT, 8192, .inl (fun j : Nat => zI (a_t (j : Int)))))] : va_W) ++ va_pl Ln_94 f9) (put17_0 hq_113.2))
        have hP : va_P (dC, dI) vwQ ([(q_gp, .inl (cI, mg, .inl (fun j : Nat => zI (a_gp (j : Int))))), (q_gs, .inl (cI, ng, .inl (fun j : Nat => zI (a_gs (j : Int))))), (h0, .inr (14, [.ref q_t, .int (zI (z16_n)), .int (zI (z0_88)), .int (zI (z1_89)), .int (zI (z2_90)), .int (zI (z3_91)), .int (zI (z4_92)), .ref q5_93, v16_8, v16_9, v16_10, .ref q_gp, .ref q_gs, .int (zI (z16_goalN))])), (q_t, .inl (cT, 8192, .inl (fun j : Nat => zI (a_t (j : Int)))))] ++ va_pl Ln_94 (pE Pw_122)) H := (by rw [← eU]; exact hP)
        have hD : va_D A ([(q_gp, .inl (cI, mg, .inl (fun j : Nat => zI (a_gp (j : Int))))), (q_gs, .inl (cI, ng, .inl (fun j : Nat => zI (a_gs (j : Int))))), (h0, .inr (14, [.ref q_t, .int (zI (z16_n)), .int (zI (z0_88)), .int (zI (z1_89)), .int (zI (z2_90)), .int (zI (z3_91)), .int (zI (z4_92)), .ref q5_93, v16_8, v16_9, v16_10, .ref q_gp, .ref q_gs, .int (zI (z16_goalN))])), (q_t, .inl (cT, 8192, .inl (fun j : Nat => zI (a_t (j : Int)))))] ++ va_pl Ln_94 (pE Pw_122)) := (by rw [← eU]; exact hD)
        clear eU hD0 gkp_121 hkp_121
        have wPw_122 : RW1 pr_2 Pn_95 Pw_122 := (by rw [ePw_122]; exact RW1.put _ _ _ _)
        have hy_123 : Pw_122.kd la = 30 := (by rw [ePw_122]; exact hq_111.2)
        have hy_124 : Pw_122.kd xb = 12 := (by rw [ePw_122]; exact hq_112.2)
        have : Pw_122.bf xb = Pn_95.bf xb := wPw_122.2 _ (kd_ne hq_112.2 hq_113.2 (by decide)) _
        have : Pw_122.bs xb = Pn_95.bs xb := wPw_122.2 _ (kd_ne hq_112.2 hq_113.2 (by decide)) _
        have hy_125 : Pw_122.kd pr_2 = 17 := (by rw [ePw_122]; exact hq_113.2)
        have : Pw_122.ro pr_2 = 32 := (by rw [ePw_122]; exact rw9_at _ _ _ _)
        have : Pw_122.rt pr_2 = Pn_95.rt pr_2 := (by rw [ePw_122]; exact rw9_of _ (by decide))
        have : Pw_122.ra pr_2 = Pn_95.ra pr_2 := (by rw [ePw_122]; exact rw9_of _ (by decide))
        have : Pw_122.rb pr_2 = Pn_95.rb pr_2 := (by rw [ePw_122]; exact rw9_of _ (by decide))
        have : Pw_122.rA pr_2 = Pn_95.rA pr_2 := (by rw [ePw_122]; exact rw9_of _ (by decide))
        have : Pw_122.rB pr_2 = Pn_95.rB pr_2 := (by rw [ePw_122]; exact rw9_of _ (by decide))
        have : Pw_122.rg pr_2 = Pn_95.rg pr_2 := (by rw [ePw_122]; exact rw9_of _ (by decide))
        have : Pw_122.ek pr_2 = Pn_95.ek pr_2 := (by rw [ePw_122]; rfl)
        have ha_126 : HID (Pw_122.be xb = pr_2) := (by rw [ePw_122]; exact ha_114.out)
        have hW_127 : RW1 pr_2 Pn_95 Pw_122 := wPw_122
        have hrw_130 : RWD Pn_95 Pw_122 := hW_127.rwd (Or.inl hq_113.2)
        have hak_129 : GLR Ln_94 Pw_122 cO cI cZ sx_ed := hak_107.row hW_127 hq_113.2 (ROKR.of (by omega) (by omega) (by omega) (by omega) (by omega) (by omega) (by omega) (uaZR (by omega)) (ubGR (by omega))) (fun e9 => absurd hE_118.out e9)
        have hke_128 : KEG [] Ln_94 Pn_95 Ln_94 Pw_122 := hrw_130.kegR _ hq_111.2
        have hq_131 : HID (la ∈ Ln_94 ∧ Pw_122.kd la = 30) := hke_128.mem hq_111.1 hq_111.2 (by decide)
        have hq_132 : HID (xb ∈ Ln_94 ∧ Pw_122.kd xb = 12) := hke_128.mem hq_112.1 hq_112.2 (by decide)
        have hq_133 : HID (pr_2 ∈ Ln_94 ∧ Pw_122.kd pr_2 = 17) := hke_128.mem hq_113.1 hq_113.2 (by decide)
        have ha_134 : HID (Pw_122.be xb = pr_2) := hke_128.be hq_112.1 hq_112.2 ha_114.out
        have hA_135 : KEG [] L P Ln_94 Pw_122 := hA_115.trans hke_128
        have : Pw_122.lz la = Pn_95.lz la := hrw_130.lz hq_111.2
        have : Pw_122.cap la = Pn_95.cap la := hW_127.cap la
        have hek_136 : HID (Pw_122.ek la = 12) := (by rw [hke_128.ek hq_111.1 hq_111.2 (by decide)]; exact hek_116.out)
        have how_137 : HID (Pw_122.ow la = la) := ((hke_128.1 la hq_111.1 (by rw [hq_111.2]; decide)).2.2.2.1 hq_111.2 how_117.out).1
        have hcz := (((hke_128.1 la hq_111.1 (by rw [hq_111.2]; decide)).2.2.2.1 hq_111.2 how_117.out).2 (by simp)).1
        have hE_138 : HID (Pw_122.ek pr_2 = 1) := (by rw [hke_128.ek hq_113.1 hq_113.2 (by decide)]; exact hE_118.out)
        have hX_tx := hX_tx.rw1R hW_127 (Or.inl hq_113.2)
        have hcx_139 : CHG (fun z => z = xb ∨ z = P.be xb) L P Ln_94 Pw_122 := hcx_119.trans (hW_127.chg _) (fun z m q => Or.inr (q.trans epr_2))
        have hsm_140 := (hW_127.chg Ln_94 xb hq_132.1 (fun e9 => absurd e9 (kd_ne hq_132.2 hq_133.2 (by decide)))).2
        have : Pw_122.bf xb = Pn_95.bf xb := hsm_140.1 0
        have : Pw_122.bs xb = Pn_95.bs xb := hsm_140.1 1
        refine lv_aload_n hx hb dX16_end_131 rfl (lv_at hl 1 rfl) ?_
        refine lv_aload_n hx hb dX16_end_132 rfl (lv_at hl 0 rfl) ?_
        refine lv_iconst (v := 0) hx hb dX16_end_133 (by decide) ?_
        have hX_tn := htk_103
        have hX_g := hak_129
        have hX_x := hq_133.1
        have hX_k := hq_133.2
        have hX_la := (show la ∈ Ln_94 ∧ Pw_122.kd la = 30 ∧ Pw_122.ek la = 12 ∧ Pw_122.ow la = la from ⟨hq_131.1, hq_131.2, hek_136.out, how_137.out⟩)
        have hPc := hP.part (X := [(q_gp, .inl (cI, mg, .inl (fun j : Nat => zI (a_gp (j : Int))))), (q_gs, .inl (cI, ng, .inl (fun j : Nat => zI (a_gs (j : Int))))), (h0, .inr (14, [.ref q_t, .int (zI (z16_n)), .int (zI (z0_88)), .int (zI (z1_89)), .int (zI (z2_90)), .int (zI (z3_91)), .int (zI (z4_92)), .ref q5_93, v16_8, v16_9, v16_10, .ref q_gp, .ref q_gs, .int (zI (z16_goalN))])), (q_t, .inl (cT, 8192, .inl (fun j : Nat => zI (a_t (j : Int)))))]) (cx := [(h0, .inr (14, [.ref q_t, .int (zI (z16_n)), .int (zI (z0_88)), .int (zI (z1_89)), .int (zI (z2_90)), .int (zI (z3_91)), .int (zI (z4_92)), .ref q5_93, v16_8, v16_9, v16_10, .ref q_gp, .ref q_gs, .int (zI (z16_goalN))])), (q_t, .inl (cT, 8192, .inl (fun j : Nat => zI (a_t (j : Int)))))]) (pl := va_pl Ln_94 (pE Pw_122)) [2, 3] rfl
        have hDc := hD.part (X := [(q_gp, .inl (cI, mg, .inl (fun j : Nat => zI (a_gp (j : Int))))), (q_gs, .inl (cI, ng, .inl (fun j : Nat => zI (a_gs (j : Int))))), (h0, .inr (14, [.ref q_t, .int (zI (z16_n)), .int (zI (z0_88)), .int (zI (z1_89)), .int (zI (z2_90)), .int (zI (z3_91)), .int (zI (z4_92)), .ref q5_93, v16_8, v16_9, v16_10, .ref q_gp, .ref q_gs, .int (zI (z16_goalN))])), (q_t, .inl (cT, 8192, .inl (fun j : Nat => zI (a_t (j : Int)))))]) (cx := [(h0, .inr (14, [.ref q_t, .int (zI (z16_n)), .int (zI (z0_88)), .int (zI (z1_89)), .int (zI (z2_90)), .int (zI (z3_91)), .int (zI (z4_92)), .ref q5_93, v16_8, v16_9, v16_10, .ref q_gp, .ref q_gs, .int (zI (z16_goalN))])), (q_t, .inl (cT, 8192, .inl (fun j : Nat => zI (a_t (j : Int)))))]) (pl := va_pl Ln_94 (pE Pw_122)) [2, 3] (by decide) rfl
        have hKc := hK.sub (tys' := [(cT, .byte), (cO, .object "java/lang/Object"), (cI, .int), (cZ, .boolean)]) [3, 1, 0, 2] rfl
        have hFc := va_freeP (X := [(q_gp, .inl (cI, mg, .inl (fun j : Nat => zI (a_gp (j : Int))))), (q_gs, .inl (cI, ng, .inl (fun j : Nat => zI (a_gs (j : Int))))), (h0, .inr (14, [.ref q_t, .int (zI (z16_n)), .int (zI (z0_88)), .int (zI (z1_89)), .int (zI (z2_90)), .int (zI (z3_91)), .int (zI (z4_92)), .ref q5_93, v16_8, v16_9, v16_10, .ref q_gp, .ref q_gs, .int (zI (z16_goalN))])), (q_t, .inl (cT, 8192, .inl (fun j : Nat => zI (a_t (j : Int)))))]) (cx := [(h0, .inr (14, [.ref q_t, .int (zI (z16_n)), .int (zI (z0_88)), .int (zI (z1_89)), .int (zI (z2_90)), .int (zI (z3_91)), .int (zI (z4_92)), .ref q5_93, v16_8, v16_9, v16_10, .ref q_gp, .ref q_gs, .int (zI (z16_goalN))])), (q_t, .inl (cT, 8192, .inl (fun j : Nat => zI (a_t (j : Int)))))]) (pl := va_pl Ln_94 (pE Pw_122)) hD hS hA [2, 3] rfl
        refine W_knowS (fun hrmA => ?_)
        refine vx_callv (vx_runV (As := [.ref pr_2, .int 0]) (rest := []) ⟨hx, hb, hml, hown, hts⟩ (c_X16_opAR l dC dI cI cZ h0 z16_n z0_88 z1_89 z2_90 z3_91 z4_92 v16_8 v16_9 v16_10 (.ref q_gp) (.ref q_gs) (.int (zI (z16_goalN))) q_t cT a_t q5_93 Ln_94 Pw_122 sa_RX16_9 cO la sx_ed pr_2 (by omega) (by omega) (by omega) (by omega) (by omega) (by omega) hR_a_t hX_g hX_la hX_x hX_k (by omega) hX_kv hX_tn H.size sv_RX16_9 sa_RX16_119 sv_RX16_119 sa_RX16_100 sv_RX16_100 sa_RX16_117 sv_RX16_117 sa_RX16_98 sv_RX16_98 H) (cwV 2 hts g_X16_endR_X16_opAR rfl rfl rfl (by decide +kernel) ⟨(Nat.le_of_ble_eq_true rfl), (Nat.le_of_ble_eq_true rfl)⟩) ⟨fun a U g mk q => by obtain ⟨q0, q1, qP, qK, qD, e0, e1, e2, e3, e4, e5, e6, e7, e8, e9, e10, e11, e12, e13, e14⟩ := q; exact ⟨q0, q1, qP, va_K.moved (u := U) (U := U.calling g mk a) (Vm.Alike.refl U.vm) qK, qD, vk_R.same (u := U) (U := U.calling g mk a) rfl e0, va_Z.moved (u := U) (U := U.calling g mk a) (Vm.Alike.refl U.vm) e1, vs_S.moved (u := U) (U := U.calling g mk a) (Vm.Alike.refl U.vm) e2, va_Nw.same rfl (u := U) (U := U.calling g mk a) rfl e3, vk_R.same (u := U) (U := U.calling g mk a) rfl e4, vs_S.moved (u := U) (U := U.calling g mk a) (Vm.Alike.refl U.vm) e5, vs_S.moved (u := U) (U := U.calling g mk a) (Vm.Alike.refl U.vm) e6, vk_R.same (u := U) (U := U.calling g mk a) rfl e7, vk_R.same (u := U) (U := U.calling g mk a) rfl e8, vs_S.moved (u := U) (U := U.calling g mk a) (Vm.Alike.refl U.vm) e9, vk_R.same (u := U) (U := U.calling g mk a) rfl e10, vs_S.moved (u := U) (U := U.calling g mk a) (Vm.Alike.refl U.vm) e11, e12, vx_Zq.moved (u := U) (U := U.calling g mk a) (Vm.Alike.refl U.vm) e13, vx_Zq.moved (u := U) (U := U.calling g mk a) (Vm.Alike.refl U.vm) e14⟩, va_recv hKc hPc (ci := 14) (q0 := 0) rfl rfl, fun U hU hW => ⟨rfl, by rw [hU], by rw [hU]; exact hPc, va_K.moved hW.alike hKc, hDc.weaken (fun _ _ _ _ => trivial), vk_R.warm hW hp11, va_Z.go hp3 hS hFc hU hW.alike, vs_S.go hp2 hS hFc hU hW.alike, va_Nw.warmC hW hp12, vk_R.warm hW hp13, vs_S.go hp14 hS hFc hU hW.alike, vs_S.go hp15 hS hFc hU hW.alike, vk_R.warm hW hp16, vk_R.warm hW hp17, vs_S.go hp18 hS hFc hU hW.alike, vk_R.warm hW hp19, vs_S.go hp20 hS hFc hU hW.alike, hU, vx_Zq.go hp8 hS hFc hU hW.alike, vx_Zq.go hp9 hS hFc hU hW.alike⟩⟩ rfl rfl hl.1 rfl (lv_room (Nat.le_of_ble_eq_true rfl)) dX16_end_134 ⟨(show (0 + kc_96) + ((z16_n - z0_88 + 20).toNat) ≤ (8 * (z16_n - z16_place) + 4 * z16_goalN + 120).toNat from (rmT (by omega) (by omega))), (show (0 + ks_97) + ((10 * (z16_n - z0_88) + 120).toNat) ≤ (40 * (z16_n - z16_place) + 16 * z16_goalN + 700).toNat from (rmT (by omega) (by omega)))⟩) hS (fun q _ h => hFc q h) hFc (fun q _ h => hFc q h) (fun E ce q9 u t H1 locs ht hvm _ hB hz1 hk1 hS hce hcv hcl => ?_) (fun  u t H1 locs ht hvm hw hB hz1 hk1 hS => ?_)
        · obtain ⟨rfl, zp_141, Ln_142, Pn_143, kc_144, ks_145, hxt_146, hP1, hD1⟩ := hB
          rw [ht] at hP1
          obtain ⟨hP, hD⟩ := va_joinP (X := [(q_gp, .inl (cI, mg, .inl (fun j : Nat => zI (a_gp (j : Int))))), (q_gs, .inl (cI, ng, .inl (fun j : Nat => zI (a_gs (j : Int))))), (h0, .inr (14, [.ref q_t, .int (zI (z16_n)), .int (zI (z0_88)), .int (zI (z1_89)), .int (zI (z2_90)), .int (zI (z3_91)), .int (zI (z4_92)), .ref q5_93, v16_8, v16_9, v16_10, .ref q_gp, .ref q_gs, .int (zI (z16_goalN))])), (q_t, .inl (cT, 8192, .inl (fun j : Nat => zI (a_t (j : Int)))))]) (cx := [(h0, .inr (14, [.ref q_t, .int (zI (z16_n)), .int (zI (z0_88)), .int (zI (z1_89)), .int (zI (z2_90)), .int (zI (z3_91)), .int (zI (z4_92)), .ref q5_93, v16_8, v16_9, v16_10, .ref q_gp, .ref q_gs, .int (zI (z16_goalN))])), (q_t, .inl (cT, 8192, .inl (fun j : Nat => zI (a_t (j : Int)))))]) (wr := [(q_gp, .inl (cI, mg, .inl (fun j : Nat => zI (a_gp (j : Int))))), (q_gs, .inl (cI, ng, .inl (fun j : Nat => zI (a_gs (j : Int)))))]) (rx := [(q_t, .inl (cT, 8192, .inl (fun j : Nat => zI (a_t (j : Int))))), (q9, .inr (15, [.null, .null, .null, .null, .null, .int 0, .int (zI (zp_141))]))]) (pl := va_pl Ln_94 (pE Pw_122)) (pl1 := va_pl Ln_142 (pE Pn_143)) hP hD [2, 3] [0, 1] rfl rfl (by decide) (by decide) hk1 hFc hP1 hD1
          have hrmC := hxt_146.1.1
          rw [ht] at hrmC
          refine vx_tightS (hrmA.trans hrmC) ?_
          have hrb := hxt_146.1.2
          generalize H1 = H at hP hS hce ⊢
          have hP : va_P (dC, dI) vwQ ([(q_gp, .inl (cI, mg, .inl (fun j : Nat => zI (a_gp (j : Int))))), (q_gs, .inl (cI, ng, .inl (fun j : Nat => zI (a_gs (j : Int))))), (q_t, .inl (cT, 8192, .inl (fun j : Nat => zI (a_t (j : Int))))), (q9, .inr (15, [.null, .null, .null, .null, .null, .int 0, .int (zI (zp_141))]))] ++ va_pl Ln_142 (pE Pn_143)) H := hP
          have hD : va_D A ([(q_gp, .inl (cI, mg, .inl (fun j : Nat => zI (a_gp (j : Int))))), (q_gs, .inl (cI, ng, .inl (fun j : Nat => zI (a_gs (j : Int))))), (q_t, .inl (cT, 8192, .inl (fun j : Nat => zI (a_t (j : Int))))), (q9, .inr (15, [.null, .null, .null, .null, .null, .int 0, .int (zI (zp_141))]))] ++ va_pl Ln_142 (pE Pn_143)) := hD
          have hzp : 0 ≤ zp_141 ∧ zp_141 ≤ 8192 := hxt_146.2.1
          subst hQ
          have hP := hP.part (X := [(q_gp, .inl (cI, mg, .inl (fun j : Nat => zI (a_gp (j : Int))))), (q_gs, .inl (cI, ng, .inl (fun j : Nat => zI (a_gs (j : Int))))), (q_t, .inl (cT, 8192, .inl (fun j : Nat => zI (a_t (j : Int))))), (q9, .inr (15, [.null, .null, .null, .null, .null, .int 0, .int (zI (zp_141))]))]) (cx := [(q_t, .inl (cT, 8192, .inl (fun j : Nat => zI (a_t (j : Int))))), (q9, .inr (15, [.null, .null, .null, .null, .null, .int 0, .int (zI (zp_141))]))]) (pl := va_pl Ln_142 (pE Pn_143)) [2, 3] rfl
          have hD := hD.part (X := [(q_gp, .inl (cI, mg, .inl (fun j : Nat => zI (a_gp (j : Int))))), (q_gs, .inl (cI, ng, .inl (fun j : Nat => zI (a_gs (j : Int))))), (q_t, .inl (cT, 8192, .inl (fun j : Nat => zI (a_t (j : Int))))), (q9, .inr (15, [.null, .null, .null, .null, .null, .int 0, .int (zI (zp_141))]))]) (cx := [(q_t, .inl (cT, 8192, .inl (fun j : Nat => zI (a_t (j : Int))))), (q9, .inr (15, [.null, .null, .null, .null, .null, .int 0, .int (zI (zp_141))]))]) (pl := va_pl Ln_142 (pE Pn_143)) [2, 3] (by decide) rfl
          refine vx_knowS (fun hrm9 => ?_)
          refine vx_widen (k := ((8 * (z16_n - z16_place) + 4 * z16_goalN + 120).toNat)) (n := ((40 * (z16_n - z16_place) + 16 * z16_goalN + 700).toNat)) (rmW (by omega)) (rmW (by omega)) ?_
          exact vx_out (fun x9 h9 => (hnt x9 h9).elim) hlocks hce hcv hcl (fun t ht hvm => ⟨(), trivial, ⟨rfl, zp_141, Ln_142, Pn_143, ((0 + kc_96) + kc_144), ((0 + ks_97) + ks_145), ⟨⟨(by rw [ht, ← hp10]; exact hrm9), (by omega)⟩, ⟨(by omega), ⟨hA_135.trans hxt_146.2.2.1, hxt_146.2.2.2.1, (hcx_139.cpa hg00.owa (fun z _ q => by rcases (show z = xb ∨ z = P.be xb from q) with q | q; rw [q, hX_bk]; decide; rw [q, (hg00.gb hX_b hX_bk).1.2.1]; decide)).trans hA_135 hxt_146.2.2.2.2⟩⟩⟩, by rw [ht]; exact hP, hD⟩, hS.F ht⟩) hS.2.2 (Nat.le_refl _) (Nat.le_refl _)
        obtain ⟨z0_147, z1_148, z2_149, z3_150, z4_151, q5_152, Ln_153, Pn_154, kc_155, ks_156, hxt_156, hP1, hK1, hD1⟩ := hB
        rw [ht] at hP1
        have hK1 := va_K.moved hvm.symm hK1
        obtain ⟨hP, hD⟩ := va_joinP (X := [(q_gp, .inl (cI, mg, .inl (fun j : Nat => zI (a_gp (j : Int))))), (q_gs, .inl (cI, ng, .inl (fun j : Nat => zI (a_gs (j : Int))))), (h0, .inr (14, [.ref q_t, .int (zI (z16_n)), .int (zI (z0_88)), .int (zI (z1_89)), .int (zI (z2_90)), .int (zI (z3_91)), .int (zI (z4_92)), .ref q5_93, v16_8, v16_9, v16_10, .ref q_gp, .ref q_gs, .int (zI (z16_goalN))])), (q_t, .inl (cT, 8192, .inl (fun j : Nat => zI (a_t (j : Int)))))]) (cx := [(h0, .inr (14, [.ref q_t, .int (zI (z16_n)), .int (zI (z0_88)), .int (zI (z1_89)), .int (zI (z2_90)), .int (zI (z3_91)), .int (zI (z4_92)), .ref q5_93, v16_8, v16_9, v16_10, .ref q_gp, .ref q_gs, .int (zI (z16_goalN))])), (q_t, .inl (cT, 8192, .inl (fun j : Nat => zI (a_t (j : Int)))))]) (wr := [(q_gp, .inl (cI, mg, .inl (fun j : Nat => zI (a_gp (j : Int))))), (q_gs, .inl (cI, ng, .inl (fun j : Nat => zI (a_gs (j : Int)))))]) (rx := [(h0, .inr (14, [.ref q_t, .int (zI (z16_n)), .int (zI (z0_147)), .int (zI (z1_148)), .int (zI (z2_149)), .int (zI (z3_150)), .int (zI (z4_151)), .ref q5_152, v16_8, v16_9, v16_10, .ref q_gp, .ref q_gs, .int (zI (z16_goalN))])), (q_t, .inl (cT, 8192, .inl (fun j : Nat => zI (a_t (j : Int)))))]) (pl := va_pl Ln_94 (pE Pw_122)) (pl1 := va_pl Ln_153 (pE Pn_154)) hP hD [2, 3] [0, 1] rfl rfl (by decide) (by decide) hk1 hFc hP1 hD1
        have hK := (hK.sub (tys' := [(cI, .int)]) [0] rfl).app hK1
        have hrmC := hxt_156.1.1
        rw [ht] at hrmC
        refine W_tightS (hrmA.trans hrmC) ?_
        have hrb := hxt_156.1.2
        generalize H1 = H at hP hS ⊢
        have hP : va_P (dC, dI) vwQ ([(q_gp, .inl (cI, mg, .inl (fun j : Nat => zI (a_gp (j : Int))))), (q_gs, .inl (cI, ng, .inl (fun j : Nat => zI (a_gs (j : Int))))), (h0, .inr (14, [.ref q_t, .int (zI (z16_n)), .int (zI (z0_147)), .int (zI (z1_148)), .int (zI (z2_149)), .int (zI (z3_150)), .int (zI (z4_151)), .ref q5_152, v16_8, v16_9, v16_10, .ref q_gp, .ref q_gs, .int (zI (z16_goalN))])), (q_t, .inl (cT, 8192, .inl (fun j : Nat => zI (a_t (j : Int)))))] ++ va_pl Ln_153 (pE Pn_154)) H := hP
        have hD : va_D A ([(q_gp, .inl (cI, mg, .inl (fun j : Nat => zI (a_gp (j : Int))))), (q_gs, .inl (cI, ng, .inl (fun j : Nat => zI (a_gs (j : Int))))), (h0, .inr (14, [.ref q_t, .int (zI (z16_n)), .int (zI (z0_147)), .int (zI (z1_148)), .int (zI (z2_149)), .int (zI (z3_150)), .int (zI (z4_151)), .ref q5_152, v16_8, v16_9, v16_10, .ref q_gp, .ref q_gs, .int (zI (z16_goalN))])), (q_t, .inl (cT, 8192, .inl (fun j : Nat => zI (a_t (j : Int)))))] ++ va_pl Ln_153 (pE Pn_154)) := hD
        have hK : va_K (dC, dI) vwQ [(cI, .int), (cT, .byte), (cO, .object "java/lang/Object"), (cI, .int), (cZ, .boolean)] s := hK
        refine W.widen (k := ((0 + kc_96) + kc_155)) (n := ((0 + ks_97) + ks_156)) (by omega) (by omega) ?_
        obtain ⟨rk_157, rk_158, rk_159, rk_160, rk_161, hu_161⟩ := hxt_156.2
        have htk_162 := hu_161.2.2.2.2.1.2
        have hrg_162 := hu_161.2.2.2.2.1.1
        have htq_162 := htk_162.1
        have hu_163 := HID.mk (hu_161)
        replace hu_161 := HID.mk hu_161
        replace hxt_156 := HID.mk hxt_156
        have hsm_164 := (hu_163.2.2.2.1 xb hq_132.1 (fun e9 => absurd e9 (kd_ne hq_132.2 hq_133.2 (by decide)))).2
        have : Pn_154.bf xb = Pw_122.bf xb := hsm_164.1 0
        have : Pn_154.bs xb = Pw_122.bs xb := hsm_164.1 1
        have hoc9 := hu_163.2.2.1.2
        have hoq9 : OPQ (Pn_154.rA pr_2) (Pn_154.ra pr_2) := hu_163.2.2.1.1
        have hgo9 := hkd_108.go (by omega)
        have hkd_165 := hu_163.2.2.2.2.2.1
        have hX_kv := hkd_165.2
        have hq_166 : HID (la ∈ Ln_153 ∧ Pn_154.kd la = 30) := hu_163.1.mem hq_131.1 hq_131.2 (by decide)
        have hq_167 : HID (xb ∈ Ln_153 ∧ Pn_154.kd xb = 12) := hu_163.1.mem hq_132.1 hq_132.2 (by decide)
        have hq_168 : HID (pr_2 ∈ Ln_153 ∧ Pn_154.kd pr_2 = 17) := hu_163.1.mem hq_133.1 hq_133.2 (by decide)
        have ha_169 : HID (Pn_154.be xb = pr_2) := hu_163.1.be hq_132.1 hq_132.2 ha_134.out
        have hA_170 : KEG [] L P Ln_153 Pn_154 := hA_135.trans hu_163.1
        have : Pn_154.lz la = Pw_122.lz la := (hu_163.2.2.2.1 la hq_131.1 (fun e9 => absurd e9 (kd_ne hq_131.2 hq_133.2 (by decide)))).2.1 0
        have hek_171 : HID (Pn_154.ek la = 12) := (by rw [hu_163.1.ek hq_131.1 hq_131.2 (by decide)]; exact hek_136.out)
        have how_172 : HID (Pn_154.ow la = la) := ((hu_163.1.1 la hq_131.1 (by rw [hq_131.2]; decide)).2.2.2.1 hq_131.2 how_137.out).1
        have hcz := (((hu_163.1.1 la hq_131.1 (by rw [hq_131.2]; decide)).2.2.2.1 hq_131.2 how_137.out).2 (by simp)).1
        have hE_173 : HID (Pn_154.ek pr_2 = 1) := (by rw [hu_163.1.ek hq_133.1 hq_133.2 (by decide)]; exact hE_138.out)
        have hX_tx := hu_163.2.2.2.2.2.2.1
        have hxk9 := hu_163.2.2.2.2.2.2.2
        have hcx_174 : CHG (fun z => z = xb ∨ z = P.be xb) L P Ln_153 Pn_154 := hcx_139.trans hu_163.2.2.2.1 (fun z m q => Or.inr (q.trans epr_2))
        have hnn_162 := TKV.nn (k := z1_148) (d := z0_147 - z2_149) (by omega)
        have hri_175 : ((((0 + ks_97) + ks_156) : Nat) : Int) ≤ 40 * (z2_149 - z16_place) - TKV z16_kind (z16_at - z16_place) + TKV (z1_148) (z0_147 - z2_149) ∧ ((((0 + kc_96) + kc_155) : Nat) : Int) ≤ 8 * (z2_149 - z16_place) - TKW z16_kind (z16_at - z16_place) + TKW (z1_148) (z0_147 - z2_149) - 3 := (by omega)
        clear hrb hri_120
        skip
        have hoa9 := hoq9
        refine lv_goto (tgt := 145) hx hb dX16_end_137 (by decide) ?_
        subst hQ
        have hP := hP.part (X := [(q_gp, .inl (cI, mg, .inl (fun j : Nat => zI (a_gp (j : Int))))), (q_gs, .inl (cI, ng, .inl (fun j : Nat => zI (a_gs (j : Int))))), (h0, .inr (14, [.ref q_t, .int (zI (z16_n)), .int (zI (z0_147)), .int (zI (z1_148)), .int (zI (z2_149)), .int (zI (z3_150)), .int (zI (z4_151)), .ref q5_152, v16_8, v16_9, v16_10, .ref q_gp, .ref q_gs, .int (zI (z16_goalN))])), (q_t, .inl (cT, 8192, .inl (fun j : Nat => zI (a_t (j : Int)))))]) (cx := [(h0, .inr (14, [.ref q_t, .int (zI (z16_n)), .int (zI (z0_147)), .int (zI (z1_148)), .int (zI (z2_149)), .int (zI (z3_150)), .int (zI (z4_151)), .ref q5_152, v16_8, v16_9, v16_10, .ref q_gp, .ref q_gs, .int (zI (z16_goalN))])), (q_t, .inl (cT, 8192, .inl (fun j : Nat => zI (a_t (j : Int))))), (q_gp, .inl (cI, mg, .inl (fun j : Nat => zI (a_gp (j : Int))))), (q_gs, .inl (cI, ng, .inl (fun j : Nat => zI (a_gs (j : Int)))))]) (pl := va_pl Ln_153 (pE Pn_154)) [2, 3, 0, 1] rfl
        have hD := hD.part (X := [(q_gp, .inl (cI, mg, .inl (fun j : Nat => zI (a_gp (j : Int))))), (q_gs, .inl (cI, ng, .inl (fun j : Nat => zI (a_gs (j : Int))))), (h0, .inr (14, [.ref q_t, .int (zI (z16_n)), .int (zI (z0_147)), .int (zI (z1_148)), .int (zI (z2_149)), .int (zI (z3_150)), .int (zI (z4_151)), .ref q5_152, v16_8, v16_9, v16_10, .ref q_gp, .ref q_gs, .int (zI (z16_goalN))])), (q_t, .inl (cT, 8192, .inl (fun j : Nat => zI (a_t (j : Int)))))]) (cx := [(h0, .inr (14, [.ref q_t, .int (zI (z16_n)), .int (zI (z0_147)), .int (zI (z1_148)), .int (zI (z2_149)), .int (zI (z3_150)), .int (zI (z4_151)), .ref q5_152, v16_8, v16_9, v16_10, .ref q_gp, .ref q_gs, .int (zI (z16_goalN))])), (q_t, .inl (cT, 8192, .inl (fun j : Nat => zI (a_t (j : Int))))), (q_gp, .inl (cI, mg, .inl (fun j : Nat => zI (a_gp (j : Int))))), (q_gs, .inl (cI, ng, .inl (fun j : Nat => zI (a_gs (j : Int)))))]) (pl := va_pl Ln_153 (pE Pn_154)) [2, 3, 0, 1] (by decide) rfl
        have hK := hK.sub (tys' := [(cT, .byte), (cI, .int), (cO, .object "java/lang/Object"), (cZ, .boolean)]) [1, 0, 2, 4] rfl
        refine W_knowS (fun hrm9 => ?_)
        refine W.widen (k := ((8 * (z16_n - z16_place) + 4 * z16_goalN + 120).toNat)) (n := ((40 * (z16_n - z16_place) + 16 * z16_goalN + 700).toNat)) (rmW (by omega)) (rmW (by omega)) ?_
        refine vx_ret ?_
        exact W.vret hx hb hr (fun t ht hW => ⟨⟨(), rfl, trivial, z0_147, z1_148, z2_149, z3_150, z4_151, q5_152, z16_goalN, q_gp, mg, a_gp, q_gs, ng, a_gs, Ln_153, Pn_154, ((0 + kc_96) + kc_155), ((0 + ks_97) + ks_156), ⟨⟨(by rw [ht, ← hp10]; exact hrm9), (by omega)⟩, ⟨(by omega), (by omega), (by omega), (by omega), (by omega), (by omega), hR_a_gp, hR_a_gs, ⟨hA_170, hu_163.2.1, ⟨(hkd_165.mono (by omega)).ms (by omega) (by omega) (by omega), by omega⟩, hcx_174, ⟨by omega, by omega, by omega, by omega, by omega, by omega, by omega, (by unfold GRW; omega)⟩, (fun _ _ _ => rfl), (Or.inl (by omega)), (Or.inl (by omega)), (by rw [← epr_2]; exact ⟨by omega, by omega, (by first | exact OPQ.z (by omega) | exact hoa9.to (by omega) (by omega))⟩), ⟨⟨by omega, by omega, by omega⟩, htk_162⟩, hkd_165.mono (by omega), hX_tx⟩⟩⟩, by rw [ht]; exact hP, va_K.moved hW.alike hK, hD⟩, hS.F ht⟩) hS.2.2 dX16_end_145
    · have yb74 : ¬ (z_82 : Int) = (0 : Int) := fun q => b74 ((zI_eq (a := z_82) (b := 0) (by omega) (by omega) (by omega) (by omega)).mpr q)
      have hni9 := TKQ.is hX_tn (hzz_82.2.2.2 (by omega))
      skip
      refine lv_aload_n hx hb dX16_end_77 rfl (lv_at hl 1 rfl) ?_
      have hPc := hP.part (X := [(q_gp, .inl (cI, mg, .inl (fun j : Nat => zI (a_gp (j : Int))))), (q_gs, .inl (cI, ng, .inl (fun j : Nat => zI (a_gs (j : Int))))), (h0, .inr (14, [.ref q_t, .int (zI (z16_n)), .int (zI (z16_at)), .int (zI (z16_kind)), .int (zI (z16_place)), .int (zI (z16_value)), .int (zI (z16_before)), .ref tx9, v16_8, v16_9, v16_10, .ref q_gp, .ref q_gs, .int (zI (z16_goalN))])), (q_t, .inl (cT, 8192, .inl (fun j : Nat => zI (a_t (j : Int)))))]) (cx := [(h0, .inr (14, [.ref q_t, .int (zI (z16_n)), .int (zI (z16_at)), .int (zI (z16_kind)), .int (zI (z16_place)), .int (zI (z16_value)), .int (zI (z16_before)), .ref tx9, v16_8, v16_9, v16_10, .ref q_gp, .ref q_gs, .int (zI (z16_goalN))])), (q_t, .inl (cT, 8192, .inl (fun j : Nat => zI (a_t (j : Int)))))]) (pl := va_pl L (pE Pw_58)) [2, 3] rfl
      have hDc := hD.part (X := [(q_gp, .inl (cI, mg, .inl (fun j : Nat => zI (a_gp (j : Int))))), (q_gs, .inl (cI, ng, .inl (fun j : Nat => zI (a_gs (j : Int))))), (h0, .inr (14, [.ref q_t, .int (zI (z16_n)), .int (zI (z16_at)), .int (zI (z16_kind)), .int (zI (z16_place)), .int (zI (z16_value)), .int (zI (z16_before)), .ref tx9, v16_8, v16_9, v16_10, .ref q_gp, .ref q_gs, .int (zI (z16_goalN))])), (q_t, .inl (cT, 8192, .inl (fun j : Nat => zI (a_t (j : Int)))))]) (cx := [(h0, .inr (14, [.ref q_t, .int (zI (z16_n)), .int (zI (z16_at)), .int (zI (z16_kind)), .int (zI (z16_place)), .int (zI (z16_value)), .int (zI (z16_before)), .ref tx9, v16_8, v16_9, v16_10, .ref q_gp, .ref q_gs, .int (zI (z16_goalN))])), (q_t, .inl (cT, 8192, .inl (fun j : Nat => zI (a_t (j : Int)))))]) (pl := va_pl L (pE Pw_58)) [2, 3] (by decide) rfl
      have hKc := hK.sub (tys' := [(cT, .byte)]) [3] rfl
      have hFc := va_freeP (X := [(q_gp, .inl (cI, mg, .inl (fun j : Nat => zI (a_gp (j : Int))))), (q_gs, .inl (cI, ng, .inl (fun j : Nat => zI (a_gs (j : Int))))), (h0, .inr (14, [.ref q_t, .int (zI (z16_n)), .int (zI (z16_at)), .int (zI (z16_kind)), .int (zI (z16_place)), .int (zI (z16_value)), .int (zI (z16_before)), .ref tx9, v16_8, v16_9, v16_10, .ref q_gp, .ref q_gs, .int (zI (z16_goalN))])), (q_t, .inl (cT, 8192, .inl (fun j : Nat => zI (a_t (j : Int)))))]) (cx := [(h0, .inr (14, [.ref q_t, .int (zI (z16_n)), .int (zI (z16_at)), .int (zI (z16_kind)), .int (zI (z16_place)), .int (zI (z16_value)), .int (zI (z16_before)), .ref tx9, v16_8, v16_9, v16_10, .ref q_gp, .ref q_gs, .int (zI (z16_goalN))])), (q_t, .inl (cT, 8192, .inl (fun j : Nat => zI (a_t (j : Int)))))]) (pl := va_pl L (pE Pw_58)) hD hS hA [2, 3] rfl
      refine W_knowS (fun hrmA => ?_)
      refine va_callv (va_runV (As := []) (rest := []) ⟨hx, hb, hml, hown, hts⟩ (c_X16_nextK l dC dI h0 z16_n z16_at z16_kind z16_place z16_value z16_before (.ref tx9) v16_8 v16_9 v16_10 (.ref q_gp) (.ref q_gs) (.int (zI (z16_goalN))) q_t cT a_t L Pw_58 sa_RX16_9 (by omega) (by omega) (by omega) (by omega) (by omega) (by omega) hR_a_t (by omega) H.size sa_RX16_9 H sv_RX16_9 sa_RX16_119 sv_RX16_119 sa_RX16_100 sv_RX16_100 sa_RX16_117 sa_RX16_100 sv_RX16_117 sa_RX16_98 sv_RX16_98) (cwV 0 hts g_X16_endR_X16_nextK rfl rfl rfl (by decide +kernel) ⟨(Nat.le_of_ble_eq_true rfl), (Nat.le_of_ble_eq_true rfl)⟩) ⟨fun a U g mk q => by obtain ⟨q0, q1, qP, qK, qD, e0, e1, e2, e3, e4, e5, e6, e7, e8, e9, e10, e11, e12⟩ := q; exact ⟨q0, q1, qP, va_K.moved (u := U) (U := U.calling g mk a) (Vm.Alike.refl U.vm) qK, qD, vk_R.same (u := U) (U := U.calling g mk a) rfl e0, e1, va_Z.moved (u := U) (U := U.calling g mk a) (Vm.Alike.refl U.vm) e2, vs_S.moved (u := U) (U := U.calling g mk a) (Vm.Alike.refl U.vm) e3, va_Nw.same rfl (u := U) (U := U.calling g mk a) rfl e4, vk_R.same (u := U) (U := U.calling g mk a) rfl e5, vs_S.moved (u := U) (U := U.calling g mk a) (Vm.Alike.refl U.vm) e6, vs_S.moved (u := U) (U := U.calling g mk a) (Vm.Alike.refl U.vm) e7, vk_R.same (u := U) (U := U.calling g mk a) rfl e8, vk_R.same (u := U) (U := U.calling g mk a) rfl e9, vs_S.moved (u := U) (U := U.calling g mk a) (Vm.Alike.refl U.vm) e10, vk_R.same (u := U) (U := U.calling g mk a) rfl e11, vs_S.moved (u := U) (U := U.calling g mk a) (Vm.Alike.refl U.vm) e12⟩, va_recv hKc hPc (ci := 14) (q0 := 0) rfl rfl, fun U hU hW => ⟨rfl, by rw [hU], by rw [hU]; exact hPc, va_K.moved hW.alike hKc, hDc.weaken (fun _ _ _ _ => trivial), vk_R.warm hW hp11, hU, va_Z.go hp3 hS hFc hU hW.alike, vs_S.go hp2 hS hFc hU hW.alike, va_Nw.warmC hW hp12, vk_R.warm hW hp13, vs_S.go hp14 hS hFc hU hW.alike, vs_S.go hp15 hS hFc hU hW.alike, vk_R.warm hW hp16, vk_R.warm hW hp17, vs_S.go hp18 hS hFc hU hW.alike, vk_R.warm hW hp19, vs_S.go hp20 hS hFc hU hW.alike⟩⟩ rfl rfl hl.1 rfl (lv_room (Nat.le_of_ble_eq_true rfl)) dX16_end_78 ⟨(show 0 + ((z16_n - z16_at + 20).toNat) ≤ (8 * (z16_n - z16_place) + 4 * z16_goalN + 120).toNat from (rmT (by omega) (by omega))), (show 0 + ((10 * (z16_n - z16_at) + 120).toNat) ≤ (40 * (z16_n - z16_place) + 16 * z16_goalN + 700).toNat from (rmT (by omega) (by omega)))⟩) hS (fun q _ h => hFc q h) hFc (fun  u t H1 locs ht hvm hw hB hz1 hk1 hS => ?_)
      obtain ⟨z0_176, z1_177, z2_178, z3_179, z4_180, q5_181, Ln_182, Pn_183, kc_184, ks_185, hxt_185, hP1, hK1, hD1⟩ := hB
      rw [ht] at hP1
      have hK1 := va_K.moved hvm.symm hK1
      obtain ⟨hP, hD⟩ := va_joinP (X := [(q_gp, .inl (cI, mg, .inl (fun j : Nat => zI (a_gp (j : Int))))), (q_gs, .inl (cI, ng, .inl (fun j : Nat => zI (a_gs (j : Int))))), (h0, .inr (14, [.ref q_t, .int (zI (z16_n)), .int (zI (z16_at)), .int (zI (z16_kind)), .int (zI (z16_place)), .int (zI (z16_value)), .int (zI (z16_before)), .ref tx9, v16_8, v16_9, v16_10, .ref q_gp, .ref q_gs, .int (zI (z16_goalN))])), (q_t, .inl (cT, 8192, .inl (fun j : Nat => zI (a_t (j : Int)))))]) (cx := [(h0, .inr (14, [.ref q_t, .int (zI (z16_n)), .int (zI (z16_at)), .int (zI (z16_kind)), .int (zI (z16_place)), .int (zI (z16_value)), .int (zI (z16_before)), .ref tx9, v16_8, v16_9, v16_10, .ref q_gp, .ref q_gs, .int (zI (z16_goalN))])), (q_t, .inl (cT, 8192, .inl (fun j : Nat => zI (a_t (j : Int)))))]) (wr := [(q_gp, .inl (cI, mg, .inl (fun j : Nat => zI (a_gp (j : Int))))), (q_gs, .inl (cI, ng, .inl (fun j : Nat => zI (a_gs (j : Int)))))]) (rx := [(h0, .inr (14, [.ref q_t, .int (zI (z16_n)), .int (zI (z0_176)), .int (zI (z1_177)), .int (zI (z2_178)), .int (zI (z3_179)), .int (zI (z4_180)), .ref q5_181, v16_8, v16_9, v16_10, .ref q_gp, .ref q_gs, .int (zI (z16_goalN))])), (q_t, .inl (cT, 8192, .inl (fun j : Nat => zI (a_t (j : Int)))))]) (pl := va_pl L (pE Pw_58)) (pl1 := va_pl Ln_182 (pE Pn_183)) hP hD [2, 3] [0, 1] rfl rfl (by decide) (by decide) hk1 hFc hP1 hD1
      have hK := (hK.sub (tys' := [(cI, .int), (cO, .object "java/lang/Object"), (cZ, .boolean)]) [0, 1, 2] rfl).app hK1
      have hrmC := hxt_185.1.1
      rw [ht] at hrmC
      refine W_tightS (hrmA.trans hrmC) ?_
      have hrb := hxt_185.1.2
      generalize H1 = H at hP hS ⊢
      have hP : va_P (dC, dI) vwQ ([(q_gp, .inl (cI, mg, .inl (fun j : Nat => zI (a_gp (j : Int))))), (q_gs, .inl (cI, ng, .inl (fun j : Nat => zI (a_gs (j : Int))))), (h0, .inr (14, [.ref q_t, .int (zI (z16_n)), .int (zI (z0_176)), .int (zI (z1_177)), .int (zI (z2_178)), .int (zI (z3_179)), .int (zI (z4_180)), .ref q5_181, v16_8, v16_9, v16_10, .ref q_gp, .ref q_gs, .int (zI (z16_goalN))])), (q_t, .inl (cT, 8192, .inl (fun j : Nat => zI (a_t (j : Int)))))] ++ va_pl Ln_182 (pE Pn_183)) H := hP
      have hD : va_D A ([(q_gp, .inl (cI, mg, .inl (fun j : Nat => zI (a_gp (j : Int))))), (q_gs, .inl (cI, ng, .inl (fun j : Nat => zI (a_gs (j : Int))))), (h0, .inr (14, [.ref q_t, .int (zI (z16_n)), .int (zI (z0_176)), .int (zI (z1_177)), .int (zI (z2_178)), .int (zI (z3_179)), .int (zI (z4_180)), .ref q5_181, v16_8, v16_9, v16_10, .ref q_gp, .ref q_gs, .int (zI (z16_goalN))])), (q_t, .inl (cT, 8192, .inl (fun j : Nat => zI (a_t (j : Int)))))] ++ va_pl Ln_182 (pE Pn_183)) := hD
      have hK : va_K (dC, dI) vwQ [(cI, .int), (cO, .object "java/lang/Object"), (cZ, .boolean), (cT, .byte)] s := hK
      refine W.widen (k := (0 + kc_184)) (n := (0 + ks_185)) (by omega) (by omega) ?_
      obtain ⟨rk_186, rk_187, rk_188, rk_189, rk_190, hu_190⟩ := hxt_185.2
      have htk_191 := hu_190.1.2
      have hrg_191 := hu_190.1.1
      have htq_191 := htk_191.1
      have hkd_196 := hu_190.2.1
      have hX_kv := hkd_196.2
      have hu_192 := hu_190.2.2
      have hex_193 : EXT9 L Pw_58 Ln_182 Pn_183 := hu_192.1
      have hke_194 : KEG [] L Pw_58 Ln_182 Pn_183 := hex_193.kegR hak_65
      have hak_195 : GLR Ln_182 Pn_183 cO cI cZ sx_ed := hak_65.txt hex_193 hu_192.2.1
      have hsm_197 := (hex_193 xb hq_68.1).2
      have : Pn_183.bf xb = Pw_58.bf xb := hsm_197.1 0
      have : Pn_183.bs xb = Pw_58.bs xb := hsm_197.1 1
      have hsm_198 := (hex_193 pr_2 hq_69.1).2
      have : Pn_183.ro pr_2 = Pw_58.ro pr_2 := hsm_198.1 0
      have : Pn_183.rt pr_2 = Pw_58.rt pr_2 := hsm_198.1 1
      have : Pn_183.ra pr_2 = Pw_58.ra pr_2 := hsm_198.1 2
      have : Pn_183.rb pr_2 = Pw_58.rb pr_2 := hsm_198.1 3
      have : Pn_183.rA pr_2 = Pw_58.rA pr_2 := hsm_198.1 4
      have : Pn_183.rB pr_2 = Pw_58.rB pr_2 := hsm_198.1 5
      have : Pn_183.rg pr_2 = Pw_58.rg pr_2 := hsm_198.1 6
      have : Pn_183.ek pr_2 = Pw_58.ek pr_2 := hsm_198.2.1 8
      have hq_199 : HID (la ∈ Ln_182 ∧ Pn_183.kd la = 30) := hke_194.mem hq_67.1 hq_67.2 (by decide)
      have hq_200 : HID (xb ∈ Ln_182 ∧ Pn_183.kd xb = 12) := hke_194.mem hq_68.1 hq_68.2 (by decide)
      have hq_201 : HID (pr_2 ∈ Ln_182 ∧ Pn_183.kd pr_2 = 17) := hke_194.mem hq_69.1 hq_69.2 (by decide)
      have ha_202 : HID (Pn_183.be xb = pr_2) := hke_194.be hq_68.1 hq_68.2 ha_70.out
      have hA_203 : KEG [] L P Ln_182 Pn_183 := hA_71.trans hke_194
      have : Pn_183.lz la = Pw_58.lz la := (hex_193 la hq_67.1).2.1 0
      have hek_204 : HID (Pn_183.ek la = 12) := (by rw [hke_194.ek hq_67.1 hq_67.2 (by decide)]; exact hek_72.out)
      have how_205 : HID (Pn_183.ow la = la) := ((hke_194.1 la hq_67.1 (by rw [hq_67.2]; decide)).2.2.2.1 hq_67.2 how_73.out).1
      have hcz := (((hke_194.1 la hq_67.1 (by rw [hq_67.2]; decide)).2.2.2.1 hq_67.2 how_73.out).2 (by simp)).1
      have hE_206 : HID (Pn_183.ek pr_2 = 1) := (by rw [hke_194.ek hq_69.1 hq_69.2 (by decide)]; exact hE_74.out)
      have hX_tx := hu_192.2.2.1
      have hxk9 := hu_192.2.2.2
      have hcx_207 : CHG (fun z => z = xb ∨ z = P.be xb) L P Ln_182 Pn_183 := hcx_75.trans hex_193.chg (fun z m q => q.elim)
      have hnn_191 := TKV.nn (k := z1_177) (d := z0_176 - z2_178) (by omega)
      have hri_208 : (((0 + ks_185) : Nat) : Int) ≤ 40 * (z2_178 - z16_place) - TKV z16_kind (z16_at - z16_place) + TKV (z1_177) (z0_176 - z2_178) + 40 ∧ (((0 + kc_184) : Nat) : Int) ≤ 8 * (z2_178 - z16_place) - TKW z16_kind (z16_at - z16_place) + TKW (z1_177) (z0_176 - z2_178) + 5 := (by omega)
      clear hrb
      skip
      refine lv_aload_n hx hb dX16_end_81 rfl (lv_at hl 0 rfl) ?_
      refine lv_bipush (v := 31) hx hb dX16_end_82 (by decide) ?_
      have hr7 := (hak_195.rokR hq_201.1 hq_201.2).n7
      refine lv_topi (fun z ez => ?_)
      obtain rfl : z = zI (31) := ez
      obtain ⟨kp_209, gkp_209⟩ := va_pl_get (X := [(q_gp, .inl (cI, mg, .inl (fun j : Nat => zI (a_gp (j : Int))))), (q_gs, .inl (cI, ng, .inl (fun j : Nat => zI (a_gs (j : Int))))), (h0, .inr (14, [.ref q_t, .int (zI (z16_n)), .int (zI (z0_176)), .int (zI (z1_177)), .int (zI (z2_178)), .int (zI (z3_179)), .int (zI (z4_180)), .ref q5_181, v16_8, v16_9, v16_10, .ref q_gp, .ref q_gs, .int (zI (z16_goalN))])), (q_t, .inl (cT, 8192, .inl (fun j : Nat => zI (a_t (j : Int)))))]) (f := pE Pn_183) hq_201.1
      have hkp_209 := gkp_209
      rw [pE_row hq_201.2] at hkp_209
      have hD0 := hD
      refine va_put (D := (dC, dI)) (ci := 21) (v := .int (zI (31))) (ty := .int) (C := RX17) (T := TX17) (N := 7) hx hb hts mem_X16_endR_1 tyX17 tyX17_ok nmX17 hown hK hP hD hS kp_209 hkp_209 rfl 0 (by decide) (ow (k := 16) rfl) (fun _ h9 => h9) rfl (by decide +kernel) rfl rfl (by first | exact Nat.le_of_ble_eq_true rfl | exact (show (0 + kc_184) ≤ (8 * (z16_n - z16_place) + 4 * z16_goalN + 120).toNat from (rmW (by omega))) | exact (show (0 + ks_185) ≤ (40 * (z16_n - z16_place) + 16 * z16_goalN + 700).toNat from (rmW (by omega)))) dX16_end_84 (fun H locs hP hD hS => ?_)
      obtain ⟨Pw_210, ePw_210⟩ : ∃ q9 : PO, q9 = Pn_183.rw9 0 pr_2 (31) := ⟨_, rfl⟩
      have eU : (([(q_gp, .inl (cI, mg, .inl (fun j : Nat => zI (a_gp (j : Int))))), (q_gs, .inl (cI, ng, .inl (fun j : Nat => zI (a_gs (j : Int))))), (h0, .inr (14, [.ref q_t, .int (zI (z16_n)), .int (zI (z0_176)), .int (zI (z1_177)), .int (zI (z2_178)), .int (zI (z3_179)), .int (zI (z4_180)), .ref q5_181, v16_8, v16_9, v16_10, .ref q_gp, .ref q_gs, .int (zI (z16_goalN))])), (q_t, .inl (cT, 8192, .inl (fun j : Nat => zI (a_t (j : Int)))))] : va_W) ++ va_pl Ln_182 (pE Pn_183)).set kp_209 (pr_2, rowE (31) (Pn_183.rt pr_2) (Pn_183.ra pr_2) (Pn_183.rb pr_2) (Pn_183.rA pr_2) (Pn_183.rB pr_2) (Pn_183.rg pr_2)) = ([(q_gp, .inl (cI, mg, .inl (fun j : Nat => zI (a_gp (j : Int))))), (q_gs, .inl (cI, ng, .inl (fun j : Nat => zI (a_gs (j : Int))))), (h0, .inr (14, [.ref q_t, .int (zI (z16_n)), .int (zI (z0_176)), .int (zI (z1_177)), .int (zI (z2_178)), .int (zI (z3_179)), .int (zI (z4_180)), .ref q5_181, v16_8, v16_9, v16_10, .ref q_gp, .ref q_gs, .int (zI (z16_goalN))])), (q_t, .inl (cT, 8192, .inl (fun j : Nat => zI (a_t (j : Int)))))] : va_W) ++ va_pl Ln_182 (pE Pw_210) := (by rw [va_pl_set hD0 hq_201.1 gkp_209, ePw_210]; exact congrArg (fun f9 => ([(q_gp, .inl (cI, mg, .inl (fun j : Nat => zI (a_gp (j : Int))))), (q_gs, .inl (cI, ng, .inl (fun j : Nat => zI (a_gs (j : Int))))), (h0, .inr (14, [.ref q_t, .int (zI (z16_n)), .int (zI (z0_176)), .int (zI (z1_177)), .int (zI (z2_178)), .int (zI (z3_179)), .int (zI (z4_180)), .ref q5_181, v16_8, v16_9, v16_10, .ref q_gp, .ref q_gs, .int (zI (z16_goalN))])), (q_t, .inl (cT, 8192, .inl (fun j : Nat => zI (a_t (j : Int)))))] : va_W) ++ va_pl Ln_182 f9) (put17_0 hq_201.2))
      have hP : va_P (dC, dI) vwQ ([(q_gp, .inl (cI, mg, .inl (fun j : Nat => zI (a_gp (j : Int))))), (q_gs, .inl (cI, ng, .inl (fun j : Nat => zI (a_gs (j : Int))))), (h0, .inr (14, [.ref q_t, .int (zI (z16_n)), .int (zI (z0_176)), .int (zI (z1_177)), .int (zI (z2_178)), .int (zI (z3_179)), .int (zI (z4_180)), .ref q5_181, v16_8, v16_9, v16_10, .ref q_gp, .ref q_gs, .int (zI (z16_goalN))])), (q_t, .inl (cT, 8192, .inl (fun j : Nat => zI (a_t (j : Int)))))] ++ va_pl Ln_182 (pE Pw_210)) H := (by rw [← eU]; exact hP)
      have hD : va_D A ([(q_gp, .inl (cI, mg, .inl (fun j : Nat => zI (a_gp (j : Int))))), (q_gs, .inl (cI, ng, .inl (fun j : Nat => zI (a_gs (j : Int))))), (h0, .inr (14, [.ref q_t, .int (zI (z16_n)), .int (zI (z0_176)), .int (zI (z1_177)), .int (zI (z2_178)), .int (zI (z3_179)), .int (zI (z4_180)), .ref q5_181, v16_8, v16_9, v16_10, .ref q_gp, .ref q_gs, .int (zI (z16_goalN))])), (q_t, .inl (cT, 8192, .inl (fun j : Nat => zI (a_t (j : Int)))))] ++ va_pl Ln_182 (pE Pw_210)) := (by rw [← eU]; exact hD)
      clear eU hD0 gkp_209 hkp_209
      have wPw_210 : RW1 pr_2 Pn_183 Pw_210 := (by rw [ePw_210]; exact RW1.put _ _ _ _)
      have hy_211 : Pw_210.kd la = 30 := (by rw [ePw_210]; exact hq_199.2)
      have hy_212 : Pw_210.kd xb = 12 := (by rw [ePw_210]; exact hq_200.2)
      have : Pw_210.bf xb = Pn_183.bf xb := wPw_210.2 _ (kd_ne hq_200.2 hq_201.2 (by decide)) _
      have : Pw_210.bs xb = Pn_183.bs xb := wPw_210.2 _ (kd_ne hq_200.2 hq_201.2 (by decide)) _
      have hy_213 : Pw_210.kd pr_2 = 17 := (by rw [ePw_210]; exact hq_201.2)
      have : Pw_210.ro pr_2 = 31 := (by rw [ePw_210]; exact rw9_at _ _ _ _)
      have : Pw_210.rt pr_2 = Pn_183.rt pr_2 := (by rw [ePw_210]; exact rw9_of _ (by decide))
      have : Pw_210.ra pr_2 = Pn_183.ra pr_2 := (by rw [ePw_210]; exact rw9_of _ (by decide))
      have : Pw_210.rb pr_2 = Pn_183.rb pr_2 := (by rw [ePw_210]; exact rw9_of _ (by decide))
      have : Pw_210.rA pr_2 = Pn_183.rA pr_2 := (by rw [ePw_210]; exact rw9_of _ (by decide))
      have : Pw_210.rB pr_2 = Pn_183.rB pr_2 := (by rw [ePw_210]; exact rw9_of _ (by decide))
      have : Pw_210.rg pr_2 = Pn_183.rg pr_2 := (by rw [ePw_210]; exact rw9_of _ (by decide))
      have : Pw_210.ek pr_2 = Pn_183.ek pr_2 := (by rw [ePw_210]; rfl)
      have ha_214 : HID (Pw_210.be xb = pr_2) := (by rw [ePw_210]; exact ha_202.out)
      have hW_215 : RW1 pr_2 Pn_183 Pw_210 := wPw_210
      have hrw_218 : RWD Pn_183 Pw_210 := hW_215.rwd (Or.inl hq_201.2)
      have hak_217 : GLR Ln_182 Pw_210 cO cI cZ sx_ed := hak_195.row hW_215 hq_201.2 (ROKR.of (by omega) (by omega) (by omega) (by omega) (by omega) (by omega) (by omega) (uaZR (by omega)) (ubGR (by omega))) (fun e9 => absurd hE_206.out e9)
      have hke_216 : KEG [] Ln_182 Pn_183 Ln_182 Pw_210 := hrw_218.kegR _ hq_199.2
      have hq_219 : HID (la ∈ Ln_182 ∧ Pw_210.kd la = 30) := hke_216.mem hq_199.1 hq_199.2 (by decide)
      have hq_220 : HID (xb ∈ Ln_182 ∧ Pw_210.kd xb = 12) := hke_216.mem hq_200.1 hq_200.2 (by decide)
      have hq_221 : HID (pr_2 ∈ Ln_182 ∧ Pw_210.kd pr_2 = 17) := hke_216.mem hq_201.1 hq_201.2 (by decide)
      have ha_222 : HID (Pw_210.be xb = pr_2) := hke_216.be hq_200.1 hq_200.2 ha_202.out
      have hA_223 : KEG [] L P Ln_182 Pw_210 := hA_203.trans hke_216
      have : Pw_210.lz la = Pn_183.lz la := hrw_218.lz hq_199.2
      have : Pw_210.cap la = Pn_183.cap la := hW_215.cap la
      have hek_224 : HID (Pw_210.ek la = 12) := (by rw [hke_216.ek hq_199.1 hq_199.2 (by decide)]; exact hek_204.out)
      have how_225 : HID (Pw_210.ow la = la) := ((hke_216.1 la hq_199.1 (by rw [hq_199.2]; decide)).2.2.2.1 hq_199.2 how_205.out).1
      have hcz := (((hke_216.1 la hq_199.1 (by rw [hq_199.2]; decide)).2.2.2.1 hq_199.2 how_205.out).2 (by simp)).1
      have hE_226 : HID (Pw_210.ek pr_2 = 1) := (by rw [hke_216.ek hq_201.1 hq_201.2 (by decide)]; exact hE_206.out)
      have hX_tx := hX_tx.rw1R hW_215 (Or.inl hq_201.2)
      have hcx_227 : CHG (fun z => z = xb ∨ z = P.be xb) L P Ln_182 Pw_210 := hcx_207.trans (hW_215.chg _) (fun z m q => Or.inr (q.trans epr_2))
      have hsm_228 := (hW_215.chg Ln_182 xb hq_220.1 (fun e9 => absurd e9 (kd_ne hq_220.2 hq_221.2 (by decide)))).2
      have : Pw_210.bf xb = Pn_183.bf xb := hsm_228.1 0
      have : Pw_210.bs xb = Pn_183.bs xb := hsm_228.1 1
      refine lv_aload_n hx hb dX16_end_87 rfl (lv_at hl 1 rfl) ?_
      refine lv_aload_n hx hb dX16_end_88 rfl (lv_at hl 0 rfl) ?_
      refine lv_iconst (v := 0) hx hb dX16_end_89 (by decide) ?_
      have hX_tn := htk_191
      have hX_g := hak_217
      have hX_x := hq_221.1
      have hX_k := hq_221.2
      have hX_la := (show la ∈ Ln_182 ∧ Pw_210.kd la = 30 ∧ Pw_210.ek la = 12 ∧ Pw_210.ow la = la from ⟨hq_219.1, hq_219.2, hek_224.out, how_225.out⟩)
      have hPc := hP.part (X := [(q_gp, .inl (cI, mg, .inl (fun j : Nat => zI (a_gp (j : Int))))), (q_gs, .inl (cI, ng, .inl (fun j : Nat => zI (a_gs (j : Int))))), (h0, .inr (14, [.ref q_t, .int (zI (z16_n)), .int (zI (z0_176)), .int (zI (z1_177)), .int (zI (z2_178)), .int (zI (z3_179)), .int (zI (z4_180)), .ref q5_181, v16_8, v16_9, v16_10, .ref q_gp, .ref q_gs, .int (zI (z16_goalN))])), (q_t, .inl (cT, 8192, .inl (fun j : Nat => zI (a_t (j : Int)))))]) (cx := [(h0, .inr (14, [.ref q_t, .int (zI (z16_n)), .int (zI (z0_176)), .int (zI (z1_177)), .int (zI (z2_178)), .int (zI (z3_179)), .int (zI (z4_180)), .ref q5_181, v16_8, v16_9, v16_10, .ref q_gp, .ref q_gs, .int (zI (z16_goalN))])), (q_t, .inl (cT, 8192, .inl (fun j : Nat => zI (a_t (j : Int)))))]) (pl := va_pl Ln_182 (pE Pw_210)) [2, 3] rfl
      have hDc := hD.part (X := [(q_gp, .inl (cI, mg, .inl (fun j : Nat => zI (a_gp (j : Int))))), (q_gs, .inl (cI, ng, .inl (fun j : Nat => zI (a_gs (j : Int))))), (h0, .inr (14, [.ref q_t, .int (zI (z16_n)), .int (zI (z0_176)), .int (zI (z1_177)), .int (zI (z2_178)), .int (zI (z3_179)), .int (zI (z4_180)), .ref q5_181, v16_8, v16_9, v16_10, .ref q_gp, .ref q_gs, .int (zI (z16_goalN))])), (q_t, .inl (cT, 8192, .inl (fun j : Nat => zI (a_t (j : Int)))))]) (cx := [(h0, .inr (14, [.ref q_t, .int (zI (z16_n)), .int (zI (z0_176)), .int (zI (z1_177)), .int (zI (z2_178)), .int (zI (z3_179)), .int (zI (z4_180)), .ref q5_181, v16_8, v16_9, v16_10, .ref q_gp, .ref q_gs, .int (zI (z16_goalN))])), (q_t, .inl (cT, 8192, .inl (fun j : Nat => zI (a_t (j : Int)))))]) (pl := va_pl Ln_182 (pE Pw_210)) [2, 3] (by decide) rfl
      have hKc := hK.sub (tys' := [(cT, .byte), (cO, .object "java/lang/Object"), (cI, .int), (cZ, .boolean)]) [3, 1, 0, 2] rfl
      have hFc := va_freeP (X := [(q_gp, .inl (cI, mg, .inl (fun j : Nat => zI (a_gp (j : Int))))), (q_gs, .inl (cI, ng, .inl (fun j : Nat => zI (a_gs (j : Int))))), (h0, .inr (14, [.ref q_t, .int (zI (z16_n)), .int (zI (z0_176)), .int (zI (z1_177)), .int (zI (z2_178)), .int (zI (z3_179)), .int (zI (z4_180)), .ref q5_181, v16_8, v16_9, v16_10, .ref q_gp, .ref q_gs, .int (zI (z16_goalN))])), (q_t, .inl (cT, 8192, .inl (fun j : Nat => zI (a_t (j : Int)))))]) (cx := [(h0, .inr (14, [.ref q_t, .int (zI (z16_n)), .int (zI (z0_176)), .int (zI (z1_177)), .int (zI (z2_178)), .int (zI (z3_179)), .int (zI (z4_180)), .ref q5_181, v16_8, v16_9, v16_10, .ref q_gp, .ref q_gs, .int (zI (z16_goalN))])), (q_t, .inl (cT, 8192, .inl (fun j : Nat => zI (a_t (j : Int)))))]) (pl := va_pl Ln_182 (pE Pw_210)) hD hS hA [2, 3] rfl
      refine W_knowS (fun hrmA => ?_)
      refine vx_callv (vx_runV (As := [.ref pr_2, .int 0]) (rest := []) ⟨hx, hb, hml, hown, hts⟩ (c_X16_opAR l dC dI cI cZ h0 z16_n z0_176 z1_177 z2_178 z3_179 z4_180 v16_8 v16_9 v16_10 (.ref q_gp) (.ref q_gs) (.int (zI (z16_goalN))) q_t cT a_t q5_181 Ln_182 Pw_210 sa_RX16_9 cO la sx_ed pr_2 (by omega) (by omega) (by omega) (by omega) (by omega) (by omega) hR_a_t hX_g hX_la hX_x hX_k (by omega) hX_kv hX_tn H.size sv_RX16_9 sa_RX16_119 sv_RX16_119 sa_RX16_100 sv_RX16_100 sa_RX16_117 sv_RX16_117 sa_RX16_98 sv_RX16_98 H) (cwV 2 hts g_X16_endR_X16_opAR rfl rfl rfl (by decide +kernel) ⟨(Nat.le_of_ble_eq_true rfl), (Nat.le_of_ble_eq_true rfl)⟩) ⟨fun a U g mk q => by obtain ⟨q0, q1, qP, qK, qD, e0, e1, e2, e3, e4, e5, e6, e7, e8, e9, e10, e11, e12, e13, e14⟩ := q; exact ⟨q0, q1, qP, va_K.moved (u := U) (U := U.calling g mk a) (Vm.Alike.refl U.vm) qK, qD, vk_R.same (u := U) (U := U.calling g mk a) rfl e0, va_Z.moved (u := U) (U := U.calling g mk a) (Vm.Alike.refl U.vm) e1, vs_S.moved (u := U) (U := U.calling g mk a) (Vm.Alike.refl U.vm) e2, va_Nw.same rfl (u := U) (U := U.calling g mk a) rfl e3, vk_R.same (u := U) (U := U.calling g mk a) rfl e4, vs_S.moved (u := U) (U := U.calling g mk a) (Vm.Alike.refl U.vm) e5, vs_S.moved (u := U) (U := U.calling g mk a) (Vm.Alike.refl U.vm) e6, vk_R.same (u := U) (U := U.calling g mk a) rfl e7, vk_R.same (u := U) (U := U.calling g mk a) rfl e8, vs_S.moved (u := U) (U := U.calling g mk a) (Vm.Alike.refl U.vm) e9, vk_R.same (u := U) (U := U.calling g mk a) rfl e10, vs_S.moved (u := U) (U := U.calling g mk a) (Vm.Alike.refl U.vm) e11, e12, vx_Zq.moved (u := U) (U := U.calling g mk a) (Vm.Alike.refl U.vm) e13, vx_Zq.moved (u := U) (U := U.calling g mk a) (Vm.Alike.refl U.vm) e14⟩, va_recv hKc hPc (ci := 14) (q0 := 0) rfl rfl, fun U hU hW => ⟨rfl, by rw [hU], by rw [hU]; exact hPc, va_K.moved hW.alike hKc, hDc.weaken (fun _ _ _ _ => trivial), vk_R.warm hW hp11, va_Z.go hp3 hS hFc hU hW.alike, vs_S.go hp2 hS hFc hU hW.alike, va_Nw.warmC hW hp12, vk_R.warm hW hp13, vs_S.go hp14 hS hFc hU hW.alike, vs_S.go hp15 hS hFc hU hW.alike, vk_R.warm hW hp16, vk_R.warm hW hp17, vs_S.go hp18 hS hFc hU hW.alike, vk_R.warm hW hp19, vs_S.go hp20 hS hFc hU hW.alike, hU, vx_Zq.go hp8 hS hFc hU hW.alike, vx_Zq.go hp9 hS hFc hU hW.alike⟩⟩ rfl rfl hl.1 rfl (lv_room (Nat.le_of_ble_eq_true rfl)) dX16_end_90 ⟨(show (0 + kc_184) + ((z16_n - z0_176 + 20).toNat) ≤ (8 * (z16_n - z16_place) + 4 * z16_goalN + 120).toNat from (rmT (by omega) (by omega))), (show (0 + ks_185) + ((10 * (z16_n - z0_176) + 120).toNat) ≤ (40 * (z16_n - z16_place) + 16 * z16_goalN + 700).toNat from (rmT (by omega) (by omega)))⟩) hS (fun q _ h => hFc q h) hFc (fun q _ h => hFc q h) (fun E ce q9 u t H1 locs ht hvm _ hB hz1 hk1 hS hce hcv hcl => ?_) (fun  u t H1 locs ht hvm hw hB hz1 hk1 hS => ?_)
      · obtain ⟨rfl, zp_229, Ln_230, Pn_231, kc_232, ks_233, hxt_234, hP1, hD1⟩ := hB
        rw [ht] at hP1
        obtain ⟨hP, hD⟩ := va_joinP (X := [(q_gp, .inl (cI, mg, .inl (fun j : Nat => zI (a_gp (j : Int))))), (q_gs, .inl (cI, ng, .inl (fun j : Nat => zI (a_gs (j : Int))))), (h0, .inr (14, [.ref q_t, .int (zI (z16_n)), .int (zI (z0_176)), .int (zI (z1_177)), .int (zI (z2_178)), .int (zI (z3_179)), .int (zI (z4_180)), .ref q5_181, v16_8, v16_9, v16_10, .ref q_gp, .ref q_gs, .int (zI (z16_goalN))])), (q_t, .inl (cT, 8192, .inl (fun j : Nat => zI (a_t (j : Int)))))]) (cx := [(h0, .inr (14, [.ref q_t, .int (zI (z16_n)), .int (zI (z0_176)), .int (zI (z1_177)), .int (zI (z2_178)), .int (zI (z3_179)), .int (zI (z4_180)), .ref q5_181, v16_8, v16_9, v16_10, .ref q_gp, .ref q_gs, .int (zI (z16_goalN))])), (q_t, .inl (cT, 8192, .inl (fun j : Nat => zI (a_t (j : Int)))))]) (wr := [(q_gp, .inl (cI, mg, .inl (fun j : Nat => zI (a_gp (j : Int))))), (q_gs, .inl (cI, ng, .inl (fun j : Nat => zI (a_gs (j : Int)))))]) (rx := [(q_t, .inl (cT, 8192, .inl (fun j : Nat => zI (a_t (j : Int))))), (q9, .inr (15, [.null, .null, .null, .null, .null, .int 0, .int (zI (zp_229))]))]) (pl := va_pl Ln_182 (pE Pw_210)) (pl1 := va_pl Ln_230 (pE Pn_231)) hP hD [2, 3] [0, 1] rfl rfl (by decide) (by decide) hk1 hFc hP1 hD1
        have hrmC := hxt_234.1.1
        rw [ht] at hrmC
        refine vx_tightS (hrmA.trans hrmC) ?_
        have hrb := hxt_234.1.2
        generalize H1 = H at hP hS hce ⊢
        have hP : va_P (dC, dI) vwQ ([(q_gp, .inl (cI, mg, .inl (fun j : Nat => zI (a_gp (j : Int))))), (q_gs, .inl (cI, ng, .inl (fun j : Nat => zI (a_gs (j : Int))))), (q_t, .inl (cT, 8192, .inl (fun j : Nat => zI (a_t (j : Int))))), (q9, .inr (15, [.null, .null, .null, .null, .null, .int 0, .int (zI (zp_229))]))] ++ va_pl Ln_230 (pE Pn_231)) H := hP
        have hD : va_D A ([(q_gp, .inl (cI, mg, .inl (fun j : Nat => zI (a_gp (j : Int))))), (q_gs, .inl (cI, ng, .inl (fun j : Nat => zI (a_gs (j : Int))))), (q_t, .inl (cT, 8192, .inl (fun j : Nat => zI (a_t (j : Int))))), (q9, .inr (15, [.null, .null, .null, .null, .null, .int 0, .int (zI (zp_229))]))] ++ va_pl Ln_230 (pE Pn_231)) := hD
        have hzp : 0 ≤ zp_229 ∧ zp_229 ≤ 8192 := hxt_234.2.1
        subst hQ
        have hP := hP.part (X := [(q_gp, .inl (cI, mg, .inl (fun j : Nat => zI (a_gp (j : Int))))), (q_gs, .inl (cI, ng, .inl (fun j : Nat => zI (a_gs (j : Int))))), (q_t, .inl (cT, 8192, .inl (fun j : Nat => zI (a_t (j : Int))))), (q9, .inr (15, [.null, .null, .null, .null, .null, .int 0, .int (zI (zp_229))]))]) (cx := [(q_t, .inl (cT, 8192, .inl (fun j : Nat => zI (a_t (j : Int))))), (q9, .inr (15, [.null, .null, .null, .null, .null, .int 0, .int (zI (zp_229))]))]) (pl := va_pl Ln_230 (pE Pn_231)) [2, 3] rfl
        have hD := hD.part (X := [(q_gp, .inl (cI, mg, .inl (fun j : Nat => zI (a_gp (j : Int))))), (q_gs, .inl (cI, ng, .inl (fun j : Nat => zI (a_gs (j : Int))))), (q_t, .inl (cT, 8192, .inl (fun j : Nat => zI (a_t (j : Int))))), (q9, .inr (15, [.null, .null, .null, .null, .null, .int 0, .int (zI (zp_229))]))]) (cx := [(q_t, .inl (cT, 8192, .inl (fun j : Nat => zI (a_t (j : Int))))), (q9, .inr (15, [.null, .null, .null, .null, .null, .int 0, .int (zI (zp_229))]))]) (pl := va_pl Ln_230 (pE Pn_231)) [2, 3] (by decide) rfl
        refine vx_knowS (fun hrm9 => ?_)
        refine vx_widen (k := ((8 * (z16_n - z16_place) + 4 * z16_goalN + 120).toNat)) (n := ((40 * (z16_n - z16_place) + 16 * z16_goalN + 700).toNat)) (rmW (by omega)) (rmW (by omega)) ?_
        exact vx_out (fun x9 h9 => (hnt x9 h9).elim) hlocks hce hcv hcl (fun t ht hvm => ⟨(), trivial, ⟨rfl, zp_229, Ln_230, Pn_231, ((0 + kc_184) + kc_232), ((0 + ks_185) + ks_233), ⟨⟨(by rw [ht, ← hp10]; exact hrm9), (by omega)⟩, ⟨(by omega), ⟨hA_223.trans hxt_234.2.2.1, hxt_234.2.2.2.1, (hcx_227.cpa hg00.owa (fun z _ q => by rcases (show z = xb ∨ z = P.be xb from q) with q | q; rw [q, hX_bk]; decide; rw [q, (hg00.gb hX_b hX_bk).1.2.1]; decide)).trans hA_223 hxt_234.2.2.2.2⟩⟩⟩, by rw [ht]; exact hP, hD⟩, hS.F ht⟩) hS.2.2 (Nat.le_refl _) (Nat.le_refl _)
      obtain ⟨z0_235, z1_236, z2_237, z3_238, z4_239, q5_240, Ln_241, Pn_242, kc_243, ks_244, hxt_244, hP1, hK1, hD1⟩ := hB
      rw [ht] at hP1
      have hK1 := va_K.moved hvm.symm hK1
      obtain ⟨hP, hD⟩ := va_joinP (X := [(q_gp, .inl (cI, mg, .inl (fun j : Nat => zI (a_gp (j : Int))))), (q_gs, .inl (cI, ng, .inl (fun j : Nat => zI (a_gs (j : Int))))), (h0, .inr (14, [.ref q_t, .int (zI (z16_n)), .int (zI (z0_176)), .int (zI (z1_177)), .int (zI (z2_178)), .int (zI (z3_179)), .int (zI (z4_180)), .ref q5_181, v16_8, v16_9, v16_10, .ref q_gp, .ref q_gs, .int (zI (z16_goalN))])), (q_t, .inl (cT, 8192, .inl (fun j : Nat => zI (a_t (j : Int)))))]) (cx := [(h0, .inr (14, [.ref q_t, .int (zI (z16_n)), .int (zI (z0_176)), .int (zI (z1_177)), .int (zI (z2_178)), .int (zI (z3_179)), .int (zI (z4_180)), .ref q5_181, v16_8, v16_9, v16_10, .ref q_gp, .ref q_gs, .int (zI (z16_goalN))])), (q_t, .inl (cT, 8192, .inl (fun j : Nat => zI (a_t (j : Int)))))]) (wr := [(q_gp, .inl (cI, mg, .inl (fun j : Nat => zI (a_gp (j : Int))))), (q_gs, .inl (cI, ng, .inl (fun j : Nat => zI (a_gs (j : Int)))))]) (rx := [(h0, .inr (14, [.ref q_t, .int (zI (z16_n)), .int (zI (z0_235)), .int (zI (z1_236)), .int (zI (z2_237)), .int (zI (z3_238)), .int (zI (z4_239)), .ref q5_240, v16_8, v16_9, v16_10, .ref q_gp, .ref q_gs, .int (zI (z16_goalN))])), (q_t, .inl (cT, 8192, .inl (fun j : Nat => zI (a_t (j : Int)))))]) (pl := va_pl Ln_182 (pE Pw_210)) (pl1 := va_pl Ln_241 (pE Pn_242)) hP hD [2, 3] [0, 1] rfl rfl (by decide) (by decide) hk1 hFc hP1 hD1
      have hK := (hK.sub (tys' := [(cI, .int)]) [0] rfl).app hK1
      have hrmC := hxt_244.1.1
      rw [ht] at hrmC
      refine W_tightS (hrmA.trans hrmC) ?_
      have hrb := hxt_244.1.2
      generalize H1 = H at hP hS ⊢
      have hP : va_P (dC, dI) vwQ ([(q_gp, .inl (cI, mg, .inl (fun j : Nat => zI (a_gp (j : Int))))), (q_gs, .inl (cI, ng, .inl (fun j : Nat => zI (a_gs (j : Int))))), (h0, .inr (14, [.ref q_t, .int (zI (z16_n)), .int (zI (z0_235)), .int (zI (z1_236)), .int (zI (z2_237)), .int (zI (z3_238)), .int (zI (z4_239)), .ref q5_240, v16_8, v16_9, v16_10, .ref q_gp, .ref q_gs, .int (zI (z16_goalN))])), (q_t, .inl (cT, 8192, .inl (fun j : Nat => zI (a_t (j : Int)))))] ++ va_pl Ln_241 (pE Pn_242)) H := hP
      have hD : va_D A ([(q_gp, .inl (cI, mg, .inl (fun j : Nat => zI (a_gp (j : Int))))), (q_gs, .inl (cI, ng, .inl (fun j : Nat => zI (a_gs (j : Int))))), (h0, .inr (14, [.ref q_t, .int (zI (z16_n)), .int (zI (z0_235)), .int (zI (z1_236)), .int (zI (z2_237)), .int (zI (z3_238)), .int (zI (z4_239)), .ref q5_240, v16_8, v16_9, v16_10, .ref q_gp, .ref q_gs, .int (zI (z16_goalN))])), (q_t, .inl (cT, 8192, .inl (fun j : Nat => zI (a_t (j : Int)))))] ++ va_pl Ln_241 (pE Pn_242)) := hD
      have hK : va_K (dC, dI) vwQ [(cI, .int), (cT, .byte), (cO, .object "java/lang/Object"), (cI, .int), (cZ, .boolean)] s := hK
      refine W.widen (k := ((0 + kc_184) + kc_243)) (n := ((0 + ks_185) + ks_244)) (by omega) (by omega) ?_
      obtain ⟨rk_245, rk_246, rk_247, rk_248, rk_249, hu_249⟩ := hxt_244.2
      have htk_250 := hu_249.2.2.2.2.1.2
      have hrg_250 := hu_249.2.2.2.2.1.1
      have htq_250 := htk_250.1
      have hu_251 := HID.mk (hu_249)
      replace hu_249 := HID.mk hu_249
      replace hxt_244 := HID.mk hxt_244
      have hsm_252 := (hu_251.2.2.2.1 xb hq_220.1 (fun e9 => absurd e9 (kd_ne hq_220.2 hq_221.2 (by decide)))).2
      have : Pn_242.bf xb = Pw_210.bf xb := hsm_252.1 0
      have : Pn_242.bs xb = Pw_210.bs xb := hsm_252.1 1
      have hoc9 := hu_251.2.2.1.2
      have hoq9 : OPQ (Pn_242.rA pr_2) (Pn_242.ra pr_2) := hu_251.2.2.1.1
      have hgo9 := hkd_196.go (by omega)
      have hkd_253 := hu_251.2.2.2.2.2.1
      have hX_kv := hkd_253.2
      have hq_254 : HID (la ∈ Ln_241 ∧ Pn_242.kd la = 30) := hu_251.1.mem hq_219.1 hq_219.2 (by decide)
      have hq_255 : HID (xb ∈ Ln_241 ∧ Pn_242.kd xb = 12) := hu_251.1.mem hq_220.1 hq_220.2 (by decide)
      have hq_256 : HID (pr_2 ∈ Ln_241 ∧ Pn_242.kd pr_2 = 17) := hu_251.1.mem hq_221.1 hq_221.2 (by decide)
      have ha_257 : HID (Pn_242.be xb = pr_2) := hu_251.1.be hq_220.1 hq_220.2 ha_222.out
      have hA_258 : KEG [] L P Ln_241 Pn_242 := hA_223.trans hu_251.1
      have : Pn_242.lz la = Pw_210.lz la := (hu_251.2.2.2.1 la hq_219.1 (fun e9 => absurd e9 (kd_ne hq_219.2 hq_221.2 (by decide)))).2.1 0
      have hek_259 : HID (Pn_242.ek la = 12) := (by rw [hu_251.1.ek hq_219.1 hq_219.2 (by decide)]; exact hek_224.out)
      have how_260 : HID (Pn_242.ow la = la) := ((hu_251.1.1 la hq_219.1 (by rw [hq_219.2]; decide)).2.2.2.1 hq_219.2 how_225.out).1
      have hcz := (((hu_251.1.1 la hq_219.1 (by rw [hq_219.2]; decide)).2.2.2.1 hq_219.2 how_225.out).2 (by simp)).1
      have hE_261 : HID (Pn_242.ek pr_2 = 1) := (by rw [hu_251.1.ek hq_221.1 hq_221.2 (by decide)]; exact hE_226.out)
      have hX_tx := hu_251.2.2.2.2.2.2.1
      have hxk9 := hu_251.2.2.2.2.2.2.2
      have hcx_262 : CHG (fun z => z = xb ∨ z = P.be xb) L P Ln_241 Pn_242 := hcx_227.trans hu_251.2.2.2.1 (fun z m q => Or.inr (q.trans epr_2))
      have hnn_250 := TKV.nn (k := z1_236) (d := z0_235 - z2_237) (by omega)
      have hri_263 : ((((0 + ks_185) + ks_244) : Nat) : Int) ≤ 40 * (z2_237 - z16_place) - TKV z16_kind (z16_at - z16_place) + TKV (z1_236) (z0_235 - z2_237) ∧ ((((0 + kc_184) + kc_243) : Nat) : Int) ≤ 8 * (z2_237 - z16_place) - TKW z16_kind (z16_at - z16_place) + TKW (z1_236) (z0_235 - z2_237) - 3 := (by omega)
      clear hrb hri_208
      skip
      have hoa9 := hoq9
      refine lv_aload_n hx hb dX16_end_93 rfl (lv_at hl 2 rfl) ?_
      refine lv_aload_n hx hb dX16_end_94 rfl (lv_at hl 1 rfl) ?_
      have hX_tn := htk_250
      have hPc := hP.part (X := [(q_gp, .inl (cI, mg, .inl (fun j : Nat => zI (a_gp (j : Int))))), (q_gs, .inl (cI, ng, .inl (fun j : Nat => zI (a_gs (j : Int))))), (h0, .inr (14, [.ref q_t, .int (zI (z16_n)), .int (zI (z0_235)), .int (zI (z1_236)), .int (zI (z2_237)), .int (zI (z3_238)), .int (zI (z4_239)), .ref q5_240, v16_8, v16_9, v16_10, .ref q_gp, .ref q_gs, .int (zI (z16_goalN))])), (q_t, .inl (cT, 8192, .inl (fun j : Nat => zI (a_t (j : Int)))))]) (cx := [(h0, .inr (14, [.ref q_t, .int (zI (z16_n)), .int (zI (z0_235)), .int (zI (z1_236)), .int (zI (z2_237)), .int (zI (z3_238)), .int (zI (z4_239)), .ref q5_240, v16_8, v16_9, v16_10, .ref q_gp, .ref q_gs, .int (zI (z16_goalN))])), (q_t, .inl (cT, 8192, .inl (fun j : Nat => zI (a_t (j : Int))))), (q_gp, .inl (cI, mg, .inl (fun j : Nat => zI (a_gp (j : Int))))), (q_gs, .inl (cI, ng, .inl (fun j : Nat => zI (a_gs (j : Int)))))]) (pl := va_pl Ln_241 (pE Pn_242)) [2, 3, 0, 1] rfl
      have hDc := hD.part (X := [(q_gp, .inl (cI, mg, .inl (fun j : Nat => zI (a_gp (j : Int))))), (q_gs, .inl (cI, ng, .inl (fun j : Nat => zI (a_gs (j : Int))))), (h0, .inr (14, [.ref q_t, .int (zI (z16_n)), .int (zI (z0_235)), .int (zI (z1_236)), .int (zI (z2_237)), .int (zI (z3_238)), .int (zI (z4_239)), .ref q5_240, v16_8, v16_9, v16_10, .ref q_gp, .ref q_gs, .int (zI (z16_goalN))])), (q_t, .inl (cT, 8192, .inl (fun j : Nat => zI (a_t (j : Int)))))]) (cx := [(h0, .inr (14, [.ref q_t, .int (zI (z16_n)), .int (zI (z0_235)), .int (zI (z1_236)), .int (zI (z2_237)), .int (zI (z3_238)), .int (zI (z4_239)), .ref q5_240, v16_8, v16_9, v16_10, .ref q_gp, .ref q_gs, .int (zI (z16_goalN))])), (q_t, .inl (cT, 8192, .inl (fun j : Nat => zI (a_t (j : Int))))), (q_gp, .inl (cI, mg, .inl (fun j : Nat => zI (a_gp (j : Int))))), (q_gs, .inl (cI, ng, .inl (fun j : Nat => zI (a_gs (j : Int)))))]) (pl := va_pl Ln_241 (pE Pn_242)) [2, 3, 0, 1] (by decide) rfl
      have hKc := hK.sub (tys' := [(cT, .byte), (cI, .int)]) [1, 0] rfl
      have hFc := va_freeP (X := [(q_gp, .inl (cI, mg, .inl (fun j : Nat => zI (a_gp (j : Int))))), (q_gs, .inl (cI, ng, .inl (fun j : Nat => zI (a_gs (j : Int))))), (h0, .inr (14, [.ref q_t, .int (zI (z16_n)), .int (zI (z0_235)), .int (zI (z1_236)), .int (zI (z2_237)), .int (zI (z3_238)), .int (zI (z4_239)), .ref q5_240, v16_8, v16_9, v16_10, .ref q_gp, .ref q_gs, .int (zI (z16_goalN))])), (q_t, .inl (cT, 8192, .inl (fun j : Nat => zI (a_t (j : Int)))))]) (cx := [(h0, .inr (14, [.ref q_t, .int (zI (z16_n)), .int (zI (z0_235)), .int (zI (z1_236)), .int (zI (z2_237)), .int (zI (z3_238)), .int (zI (z4_239)), .ref q5_240, v16_8, v16_9, v16_10, .ref q_gp, .ref q_gs, .int (zI (z16_goalN))])), (q_t, .inl (cT, 8192, .inl (fun j : Nat => zI (a_t (j : Int))))), (q_gp, .inl (cI, mg, .inl (fun j : Nat => zI (a_gp (j : Int))))), (q_gs, .inl (cI, ng, .inl (fun j : Nat => zI (a_gs (j : Int)))))]) (pl := va_pl Ln_241 (pE Pn_242)) hD hS hA [2, 3, 0, 1] rfl
      refine W_knowS (fun hrmA => ?_)
      refine vx_calli (vx_runV (As := []) (rest := [.ref xb]) ⟨hx, hb, hml, hown, hts⟩ (c_X16_goalK l dC dI h0 z16_n z0_235 z1_236 z2_237 z3_238 z4_239 v16_8 v16_9 v16_10 z16_goalN q_t cT a_t q5_240 q_gp q_gs cI ng mg a_gp a_gs Ln_241 Pn_242 sa_RX16_9 (by omega) (by omega) (by omega) (by omega) (by omega) (by omega) (by omega) hR_a_t (by omega) hR_a_gp hR_a_gs hX_tx (by omega) hX_kv hX_tn H.size sv_RX16_9 sa_RX16_119 sv_RX16_119 sa_RX16_100 sv_RX16_100 sa_RX16_117 sv_RX16_117 sa_RX16_98 sv_RX16_98 H) (cwV 0 hts g_X16_endR_X16_goalK rfl rfl rfl (by decide +kernel) ⟨(Nat.le_of_ble_eq_true rfl), (Nat.le_of_ble_eq_true rfl)⟩) ⟨fun a U g mk q => by obtain ⟨q0, q1, qP, qK, qD, e0, e1, e2, e3, e4, e5, e6, e7, e8, e9, e10, e11, e12, e13, e14⟩ := q; exact ⟨q0, q1, qP, va_K.moved (u := U) (U := U.calling g mk a) (Vm.Alike.refl U.vm) qK, qD, vk_R.same (u := U) (U := U.calling g mk a) rfl e0, va_Z.moved (u := U) (U := U.calling g mk a) (Vm.Alike.refl U.vm) e1, vs_S.moved (u := U) (U := U.calling g mk a) (Vm.Alike.refl U.vm) e2, va_Nw.same rfl (u := U) (U := U.calling g mk a) rfl e3, vk_R.same (u := U) (U := U.calling g mk a) rfl e4, vs_S.moved (u := U) (U := U.calling g mk a) (Vm.Alike.refl U.vm) e5, vs_S.moved (u := U) (U := U.calling g mk a) (Vm.Alike.refl U.vm) e6, vk_R.same (u := U) (U := U.calling g mk a) rfl e7, vk_R.same (u := U) (U := U.calling g mk a) rfl e8, vs_S.moved (u := U) (U := U.calling g mk a) (Vm.Alike.refl U.vm) e9, vk_R.same (u := U) (U := U.calling g mk a) rfl e10, vs_S.moved (u := U) (U := U.calling g mk a) (Vm.Alike.refl U.vm) e11, vx_Zq.moved (u := U) (U := U.calling g mk a) (Vm.Alike.refl U.vm) e12, vx_Zq.moved (u := U) (U := U.calling g mk a) (Vm.Alike.refl U.vm) e13, e14⟩, va_recv hKc hPc (ci := 14) (q0 := 0) rfl rfl, fun U hU hW => ⟨rfl, by rw [hU], by rw [hU]; exact hPc, va_K.moved hW.alike hKc, hDc.weaken (fun _ _ _ _ => trivial), vk_R.warm hW hp11, va_Z.go hp3 hS hFc hU hW.alike, vs_S.go hp2 hS hFc hU hW.alike, va_Nw.warmC hW hp12, vk_R.warm hW hp13, vs_S.go hp14 hS hFc hU hW.alike, vs_S.go hp15 hS hFc hU hW.alike, vk_R.warm hW hp16, vk_R.warm hW hp17, vs_S.go hp18 hS hFc hU hW.alike, vk_R.warm hW hp19, vs_S.go hp20 hS hFc hU hW.alike, vx_Zq.go hp8 hS hFc hU hW.alike, vx_Zq.go hp9 hS hFc hU hW.alike, hU⟩⟩ rfl rfl hl.1 rfl (lv_room (Nat.le_of_ble_eq_true rfl)) dX16_end_95 ⟨(show ((0 + kc_184) + kc_243) + ((z16_n - z0_235 + 22).toNat) ≤ (8 * (z16_n - z16_place) + 4 * z16_goalN + 120).toNat from (rmT (by omega) (by omega))), (show ((0 + ks_185) + ks_244) + ((10 * (z16_n - z0_235) + 4 * z16_goalN + 120).toNat) ≤ (40 * (z16_n - z16_place) + 16 * z16_goalN + 700).toNat from (rmT (by omega) (by omega)))⟩) hS (fun q _ h => hFc q h) hFc (fun q _ h => hFc q h) (fun E ce q9 u t H1 locs ht hvm _ hB hz1 hk1 hS hce hcv hcl => ?_) (fun r_264 z_265 t H1 locs ht hvm hw hB hz1 hk1 hS => ?_)
      · obtain ⟨rfl, zp_266, Ln_267, Pn_268, kc_269, ks_270, hxt_271, hP1, hD1⟩ := hB
        rw [ht] at hP1
        obtain ⟨hP, hD⟩ := va_joinP (X := [(q_gp, .inl (cI, mg, .inl (fun j : Nat => zI (a_gp (j : Int))))), (q_gs, .inl (cI, ng, .inl (fun j : Nat => zI (a_gs (j : Int))))), (h0, .inr (14, [.ref q_t, .int (zI (z16_n)), .int (zI (z0_235)), .int (zI (z1_236)), .int (zI (z2_237)), .int (zI (z3_238)), .int (zI (z4_239)), .ref q5_240, v16_8, v16_9, v16_10, .ref q_gp, .ref q_gs, .int (zI (z16_goalN))])), (q_t, .inl (cT, 8192, .inl (fun j : Nat => zI (a_t (j : Int)))))]) (cx := [(h0, .inr (14, [.ref q_t, .int (zI (z16_n)), .int (zI (z0_235)), .int (zI (z1_236)), .int (zI (z2_237)), .int (zI (z3_238)), .int (zI (z4_239)), .ref q5_240, v16_8, v16_9, v16_10, .ref q_gp, .ref q_gs, .int (zI (z16_goalN))])), (q_t, .inl (cT, 8192, .inl (fun j : Nat => zI (a_t (j : Int))))), (q_gp, .inl (cI, mg, .inl (fun j : Nat => zI (a_gp (j : Int))))), (q_gs, .inl (cI, ng, .inl (fun j : Nat => zI (a_gs (j : Int)))))]) (wr := []) (rx := [(q_t, .inl (cT, 8192, .inl (fun j : Nat => zI (a_t (j : Int))))), (q9, .inr (15, [.null, .null, .null, .null, .null, .int 0, .int (zI (zp_266))]))]) (pl := va_pl Ln_241 (pE Pn_242)) (pl1 := va_pl Ln_267 (pE Pn_268)) hP hD [2, 3, 0, 1] [] rfl rfl (by decide) (by decide) hk1 hFc hP1 hD1
        have hrmC := hxt_271.1.1
        rw [ht] at hrmC
        refine vx_tightS (hrmA.trans hrmC) ?_
        have hrb := hxt_271.1.2
        generalize H1 = H at hP hS hce ⊢
        have hP : va_P (dC, dI) vwQ ([(q_t, .inl (cT, 8192, .inl (fun j : Nat => zI (a_t (j : Int))))), (q9, .inr (15, [.null, .null, .null, .null, .null, .int 0, .int (zI (zp_266))]))] ++ va_pl Ln_267 (pE Pn_268)) H := hP
        have hD : va_D A ([(q_t, .inl (cT, 8192, .inl (fun j : Nat => zI (a_t (j : Int))))), (q9, .inr (15, [.null, .null, .null, .null, .null, .int 0, .int (zI (zp_266))]))] ++ va_pl Ln_267 (pE Pn_268)) := hD
        have hzp : 0 ≤ zp_266 ∧ zp_266 ≤ 8192 := hxt_271.2.1
        subst hQ
        refine vx_knowS (fun hrm9 => ?_)
        refine vx_widen (k := ((8 * (z16_n - z16_place) + 4 * z16_goalN + 120).toNat)) (n := ((40 * (z16_n - z16_place) + 16 * z16_goalN + 700).toNat)) (rmW (by omega)) (rmW (by omega)) ?_
        exact vx_out (fun x9 h9 => (hnt x9 h9).elim) hlocks hce hcv hcl (fun t ht hvm => ⟨(), trivial, ⟨rfl, zp_266, Ln_267, Pn_268, (((0 + kc_184) + kc_243) + kc_269), (((0 + ks_185) + ks_244) + ks_270), ⟨⟨(by rw [ht, ← hp10]; exact hrm9), (by omega)⟩, ⟨(by omega), ⟨hA_258.trans (hxt_271.2.2.1.kegR hu_251.2.1), hu_251.2.1.txt hxt_271.2.2.1 hxt_271.2.2.2, (hcx_262.cpa hg00.owa (fun z _ q => by rcases (show z = xb ∨ z = P.be xb from q) with q | q; rw [q, hX_bk]; decide; rw [q, (hg00.gb hX_b hX_bk).1.2.1]; decide)).trans hA_258 (hxt_271.2.2.1.cpa hu_251.2.1.owa)⟩⟩⟩, by rw [ht]; exact hP, hD⟩, hS.F ht⟩) hS.2.2 (Nat.le_refl _) (Nat.le_refl _)
      obtain ⟨z0_272, z1_273, z2_274, z3_275, z4_276, q5_277, z6_278, qn0_279, nn0_280, an0_281, qn1_282, nn1_283, an1_284, Ln_285, Pn_286, kc_287, ks_288, hxt_288, hP1, hK1, hD1⟩ := hB
      rw [ht] at hP1
      have hK1 := va_K.moved hvm.symm hK1
      obtain ⟨hP, hD⟩ := va_joinP (X := [(q_gp, .inl (cI, mg, .inl (fun j : Nat => zI (a_gp (j : Int))))), (q_gs, .inl (cI, ng, .inl (fun j : Nat => zI (a_gs (j : Int))))), (h0, .inr (14, [.ref q_t, .int (zI (z16_n)), .int (zI (z0_235)), .int (zI (z1_236)), .int (zI (z2_237)), .int (zI (z3_238)), .int (zI (z4_239)), .ref q5_240, v16_8, v16_9, v16_10, .ref q_gp, .ref q_gs, .int (zI (z16_goalN))])), (q_t, .inl (cT, 8192, .inl (fun j : Nat => zI (a_t (j : Int)))))]) (cx := [(h0, .inr (14, [.ref q_t, .int (zI (z16_n)), .int (zI (z0_235)), .int (zI (z1_236)), .int (zI (z2_237)), .int (zI (z3_238)), .int (zI (z4_239)), .ref q5_240, v16_8, v16_9, v16_10, .ref q_gp, .ref q_gs, .int (zI (z16_goalN))])), (q_t, .inl (cT, 8192, .inl (fun j : Nat => zI (a_t (j : Int))))), (q_gp, .inl (cI, mg, .inl (fun j : Nat => zI (a_gp (j : Int))))), (q_gs, .inl (cI, ng, .inl (fun j : Nat => zI (a_gs (j : Int)))))]) (wr := []) (rx := [(h0, .inr (14, [.ref q_t, .int (zI (z16_n)), .int (zI (z0_272)), .int (zI (z1_273)), .int (zI (z2_274)), .int (zI (z3_275)), .int (zI (z4_276)), .ref q5_277, v16_8, v16_9, v16_10, .ref qn0_279, .ref qn1_282, .int (zI (z6_278))])), (q_t, .inl (cT, 8192, .inl (fun j : Nat => zI (a_t (j : Int))))), (qn0_279, .inl (cI, nn0_280, .inl (fun j : Nat => zI (an0_281 (j : Int))))), (qn1_282, .inl (cI, nn1_283, .inl (fun j : Nat => zI (an1_284 (j : Int)))))]) (pl := va_pl Ln_241 (pE Pn_242)) (pl1 := va_pl Ln_285 (pE Pn_286)) hP hD [2, 3, 0, 1] [] rfl rfl (by decide) (by decide) hk1 hFc hP1 hD1
      have hK := (hK.sub (tys' := [(cO, .object "java/lang/Object"), (cZ, .boolean)]) [2, 4] rfl).app hK1
      have hrmC := hxt_288.1.1
      rw [ht] at hrmC
      refine W_tightS (hrmA.trans hrmC) ?_
      have hrb := hxt_288.1.2
      generalize H1 = H at hP hS ⊢
      have hP : va_P (dC, dI) vwQ ([(h0, .inr (14, [.ref q_t, .int (zI (z16_n)), .int (zI (z0_272)), .int (zI (z1_273)), .int (zI (z2_274)), .int (zI (z3_275)), .int (zI (z4_276)), .ref q5_277, v16_8, v16_9, v16_10, .ref qn0_279, .ref qn1_282, .int (zI (z6_278))])), (q_t, .inl (cT, 8192, .inl (fun j : Nat => zI (a_t (j : Int))))), (qn0_279, .inl (cI, nn0_280, .inl (fun j : Nat => zI (an0_281 (j : Int))))), (qn1_282, .inl (cI, nn1_283, .inl (fun j : Nat => zI (an1_284 (j : Int)))))] ++ va_pl Ln_285 (pE Pn_286)) H := hP
      have hD : va_D A ([(h0, .inr (14, [.ref q_t, .int (zI (z16_n)), .int (zI (z0_272)), .int (zI (z1_273)), .int (zI (z2_274)), .int (zI (z3_275)), .int (zI (z4_276)), .ref q5_277, v16_8, v16_9, v16_10, .ref qn0_279, .ref qn1_282, .int (zI (z6_278))])), (q_t, .inl (cT, 8192, .inl (fun j : Nat => zI (a_t (j : Int))))), (qn0_279, .inl (cI, nn0_280, .inl (fun j : Nat => zI (an0_281 (j : Int))))), (qn1_282, .inl (cI, nn1_283, .inl (fun j : Nat => zI (an1_284 (j : Int)))))] ++ va_pl Ln_285 (pE Pn_286)) := hD
      have hK : va_K (dC, dI) vwQ [(cO, .object "java/lang/Object"), (cZ, .boolean), (cT, .byte), (cI, .int)] s := hK
      refine W.widen (k := (((0 + kc_184) + kc_243) + kc_287)) (n := (((0 + ks_185) + ks_244) + ks_288)) (by omega) (by omega) ?_
      obtain ⟨rfl, hzz_265⟩ := hw
      obtain ⟨rk_289, rk_290, rk_291, rk_292, rk_293, rk_294, rk_295, rk_296, hu_296⟩ := hxt_288.2
      have htk_297 := hu_296.2.2.2.1.2
      have hrg_297 := hu_296.2.2.2.1.1
      have htq_297 := htk_297.1
      have hgo9 := hkd_253.go (by omega)
      have hkd_302 := hu_296.2.2.2.2.1
      have hX_kv := hkd_302.2
      have hu_298 := hu_296.2.2.2.2.2
      have hex_299 : EXT9 Ln_241 Pn_242 Ln_285 Pn_286 := hu_298.1
      have hke_300 : KEG [] Ln_241 Pn_242 Ln_285 Pn_286 := hex_299.kegR hu_251.2.1
      have hak_301 : GLR Ln_285 Pn_286 cO cI cZ sx_ed := hu_251.2.1.txt hex_299 hu_298.2.1
      have hsm_303 := (hex_299 xb hq_255.1).2
      have : Pn_286.bf xb = Pn_242.bf xb := hsm_303.1 0
      have : Pn_286.bs xb = Pn_242.bs xb := hsm_303.1 1
      have hsm_304 := (hex_299 pr_2 hq_256.1).2
      have : Pn_286.ro pr_2 = Pn_242.ro pr_2 := hsm_304.1 0
      have : Pn_286.rt pr_2 = Pn_242.rt pr_2 := hsm_304.1 1
      have : Pn_286.ra pr_2 = Pn_242.ra pr_2 := hsm_304.1 2
      have : Pn_286.rb pr_2 = Pn_242.rb pr_2 := hsm_304.1 3
      have : Pn_286.rA pr_2 = Pn_242.rA pr_2 := hsm_304.1 4
      have : Pn_286.rB pr_2 = Pn_242.rB pr_2 := hsm_304.1 5
      have : Pn_286.rg pr_2 = Pn_242.rg pr_2 := hsm_304.1 6
      have : Pn_286.ek pr_2 = Pn_242.ek pr_2 := hsm_304.2.1 8
      have hq_305 : HID (la ∈ Ln_285 ∧ Pn_286.kd la = 30) := hke_300.mem hq_254.1 hq_254.2 (by decide)
      have hq_306 : HID (xb ∈ Ln_285 ∧ Pn_286.kd xb = 12) := hke_300.mem hq_255.1 hq_255.2 (by decide)
      have hq_307 : HID (pr_2 ∈ Ln_285 ∧ Pn_286.kd pr_2 = 17) := hke_300.mem hq_256.1 hq_256.2 (by decide)
      have ha_308 : HID (Pn_286.be xb = pr_2) := hke_300.be hq_255.1 hq_255.2 ha_257.out
      have hA_309 : KEG [] L P Ln_285 Pn_286 := hA_258.trans hke_300
      have : Pn_286.lz la = Pn_242.lz la := (hex_299 la hq_254.1).2.1 0
      have hek_310 : HID (Pn_286.ek la = 12) := (by rw [hke_300.ek hq_254.1 hq_254.2 (by decide)]; exact hek_259.out)
      have how_311 : HID (Pn_286.ow la = la) := ((hke_300.1 la hq_254.1 (by rw [hq_254.2]; decide)).2.2.2.1 hq_254.2 how_260.out).1
      have hcz := (((hke_300.1 la hq_254.1 (by rw [hq_254.2]; decide)).2.2.2.1 hq_254.2 how_260.out).2 (by simp)).1
      have hE_312 : HID (Pn_286.ek pr_2 = 1) := (by rw [hke_300.ek hq_256.1 hq_256.2 (by decide)]; exact hE_261.out)
      have hX_tx := hu_298.2.2
      have hcx_313 : CHG (fun z => z = xb ∨ z = P.be xb) L P Ln_285 Pn_286 := hcx_262.trans hex_299.chg (fun z m q => q.elim)
      have hnn_297 := TKV.nn (k := z1_273) (d := z0_272 - z2_274) (by omega)
      have hgo1 := hu_296
      have hgn1 := hgo1.1
      have hri_314 : (((((0 + ks_185) + ks_244) + ks_288) : Nat) : Int) ≤ 40 * (z2_274 - z16_place) - TKV z16_kind (z16_at - z16_place) + TKV (z1_273) (z0_272 - z2_274) + 4 * ((nn1_283 : Int) - ng) - 80 ∧ (((((0 + kc_184) + kc_243) + kc_287) : Nat) : Int) ≤ 8 * (z2_274 - z16_place) - TKW z16_kind (z16_at - z16_place) + TKW (z1_273) (z0_272 - z2_274) + 2 * ((nn1_283 : Int) - ng) - 19 := (by omega)
      clear hrb hri_263
      skip
      have hfb := (hak_301.gb hq_306.1 hq_306.2).2
      obtain ⟨kp_315, gkp_315⟩ := va_pl_get (X := [(h0, .inr (14, [.ref q_t, .int (zI (z16_n)), .int (zI (z0_272)), .int (zI (z1_273)), .int (zI (z2_274)), .int (zI (z3_275)), .int (zI (z4_276)), .ref q5_277, v16_8, v16_9, v16_10, .ref qn0_279, .ref qn1_282, .int (zI (z6_278))])), (q_t, .inl (cT, 8192, .inl (fun j : Nat => zI (a_t (j : Int))))), (qn0_279, .inl (cI, nn0_280, .inl (fun j : Nat => zI (an0_281 (j : Int))))), (qn1_282, .inl (cI, nn1_283, .inl (fun j : Nat => zI (an1_284 (j : Int)))))]) (f := pE Pn_286) hq_306.1
      have hkp_315 := gkp_315
      rw [pE_block hq_306.2] at hkp_315
      have hD0 := hD
      refine va_put (D := (dC, dI)) (ci := 19) (v := .int (zI (z_265))) (ty := .int) (C := RX12) (T := TX12) (N := 5) hx hb hts mem_X16_endR_0 tyX12 tyX12_ok nmX12 hown hK hP hD hS kp_315 hkp_315 rfl 3 (by decide) (ow (k := 4) rfl) (fun _ h9 => h9) rfl (by decide +kernel) rfl rfl (by first | exact Nat.le_of_ble_eq_true rfl | exact (show (((0 + kc_184) + kc_243) + kc_287) ≤ (8 * (z16_n - z16_place) + 4 * z16_goalN + 120).toNat from (rmW (by omega))) | exact (show (((0 + ks_185) + ks_244) + ks_288) ≤ (40 * (z16_n - z16_place) + 16 * z16_goalN + 700).toNat from (rmW (by omega)))) dX16_end_98 (fun H locs hP hD hS => ?_)
      obtain ⟨Pw_316, ePw_316⟩ : ∃ q9 : PO, q9 = Pn_286.rw9 0 xb (z_265) := ⟨_, rfl⟩
      have eU : (([(h0, .inr (14, [.ref q_t, .int (zI (z16_n)), .int (zI (z0_272)), .int (zI (z1_273)), .int (zI (z2_274)), .int (zI (z3_275)), .int (zI (z4_276)), .ref q5_277, v16_8, v16_9, v16_10, .ref qn0_279, .ref qn1_282, .int (zI (z6_278))])), (q_t, .inl (cT, 8192, .inl (fun j : Nat => zI (a_t (j : Int))))), (qn0_279, .inl (cI, nn0_280, .inl (fun j : Nat => zI (an0_281 (j : Int))))), (qn1_282, .inl (cI, nn1_283, .inl (fun j : Nat => zI (an1_284 (j : Int)))))] : va_W) ++ va_pl Ln_285 (pE Pn_286)).set kp_315 (xb, blockE (Pn_286.bp xb) (Pn_286.br xb) (Pn_286.be xb) (z_265) (Pn_286.bs xb)) = ([(h0, .inr (14, [.ref q_t, .int (zI (z16_n)), .int (zI (z0_272)), .int (zI (z1_273)), .int (zI (z2_274)), .int (zI (z3_275)), .int (zI (z4_276)), .ref q5_277, v16_8, v16_9, v16_10, .ref qn0_279, .ref qn1_282, .int (zI (z6_278))])), (q_t, .inl (cT, 8192, .inl (fun j : Nat => zI (a_t (j : Int))))), (qn0_279, .inl (cI, nn0_280, .inl (fun j : Nat => zI (an0_281 (j : Int))))), (qn1_282, .inl (cI, nn1_283, .inl (fun j : Nat => zI (an1_284 (j : Int)))))] : va_W) ++ va_pl Ln_285 (pE Pw_316) := (by rw [va_pl_set hD0 hq_306.1 gkp_315, ePw_316]; exact congrArg (fun f9 => ([(h0, .inr (14, [.ref q_t, .int (zI (z16_n)), .int (zI (z0_272)), .int (zI (z1_273)), .int (zI (z2_274)), .int (zI (z3_275)), .int (zI (z4_276)), .ref q5_277, v16_8, v16_9, v16_10, .ref qn0_279, .ref qn1_282, .int (zI (z6_278))])), (q_t, .inl (cT, 8192, .inl (fun j : Nat => zI (a_t (j : Int))))), (qn0_279, .inl (cI, nn0_280, .inl (fun j : Nat => zI (an0_281 (j : Int))))), (qn1_282, .inl (cI, nn1_283, .inl (fun j : Nat => zI (an1_284 (j : Int)))))] : va_W) ++ va_pl Ln_285 f9) (put12_0 hq_306.2))
      have hP : va_P (dC, dI) vwQ ([(h0, .inr (14, [.ref q_t, .int (zI (z16_n)), .int (zI (z0_272)), .int (zI (z1_273)), .int (zI (z2_274)), .int (zI (z3_275)), .int (zI (z4_276)), .ref q5_277, v16_8, v16_9, v16_10, .ref qn0_279, .ref qn1_282, .int (zI (z6_278))])), (q_t, .inl (cT, 8192, .inl (fun j : Nat => zI (a_t (j : Int))))), (qn0_279, .inl (cI, nn0_280, .inl (fun j : Nat => zI (an0_281 (j : Int))))), (qn1_282, .inl (cI, nn1_283, .inl (fun j : Nat => zI (an1_284 (j : Int)))))] ++ va_pl Ln_285 (pE Pw_316)) H := (by rw [← eU]; exact hP)
      have hD : va_D A ([(h0, .inr (14, [.ref q_t, .int (zI (z16_n)), .int (zI (z0_272)), .int (zI (z1_273)), .int (zI (z2_274)), .int (zI (z3_275)), .int (zI (z4_276)), .ref q5_277, v16_8, v16_9, v16_10, .ref qn0_279, .ref qn1_282, .int (zI (z6_278))])), (q_t, .inl (cT, 8192, .inl (fun j : Nat => zI (a_t (j : Int))))), (qn0_279, .inl (cI, nn0_280, .inl (fun j : Nat => zI (an0_281 (j : Int))))), (qn1_282, .inl (cI, nn1_283, .inl (fun j : Nat => zI (an1_284 (j : Int)))))] ++ va_pl Ln_285 (pE Pw_316)) := (by rw [← eU]; exact hD)
      clear eU hD0 gkp_315 hkp_315
      have wPw_316 : RW1 xb Pn_286 Pw_316 := (by rw [ePw_316]; exact RW1.put _ _ _ _)
      have hy_317 : Pw_316.kd la = 30 := (by rw [ePw_316]; exact hq_305.2)
      have hy_318 : Pw_316.kd xb = 12 := (by rw [ePw_316]; exact hq_306.2)
      have : Pw_316.bf xb = z_265 := (by rw [ePw_316]; exact rw9_at _ _ _ _)
      have : Pw_316.bs xb = Pn_286.bs xb := (by rw [ePw_316]; exact rw9_of _ (by decide))
      have hy_319 : Pw_316.kd pr_2 = 17 := (by rw [ePw_316]; exact hq_307.2)
      have : Pw_316.ro pr_2 = Pn_286.ro pr_2 := wPw_316.2 _ (kd_ne hq_307.2 hq_306.2 (by decide)) _
      have : Pw_316.rt pr_2 = Pn_286.rt pr_2 := wPw_316.2 _ (kd_ne hq_307.2 hq_306.2 (by decide)) _
      have : Pw_316.ra pr_2 = Pn_286.ra pr_2 := wPw_316.2 _ (kd_ne hq_307.2 hq_306.2 (by decide)) _
      have : Pw_316.rb pr_2 = Pn_286.rb pr_2 := wPw_316.2 _ (kd_ne hq_307.2 hq_306.2 (by decide)) _
      have : Pw_316.rA pr_2 = Pn_286.rA pr_2 := wPw_316.2 _ (kd_ne hq_307.2 hq_306.2 (by decide)) _
      have : Pw_316.rB pr_2 = Pn_286.rB pr_2 := wPw_316.2 _ (kd_ne hq_307.2 hq_306.2 (by decide)) _
      have : Pw_316.rg pr_2 = Pn_286.rg pr_2 := wPw_316.2 _ (kd_ne hq_307.2 hq_306.2 (by decide)) _
      have ha_320 : HID (Pw_316.be xb = pr_2) := (by rw [ePw_316]; exact ha_308.out)
      have hW_321 : RW1 xb Pn_286 Pw_316 := wPw_316
      have hak_323 : GLR Ln_285 Pw_316 cO cI cZ sx_ed := hak_301.goal hW_321 hq_306.2 (by omega)
      have hke_322 : KEG [] Ln_285 Pn_286 Ln_285 Pw_316 := hW_321.kegR _ hq_305.2 (by have q9 := hq_306.2; omega)
      have hq_325 : HID (la ∈ Ln_285 ∧ Pw_316.kd la = 30) := hke_322.mem hq_305.1 hq_305.2 (by decide)
      have hq_326 : HID (xb ∈ Ln_285 ∧ Pw_316.kd xb = 12) := hke_322.mem hq_306.1 hq_306.2 (by decide)
      have hq_327 : HID (pr_2 ∈ Ln_285 ∧ Pw_316.kd pr_2 = 17) := hke_322.mem hq_307.1 hq_307.2 (by decide)
      have ha_328 : HID (Pw_316.be xb = pr_2) := hke_322.be hq_306.1 hq_306.2 ha_308.out
      have hA_329 : KEG [] L P Ln_285 Pw_316 := hA_309.trans hke_322
      have : Pw_316.cap la = Pn_286.cap la := hW_321.cap la
      have hek_330 : HID (Pw_316.ek la = 12) := (by rw [hke_322.ek hq_305.1 hq_305.2 (by decide)]; exact hek_310.out)
      have how_331 : HID (Pw_316.ow la = la) := ((hke_322.1 la hq_305.1 (by rw [hq_305.2]; decide)).2.2.2.1 hq_305.2 how_311.out).1
      have hcz := (((hke_322.1 la hq_305.1 (by rw [hq_305.2]; decide)).2.2.2.1 hq_305.2 how_311.out).2 (by simp)).1
      have hE_332 : HID (Pw_316.ek pr_2 = 1) := (by rw [hke_322.ek hq_307.1 hq_307.2 (by decide)]; exact hE_312.out)
      have hX_tx := hX_tx.rw1R hW_321 (Or.inr hq_306.2)
      have hcx_333 : CHG (fun z => z = xb ∨ z = P.be xb) L P Ln_285 Pw_316 := hcx_313.trans (hW_321.chg _) (fun z m q => Or.inl q)
      have hsm_334 := (hW_321.chg Ln_285 pr_2 hq_327.1 (fun e9 => absurd e9 (kd_ne hq_327.2 hq_326.2 (by decide)))).2
      have : Pw_316.ro pr_2 = Pn_286.ro pr_2 := hsm_334.1 0
      have : Pw_316.rt pr_2 = Pn_286.rt pr_2 := hsm_334.1 1
      have : Pw_316.ra pr_2 = Pn_286.ra pr_2 := hsm_334.1 2
      have : Pw_316.rb pr_2 = Pn_286.rb pr_2 := hsm_334.1 3
      have : Pw_316.rA pr_2 = Pn_286.rA pr_2 := hsm_334.1 4
      have : Pw_316.rB pr_2 = Pn_286.rB pr_2 := hsm_334.1 5
      have : Pw_316.rg pr_2 = Pn_286.rg pr_2 := hsm_334.1 6
      have : Pw_316.ek pr_2 = Pn_286.ek pr_2 := hsm_334.2.1 8
      refine lv_aload_n hx hb dX16_end_101 rfl (lv_at hl 2 rfl) ?_
      refine lv_aload_n hx hb dX16_end_102 rfl (lv_at hl 1 rfl) ?_
      have hX_tn := htk_297
      have hPc := hP.part (X := [(h0, .inr (14, [.ref q_t, .int (zI (z16_n)), .int (zI (z0_272)), .int (zI (z1_273)), .int (zI (z2_274)), .int (zI (z3_275)), .int (zI (z4_276)), .ref q5_277, v16_8, v16_9, v16_10, .ref qn0_279, .ref qn1_282, .int (zI (z6_278))])), (q_t, .inl (cT, 8192, .inl (fun j : Nat => zI (a_t (j : Int))))), (qn0_279, .inl (cI, nn0_280, .inl (fun j : Nat => zI (an0_281 (j : Int))))), (qn1_282, .inl (cI, nn1_283, .inl (fun j : Nat => zI (an1_284 (j : Int)))))]) (cx := [(h0, .inr (14, [.ref q_t, .int (zI (z16_n)), .int (zI (z0_272)), .int (zI (z1_273)), .int (zI (z2_274)), .int (zI (z3_275)), .int (zI (z4_276)), .ref q5_277, v16_8, v16_9, v16_10, .ref qn0_279, .ref qn1_282, .int (zI (z6_278))])), (q_t, .inl (cT, 8192, .inl (fun j : Nat => zI (a_t (j : Int))))), (qn0_279, .inl (cI, nn0_280, .inl (fun j : Nat => zI (an0_281 (j : Int))))), (qn1_282, .inl (cI, nn1_283, .inl (fun j : Nat => zI (an1_284 (j : Int)))))]) (pl := va_pl Ln_285 (pE Pw_316)) [0, 1, 2, 3] rfl
      have hDc := hD.part (X := [(h0, .inr (14, [.ref q_t, .int (zI (z16_n)), .int (zI (z0_272)), .int (zI (z1_273)), .int (zI (z2_274)), .int (zI (z3_275)), .int (zI (z4_276)), .ref q5_277, v16_8, v16_9, v16_10, .ref qn0_279, .ref qn1_282, .int (zI (z6_278))])), (q_t, .inl (cT, 8192, .inl (fun j : Nat => zI (a_t (j : Int))))), (qn0_279, .inl (cI, nn0_280, .inl (fun j : Nat => zI (an0_281 (j : Int))))), (qn1_282, .inl (cI, nn1_283, .inl (fun j : Nat => zI (an1_284 (j : Int)))))]) (cx := [(h0, .inr (14, [.ref q_t, .int (zI (z16_n)), .int (zI (z0_272)), .int (zI (z1_273)), .int (zI (z2_274)), .int (zI (z3_275)), .int (zI (z4_276)), .ref q5_277, v16_8, v16_9, v16_10, .ref qn0_279, .ref qn1_282, .int (zI (z6_278))])), (q_t, .inl (cT, 8192, .inl (fun j : Nat => zI (a_t (j : Int))))), (qn0_279, .inl (cI, nn0_280, .inl (fun j : Nat => zI (an0_281 (j : Int))))), (qn1_282, .inl (cI, nn1_283, .inl (fun j : Nat => zI (an1_284 (j : Int)))))]) (pl := va_pl Ln_285 (pE Pw_316)) [0, 1, 2, 3] (by decide) rfl
      have hKc := hK.sub (tys' := [(cT, .byte), (cI, .int)]) [2, 3] rfl
      have hFc := va_freeP (X := [(h0, .inr (14, [.ref q_t, .int (zI (z16_n)), .int (zI (z0_272)), .int (zI (z1_273)), .int (zI (z2_274)), .int (zI (z3_275)), .int (zI (z4_276)), .ref q5_277, v16_8, v16_9, v16_10, .ref qn0_279, .ref qn1_282, .int (zI (z6_278))])), (q_t, .inl (cT, 8192, .inl (fun j : Nat => zI (a_t (j : Int))))), (qn0_279, .inl (cI, nn0_280, .inl (fun j : Nat => zI (an0_281 (j : Int))))), (qn1_282, .inl (cI, nn1_283, .inl (fun j : Nat => zI (an1_284 (j : Int)))))]) (cx := [(h0, .inr (14, [.ref q_t, .int (zI (z16_n)), .int (zI (z0_272)), .int (zI (z1_273)), .int (zI (z2_274)), .int (zI (z3_275)), .int (zI (z4_276)), .ref q5_277, v16_8, v16_9, v16_10, .ref qn0_279, .ref qn1_282, .int (zI (z6_278))])), (q_t, .inl (cT, 8192, .inl (fun j : Nat => zI (a_t (j : Int))))), (qn0_279, .inl (cI, nn0_280, .inl (fun j : Nat => zI (an0_281 (j : Int))))), (qn1_282, .inl (cI, nn1_283, .inl (fun j : Nat => zI (an1_284 (j : Int)))))]) (pl := va_pl Ln_285 (pE Pw_316)) hD hS hA [0, 1, 2, 3] rfl
      refine W_knowS (fun hrmA => ?_)
      refine vx_calli (vx_runV (As := []) (rest := [.ref xb]) ⟨hx, hb, hml, hown, hts⟩ (c_X16_goalK l dC dI h0 z16_n z0_272 z1_273 z2_274 z3_275 z4_276 v16_8 v16_9 v16_10 z6_278 q_t cT a_t q5_277 qn0_279 qn1_282 cI nn1_283 nn0_280 an0_281 an1_284 Ln_285 Pw_316 sa_RX16_9 (by omega) (by omega) (by omega) (by omega) (by omega) (by omega) (by omega) hR_a_t (by omega) rk_295 rk_296 hX_tx (by omega) hX_kv hX_tn H.size sv_RX16_9 sa_RX16_119 sv_RX16_119 sa_RX16_100 sv_RX16_100 sa_RX16_117 sv_RX16_117 sa_RX16_98 sv_RX16_98 H) (cwV 0 hts g_X16_endR_X16_goalK rfl rfl rfl (by decide +kernel) ⟨(Nat.le_of_ble_eq_true rfl), (Nat.le_of_ble_eq_true rfl)⟩) ⟨fun a U g mk q => by obtain ⟨q0, q1, qP, qK, qD, e0, e1, e2, e3, e4, e5, e6, e7, e8, e9, e10, e11, e12, e13, e14⟩ := q; exact ⟨q0, q1, qP, va_K.moved (u := U) (U := U.calling g mk a) (Vm.Alike.refl U.vm) qK, qD, vk_R.same (u := U) (U := U.calling g mk a) rfl e0, va_Z.moved (u := U) (U := U.calling g mk a) (Vm.Alike.refl U.vm) e1, vs_S.moved (u := U) (U := U.calling g mk a) (Vm.Alike.refl U.vm) e2, va_Nw.same rfl (u := U) (U := U.calling g mk a) rfl e3, vk_R.same (u := U) (U := U.calling g mk a) rfl e4, vs_S.moved (u := U) (U := U.calling g mk a) (Vm.Alike.refl U.vm) e5, vs_S.moved (u := U) (U := U.calling g mk a) (Vm.Alike.refl U.vm) e6, vk_R.same (u := U) (U := U.calling g mk a) rfl e7, vk_R.same (u := U) (U := U.calling g mk a) rfl e8, vs_S.moved (u := U) (U := U.calling g mk a) (Vm.Alike.refl U.vm) e9, vk_R.same (u := U) (U := U.calling g mk a) rfl e10, vs_S.moved (u := U) (U := U.calling g mk a) (Vm.Alike.refl U.vm) e11, vx_Zq.moved (u := U) (U := U.calling g mk a) (Vm.Alike.refl U.vm) e12, vx_Zq.moved (u := U) (U := U.calling g mk a) (Vm.Alike.refl U.vm) e13, e14⟩, va_recv hKc hPc (ci := 14) (q0 := 0) rfl rfl, fun U hU hW => ⟨rfl, by rw [hU], by rw [hU]; exact hPc, va_K.moved hW.alike hKc, hDc.weaken (fun _ _ _ _ => trivial), vk_R.warm hW hp11, va_Z.go hp3 hS hFc hU hW.alike, vs_S.go hp2 hS hFc hU hW.alike, va_Nw.warmC hW hp12, vk_R.warm hW hp13, vs_S.go hp14 hS hFc hU hW.alike, vs_S.go hp15 hS hFc hU hW.alike, vk_R.warm hW hp16, vk_R.warm hW hp17, vs_S.go hp18 hS hFc hU hW.alike, vk_R.warm hW hp19, vs_S.go hp20 hS hFc hU hW.alike, vx_Zq.go hp8 hS hFc hU hW.alike, vx_Zq.go hp9 hS hFc hU hW.alike, hU⟩⟩ rfl rfl hl.1 rfl (lv_room (Nat.le_of_ble_eq_true rfl)) dX16_end_103 ⟨(show (((0 + kc_184) + kc_243) + kc_287) + ((z16_n - z0_272 + 22).toNat) ≤ (8 * (z16_n - z16_place) + 4 * z16_goalN + 120).toNat from (rmT (by omega) (by omega))), (show (((0 + ks_185) + ks_244) + ks_288) + ((10 * (z16_n - z0_272) + 4 * z6_278 + 120).toNat) ≤ (40 * (z16_n - z16_place) + 16 * z16_goalN + 700).toNat from (rmT (by omega) (by omega)))⟩) hS (fun q _ h => hFc q h) hFc (fun q _ h => hFc q h) (fun E ce q9 u t H1 locs ht hvm _ hB hz1 hk1 hS hce hcv hcl => ?_) (fun r_335 z_336 t H1 locs ht hvm hw hB hz1 hk1 hS => ?_)
      · obtain ⟨rfl, zp_337, Ln_338, Pn_339, kc_340, ks_341, hxt_342, hP1, hD1⟩ := hB
        rw [ht] at hP1
        obtain ⟨hP, hD⟩ := va_joinP (X := [(h0, .inr (14, [.ref q_t, .int (zI (z16_n)), .int (zI (z0_272)), .int (zI (z1_273)), .int (zI (z2_274)), .int (zI (z3_275)), .int (zI (z4_276)), .ref q5_277, v16_8, v16_9, v16_10, .ref qn0_279, .ref qn1_282, .int (zI (z6_278))])), (q_t, .inl (cT, 8192, .inl (fun j : Nat => zI (a_t (j : Int))))), (qn0_279, .inl (cI, nn0_280, .inl (fun j : Nat => zI (an0_281 (j : Int))))), (qn1_282, .inl (cI, nn1_283, .inl (fun j : Nat => zI (an1_284 (j : Int)))))]) (cx := [(h0, .inr (14, [.ref q_t, .int (zI (z16_n)), .int (zI (z0_272)), .int (zI (z1_273)), .int (zI (z2_274)), .int (zI (z3_275)), .int (zI (z4_276)), .ref q5_277, v16_8, v16_9, v16_10, .ref qn0_279, .ref qn1_282, .int (zI (z6_278))])), (q_t, .inl (cT, 8192, .inl (fun j : Nat => zI (a_t (j : Int))))), (qn0_279, .inl (cI, nn0_280, .inl (fun j : Nat => zI (an0_281 (j : Int))))), (qn1_282, .inl (cI, nn1_283, .inl (fun j : Nat => zI (an1_284 (j : Int)))))]) (wr := []) (rx := [(q_t, .inl (cT, 8192, .inl (fun j : Nat => zI (a_t (j : Int))))), (q9, .inr (15, [.null, .null, .null, .null, .null, .int 0, .int (zI (zp_337))]))]) (pl := va_pl Ln_285 (pE Pw_316)) (pl1 := va_pl Ln_338 (pE Pn_339)) hP hD [0, 1, 2, 3] [] rfl rfl (by decide) (by decide) hk1 hFc hP1 hD1
        have hrmC := hxt_342.1.1
        rw [ht] at hrmC
        refine vx_tightS (hrmA.trans hrmC) ?_
        have hrb := hxt_342.1.2
        generalize H1 = H at hP hS hce ⊢
        have hP : va_P (dC, dI) vwQ ([(q_t, .inl (cT, 8192, .inl (fun j : Nat => zI (a_t (j : Int))))), (q9, .inr (15, [.null, .null, .null, .null, .null, .int 0, .int (zI (zp_337))]))] ++ va_pl Ln_338 (pE Pn_339)) H := hP
        have hD : va_D A ([(q_t, .inl (cT, 8192, .inl (fun j : Nat => zI (a_t (j : Int))))), (q9, .inr (15, [.null, .null, .null, .null, .null, .int 0, .int (zI (zp_337))]))] ++ va_pl Ln_338 (pE Pn_339)) := hD
        have hzp : 0 ≤ zp_337 ∧ zp_337 ≤ 8192 := hxt_342.2.1
        subst hQ
        refine vx_knowS (fun hrm9 => ?_)
        refine vx_widen (k := ((8 * (z16_n - z16_place) + 4 * z16_goalN + 120).toNat)) (n := ((40 * (z16_n - z16_place) + 16 * z16_goalN + 700).toNat)) (rmW (by omega)) (rmW (by omega)) ?_
        exact vx_out (fun x9 h9 => (hnt x9 h9).elim) hlocks hce hcv hcl (fun t ht hvm => ⟨(), trivial, ⟨rfl, zp_337, Ln_338, Pn_339, ((((0 + kc_184) + kc_243) + kc_287) + kc_340), ((((0 + ks_185) + ks_244) + ks_288) + ks_341), ⟨⟨(by rw [ht, ← hp10]; exact hrm9), (by omega)⟩, ⟨(by omega), ⟨hA_329.trans (hxt_342.2.2.1.kegR hak_323), hak_323.txt hxt_342.2.2.1 hxt_342.2.2.2, (hcx_333.cpa hg00.owa (fun z _ q => by rcases (show z = xb ∨ z = P.be xb from q) with q | q; rw [q, hX_bk]; decide; rw [q, (hg00.gb hX_b hX_bk).1.2.1]; decide)).trans hA_329 (hxt_342.2.2.1.cpa hak_323.owa)⟩⟩⟩, by rw [ht]; exact hP, hD⟩, hS.F ht⟩) hS.2.2 (Nat.le_refl _) (Nat.le_refl _)
      obtain ⟨z0_343, z1_344, z2_345, z3_346, z4_347, q5_348, z6_349, qn0_350, nn0_351, an0_352, qn1_353, nn1_354, an1_355, Ln_356, Pn_357, kc_358, ks_359, hxt_359, hP1, hK1, hD1⟩ := hB
      rw [ht] at hP1
      have hK1 := va_K.moved hvm.symm hK1
      obtain ⟨hP, hD⟩ := va_joinP (X := [(h0, .inr (14, [.ref q_t, .int (zI (z16_n)), .int (zI (z0_272)), .int (zI (z1_273)), .int (zI (z2_274)), .int (zI (z3_275)), .int (zI (z4_276)), .ref q5_277, v16_8, v16_9, v16_10, .ref qn0_279, .ref qn1_282, .int (zI (z6_278))])), (q_t, .inl (cT, 8192, .inl (fun j : Nat => zI (a_t (j : Int))))), (qn0_279, .inl (cI, nn0_280, .inl (fun j : Nat => zI (an0_281 (j : Int))))), (qn1_282, .inl (cI, nn1_283, .inl (fun j : Nat => zI (an1_284 (j : Int)))))]) (cx := [(h0, .inr (14, [.ref q_t, .int (zI (z16_n)), .int (zI (z0_272)), .int (zI (z1_273)), .int (zI (z2_274)), .int (zI (z3_275)), .int (zI (z4_276)), .ref q5_277, v16_8, v16_9, v16_10, .ref qn0_279, .ref qn1_282, .int (zI (z6_278))])), (q_t, .inl (cT, 8192, .inl (fun j : Nat => zI (a_t (j : Int))))), (qn0_279, .inl (cI, nn0_280, .inl (fun j : Nat => zI (an0_281 (j : Int))))), (qn1_282, .inl (cI, nn1_283, .inl (fun j : Nat => zI (an1_284 (j : Int)))))]) (wr := []) (rx := [(h0, .inr (14, [.ref q_t, .int (zI (z16_n)), .int (zI (z0_343)), .int (zI (z1_344)), .int (zI (z2_345)), .int (zI (z3_346)), .int (zI (z4_347)), .ref q5_348, v16_8, v16_9, v16_10, .ref qn0_350, .ref qn1_353, .int (zI (z6_349))])), (q_t, .inl (cT, 8192, .inl (fun j : Nat => zI (a_t (j : Int))))), (qn0_350, .inl (cI, nn0_351, .inl (fun j : Nat => zI (an0_352 (j : Int))))), (qn1_353, .inl (cI, nn1_354, .inl (fun j : Nat => zI (an1_355 (j : Int)))))]) (pl := va_pl Ln_285 (pE Pw_316)) (pl1 := va_pl Ln_356 (pE Pn_357)) hP hD [0, 1, 2, 3] [] rfl rfl (by decide) (by decide) hk1 hFc hP1 hD1
      have hK := (hK.sub (tys' := [(cO, .object "java/lang/Object"), (cZ, .boolean)]) [0, 1] rfl).app hK1
      have hrmC := hxt_359.1.1
      rw [ht] at hrmC
      refine W_tightS (hrmA.trans hrmC) ?_
      have hrb := hxt_359.1.2
      generalize H1 = H at hP hS ⊢
      have hP : va_P (dC, dI) vwQ ([(h0, .inr (14, [.ref q_t, .int (zI (z16_n)), .int (zI (z0_343)), .int (zI (z1_344)), .int (zI (z2_345)), .int (zI (z3_346)), .int (zI (z4_347)), .ref q5_348, v16_8, v16_9, v16_10, .ref qn0_350, .ref qn1_353, .int (zI (z6_349))])), (q_t, .inl (cT, 8192, .inl (fun j : Nat => zI (a_t (j : Int))))), (qn0_350, .inl (cI, nn0_351, .inl (fun j : Nat => zI (an0_352 (j : Int))))), (qn1_353, .inl (cI, nn1_354, .inl (fun j : Nat => zI (an1_355 (j : Int)))))] ++ va_pl Ln_356 (pE Pn_357)) H := hP
      have hD : va_D A ([(h0, .inr (14, [.ref q_t, .int (zI (z16_n)), .int (zI (z0_343)), .int (zI (z1_344)), .int (zI (z2_345)), .int (zI (z3_346)), .int (zI (z4_347)), .ref q5_348, v16_8, v16_9, v16_10, .ref qn0_350, .ref qn1_353, .int (zI (z6_349))])), (q_t, .inl (cT, 8192, .inl (fun j : Nat => zI (a_t (j : Int))))), (qn0_350, .inl (cI, nn0_351, .inl (fun j : Nat => zI (an0_352 (j : Int))))), (qn1_353, .inl (cI, nn1_354, .inl (fun j : Nat => zI (an1_355 (j : Int)))))] ++ va_pl Ln_356 (pE Pn_357)) := hD
      have hK : va_K (dC, dI) vwQ [(cO, .object "java/lang/Object"), (cZ, .boolean), (cT, .byte), (cI, .int)] s := hK
      refine W.widen (k := ((((0 + kc_184) + kc_243) + kc_287) + kc_358)) (n := ((((0 + ks_185) + ks_244) + ks_288) + ks_359)) (by omega) (by omega) ?_
      obtain ⟨rfl, hzz_336⟩ := hw
      obtain ⟨rk_360, rk_361, rk_362, rk_363, rk_364, rk_365, rk_366, rk_367, hu_367⟩ := hxt_359.2
      have htk_368 := hu_367.2.2.2.1.2
      have hrg_368 := hu_367.2.2.2.1.1
      have htq_368 := htk_368.1
      have hgo9 := hkd_302.go (by omega)
      have hkd_373 := hu_367.2.2.2.2.1
      have hX_kv := hkd_373.2
      have hu_369 := hu_367.2.2.2.2.2
      have hex_370 : EXT9 Ln_285 Pw_316 Ln_356 Pn_357 := hu_369.1
      have hke_371 : KEG [] Ln_285 Pw_316 Ln_356 Pn_357 := hex_370.kegR hak_323
      have hak_372 : GLR Ln_356 Pn_357 cO cI cZ sx_ed := hak_323.txt hex_370 hu_369.2.1
      have hsm_374 := (hex_370 xb hq_326.1).2
      have : Pn_357.bf xb = Pw_316.bf xb := hsm_374.1 0
      have : Pn_357.bs xb = Pw_316.bs xb := hsm_374.1 1
      have hsm_375 := (hex_370 pr_2 hq_327.1).2
      have : Pn_357.ro pr_2 = Pw_316.ro pr_2 := hsm_375.1 0
      have : Pn_357.rt pr_2 = Pw_316.rt pr_2 := hsm_375.1 1
      have : Pn_357.ra pr_2 = Pw_316.ra pr_2 := hsm_375.1 2
      have : Pn_357.rb pr_2 = Pw_316.rb pr_2 := hsm_375.1 3
      have : Pn_357.rA pr_2 = Pw_316.rA pr_2 := hsm_375.1 4
      have : Pn_357.rB pr_2 = Pw_316.rB pr_2 := hsm_375.1 5
      have : Pn_357.rg pr_2 = Pw_316.rg pr_2 := hsm_375.1 6
      have : Pn_357.ek pr_2 = Pw_316.ek pr_2 := hsm_375.2.1 8
      have hq_376 : HID (la ∈ Ln_356 ∧ Pn_357.kd la = 30) := hke_371.mem hq_325.1 hq_325.2 (by decide)
      have hq_377 : HID (xb ∈ Ln_356 ∧ Pn_357.kd xb = 12) := hke_371.mem hq_326.1 hq_326.2 (by decide)
      have hq_378 : HID (pr_2 ∈ Ln_356 ∧ Pn_357.kd pr_2 = 17) := hke_371.mem hq_327.1 hq_327.2 (by decide)
      have ha_379 : HID (Pn_357.be xb = pr_2) := hke_371.be hq_326.1 hq_326.2 ha_328.out
      have hA_380 : KEG [] L P Ln_356 Pn_357 := hA_329.trans hke_371
      have : Pn_357.lz la = Pw_316.lz la := (hex_370 la hq_325.1).2.1 0
      have hek_381 : HID (Pn_357.ek la = 12) := (by rw [hke_371.ek hq_325.1 hq_325.2 (by decide)]; exact hek_330.out)
      have how_382 : HID (Pn_357.ow la = la) := ((hke_371.1 la hq_325.1 (by rw [hq_325.2]; decide)).2.2.2.1 hq_325.2 how_331.out).1
      have hcz := (((hke_371.1 la hq_325.1 (by rw [hq_325.2]; decide)).2.2.2.1 hq_325.2 how_331.out).2 (by simp)).1
      have hE_383 : HID (Pn_357.ek pr_2 = 1) := (by rw [hke_371.ek hq_327.1 hq_327.2 (by decide)]; exact hE_332.out)
      have hX_tx := hu_369.2.2
      have hcx_384 : CHG (fun z => z = xb ∨ z = P.be xb) L P Ln_356 Pn_357 := hcx_333.trans hex_370.chg (fun z m q => q.elim)
      have hnn_368 := TKV.nn (k := z1_344) (d := z0_343 - z2_345) (by omega)
      have hgo2 := hu_367
      have hgn2 := hgo2.1
      have hri_385 : ((((((0 + ks_185) + ks_244) + ks_288) + ks_359) : Nat) : Int) ≤ 40 * (z2_345 - z16_place) - TKV z16_kind (z16_at - z16_place) + TKV (z1_344) (z0_343 - z2_345) + 4 * ((nn1_354 : Int) - ng) - 160 ∧ ((((((0 + kc_184) + kc_243) + kc_287) + kc_358) : Nat) : Int) ≤ 8 * (z2_345 - z16_place) - TKW z16_kind (z16_at - z16_place) + TKW (z1_344) (z0_343 - z2_345) + 2 * ((nn1_354 : Int) - ng) - 35 := (by omega)
      clear hrb hri_314
      skip
      have hfb := (hak_372.gb hq_377.1 hq_377.2).2
      obtain ⟨kp_386, gkp_386⟩ := va_pl_get (X := [(h0, .inr (14, [.ref q_t, .int (zI (z16_n)), .int (zI (z0_343)), .int (zI (z1_344)), .int (zI (z2_345)), .int (zI (z3_346)), .int (zI (z4_347)), .ref q5_348, v16_8, v16_9, v16_10, .ref qn0_350, .ref qn1_353, .int (zI (z6_349))])), (q_t, .inl (cT, 8192, .inl (fun j : Nat => zI (a_t (j : Int))))), (qn0_350, .inl (cI, nn0_351, .inl (fun j : Nat => zI (an0_352 (j : Int))))), (qn1_353, .inl (cI, nn1_354, .inl (fun j : Nat => zI (an1_355 (j : Int)))))]) (f := pE Pn_357) hq_377.1
      have hkp_386 := gkp_386
      rw [pE_block hq_377.2] at hkp_386
      have hD0 := hD
      refine va_put (D := (dC, dI)) (ci := 19) (v := .int (zI (z_336))) (ty := .int) (C := RX12) (T := TX12) (N := 5) hx hb hts mem_X16_endR_0 tyX12 tyX12_ok nmX12 hown hK hP hD hS kp_386 hkp_386 rfl 4 (by decide) (ow (k := 5) rfl) (fun _ h9 => h9) rfl (by decide +kernel) rfl rfl (by first | exact Nat.le_of_ble_eq_true rfl | exact (show ((((0 + kc_184) + kc_243) + kc_287) + kc_358) ≤ (8 * (z16_n - z16_place) + 4 * z16_goalN + 120).toNat from (rmW (by omega))) | exact (show ((((0 + ks_185) + ks_244) + ks_288) + ks_359) ≤ (40 * (z16_n - z16_place) + 16 * z16_goalN + 700).toNat from (rmW (by omega)))) dX16_end_106 (fun H locs hP hD hS => ?_)
      obtain ⟨Pw_387, ePw_387⟩ : ∃ q9 : PO, q9 = Pn_357.rw9 1 xb (z_336) := ⟨_, rfl⟩
      have eU : (([(h0, .inr (14, [.ref q_t, .int (zI (z16_n)), .int (zI (z0_343)), .int (zI (z1_344)), .int (zI (z2_345)), .int (zI (z3_346)), .int (zI (z4_347)), .ref q5_348, v16_8, v16_9, v16_10, .ref qn0_350, .ref qn1_353, .int (zI (z6_349))])), (q_t, .inl (cT, 8192, .inl (fun j : Nat => zI (a_t (j : Int))))), (qn0_350, .inl (cI, nn0_351, .inl (fun j : Nat => zI (an0_352 (j : Int))))), (qn1_353, .inl (cI, nn1_354, .inl (fun j : Nat => zI (an1_355 (j : Int)))))] : va_W) ++ va_pl Ln_356 (pE Pn_357)).set kp_386 (xb, blockE (Pn_357.bp xb) (Pn_357.br xb) (Pn_357.be xb) (Pn_357.bf xb) (z_336)) = ([(h0, .inr (14, [.ref q_t, .int (zI (z16_n)), .int (zI (z0_343)), .int (zI (z1_344)), .int (zI (z2_345)), .int (zI (z3_346)), .int (zI (z4_347)), .ref q5_348, v16_8, v16_9, v16_10, .ref qn0_350, .ref qn1_353, .int (zI (z6_349))])), (q_t, .inl (cT, 8192, .inl (fun j : Nat => zI (a_t (j : Int))))), (qn0_350, .inl (cI, nn0_351, .inl (fun j : Nat => zI (an0_352 (j : Int))))), (qn1_353, .inl (cI, nn1_354, .inl (fun j : Nat => zI (an1_355 (j : Int)))))] : va_W) ++ va_pl Ln_356 (pE Pw_387) := (by rw [va_pl_set hD0 hq_377.1 gkp_386, ePw_387]; exact congrArg (fun f9 => ([(h0, .inr (14, [.ref q_t, .int (zI (z16_n)), .int (zI (z0_343)), .int (zI (z1_344)), .int (zI (z2_345)), .int (zI (z3_346)), .int (zI (z4_347)), .ref q5_348, v16_8, v16_9, v16_10, .ref qn0_350, .ref qn1_353, .int (zI (z6_349))])), (q_t, .inl (cT, 8192, .inl (fun j : Nat => zI (a_t (j : Int))))), (qn0_350, .inl (cI, nn0_351, .inl (fun j : Nat => zI (an0_352 (j : Int))))), (qn1_353, .inl (cI, nn1_354, .inl (fun j : Nat => zI (an1_355 (j : Int)))))] : va_W) ++ va_pl Ln_356 f9) (put12_1 hq_377.2))
      have hP : va_P (dC, dI) vwQ ([(h0, .inr (14, [.ref q_t, .int (zI (z16_n)), .int (zI (z0_343)), .int (zI (z1_344)), .int (zI (z2_345)), .int (zI (z3_346)), .int (zI (z4_347)), .ref q5_348, v16_8, v16_9, v16_10, .ref qn0_350, .ref qn1_353, .int (zI (z6_349))])), (q_t, .inl (cT, 8192, .inl (fun j : Nat => zI (a_t (j : Int))))), (qn0_350, .inl (cI, nn0_351, .inl (fun j : Nat => zI (an0_352 (j : Int))))), (qn1_353, .inl (cI, nn1_354, .inl (fun j : Nat => zI (an1_355 (j : Int)))))] ++ va_pl Ln_356 (pE Pw_387)) H := (by rw [← eU]; exact hP)
      have hD : va_D A ([(h0, .inr (14, [.ref q_t, .int (zI (z16_n)), .int (zI (z0_343)), .int (zI (z1_344)), .int (zI (z2_345)), .int (zI (z3_346)), .int (zI (z4_347)), .ref q5_348, v16_8, v16_9, v16_10, .ref qn0_350, .ref qn1_353, .int (zI (z6_349))])), (q_t, .inl (cT, 8192, .inl (fun j : Nat => zI (a_t (j : Int))))), (qn0_350, .inl (cI, nn0_351, .inl (fun j : Nat => zI (an0_352 (j : Int))))), (qn1_353, .inl (cI, nn1_354, .inl (fun j : Nat => zI (an1_355 (j : Int)))))] ++ va_pl Ln_356 (pE Pw_387)) := (by rw [← eU]; exact hD)
      clear eU hD0 gkp_386 hkp_386
      have wPw_387 : RW1 xb Pn_357 Pw_387 := (by rw [ePw_387]; exact RW1.put _ _ _ _)
      have hy_388 : Pw_387.kd la = 30 := (by rw [ePw_387]; exact hq_376.2)
      have hy_389 : Pw_387.kd xb = 12 := (by rw [ePw_387]; exact hq_377.2)
      have : Pw_387.bf xb = Pn_357.bf xb := (by rw [ePw_387]; exact rw9_of _ (by decide))
      have : Pw_387.bs xb = z_336 := (by rw [ePw_387]; exact rw9_at _ _ _ _)
      have hy_390 : Pw_387.kd pr_2 = 17 := (by rw [ePw_387]; exact hq_378.2)
      have : Pw_387.ro pr_2 = Pn_357.ro pr_2 := wPw_387.2 _ (kd_ne hq_378.2 hq_377.2 (by decide)) _
      have : Pw_387.rt pr_2 = Pn_357.rt pr_2 := wPw_387.2 _ (kd_ne hq_378.2 hq_377.2 (by decide)) _
      have : Pw_387.ra pr_2 = Pn_357.ra pr_2 := wPw_387.2 _ (kd_ne hq_378.2 hq_377.2 (by decide)) _
      have : Pw_387.rb pr_2 = Pn_357.rb pr_2 := wPw_387.2 _ (kd_ne hq_378.2 hq_377.2 (by decide)) _
      have : Pw_387.rA pr_2 = Pn_357.rA pr_2 := wPw_387.2 _ (kd_ne hq_378.2 hq_377.2 (by decide)) _
      have : Pw_387.rB pr_2 = Pn_357.rB pr_2 := wPw_387.2 _ (kd_ne hq_378.2 hq_377.2 (by decide)) _
      have : Pw_387.rg pr_2 = Pn_357.rg pr_2 := wPw_387.2 _ (kd_ne hq_378.2 hq_377.2 (by decide)) _
      have ha_391 : HID (Pw_387.be xb = pr_2) := (by rw [ePw_387]; exact ha_379.out)
      have hW_392 : RW1 xb Pn_357 Pw_387 := wPw_387
      have hak_394 : GLR Ln_356 Pw_387 cO cI cZ sx_ed := hak_372.goal hW_392 hq_377.2 (by omega)
      have hke_393 : KEG [] Ln_356 Pn_357 Ln_356 Pw_387 := hW_392.kegR _ hq_376.2 (by have q9 := hq_377.2; omega)
      have hq_396 : HID (la ∈ Ln_356 ∧ Pw_387.kd la = 30) := hke_393.mem hq_376.1 hq_376.2 (by decide)
      have hq_397 : HID (xb ∈ Ln_356 ∧ Pw_387.kd xb = 12) := hke_393.mem hq_377.1 hq_377.2 (by decide)
      have hq_398 : HID (pr_2 ∈ Ln_356 ∧ Pw_387.kd pr_2 = 17) := hke_393.mem hq_378.1 hq_378.2 (by decide)
      have ha_399 : HID (Pw_387.be xb = pr_2) := hke_393.be hq_377.1 hq_377.2 ha_379.out
      have hA_400 : KEG [] L P Ln_356 Pw_387 := hA_380.trans hke_393
      have : Pw_387.cap la = Pn_357.cap la := hW_392.cap la
      have hek_401 : HID (Pw_387.ek la = 12) := (by rw [hke_393.ek hq_376.1 hq_376.2 (by decide)]; exact hek_381.out)
      have how_402 : HID (Pw_387.ow la = la) := ((hke_393.1 la hq_376.1 (by rw [hq_376.2]; decide)).2.2.2.1 hq_376.2 how_382.out).1
      have hcz := (((hke_393.1 la hq_376.1 (by rw [hq_376.2]; decide)).2.2.2.1 hq_376.2 how_382.out).2 (by simp)).1
      have hE_403 : HID (Pw_387.ek pr_2 = 1) := (by rw [hke_393.ek hq_378.1 hq_378.2 (by decide)]; exact hE_383.out)
      have hX_tx := hX_tx.rw1R hW_392 (Or.inr hq_377.2)
      have hcx_404 : CHG (fun z => z = xb ∨ z = P.be xb) L P Ln_356 Pw_387 := hcx_384.trans (hW_392.chg _) (fun z m q => Or.inl q)
      have hsm_405 := (hW_392.chg Ln_356 pr_2 hq_398.1 (fun e9 => absurd e9 (kd_ne hq_398.2 hq_397.2 (by decide)))).2
      have : Pw_387.ro pr_2 = Pn_357.ro pr_2 := hsm_405.1 0
      have : Pw_387.rt pr_2 = Pn_357.rt pr_2 := hsm_405.1 1
      have : Pw_387.ra pr_2 = Pn_357.ra pr_2 := hsm_405.1 2
      have : Pw_387.rb pr_2 = Pn_357.rb pr_2 := hsm_405.1 3
      have : Pw_387.rA pr_2 = Pn_357.rA pr_2 := hsm_405.1 4
      have : Pw_387.rB pr_2 = Pn_357.rB pr_2 := hsm_405.1 5
      have : Pw_387.rg pr_2 = Pn_357.rg pr_2 := hsm_405.1 6
      have : Pw_387.ek pr_2 = Pn_357.ek pr_2 := hsm_405.2.1 8
      refine lv_goto (tgt := 145) hx hb dX16_end_109 (by decide) ?_
      subst hQ
      have hK := hK.sub (tys' := [(cT, .byte), (cI, .int), (cO, .object "java/lang/Object"), (cZ, .boolean)]) [2, 3, 0, 1] rfl
      refine W_knowS (fun hrm9 => ?_)
      refine W.widen (k := ((8 * (z16_n - z16_place) + 4 * z16_goalN + 120).toNat)) (n := ((40 * (z16_n - z16_place) + 16 * z16_goalN + 700).toNat)) (rmW (by omega)) (rmW (by omega)) ?_
      refine vx_ret ?_
      exact W.vret hx hb hr (fun t ht hW => ⟨⟨(), rfl, trivial, z0_343, z1_344, z2_345, z3_346, z4_347, q5_348, z6_349, qn0_350, nn0_351, an0_352, qn1_353, nn1_354, an1_355, Ln_356, Pw_387, ((((0 + kc_184) + kc_243) + kc_287) + kc_358), ((((0 + ks_185) + ks_244) + ks_288) + ks_359), ⟨⟨(by rw [ht, ← hp10]; exact hrm9), (by omega)⟩, ⟨(by omega), (by omega), (by omega), (by omega), (by omega), (by omega), rk_366, rk_367, ⟨hA_400, hak_394, ⟨(hkd_373.mono (by omega)).ms (by omega) (by omega) (by omega), by omega⟩, hcx_404, ⟨by omega, by omega, by omega, by omega, by omega, by omega, by omega, (by unfold GRW; omega)⟩, (fun j j0 j1 => (hgo2.2.1 j j0 (by omega)).trans (hgo1.2.1 j j0 j1)), (GIN.mk (k := z16_goalN) (by omega) (by omega) ((hgo2.2.1 _ (by omega) (by omega)).trans (hgo1.2.2.1.trans (by omega)))), (GIN.mk (k := z6_278) (by omega) (by omega) (hgo2.2.2.1.trans (by omega))), (by rw [← epr_2]; exact ⟨by omega, by omega, (by first | exact OPQ.z (by omega) | exact hoa9.to (by omega) (by omega))⟩), ⟨⟨by omega, by omega, by omega⟩, htk_368⟩, hkd_373.mono (by omega), hX_tx⟩⟩⟩, by rw [ht]; exact hP, va_K.moved hW.alike hK, hD⟩, hS.F ht⟩) hS.2.2 dX16_end_145
  · have yb36 : ¬ (z_79 : Int) = (0 : Int) := fun q => b36 ((zI_eq (a := z_79) (b := 0) (by omega) (by omega) (by omega) (by omega)).mpr q)
    have hni9 := TKQ.is hX_tn (hzz_79.2.2.2 (by omega))
    skip
    refine lv_aload_n hx hb dX16_end_39 rfl (lv_at hl 1 rfl) ?_
    have hPc := hP.part (X := [(q_gp, .inl (cI, mg, .inl (fun j : Nat => zI (a_gp (j : Int))))), (q_gs, .inl (cI, ng, .inl (fun j : Nat => zI (a_gs (j : Int))))), (h0, .inr (14, [.ref q_t, .int (zI (z16_n)), .int (zI (z16_at)), .int (zI (z16_kind)), .int (zI (z16_place)), .int (zI (z16_value)), .int (zI (z16_before)), .ref tx9, v16_8, v16_9, v16_10, .ref q_gp, .ref q_gs, .int (zI (z16_goalN))])), (q_t, .inl (cT, 8192, .inl (fun j : Nat => zI (a_t (j : Int)))))]) (cx := [(h0, .inr (14, [.ref q_t, .int (zI (z16_n)), .int (zI (z16_at)), .int (zI (z16_kind)), .int (zI (z16_place)), .int (zI (z16_value)), .int (zI (z16_before)), .ref tx9, v16_8, v16_9, v16_10, .ref q_gp, .ref q_gs, .int (zI (z16_goalN))])), (q_t, .inl (cT, 8192, .inl (fun j : Nat => zI (a_t (j : Int)))))]) (pl := va_pl L (pE Pw_58)) [2, 3] rfl
    have hDc := hD.part (X := [(q_gp, .inl (cI, mg, .inl (fun j : Nat => zI (a_gp (j : Int))))), (q_gs, .inl (cI, ng, .inl (fun j : Nat => zI (a_gs (j : Int))))), (h0, .inr (14, [.ref q_t, .int (zI (z16_n)), .int (zI (z16_at)), .int (zI (z16_kind)), .int (zI (z16_place)), .int (zI (z16_value)), .int (zI (z16_before)), .ref tx9, v16_8, v16_9, v16_10, .ref q_gp, .ref q_gs, .int (zI (z16_goalN))])), (q_t, .inl (cT, 8192, .inl (fun j : Nat => zI (a_t (j : Int)))))]) (cx := [(h0, .inr (14, [.ref q_t, .int (zI (z16_n)), .int (zI (z16_at)), .int (zI (z16_kind)), .int (zI (z16_place)), .int (zI (z16_value)), .int (zI (z16_before)), .ref tx9, v16_8, v16_9, v16_10, .ref q_gp, .ref q_gs, .int (zI (z16_goalN))])), (q_t, .inl (cT, 8192, .inl (fun j : Nat => zI (a_t (j : Int)))))]) (pl := va_pl L (pE Pw_58)) [2, 3] (by decide) rfl
    have hKc := hK.sub (tys' := [(cT, .byte)]) [3] rfl
    have hFc := va_freeP (X := [(q_gp, .inl (cI, mg, .inl (fun j : Nat => zI (a_gp (j : Int))))), (q_gs, .inl (cI, ng, .inl (fun j : Nat => zI (a_gs (j : Int))))), (h0, .inr (14, [.ref q_t, .int (zI (z16_n)), .int (zI (z16_at)), .int (zI (z16_kind)), .int (zI (z16_place)), .int (zI (z16_value)), .int (zI (z16_before)), .ref tx9, v16_8, v16_9, v16_10, .ref q_gp, .ref q_gs, .int (zI (z16_goalN))])), (q_t, .inl (cT, 8192, .inl (fun j : Nat => zI (a_t (j : Int)))))]) (cx := [(h0, .inr (14, [.ref q_t, .int (zI (z16_n)), .int (zI (z16_at)), .int (zI (z16_kind)), .int (zI (z16_place)), .int (zI (z16_value)), .int (zI (z16_before)), .ref tx9, v16_8, v16_9, v16_10, .ref q_gp, .ref q_gs, .int (zI (z16_goalN))])), (q_t, .inl (cT, 8192, .inl (fun j : Nat => zI (a_t (j : Int)))))]) (pl := va_pl L (pE Pw_58)) hD hS hA [2, 3] rfl
    refine W_knowS (fun hrmA => ?_)
    refine va_callv (va_runV (As := []) (rest := []) ⟨hx, hb, hml, hown, hts⟩ (c_X16_nextK l dC dI h0 z16_n z16_at z16_kind z16_place z16_value z16_before (.ref tx9) v16_8 v16_9 v16_10 (.ref q_gp) (.ref q_gs) (.int (zI (z16_goalN))) q_t cT a_t L Pw_58 sa_RX16_9 (by omega) (by omega) (by omega) (by omega) (by omega) (by omega) hR_a_t (by omega) H.size sa_RX16_9 H sv_RX16_9 sa_RX16_119 sv_RX16_119 sa_RX16_100 sv_RX16_100 sa_RX16_117 sa_RX16_100 sv_RX16_117 sa_RX16_98 sv_RX16_98) (cwV 0 hts g_X16_endR_X16_nextK rfl rfl rfl (by decide +kernel) ⟨(Nat.le_of_ble_eq_true rfl), (Nat.le_of_ble_eq_true rfl)⟩) ⟨fun a U g mk q => by obtain ⟨q0, q1, qP, qK, qD, e0, e1, e2, e3, e4, e5, e6, e7, e8, e9, e10, e11, e12⟩ := q; exact ⟨q0, q1, qP, va_K.moved (u := U) (U := U.calling g mk a) (Vm.Alike.refl U.vm) qK, qD, vk_R.same (u := U) (U := U.calling g mk a) rfl e0, e1, va_Z.moved (u := U) (U := U.calling g mk a) (Vm.Alike.refl U.vm) e2, vs_S.moved (u := U) (U := U.calling g mk a) (Vm.Alike.refl U.vm) e3, va_Nw.same rfl (u := U) (U := U.calling g mk a) rfl e4, vk_R.same (u := U) (U := U.calling g mk a) rfl e5, vs_S.moved (u := U) (U := U.calling g mk a) (Vm.Alike.refl U.vm) e6, vs_S.moved (u := U) (U := U.calling g mk a) (Vm.Alike.refl U.vm) e7, vk_R.same (u := U) (U := U.calling g mk a) rfl e8, vk_R.same (u := U) (U := U.calling g mk a) rfl e9, vs_S.moved (u := U) (U := U.calling g mk a) (Vm.Alike.refl U.vm) e10, vk_R.same (u := U) (U := U.calling g mk a) rfl e11, vs_S.moved (u := U) (U := U.calling g mk a) (Vm.Alike.refl U.vm) e12⟩, va_recv hKc hPc (ci := 14) (q0 := 0) rfl rfl, fun U hU hW => ⟨rfl, by rw [hU], by rw [hU]; exact hPc, va_K.moved hW.alike hKc, hDc.weaken (fun _ _ _ _ => trivial), vk_R.warm hW hp11, hU, va_Z.go hp3 hS hFc hU hW.alike, vs_S.go hp2 hS hFc hU hW.alike, va_Nw.warmC hW hp12, vk_R.warm hW hp13, vs_S.go hp14 hS hFc hU hW.alike, vs_S.go hp15 hS hFc hU hW.alike, vk_R.warm hW hp16, vk_R.warm hW hp17, vs_S.go hp18 hS hFc hU hW.alike, vk_R.warm hW hp19, vs_S.go hp20 hS hFc hU hW.alike⟩⟩ rfl rfl hl.1 rfl (lv_room (Nat.le_of_ble_eq_true rfl)) dX16_end_40 ⟨(show 0 + ((z16_n - z16_at + 20).toNat) ≤ (8 * (z16_n - z16_place) + 4 * z16_goalN + 120).toNat from (rmT (by omega) (by omega))), (show 0 + ((10 * (z16_n - z16_at) + 120).toNat) ≤ (40 * (z16_n - z16_place) + 16 * z16_goalN + 700).toNat from (rmT (by omega) (by omega)))⟩) hS (fun q _ h => hFc q h) hFc (fun  u t H1 locs ht hvm hw hB hz1 hk1 hS => ?_)
    obtain ⟨z0_406, z1_407, z2_408, z3_409, z4_410, q5_411, Ln_412, Pn_413, kc_414, ks_415, hxt_415, hP1, hK1, hD1⟩ := hB
    rw [ht] at hP1
    have hK1 := va_K.moved hvm.symm hK1
    obtain ⟨hP, hD⟩ := va_joinP (X := [(q_gp, .inl (cI, mg, .inl (fun j : Nat => zI (a_gp (j : Int))))), (q_gs, .inl (cI, ng, .inl (fun j : Nat => zI (a_gs (j : Int))))), (h0, .inr (14, [.ref q_t, .int (zI (z16_n)), .int (zI (z16_at)), .int (zI (z16_kind)), .int (zI (z16_place)), .int (zI (z16_value)), .int (zI (z16_before)), .ref tx9, v16_8, v16_9, v16_10, .ref q_gp, .ref q_gs, .int (zI (z16_goalN))])), (q_t, .inl (cT, 8192, .inl (fun j : Nat => zI (a_t (j : Int)))))]) (cx := [(h0, .inr (14, [.ref q_t, .int (zI (z16_n)), .int (zI (z16_at)), .int (zI (z16_kind)), .int (zI (z16_place)), .int (zI (z16_value)), .int (zI (z16_before)), .ref tx9, v16_8, v16_9, v16_10, .ref q_gp, .ref q_gs, .int (zI (z16_goalN))])), (q_t, .inl (cT, 8192, .inl (fun j : Nat => zI (a_t (j : Int)))))]) (wr := [(q_gp, .inl (cI, mg, .inl (fun j : Nat => zI (a_gp (j : Int))))), (q_gs, .inl (cI, ng, .inl (fun j : Nat => zI (a_gs (j : Int)))))]) (rx := [(h0, .inr (14, [.ref q_t, .int (zI (z16_n)), .int (zI (z0_406)), .int (zI (z1_407)), .int (zI (z2_408)), .int (zI (z3_409)), .int (zI (z4_410)), .ref q5_411, v16_8, v16_9, v16_10, .ref q_gp, .ref q_gs, .int (zI (z16_goalN))])), (q_t, .inl (cT, 8192, .inl (fun j : Nat => zI (a_t (j : Int)))))]) (pl := va_pl L (pE Pw_58)) (pl1 := va_pl Ln_412 (pE Pn_413)) hP hD [2, 3] [0, 1] rfl rfl (by decide) (by decide) hk1 hFc hP1 hD1
    have hK := (hK.sub (tys' := [(cI, .int), (cO, .object "java/lang/Object"), (cZ, .boolean)]) [0, 1, 2] rfl).app hK1
    have hrmC := hxt_415.1.1
    rw [ht] at hrmC
    refine W_tightS (hrmA.trans hrmC) ?_
    have hrb := hxt_415.1.2
    generalize H1 = H at hP hS ⊢
    have hP : va_P (dC, dI) vwQ ([(q_gp, .inl (cI, mg, .inl (fun j : Nat => zI (a_gp (j : Int))))), (q_gs, .inl (cI, ng, .inl (fun j : Nat => zI (a_gs (j : Int))))), (h0, .inr (14, [.ref q_t, .int (zI (z16_n)), .int (zI (z0_406)), .int (zI (z1_407)), .int (zI (z2_408)), .int (zI (z3_409)), .int (zI (z4_410)), .ref q5_411, v16_8, v16_9, v16_10, .ref q_gp, .ref q_gs, .int (zI (z16_goalN))])), (q_t, .inl (cT, 8192, .inl (fun j : Nat => zI (a_t (j : Int)))))] ++ va_pl Ln_412 (pE Pn_413)) H := hP
    have hD : va_D A ([(q_gp, .inl (cI, mg, .inl (fun j : Nat => zI (a_gp (j : Int))))), (q_gs, .inl (cI, ng, .inl (fun j : Nat => zI (a_gs (j : Int))))), (h0, .inr (14, [.ref q_t, .int (zI (z16_n)), .int (zI (z0_406)), .int (zI (z1_407)), .int (zI (z2_408)), .int (zI (z3_409)), .int (zI (z4_410)), .ref q5_411, v16_8, v16_9, v16_10, .ref q_gp, .ref q_gs, .int (zI (z16_goalN))])), (q_t, .inl (cT, 8192, .inl (fun j : Nat => zI (a_t (j : Int)))))] ++ va_pl Ln_412 (pE Pn_413)) := hD
    have hK : va_K (dC, dI) vwQ [(cI, .int), (cO, .object "java/lang/Object"), (cZ, .boolean), (cT, .byte)] s := hK
    refine W.widen (k := (0 + kc_414)) (n := (0 + ks_415)) (by omega) (by omega) ?_
    obtain ⟨rk_416, rk_417, rk_418, rk_419, rk_420, hu_420⟩ := hxt_415.2
    have htk_421 := hu_420.1.2
    have hrg_421 := hu_420.1.1
    have htq_421 := htk_421.1
    have hkd_426 := hu_420.2.1
    have hX_kv := hkd_426.2
    have hu_422 := hu_420.2.2
    have hex_423 : EXT9 L Pw_58 Ln_412 Pn_413 := hu_422.1
    have hke_424 : KEG [] L Pw_58 Ln_412 Pn_413 := hex_423.kegR hak_65
    have hak_425 : GLR Ln_412 Pn_413 cO cI cZ sx_ed := hak_65.txt hex_423 hu_422.2.1
    have hsm_427 := (hex_423 xb hq_68.1).2
    have : Pn_413.bf xb = Pw_58.bf xb := hsm_427.1 0
    have : Pn_413.bs xb = Pw_58.bs xb := hsm_427.1 1
    have hsm_428 := (hex_423 pr_2 hq_69.1).2
    have : Pn_413.ro pr_2 = Pw_58.ro pr_2 := hsm_428.1 0
    have : Pn_413.rt pr_2 = Pw_58.rt pr_2 := hsm_428.1 1
    have : Pn_413.ra pr_2 = Pw_58.ra pr_2 := hsm_428.1 2
    have : Pn_413.rb pr_2 = Pw_58.rb pr_2 := hsm_428.1 3
    have : Pn_413.rA pr_2 = Pw_58.rA pr_2 := hsm_428.1 4
    have : Pn_413.rB pr_2 = Pw_58.rB pr_2 := hsm_428.1 5
    have : Pn_413.rg pr_2 = Pw_58.rg pr_2 := hsm_428.1 6
    have : Pn_413.ek pr_2 = Pw_58.ek pr_2 := hsm_428.2.1 8
    have hq_429 : HID (la ∈ Ln_412 ∧ Pn_413.kd la = 30) := hke_424.mem hq_67.1 hq_67.2 (by decide)
    have hq_430 : HID (xb ∈ Ln_412 ∧ Pn_413.kd xb = 12) := hke_424.mem hq_68.1 hq_68.2 (by decide)
    have hq_431 : HID (pr_2 ∈ Ln_412 ∧ Pn_413.kd pr_2 = 17) := hke_424.mem hq_69.1 hq_69.2 (by decide)
    have ha_432 : HID (Pn_413.be xb = pr_2) := hke_424.be hq_68.1 hq_68.2 ha_70.out
    have hA_433 : KEG [] L P Ln_412 Pn_413 := hA_71.trans hke_424
    have : Pn_413.lz la = Pw_58.lz la := (hex_423 la hq_67.1).2.1 0
    have hek_434 : HID (Pn_413.ek la = 12) := (by rw [hke_424.ek hq_67.1 hq_67.2 (by decide)]; exact hek_72.out)
    have how_435 : HID (Pn_413.ow la = la) := ((hke_424.1 la hq_67.1 (by rw [hq_67.2]; decide)).2.2.2.1 hq_67.2 how_73.out).1
    have hcz := (((hke_424.1 la hq_67.1 (by rw [hq_67.2]; decide)).2.2.2.1 hq_67.2 how_73.out).2 (by simp)).1
    have hE_436 : HID (Pn_413.ek pr_2 = 1) := (by rw [hke_424.ek hq_69.1 hq_69.2 (by decide)]; exact hE_74.out)
    have hX_tx := hu_422.2.2.1
    have hxk9 := hu_422.2.2.2
    have hcx_437 : CHG (fun z => z = xb ∨ z = P.be xb) L P Ln_412 Pn_413 := hcx_75.trans hex_423.chg (fun z m q => q.elim)
    have hnn_421 := TKV.nn (k := z1_407) (d := z0_406 - z2_408) (by omega)
    have hri_438 : (((0 + ks_415) : Nat) : Int) ≤ 40 * (z2_408 - z16_place) - TKV z16_kind (z16_at - z16_place) + TKV (z1_407) (z0_406 - z2_408) + 40 ∧ (((0 + kc_414) : Nat) : Int) ≤ 8 * (z2_408 - z16_place) - TKW z16_kind (z16_at - z16_place) + TKW (z1_407) (z0_406 - z2_408) + 5 := (by omega)
    clear hrb
    skip
    refine lv_aload_n hx hb dX16_end_43 rfl (lv_at hl 0 rfl) ?_
    refine lv_bipush (v := 30) hx hb dX16_end_44 (by decide) ?_
    have hr7 := (hak_425.rokR hq_431.1 hq_431.2).n7
    refine lv_topi (fun z ez => ?_)
    obtain rfl : z = zI (30) := ez
    obtain ⟨kp_439, gkp_439⟩ := va_pl_get (X := [(q_gp, .inl (cI, mg, .inl (fun j : Nat => zI (a_gp (j : Int))))), (q_gs, .inl (cI, ng, .inl (fun j : Nat => zI (a_gs (j : Int))))), (h0, .inr (14, [.ref q_t, .int (zI (z16_n)), .int (zI (z0_406)), .int (zI (z1_407)), .int (zI (z2_408)), .int (zI (z3_409)), .int (zI (z4_410)), .ref q5_411, v16_8, v16_9, v16_10, .ref q_gp, .ref q_gs, .int (zI (z16_goalN))])), (q_t, .inl (cT, 8192, .inl (fun j : Nat => zI (a_t (j : Int)))))]) (f := pE Pn_413) hq_431.1
    have hkp_439 := gkp_439
    rw [pE_row hq_431.2] at hkp_439
    have hD0 := hD
    refine va_put (D := (dC, dI)) (ci := 21) (v := .int (zI (30))) (ty := .int) (C := RX17) (T := TX17) (N := 7) hx hb hts mem_X16_endR_1 tyX17 tyX17_ok nmX17 hown hK hP hD hS kp_439 hkp_439 rfl 0 (by decide) (ow (k := 16) rfl) (fun _ h9 => h9) rfl (by decide +kernel) rfl rfl (by first | exact Nat.le_of_ble_eq_true rfl | exact (show (0 + kc_414) ≤ (8 * (z16_n - z16_place) + 4 * z16_goalN + 120).toNat from (rmW (by omega))) | exact (show (0 + ks_415) ≤ (40 * (z16_n - z16_place) + 16 * z16_goalN + 700).toNat from (rmW (by omega)))) dX16_end_46 (fun H locs hP hD hS => ?_)
    obtain ⟨Pw_440, ePw_440⟩ : ∃ q9 : PO, q9 = Pn_413.rw9 0 pr_2 (30) := ⟨_, rfl⟩
    have eU : (([(q_gp, .inl (cI, mg, .inl (fun j : Nat => zI (a_gp (j : Int))))), (q_gs, .inl (cI, ng, .inl (fun j : Nat => zI (a_gs (j : Int))))), (h0, .inr (14, [.ref q_t, .int (zI (z16_n)), .int (zI (z0_406)), .int (zI (z1_407)), .int (zI (z2_408)), .int (zI (z3_409)), .int (zI (z4_410)), .ref q5_411, v16_8, v16_9, v16_10, .ref q_gp, .ref q_gs, .int (zI (z16_goalN))])), (q_t, .inl (cT, 8192, .inl (fun j : Nat => zI (a_t (j : Int)))))] : va_W) ++ va_pl Ln_412 (pE Pn_413)).set kp_439 (pr_2, rowE (30) (Pn_413.rt pr_2) (Pn_413.ra pr_2) (Pn_413.rb pr_2) (Pn_413.rA pr_2) (Pn_413.rB pr_2) (Pn_413.rg pr_2)) = ([(q_gp, .inl (cI, mg, .inl (fun j : Nat => zI (a_gp (j : Int))))), (q_gs, .inl (cI, ng, .inl (fun j : Nat => zI (a_gs (j : Int))))), (h0, .inr (14, [.ref q_t, .int (zI (z16_n)), .int (zI (z0_406)), .int (zI (z1_407)), .int (zI (z2_408)), .int (zI (z3_409)), .int (zI (z4_410)), .ref q5_411, v16_8, v16_9, v16_10, .ref q_gp, .ref q_gs, .int (zI (z16_goalN))])), (q_t, .inl (cT, 8192, .inl (fun j : Nat => zI (a_t (j : Int)))))] : va_W) ++ va_pl Ln_412 (pE Pw_440) := (by rw [va_pl_set hD0 hq_431.1 gkp_439, ePw_440]; exact congrArg (fun f9 => ([(q_gp, .inl (cI, mg, .inl (fun j : Nat => zI (a_gp (j : Int))))), (q_gs, .inl (cI, ng, .inl (fun j : Nat => zI (a_gs (j : Int))))), (h0, .inr (14, [.ref q_t, .int (zI (z16_n)), .int (zI (z0_406)), .int (zI (z1_407)), .int (zI (z2_408)), .int (zI (z3_409)), .int (zI (z4_410)), .ref q5_411, v16_8, v16_9, v16_10, .ref q_gp, .ref q_gs, .int (zI (z16_goalN))])), (q_t, .inl (cT, 8192, .inl (fun j : Nat => zI (a_t (j : Int)))))] : va_W) ++ va_pl Ln_412 f9) (put17_0 hq_431.2))
    have hP : va_P (dC, dI) vwQ ([(q_gp, .inl (cI, mg, .inl (fun j : Nat => zI (a_gp (j : Int))))), (q_gs, .inl (cI, ng, .inl (fun j : Nat => zI (a_gs (j : Int))))), (h0, .inr (14, [.ref q_t, .int (zI (z16_n)), .int (zI (z0_406)), .int (zI (z1_407)), .int (zI (z2_408)), .int (zI (z3_409)), .int (zI (z4_410)), .ref q5_411, v16_8, v16_9, v16_10, .ref q_gp, .ref q_gs, .int (zI (z16_goalN))])), (q_t, .inl (cT, 8192, .inl (fun j : Nat => zI (a_t (j : Int)))))] ++ va_pl Ln_412 (pE Pw_440)) H := (by rw [← eU]; exact hP)
    have hD : va_D A ([(q_gp, .inl (cI, mg, .inl (fun j : Nat => zI (a_gp (j : Int))))), (q_gs, .inl (cI, ng, .inl (fun j : Nat => zI (a_gs (j : Int))))), (h0, .inr (14, [.ref q_t, .int (zI (z16_n)), .int (zI (z0_406)), .int (zI (z1_407)), .int (zI (z2_408)), .int (zI (z3_409)), .int (zI (z4_410)), .ref q5_411, v16_8, v16_9, v16_10, .ref q_gp, .ref q_gs, .int (zI (z16_goalN))])), (q_t, .inl (cT, 8192, .inl (fun j : Nat => zI (a_t (j : Int)))))] ++ va_pl Ln_412 (pE Pw_440)) := (by rw [← eU]; exact hD)
    clear eU hD0 gkp_439 hkp_439
    have wPw_440 : RW1 pr_2 Pn_413 Pw_440 := (by rw [ePw_440]; exact RW1.put _ _ _ _)
    have hy_441 : Pw_440.kd la = 30 := (by rw [ePw_440]; exact hq_429.2)
    have hy_442 : Pw_440.kd xb = 12 := (by rw [ePw_440]; exact hq_430.2)
    have : Pw_440.bf xb = Pn_413.bf xb := wPw_440.2 _ (kd_ne hq_430.2 hq_431.2 (by decide)) _
    have : Pw_440.bs xb = Pn_413.bs xb := wPw_440.2 _ (kd_ne hq_430.2 hq_431.2 (by decide)) _
    have hy_443 : Pw_440.kd pr_2 = 17 := (by rw [ePw_440]; exact hq_431.2)
    have : Pw_440.ro pr_2 = 30 := (by rw [ePw_440]; exact rw9_at _ _ _ _)
    have : Pw_440.rt pr_2 = Pn_413.rt pr_2 := (by rw [ePw_440]; exact rw9_of _ (by decide))
    have : Pw_440.ra pr_2 = Pn_413.ra pr_2 := (by rw [ePw_440]; exact rw9_of _ (by decide))
    have : Pw_440.rb pr_2 = Pn_413.rb pr_2 := (by rw [ePw_440]; exact rw9_of _ (by decide))
    have : Pw_440.rA pr_2 = Pn_413.rA pr_2 := (by rw [ePw_440]; exact rw9_of _ (by decide))
    have : Pw_440.rB pr_2 = Pn_413.rB pr_2 := (by rw [ePw_440]; exact rw9_of _ (by decide))
    have : Pw_440.rg pr_2 = Pn_413.rg pr_2 := (by rw [ePw_440]; exact rw9_of _ (by decide))
    have : Pw_440.ek pr_2 = Pn_413.ek pr_2 := (by rw [ePw_440]; rfl)
    have ha_444 : HID (Pw_440.be xb = pr_2) := (by rw [ePw_440]; exact ha_432.out)
    have hW_445 : RW1 pr_2 Pn_413 Pw_440 := wPw_440
    have hrw_448 : RWD Pn_413 Pw_440 := hW_445.rwd (Or.inl hq_431.2)
    have hak_447 : GLR Ln_412 Pw_440 cO cI cZ sx_ed := hak_425.row hW_445 hq_431.2 (ROKR.of (by omega) (by omega) (by omega) (by omega) (by omega) (by omega) (by omega) (uaZR (by omega)) (ubGR (by omega))) (fun e9 => absurd hE_436.out e9)
    have hke_446 : KEG [] Ln_412 Pn_413 Ln_412 Pw_440 := hrw_448.kegR _ hq_429.2
    have hq_449 : HID (la ∈ Ln_412 ∧ Pw_440.kd la = 30) := hke_446.mem hq_429.1 hq_429.2 (by decide)
    have hq_450 : HID (xb ∈ Ln_412 ∧ Pw_440.kd xb = 12) := hke_446.mem hq_430.1 hq_430.2 (by decide)
    have hq_451 : HID (pr_2 ∈ Ln_412 ∧ Pw_440.kd pr_2 = 17) := hke_446.mem hq_431.1 hq_431.2 (by decide)
    have ha_452 : HID (Pw_440.be xb = pr_2) := hke_446.be hq_430.1 hq_430.2 ha_432.out
    have hA_453 : KEG [] L P Ln_412 Pw_440 := hA_433.trans hke_446
    have : Pw_440.lz la = Pn_413.lz la := hrw_448.lz hq_429.2
    have : Pw_440.cap la = Pn_413.cap la := hW_445.cap la
    have hek_454 : HID (Pw_440.ek la = 12) := (by rw [hke_446.ek hq_429.1 hq_429.2 (by decide)]; exact hek_434.out)
    have how_455 : HID (Pw_440.ow la = la) := ((hke_446.1 la hq_429.1 (by rw [hq_429.2]; decide)).2.2.2.1 hq_429.2 how_435.out).1
    have hcz := (((hke_446.1 la hq_429.1 (by rw [hq_429.2]; decide)).2.2.2.1 hq_429.2 how_435.out).2 (by simp)).1
    have hE_456 : HID (Pw_440.ek pr_2 = 1) := (by rw [hke_446.ek hq_431.1 hq_431.2 (by decide)]; exact hE_436.out)
    have hX_tx := hX_tx.rw1R hW_445 (Or.inl hq_431.2)
    have hcx_457 : CHG (fun z => z = xb ∨ z = P.be xb) L P Ln_412 Pw_440 := hcx_437.trans (hW_445.chg _) (fun z m q => Or.inr (q.trans epr_2))
    have hsm_458 := (hW_445.chg Ln_412 xb hq_450.1 (fun e9 => absurd e9 (kd_ne hq_450.2 hq_451.2 (by decide)))).2
    have : Pw_440.bf xb = Pn_413.bf xb := hsm_458.1 0
    have : Pw_440.bs xb = Pn_413.bs xb := hsm_458.1 1
    refine lv_aload_n hx hb dX16_end_49 rfl (lv_at hl 2 rfl) ?_
    refine lv_aload_n hx hb dX16_end_50 rfl (lv_at hl 1 rfl) ?_
    have hX_tn := htk_421
    have hPc := hP.part (X := [(q_gp, .inl (cI, mg, .inl (fun j : Nat => zI (a_gp (j : Int))))), (q_gs, .inl (cI, ng, .inl (fun j : Nat => zI (a_gs (j : Int))))), (h0, .inr (14, [.ref q_t, .int (zI (z16_n)), .int (zI (z0_406)), .int (zI (z1_407)), .int (zI (z2_408)), .int (zI (z3_409)), .int (zI (z4_410)), .ref q5_411, v16_8, v16_9, v16_10, .ref q_gp, .ref q_gs, .int (zI (z16_goalN))])), (q_t, .inl (cT, 8192, .inl (fun j : Nat => zI (a_t (j : Int)))))]) (cx := [(h0, .inr (14, [.ref q_t, .int (zI (z16_n)), .int (zI (z0_406)), .int (zI (z1_407)), .int (zI (z2_408)), .int (zI (z3_409)), .int (zI (z4_410)), .ref q5_411, v16_8, v16_9, v16_10, .ref q_gp, .ref q_gs, .int (zI (z16_goalN))])), (q_t, .inl (cT, 8192, .inl (fun j : Nat => zI (a_t (j : Int))))), (q_gp, .inl (cI, mg, .inl (fun j : Nat => zI (a_gp (j : Int))))), (q_gs, .inl (cI, ng, .inl (fun j : Nat => zI (a_gs (j : Int)))))]) (pl := va_pl Ln_412 (pE Pw_440)) [2, 3, 0, 1] rfl
    have hDc := hD.part (X := [(q_gp, .inl (cI, mg, .inl (fun j : Nat => zI (a_gp (j : Int))))), (q_gs, .inl (cI, ng, .inl (fun j : Nat => zI (a_gs (j : Int))))), (h0, .inr (14, [.ref q_t, .int (zI (z16_n)), .int (zI (z0_406)), .int (zI (z1_407)), .int (zI (z2_408)), .int (zI (z3_409)), .int (zI (z4_410)), .ref q5_411, v16_8, v16_9, v16_10, .ref q_gp, .ref q_gs, .int (zI (z16_goalN))])), (q_t, .inl (cT, 8192, .inl (fun j : Nat => zI (a_t (j : Int)))))]) (cx := [(h0, .inr (14, [.ref q_t, .int (zI (z16_n)), .int (zI (z0_406)), .int (zI (z1_407)), .int (zI (z2_408)), .int (zI (z3_409)), .int (zI (z4_410)), .ref q5_411, v16_8, v16_9, v16_10, .ref q_gp, .ref q_gs, .int (zI (z16_goalN))])), (q_t, .inl (cT, 8192, .inl (fun j : Nat => zI (a_t (j : Int))))), (q_gp, .inl (cI, mg, .inl (fun j : Nat => zI (a_gp (j : Int))))), (q_gs, .inl (cI, ng, .inl (fun j : Nat => zI (a_gs (j : Int)))))]) (pl := va_pl Ln_412 (pE Pw_440)) [2, 3, 0, 1] (by decide) rfl
    have hKc := hK.sub (tys' := [(cT, .byte), (cI, .int)]) [3, 0] rfl
    have hFc := va_freeP (X := [(q_gp, .inl (cI, mg, .inl (fun j : Nat => zI (a_gp (j : Int))))), (q_gs, .inl (cI, ng, .inl (fun j : Nat => zI (a_gs (j : Int))))), (h0, .inr (14, [.ref q_t, .int (zI (z16_n)), .int (zI (z0_406)), .int (zI (z1_407)), .int (zI (z2_408)), .int (zI (z3_409)), .int (zI (z4_410)), .ref q5_411, v16_8, v16_9, v16_10, .ref q_gp, .ref q_gs, .int (zI (z16_goalN))])), (q_t, .inl (cT, 8192, .inl (fun j : Nat => zI (a_t (j : Int)))))]) (cx := [(h0, .inr (14, [.ref q_t, .int (zI (z16_n)), .int (zI (z0_406)), .int (zI (z1_407)), .int (zI (z2_408)), .int (zI (z3_409)), .int (zI (z4_410)), .ref q5_411, v16_8, v16_9, v16_10, .ref q_gp, .ref q_gs, .int (zI (z16_goalN))])), (q_t, .inl (cT, 8192, .inl (fun j : Nat => zI (a_t (j : Int))))), (q_gp, .inl (cI, mg, .inl (fun j : Nat => zI (a_gp (j : Int))))), (q_gs, .inl (cI, ng, .inl (fun j : Nat => zI (a_gs (j : Int)))))]) (pl := va_pl Ln_412 (pE Pw_440)) hD hS hA [2, 3, 0, 1] rfl
    refine W_knowS (fun hrmA => ?_)
    refine vx_calli (vx_runV (As := []) (rest := [.ref xb]) ⟨hx, hb, hml, hown, hts⟩ (c_X16_goalK l dC dI h0 z16_n z0_406 z1_407 z2_408 z3_409 z4_410 v16_8 v16_9 v16_10 z16_goalN q_t cT a_t q5_411 q_gp q_gs cI ng mg a_gp a_gs Ln_412 Pw_440 sa_RX16_9 (by omega) (by omega) (by omega) (by omega) (by omega) (by omega) (by omega) hR_a_t (by omega) hR_a_gp hR_a_gs hX_tx (by omega) hX_kv hX_tn H.size sv_RX16_9 sa_RX16_119 sv_RX16_119 sa_RX16_100 sv_RX16_100 sa_RX16_117 sv_RX16_117 sa_RX16_98 sv_RX16_98 H) (cwV 0 hts g_X16_endR_X16_goalK rfl rfl rfl (by decide +kernel) ⟨(Nat.le_of_ble_eq_true rfl), (Nat.le_of_ble_eq_true rfl)⟩) ⟨fun a U g mk q => by obtain ⟨q0, q1, qP, qK, qD, e0, e1, e2, e3, e4, e5, e6, e7, e8, e9, e10, e11, e12, e13, e14⟩ := q; exact ⟨q0, q1, qP, va_K.moved (u := U) (U := U.calling g mk a) (Vm.Alike.refl U.vm) qK, qD, vk_R.same (u := U) (U := U.calling g mk a) rfl e0, va_Z.moved (u := U) (U := U.calling g mk a) (Vm.Alike.refl U.vm) e1, vs_S.moved (u := U) (U := U.calling g mk a) (Vm.Alike.refl U.vm) e2, va_Nw.same rfl (u := U) (U := U.calling g mk a) rfl e3, vk_R.same (u := U) (U := U.calling g mk a) rfl e4, vs_S.moved (u := U) (U := U.calling g mk a) (Vm.Alike.refl U.vm) e5, vs_S.moved (u := U) (U := U.calling g mk a) (Vm.Alike.refl U.vm) e6, vk_R.same (u := U) (U := U.calling g mk a) rfl e7, vk_R.same (u := U) (U := U.calling g mk a) rfl e8, vs_S.moved (u := U) (U := U.calling g mk a) (Vm.Alike.refl U.vm) e9, vk_R.same (u := U) (U := U.calling g mk a) rfl e10, vs_S.moved (u := U) (U := U.calling g mk a) (Vm.Alike.refl U.vm) e11, vx_Zq.moved (u := U) (U := U.calling g mk a) (Vm.Alike.refl U.vm) e12, vx_Zq.moved (u := U) (U := U.calling g mk a) (Vm.Alike.refl U.vm) e13, e14⟩, va_recv hKc hPc (ci := 14) (q0 := 0) rfl rfl, fun U hU hW => ⟨rfl, by rw [hU], by rw [hU]; exact hPc, va_K.moved hW.alike hKc, hDc.weaken (fun _ _ _ _ => trivial), vk_R.warm hW hp11, va_Z.go hp3 hS hFc hU hW.alike, vs_S.go hp2 hS hFc hU hW.alike, va_Nw.warmC hW hp12, vk_R.warm hW hp13, vs_S.go hp14 hS hFc hU hW.alike, vs_S.go hp15 hS hFc hU hW.alike, vk_R.warm hW hp16, vk_R.warm hW hp17, vs_S.go hp18 hS hFc hU hW.alike, vk_R.warm hW hp19, vs_S.go hp20 hS hFc hU hW.alike, vx_Zq.go hp8 hS hFc hU hW.alike, vx_Zq.go hp9 hS hFc hU hW.alike, hU⟩⟩ rfl rfl hl.1 rfl (lv_room (Nat.le_of_ble_eq_true rfl)) dX16_end_51 ⟨(show (0 + kc_414) + ((z16_n - z0_406 + 22).toNat) ≤ (8 * (z16_n - z16_place) + 4 * z16_goalN + 120).toNat from (rmT (by omega) (by omega))), (show (0 + ks_415) + ((10 * (z16_n - z0_406) + 4 * z16_goalN + 120).toNat) ≤ (40 * (z16_n - z16_place) + 16 * z16_goalN + 700).toNat from (rmT (by omega) (by omega)))⟩) hS (fun q _ h => hFc q h) hFc (fun q _ h => hFc q h) (fun E ce q9 u t H1 locs ht hvm _ hB hz1 hk1 hS hce hcv hcl => ?_) (fun r_459 z_460 t H1 locs ht hvm hw hB hz1 hk1 hS => ?_)
    · obtain ⟨rfl, zp_461, Ln_462, Pn_463, kc_464, ks_465, hxt_466, hP1, hD1⟩ := hB
      rw [ht] at hP1
      obtain ⟨hP, hD⟩ := va_joinP (X := [(q_gp, .inl (cI, mg, .inl (fun j : Nat => zI (a_gp (j : Int))))), (q_gs, .inl (cI, ng, .inl (fun j : Nat => zI (a_gs (j : Int))))), (h0, .inr (14, [.ref q_t, .int (zI (z16_n)), .int (zI (z0_406)), .int (zI (z1_407)), .int (zI (z2_408)), .int (zI (z3_409)), .int (zI (z4_410)), .ref q5_411, v16_8, v16_9, v16_10, .ref q_gp, .ref q_gs, .int (zI (z16_goalN))])), (q_t, .inl (cT, 8192, .inl (fun j : Nat => zI (a_t (j : Int)))))]) (cx := [(h0, .inr (14, [.ref q_t, .int (zI (z16_n)), .int (zI (z0_406)), .int (zI (z1_407)), .int (zI (z2_408)), .int (zI (z3_409)), .int (zI (z4_410)), .ref q5_411, v16_8, v16_9, v16_10, .ref q_gp, .ref q_gs, .int (zI (z16_goalN))])), (q_t, .inl (cT, 8192, .inl (fun j : Nat => zI (a_t (j : Int))))), (q_gp, .inl (cI, mg, .inl (fun j : Nat => zI (a_gp (j : Int))))), (q_gs, .inl (cI, ng, .inl (fun j : Nat => zI (a_gs (j : Int)))))]) (wr := []) (rx := [(q_t, .inl (cT, 8192, .inl (fun j : Nat => zI (a_t (j : Int))))), (q9, .inr (15, [.null, .null, .null, .null, .null, .int 0, .int (zI (zp_461))]))]) (pl := va_pl Ln_412 (pE Pw_440)) (pl1 := va_pl Ln_462 (pE Pn_463)) hP hD [2, 3, 0, 1] [] rfl rfl (by decide) (by decide) hk1 hFc hP1 hD1
      have hrmC := hxt_466.1.1
      rw [ht] at hrmC
      refine vx_tightS (hrmA.trans hrmC) ?_
      have hrb := hxt_466.1.2
      generalize H1 = H at hP hS hce ⊢
      have hP : va_P (dC, dI) vwQ ([(q_t, .inl (cT, 8192, .inl (fun j : Nat => zI (a_t (j : Int))))), (q9, .inr (15, [.null, .null, .null, .null, .null, .int 0, .int (zI (zp_461))]))] ++ va_pl Ln_462 (pE Pn_463)) H := hP
      have hD : va_D A ([(q_t, .inl (cT, 8192, .inl (fun j : Nat => zI (a_t (j : Int))))), (q9, .inr (15, [.null, .null, .null, .null, .null, .int 0, .int (zI (zp_461))]))] ++ va_pl Ln_462 (pE Pn_463)) := hD
      have hzp : 0 ≤ zp_461 ∧ zp_461 ≤ 8192 := hxt_466.2.1
      subst hQ
      refine vx_knowS (fun hrm9 => ?_)
      refine vx_widen (k := ((8 * (z16_n - z16_place) + 4 * z16_goalN + 120).toNat)) (n := ((40 * (z16_n - z16_place) + 16 * z16_goalN + 700).toNat)) (rmW (by omega)) (rmW (by omega)) ?_
      exact vx_out (fun x9 h9 => (hnt x9 h9).elim) hlocks hce hcv hcl (fun t ht hvm => ⟨(), trivial, ⟨rfl, zp_461, Ln_462, Pn_463, ((0 + kc_414) + kc_464), ((0 + ks_415) + ks_465), ⟨⟨(by rw [ht, ← hp10]; exact hrm9), (by omega)⟩, ⟨(by omega), ⟨hA_453.trans (hxt_466.2.2.1.kegR hak_447), hak_447.txt hxt_466.2.2.1 hxt_466.2.2.2, (hcx_457.cpa hg00.owa (fun z _ q => by rcases (show z = xb ∨ z = P.be xb from q) with q | q; rw [q, hX_bk]; decide; rw [q, (hg00.gb hX_b hX_bk).1.2.1]; decide)).trans hA_453 (hxt_466.2.2.1.cpa hak_447.owa)⟩⟩⟩, by rw [ht]; exact hP, hD⟩, hS.F ht⟩) hS.2.2 (Nat.le_refl _) (Nat.le_refl _)
    obtain ⟨z0_467, z1_468, z2_469, z3_470, z4_471, q5_472, z6_473, qn0_474, nn0_475, an0_476, qn1_477, nn1_478, an1_479, Ln_480, Pn_481, kc_482, ks_483, hxt_483, hP1, hK1, hD1⟩ := hB
    rw [ht] at hP1
    have hK1 := va_K.moved hvm.symm hK1
    obtain ⟨hP, hD⟩ := va_joinP (X := [(q_gp, .inl (cI, mg, .inl (fun j : Nat => zI (a_gp (j : Int))))), (q_gs, .inl (cI, ng, .inl (fun j : Nat => zI (a_gs (j : Int))))), (h0, .inr (14, [.ref q_t, .int (zI (z16_n)), .int (zI (z0_406)), .int (zI (z1_407)), .int (zI (z2_408)), .int (zI (z3_409)), .int (zI (z4_410)), .ref q5_411, v16_8, v16_9, v16_10, .ref q_gp, .ref q_gs, .int (zI (z16_goalN))])), (q_t, .inl (cT, 8192, .inl (fun j : Nat => zI (a_t (j : Int)))))]) (cx := [(h0, .inr (14, [.ref q_t, .int (zI (z16_n)), .int (zI (z0_406)), .int (zI (z1_407)), .int (zI (z2_408)), .int (zI (z3_409)), .int (zI (z4_410)), .ref q5_411, v16_8, v16_9, v16_10, .ref q_gp, .ref q_gs, .int (zI (z16_goalN))])), (q_t, .inl (cT, 8192, .inl (fun j : Nat => zI (a_t (j : Int))))), (q_gp, .inl (cI, mg, .inl (fun j : Nat => zI (a_gp (j : Int))))), (q_gs, .inl (cI, ng, .inl (fun j : Nat => zI (a_gs (j : Int)))))]) (wr := []) (rx := [(h0, .inr (14, [.ref q_t, .int (zI (z16_n)), .int (zI (z0_467)), .int (zI (z1_468)), .int (zI (z2_469)), .int (zI (z3_470)), .int (zI (z4_471)), .ref q5_472, v16_8, v16_9, v16_10, .ref qn0_474, .ref qn1_477, .int (zI (z6_473))])), (q_t, .inl (cT, 8192, .inl (fun j : Nat => zI (a_t (j : Int))))), (qn0_474, .inl (cI, nn0_475, .inl (fun j : Nat => zI (an0_476 (j : Int))))), (qn1_477, .inl (cI, nn1_478, .inl (fun j : Nat => zI (an1_479 (j : Int)))))]) (pl := va_pl Ln_412 (pE Pw_440)) (pl1 := va_pl Ln_480 (pE Pn_481)) hP hD [2, 3, 0, 1] [] rfl rfl (by decide) (by decide) hk1 hFc hP1 hD1
    have hK := (hK.sub (tys' := [(cO, .object "java/lang/Object"), (cZ, .boolean)]) [1, 2] rfl).app hK1
    have hrmC := hxt_483.1.1
    rw [ht] at hrmC
    refine W_tightS (hrmA.trans hrmC) ?_
    have hrb := hxt_483.1.2
    generalize H1 = H at hP hS ⊢
    have hP : va_P (dC, dI) vwQ ([(h0, .inr (14, [.ref q_t, .int (zI (z16_n)), .int (zI (z0_467)), .int (zI (z1_468)), .int (zI (z2_469)), .int (zI (z3_470)), .int (zI (z4_471)), .ref q5_472, v16_8, v16_9, v16_10, .ref qn0_474, .ref qn1_477, .int (zI (z6_473))])), (q_t, .inl (cT, 8192, .inl (fun j : Nat => zI (a_t (j : Int))))), (qn0_474, .inl (cI, nn0_475, .inl (fun j : Nat => zI (an0_476 (j : Int))))), (qn1_477, .inl (cI, nn1_478, .inl (fun j : Nat => zI (an1_479 (j : Int)))))] ++ va_pl Ln_480 (pE Pn_481)) H := hP
    have hD : va_D A ([(h0, .inr (14, [.ref q_t, .int (zI (z16_n)), .int (zI (z0_467)), .int (zI (z1_468)), .int (zI (z2_469)), .int (zI (z3_470)), .int (zI (z4_471)), .ref q5_472, v16_8, v16_9, v16_10, .ref qn0_474, .ref qn1_477, .int (zI (z6_473))])), (q_t, .inl (cT, 8192, .inl (fun j : Nat => zI (a_t (j : Int))))), (qn0_474, .inl (cI, nn0_475, .inl (fun j : Nat => zI (an0_476 (j : Int))))), (qn1_477, .inl (cI, nn1_478, .inl (fun j : Nat => zI (an1_479 (j : Int)))))] ++ va_pl Ln_480 (pE Pn_481)) := hD
    have hK : va_K (dC, dI) vwQ [(cO, .object "java/lang/Object"), (cZ, .boolean), (cT, .byte), (cI, .int)] s := hK
    refine W.widen (k := ((0 + kc_414) + kc_482)) (n := ((0 + ks_415) + ks_483)) (by omega) (by omega) ?_
    obtain ⟨rfl, hzz_460⟩ := hw
    obtain ⟨rk_484, rk_485, rk_486, rk_487, rk_488, rk_489, rk_490, rk_491, hu_491⟩ := hxt_483.2
    have htk_492 := hu_491.2.2.2.1.2
    have hrg_492 := hu_491.2.2.2.1.1
    have htq_492 := htk_492.1
    have hgo9 := hkd_426.go (by omega)
    have hkd_497 := hu_491.2.2.2.2.1
    have hX_kv := hkd_497.2
    have hu_493 := hu_491.2.2.2.2.2
    have hex_494 : EXT9 Ln_412 Pw_440 Ln_480 Pn_481 := hu_493.1
    have hke_495 : KEG [] Ln_412 Pw_440 Ln_480 Pn_481 := hex_494.kegR hak_447
    have hak_496 : GLR Ln_480 Pn_481 cO cI cZ sx_ed := hak_447.txt hex_494 hu_493.2.1
    have hsm_498 := (hex_494 xb hq_450.1).2
    have : Pn_481.bf xb = Pw_440.bf xb := hsm_498.1 0
    have : Pn_481.bs xb = Pw_440.bs xb := hsm_498.1 1
    have hsm_499 := (hex_494 pr_2 hq_451.1).2
    have : Pn_481.ro pr_2 = Pw_440.ro pr_2 := hsm_499.1 0
    have : Pn_481.rt pr_2 = Pw_440.rt pr_2 := hsm_499.1 1
    have : Pn_481.ra pr_2 = Pw_440.ra pr_2 := hsm_499.1 2
    have : Pn_481.rb pr_2 = Pw_440.rb pr_2 := hsm_499.1 3
    have : Pn_481.rA pr_2 = Pw_440.rA pr_2 := hsm_499.1 4
    have : Pn_481.rB pr_2 = Pw_440.rB pr_2 := hsm_499.1 5
    have : Pn_481.rg pr_2 = Pw_440.rg pr_2 := hsm_499.1 6
    have : Pn_481.ek pr_2 = Pw_440.ek pr_2 := hsm_499.2.1 8
    have hq_500 : HID (la ∈ Ln_480 ∧ Pn_481.kd la = 30) := hke_495.mem hq_449.1 hq_449.2 (by decide)
    have hq_501 : HID (xb ∈ Ln_480 ∧ Pn_481.kd xb = 12) := hke_495.mem hq_450.1 hq_450.2 (by decide)
    have hq_502 : HID (pr_2 ∈ Ln_480 ∧ Pn_481.kd pr_2 = 17) := hke_495.mem hq_451.1 hq_451.2 (by decide)
    have ha_503 : HID (Pn_481.be xb = pr_2) := hke_495.be hq_450.1 hq_450.2 ha_452.out
    have hA_504 : KEG [] L P Ln_480 Pn_481 := hA_453.trans hke_495
    have : Pn_481.lz la = Pw_440.lz la := (hex_494 la hq_449.1).2.1 0
    have hek_505 : HID (Pn_481.ek la = 12) := (by rw [hke_495.ek hq_449.1 hq_449.2 (by decide)]; exact hek_454.out)
    have how_506 : HID (Pn_481.ow la = la) := ((hke_495.1 la hq_449.1 (by rw [hq_449.2]; decide)).2.2.2.1 hq_449.2 how_455.out).1
    have hcz := (((hke_495.1 la hq_449.1 (by rw [hq_449.2]; decide)).2.2.2.1 hq_449.2 how_455.out).2 (by simp)).1
    have hE_507 : HID (Pn_481.ek pr_2 = 1) := (by rw [hke_495.ek hq_451.1 hq_451.2 (by decide)]; exact hE_456.out)
    have hX_tx := hu_493.2.2
    have hcx_508 : CHG (fun z => z = xb ∨ z = P.be xb) L P Ln_480 Pn_481 := hcx_457.trans hex_494.chg (fun z m q => q.elim)
    have hnn_492 := TKV.nn (k := z1_468) (d := z0_467 - z2_469) (by omega)
    have hgo1 := hu_491
    have hgn1 := hgo1.1
    have hri_509 : ((((0 + ks_415) + ks_483) : Nat) : Int) ≤ 40 * (z2_469 - z16_place) - TKV z16_kind (z16_at - z16_place) + TKV (z1_468) (z0_467 - z2_469) + 4 * ((nn1_478 : Int) - ng) - 40 ∧ ((((0 + kc_414) + kc_482) : Nat) : Int) ≤ 8 * (z2_469 - z16_place) - TKW z16_kind (z16_at - z16_place) + TKW (z1_468) (z0_467 - z2_469) + 2 * ((nn1_478 : Int) - ng) - 11 := (by omega)
    clear hrb hri_438
    skip
    have hfb := (hak_496.gb hq_501.1 hq_501.2).2
    obtain ⟨kp_510, gkp_510⟩ := va_pl_get (X := [(h0, .inr (14, [.ref q_t, .int (zI (z16_n)), .int (zI (z0_467)), .int (zI (z1_468)), .int (zI (z2_469)), .int (zI (z3_470)), .int (zI (z4_471)), .ref q5_472, v16_8, v16_9, v16_10, .ref qn0_474, .ref qn1_477, .int (zI (z6_473))])), (q_t, .inl (cT, 8192, .inl (fun j : Nat => zI (a_t (j : Int))))), (qn0_474, .inl (cI, nn0_475, .inl (fun j : Nat => zI (an0_476 (j : Int))))), (qn1_477, .inl (cI, nn1_478, .inl (fun j : Nat => zI (an1_479 (j : Int)))))]) (f := pE Pn_481) hq_501.1
    have hkp_510 := gkp_510
    rw [pE_block hq_501.2] at hkp_510
    have hD0 := hD
    refine va_put (D := (dC, dI)) (ci := 19) (v := .int (zI (z_460))) (ty := .int) (C := RX12) (T := TX12) (N := 5) hx hb hts mem_X16_endR_0 tyX12 tyX12_ok nmX12 hown hK hP hD hS kp_510 hkp_510 rfl 3 (by decide) (ow (k := 4) rfl) (fun _ h9 => h9) rfl (by decide +kernel) rfl rfl (by first | exact Nat.le_of_ble_eq_true rfl | exact (show ((0 + kc_414) + kc_482) ≤ (8 * (z16_n - z16_place) + 4 * z16_goalN + 120).toNat from (rmW (by omega))) | exact (show ((0 + ks_415) + ks_483) ≤ (40 * (z16_n - z16_place) + 16 * z16_goalN + 700).toNat from (rmW (by omega)))) dX16_end_54 (fun H locs hP hD hS => ?_)
    obtain ⟨Pw_511, ePw_511⟩ : ∃ q9 : PO, q9 = Pn_481.rw9 0 xb (z_460) := ⟨_, rfl⟩
    have eU : (([(h0, .inr (14, [.ref q_t, .int (zI (z16_n)), .int (zI (z0_467)), .int (zI (z1_468)), .int (zI (z2_469)), .int (zI (z3_470)), .int (zI (z4_471)), .ref q5_472, v16_8, v16_9, v16_10, .ref qn0_474, .ref qn1_477, .int (zI (z6_473))])), (q_t, .inl (cT, 8192, .inl (fun j : Nat => zI (a_t (j : Int))))), (qn0_474, .inl (cI, nn0_475, .inl (fun j : Nat => zI (an0_476 (j : Int))))), (qn1_477, .inl (cI, nn1_478, .inl (fun j : Nat => zI (an1_479 (j : Int)))))] : va_W) ++ va_pl Ln_480 (pE Pn_481)).set kp_510 (xb, blockE (Pn_481.bp xb) (Pn_481.br xb) (Pn_481.be xb) (z_460) (Pn_481.bs xb)) = ([(h0, .inr (14, [.ref q_t, .int (zI (z16_n)), .int (zI (z0_467)), .int (zI (z1_468)), .int (zI (z2_469)), .int (zI (z3_470)), .int (zI (z4_471)), .ref q5_472, v16_8, v16_9, v16_10, .ref qn0_474, .ref qn1_477, .int (zI (z6_473))])), (q_t, .inl (cT, 8192, .inl (fun j : Nat => zI (a_t (j : Int))))), (qn0_474, .inl (cI, nn0_475, .inl (fun j : Nat => zI (an0_476 (j : Int))))), (qn1_477, .inl (cI, nn1_478, .inl (fun j : Nat => zI (an1_479 (j : Int)))))] : va_W) ++ va_pl Ln_480 (pE Pw_511) := (by rw [va_pl_set hD0 hq_501.1 gkp_510, ePw_511]; exact congrArg (fun f9 => ([(h0, .inr (14, [.ref q_t, .int (zI (z16_n)), .int (zI (z0_467)), .int (zI (z1_468)), .int (zI (z2_469)), .int (zI (z3_470)), .int (zI (z4_471)), .ref q5_472, v16_8, v16_9, v16_10, .ref qn0_474, .ref qn1_477, .int (zI (z6_473))])), (q_t, .inl (cT, 8192, .inl (fun j : Nat => zI (a_t (j : Int))))), (qn0_474, .inl (cI, nn0_475, .inl (fun j : Nat => zI (an0_476 (j : Int))))), (qn1_477, .inl (cI, nn1_478, .inl (fun j : Nat => zI (an1_479 (j : Int)))))] : va_W) ++ va_pl Ln_480 f9) (put12_0 hq_501.2))
    have hP : va_P (dC, dI) vwQ ([(h0, .inr (14, [.ref q_t, .int (zI (z16_n)), .int (zI (z0_467)), .int (zI (z1_468)), .int (zI (z2_469)), .int (zI (z3_470)), .int (zI (z4_471)), .ref q5_472, v16_8, v16_9, v16_10, .ref qn0_474, .ref qn1_477, .int (zI (z6_473))])), (q_t, .inl (cT, 8192, .inl (fun j : Nat => zI (a_t (j : Int))))), (qn0_474, .inl (cI, nn0_475, .inl (fun j : Nat => zI (an0_476 (j : Int))))), (qn1_477, .inl (cI, nn1_478, .inl (fun j : Nat => zI (an1_479 (j : Int)))))] ++ va_pl Ln_480 (pE Pw_511)) H := (by rw [← eU]; exact hP)
    have hD : va_D A ([(h0, .inr (14, [.ref q_t, .int (zI (z16_n)), .int (zI (z0_467)), .int (zI (z1_468)), .int (zI (z2_469)), .int (zI (z3_470)), .int (zI (z4_471)), .ref q5_472, v16_8, v16_9, v16_10, .ref qn0_474, .ref qn1_477, .int (zI (z6_473))])), (q_t, .inl (cT, 8192, .inl (fun j : Nat => zI (a_t (j : Int))))), (qn0_474, .inl (cI, nn0_475, .inl (fun j : Nat => zI (an0_476 (j : Int))))), (qn1_477, .inl (cI, nn1_478, .inl (fun j : Nat => zI (an1_479 (j : Int)))))] ++ va_pl Ln_480 (pE Pw_511)) := (by rw [← eU]; exact hD)
    clear eU hD0 gkp_510 hkp_510
    have wPw_511 : RW1 xb Pn_481 Pw_511 := (by rw [ePw_511]; exact RW1.put _ _ _ _)
    have hy_512 : Pw_511.kd la = 30 := (by rw [ePw_511]; exact hq_500.2)
    have hy_513 : Pw_511.kd xb = 12 := (by rw [ePw_511]; exact hq_501.2)
    have : Pw_511.bf xb = z_460 := (by rw [ePw_511]; exact rw9_at _ _ _ _)
    have : Pw_511.bs xb = Pn_481.bs xb := (by rw [ePw_511]; exact rw9_of _ (by decide))
    have hy_514 : Pw_511.kd pr_2 = 17 := (by rw [ePw_511]; exact hq_502.2)
    have : Pw_511.ro pr_2 = Pn_481.ro pr_2 := wPw_511.2 _ (kd_ne hq_502.2 hq_501.2 (by decide)) _
    have : Pw_511.rt pr_2 = Pn_481.rt pr_2 := wPw_511.2 _ (kd_ne hq_502.2 hq_501.2 (by decide)) _
    have : Pw_511.ra pr_2 = Pn_481.ra pr_2 := wPw_511.2 _ (kd_ne hq_502.2 hq_501.2 (by decide)) _
    have : Pw_511.rb pr_2 = Pn_481.rb pr_2 := wPw_511.2 _ (kd_ne hq_502.2 hq_501.2 (by decide)) _
    have : Pw_511.rA pr_2 = Pn_481.rA pr_2 := wPw_511.2 _ (kd_ne hq_502.2 hq_501.2 (by decide)) _
    have : Pw_511.rB pr_2 = Pn_481.rB pr_2 := wPw_511.2 _ (kd_ne hq_502.2 hq_501.2 (by decide)) _
    have : Pw_511.rg pr_2 = Pn_481.rg pr_2 := wPw_511.2 _ (kd_ne hq_502.2 hq_501.2 (by decide)) _
    have ha_515 : HID (Pw_511.be xb = pr_2) := (by rw [ePw_511]; exact ha_503.out)
    have hW_516 : RW1 xb Pn_481 Pw_511 := wPw_511
    have hak_518 : GLR Ln_480 Pw_511 cO cI cZ sx_ed := hak_496.goal hW_516 hq_501.2 (by omega)
    have hke_517 : KEG [] Ln_480 Pn_481 Ln_480 Pw_511 := hW_516.kegR _ hq_500.2 (by have q9 := hq_501.2; omega)
    have hq_520 : HID (la ∈ Ln_480 ∧ Pw_511.kd la = 30) := hke_517.mem hq_500.1 hq_500.2 (by decide)
    have hq_521 : HID (xb ∈ Ln_480 ∧ Pw_511.kd xb = 12) := hke_517.mem hq_501.1 hq_501.2 (by decide)
    have hq_522 : HID (pr_2 ∈ Ln_480 ∧ Pw_511.kd pr_2 = 17) := hke_517.mem hq_502.1 hq_502.2 (by decide)
    have ha_523 : HID (Pw_511.be xb = pr_2) := hke_517.be hq_501.1 hq_501.2 ha_503.out
    have hA_524 : KEG [] L P Ln_480 Pw_511 := hA_504.trans hke_517
    have : Pw_511.cap la = Pn_481.cap la := hW_516.cap la
    have hek_525 : HID (Pw_511.ek la = 12) := (by rw [hke_517.ek hq_500.1 hq_500.2 (by decide)]; exact hek_505.out)
    have how_526 : HID (Pw_511.ow la = la) := ((hke_517.1 la hq_500.1 (by rw [hq_500.2]; decide)).2.2.2.1 hq_500.2 how_506.out).1
    have hcz := (((hke_517.1 la hq_500.1 (by rw [hq_500.2]; decide)).2.2.2.1 hq_500.2 how_506.out).2 (by simp)).1
    have hE_527 : HID (Pw_511.ek pr_2 = 1) := (by rw [hke_517.ek hq_502.1 hq_502.2 (by decide)]; exact hE_507.out)
    have hX_tx := hX_tx.rw1R hW_516 (Or.inr hq_501.2)
    have hcx_528 : CHG (fun z => z = xb ∨ z = P.be xb) L P Ln_480 Pw_511 := hcx_508.trans (hW_516.chg _) (fun z m q => Or.inl q)
    have hsm_529 := (hW_516.chg Ln_480 pr_2 hq_522.1 (fun e9 => absurd e9 (kd_ne hq_522.2 hq_521.2 (by decide)))).2
    have : Pw_511.ro pr_2 = Pn_481.ro pr_2 := hsm_529.1 0
    have : Pw_511.rt pr_2 = Pn_481.rt pr_2 := hsm_529.1 1
    have : Pw_511.ra pr_2 = Pn_481.ra pr_2 := hsm_529.1 2
    have : Pw_511.rb pr_2 = Pn_481.rb pr_2 := hsm_529.1 3
    have : Pw_511.rA pr_2 = Pn_481.rA pr_2 := hsm_529.1 4
    have : Pw_511.rB pr_2 = Pn_481.rB pr_2 := hsm_529.1 5
    have : Pw_511.rg pr_2 = Pn_481.rg pr_2 := hsm_529.1 6
    have : Pw_511.ek pr_2 = Pn_481.ek pr_2 := hsm_529.2.1 8
    refine lv_aload_n hx hb dX16_end_57 rfl (lv_at hl 2 rfl) ?_
    refine lv_aload_n hx hb dX16_end_58 rfl (lv_at hl 2 rfl) ?_
    have hfb := (hak_518.gb hq_521.1 hq_521.2).2
    obtain ⟨kp_530, hkp_530⟩ := va_pl_get (X := [(h0, .inr (14, [.ref q_t, .int (zI (z16_n)), .int (zI (z0_467)), .int (zI (z1_468)), .int (zI (z2_469)), .int (zI (z3_470)), .int (zI (z4_471)), .ref q5_472, v16_8, v16_9, v16_10, .ref qn0_474, .ref qn1_477, .int (zI (z6_473))])), (q_t, .inl (cT, 8192, .inl (fun j : Nat => zI (a_t (j : Int))))), (qn0_474, .inl (cI, nn0_475, .inl (fun j : Nat => zI (an0_476 (j : Int))))), (qn1_477, .inl (cI, nn1_478, .inl (fun j : Nat => zI (an1_479 (j : Int)))))]) (f := pE Pw_511) hq_521.1
    rw [pE_block hq_521.2] at hkp_530
    refine va_get (D := (dC, dI)) (ci := 19) (v := .int (zI (Pw_511.bf xb))) (C := RX12) (T := TX12) (N := 5) hx hb hts mem_X16_endR_0 hown hK hP kp_530 hkp_530 rfl 3 (by decide) (ow (k := 4) rfl) (fun _ h9 => h9) rfl dX16_end_59 ?_
    obtain ⟨kp_531, gkp_531⟩ := va_pl_get (X := [(h0, .inr (14, [.ref q_t, .int (zI (z16_n)), .int (zI (z0_467)), .int (zI (z1_468)), .int (zI (z2_469)), .int (zI (z3_470)), .int (zI (z4_471)), .ref q5_472, v16_8, v16_9, v16_10, .ref qn0_474, .ref qn1_477, .int (zI (z6_473))])), (q_t, .inl (cT, 8192, .inl (fun j : Nat => zI (a_t (j : Int))))), (qn0_474, .inl (cI, nn0_475, .inl (fun j : Nat => zI (an0_476 (j : Int))))), (qn1_477, .inl (cI, nn1_478, .inl (fun j : Nat => zI (an1_479 (j : Int)))))]) (f := pE Pw_511) hq_521.1
    have hkp_531 := gkp_531
    rw [pE_block hq_521.2] at hkp_531
    have hD0 := hD
    refine va_put (D := (dC, dI)) (ci := 19) (v := .int (zI (Pw_511.bf xb))) (ty := .int) (C := RX12) (T := TX12) (N := 5) hx hb hts mem_X16_endR_0 tyX12 tyX12_ok nmX12 hown hK hP hD hS kp_531 hkp_531 rfl 4 (by decide) (ow (k := 5) rfl) (fun _ h9 => h9) rfl (by decide +kernel) rfl rfl (by first | exact Nat.le_of_ble_eq_true rfl | exact (show ((0 + kc_414) + kc_482) ≤ (8 * (z16_n - z16_place) + 4 * z16_goalN + 120).toNat from (rmW (by omega))) | exact (show ((0 + ks_415) + ks_483) ≤ (40 * (z16_n - z16_place) + 16 * z16_goalN + 700).toNat from (rmW (by omega)))) dX16_end_62 (fun H locs hP hD hS => ?_)
    obtain ⟨Pw_532, ePw_532⟩ : ∃ q9 : PO, q9 = Pw_511.rw9 1 xb (Pw_511.bf xb) := ⟨_, rfl⟩
    have eU : (([(h0, .inr (14, [.ref q_t, .int (zI (z16_n)), .int (zI (z0_467)), .int (zI (z1_468)), .int (zI (z2_469)), .int (zI (z3_470)), .int (zI (z4_471)), .ref q5_472, v16_8, v16_9, v16_10, .ref qn0_474, .ref qn1_477, .int (zI (z6_473))])), (q_t, .inl (cT, 8192, .inl (fun j : Nat => zI (a_t (j : Int))))), (qn0_474, .inl (cI, nn0_475, .inl (fun j : Nat => zI (an0_476 (j : Int))))), (qn1_477, .inl (cI, nn1_478, .inl (fun j : Nat => zI (an1_479 (j : Int)))))] : va_W) ++ va_pl Ln_480 (pE Pw_511)).set kp_531 (xb, blockE (Pw_511.bp xb) (Pw_511.br xb) (Pw_511.be xb) (Pw_511.bf xb) (Pw_511.bf xb)) = ([(h0, .inr (14, [.ref q_t, .int (zI (z16_n)), .int (zI (z0_467)), .int (zI (z1_468)), .int (zI (z2_469)), .int (zI (z3_470)), .int (zI (z4_471)), .ref q5_472, v16_8, v16_9, v16_10, .ref qn0_474, .ref qn1_477, .int (zI (z6_473))])), (q_t, .inl (cT, 8192, .inl (fun j : Nat => zI (a_t (j : Int))))), (qn0_474, .inl (cI, nn0_475, .inl (fun j : Nat => zI (an0_476 (j : Int))))), (qn1_477, .inl (cI, nn1_478, .inl (fun j : Nat => zI (an1_479 (j : Int)))))] : va_W) ++ va_pl Ln_480 (pE Pw_532) := (by rw [va_pl_set hD0 hq_521.1 gkp_531, ePw_532]; exact congrArg (fun f9 => ([(h0, .inr (14, [.ref q_t, .int (zI (z16_n)), .int (zI (z0_467)), .int (zI (z1_468)), .int (zI (z2_469)), .int (zI (z3_470)), .int (zI (z4_471)), .ref q5_472, v16_8, v16_9, v16_10, .ref qn0_474, .ref qn1_477, .int (zI (z6_473))])), (q_t, .inl (cT, 8192, .inl (fun j : Nat => zI (a_t (j : Int))))), (qn0_474, .inl (cI, nn0_475, .inl (fun j : Nat => zI (an0_476 (j : Int))))), (qn1_477, .inl (cI, nn1_478, .inl (fun j : Nat => zI (an1_479 (j : Int)))))] : va_W) ++ va_pl Ln_480 f9) (put12_1 hq_521.2))
    have hP : va_P (dC, dI) vwQ ([(h0, .inr (14, [.ref q_t, .int (zI (z16_n)), .int (zI (z0_467)), .int (zI (z1_468)), .int (zI (z2_469)), .int (zI (z3_470)), .int (zI (z4_471)), .ref q5_472, v16_8, v16_9, v16_10, .ref qn0_474, .ref qn1_477, .int (zI (z6_473))])), (q_t, .inl (cT, 8192, .inl (fun j : Nat => zI (a_t (j : Int))))), (qn0_474, .inl (cI, nn0_475, .inl (fun j : Nat => zI (an0_476 (j : Int))))), (qn1_477, .inl (cI, nn1_478, .inl (fun j : Nat => zI (an1_479 (j : Int)))))] ++ va_pl Ln_480 (pE Pw_532)) H := (by rw [← eU]; exact hP)
    have hD : va_D A ([(h0, .inr (14, [.ref q_t, .int (zI (z16_n)), .int (zI (z0_467)), .int (zI (z1_468)), .int (zI (z2_469)), .int (zI (z3_470)), .int (zI (z4_471)), .ref q5_472, v16_8, v16_9, v16_10, .ref qn0_474, .ref qn1_477, .int (zI (z6_473))])), (q_t, .inl (cT, 8192, .inl (fun j : Nat => zI (a_t (j : Int))))), (qn0_474, .inl (cI, nn0_475, .inl (fun j : Nat => zI (an0_476 (j : Int))))), (qn1_477, .inl (cI, nn1_478, .inl (fun j : Nat => zI (an1_479 (j : Int)))))] ++ va_pl Ln_480 (pE Pw_532)) := (by rw [← eU]; exact hD)
    clear eU hD0 gkp_531 hkp_531
    have wPw_532 : RW1 xb Pw_511 Pw_532 := (by rw [ePw_532]; exact RW1.put _ _ _ _)
    have hy_533 : Pw_532.kd la = 30 := (by rw [ePw_532]; exact hq_520.2)
    have hy_534 : Pw_532.kd xb = 12 := (by rw [ePw_532]; exact hq_521.2)
    have : Pw_532.bf xb = Pw_511.bf xb := (by rw [ePw_532]; exact rw9_of _ (by decide))
    have : Pw_532.bs xb = Pw_511.bf xb := (by rw [ePw_532]; exact rw9_at _ _ _ _)
    have hy_535 : Pw_532.kd pr_2 = 17 := (by rw [ePw_532]; exact hq_522.2)
    have : Pw_532.ro pr_2 = Pw_511.ro pr_2 := wPw_532.2 _ (kd_ne hq_522.2 hq_521.2 (by decide)) _
    have : Pw_532.rt pr_2 = Pw_511.rt pr_2 := wPw_532.2 _ (kd_ne hq_522.2 hq_521.2 (by decide)) _
    have : Pw_532.ra pr_2 = Pw_511.ra pr_2 := wPw_532.2 _ (kd_ne hq_522.2 hq_521.2 (by decide)) _
    have : Pw_532.rb pr_2 = Pw_511.rb pr_2 := wPw_532.2 _ (kd_ne hq_522.2 hq_521.2 (by decide)) _
    have : Pw_532.rA pr_2 = Pw_511.rA pr_2 := wPw_532.2 _ (kd_ne hq_522.2 hq_521.2 (by decide)) _
    have : Pw_532.rB pr_2 = Pw_511.rB pr_2 := wPw_532.2 _ (kd_ne hq_522.2 hq_521.2 (by decide)) _
    have : Pw_532.rg pr_2 = Pw_511.rg pr_2 := wPw_532.2 _ (kd_ne hq_522.2 hq_521.2 (by decide)) _
    have ha_536 : HID (Pw_532.be xb = pr_2) := (by rw [ePw_532]; exact ha_523.out)
    have hW_537 : RW1 xb Pw_511 Pw_532 := wPw_532
    have hak_539 : GLR Ln_480 Pw_532 cO cI cZ sx_ed := hak_518.goal hW_537 hq_521.2 (by omega)
    have hke_538 : KEG [] Ln_480 Pw_511 Ln_480 Pw_532 := hW_537.kegR _ hq_520.2 (by have q9 := hq_521.2; omega)
    have hq_541 : HID (la ∈ Ln_480 ∧ Pw_532.kd la = 30) := hke_538.mem hq_520.1 hq_520.2 (by decide)
    have hq_542 : HID (xb ∈ Ln_480 ∧ Pw_532.kd xb = 12) := hke_538.mem hq_521.1 hq_521.2 (by decide)
    have hq_543 : HID (pr_2 ∈ Ln_480 ∧ Pw_532.kd pr_2 = 17) := hke_538.mem hq_522.1 hq_522.2 (by decide)
    have ha_544 : HID (Pw_532.be xb = pr_2) := hke_538.be hq_521.1 hq_521.2 ha_523.out
    have hA_545 : KEG [] L P Ln_480 Pw_532 := hA_524.trans hke_538
    have : Pw_532.cap la = Pw_511.cap la := hW_537.cap la
    have hek_546 : HID (Pw_532.ek la = 12) := (by rw [hke_538.ek hq_520.1 hq_520.2 (by decide)]; exact hek_525.out)
    have how_547 : HID (Pw_532.ow la = la) := ((hke_538.1 la hq_520.1 (by rw [hq_520.2]; decide)).2.2.2.1 hq_520.2 how_526.out).1
    have hcz := (((hke_538.1 la hq_520.1 (by rw [hq_520.2]; decide)).2.2.2.1 hq_520.2 how_526.out).2 (by simp)).1
    have hE_548 : HID (Pw_532.ek pr_2 = 1) := (by rw [hke_538.ek hq_522.1 hq_522.2 (by decide)]; exact hE_527.out)
    have hX_tx := hX_tx.rw1R hW_537 (Or.inr hq_521.2)
    have hcx_549 : CHG (fun z => z = xb ∨ z = P.be xb) L P Ln_480 Pw_532 := hcx_528.trans (hW_537.chg _) (fun z m q => Or.inl q)
    have hsm_550 := (hW_537.chg Ln_480 pr_2 hq_543.1 (fun e9 => absurd e9 (kd_ne hq_543.2 hq_542.2 (by decide)))).2
    have : Pw_532.ro pr_2 = Pw_511.ro pr_2 := hsm_550.1 0
    have : Pw_532.rt pr_2 = Pw_511.rt pr_2 := hsm_550.1 1
    have : Pw_532.ra pr_2 = Pw_511.ra pr_2 := hsm_550.1 2
    have : Pw_532.rb pr_2 = Pw_511.rb pr_2 := hsm_550.1 3
    have : Pw_532.rA pr_2 = Pw_511.rA pr_2 := hsm_550.1 4
    have : Pw_532.rB pr_2 = Pw_511.rB pr_2 := hsm_550.1 5
    have : Pw_532.rg pr_2 = Pw_511.rg pr_2 := hsm_550.1 6
    have : Pw_532.ek pr_2 = Pw_511.ek pr_2 := hsm_550.2.1 8
    refine lv_goto (tgt := 145) hx hb dX16_end_65 (by decide) ?_
    subst hQ
    have hK := hK.sub (tys' := [(cT, .byte), (cI, .int), (cO, .object "java/lang/Object"), (cZ, .boolean)]) [2, 3, 0, 1] rfl
    refine W_knowS (fun hrm9 => ?_)
    refine W.widen (k := ((8 * (z16_n - z16_place) + 4 * z16_goalN + 120).toNat)) (n := ((40 * (z16_n - z16_place) + 16 * z16_goalN + 700).toNat)) (rmW (by omega)) (rmW (by omega)) ?_
    refine vx_ret ?_
    exact W.vret hx hb hr (fun t ht hW => ⟨⟨(), rfl, trivial, z0_467, z1_468, z2_469, z3_470, z4_471, q5_472, z6_473, qn0_474, nn0_475, an0_476, qn1_477, nn1_478, an1_479, Ln_480, Pw_532, ((0 + kc_414) + kc_482), ((0 + ks_415) + ks_483), ⟨⟨(by rw [ht, ← hp10]; exact hrm9), (by omega)⟩, ⟨(by omega), (by omega), (by omega), (by omega), (by omega), (by omega), rk_490, rk_491, ⟨hA_545, hak_539, ⟨(hkd_497.mono (by omega)).ms (by omega) (by omega) (by omega), by omega⟩, hcx_549, ⟨by omega, by omega, by omega, by omega, by omega, by omega, by omega, (by unfold GRW; omega)⟩, hgo1.2.1, (GIN.mk (k := z16_goalN) (by omega) (by omega) (hgo1.2.2.1.trans (by omega))), (GIN.mk (k := z16_goalN) (by omega) (by omega) (hgo1.2.2.1.trans (by omega))), (by rw [← epr_2]; exact ⟨by omega, by omega, (by first | exact OPQ.z (by omega) | exact hoa9.to (by omega) (by omega))⟩), ⟨⟨by omega, by omega, by omega⟩, htk_492⟩, hkd_497.mono (by omega), hX_tx⟩⟩⟩, by rw [ht]; exact hP, va_K.moved hW.alike hK, hD⟩, hS.F ht⟩) hS.2.2 dX16_end_145
