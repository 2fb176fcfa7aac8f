def o_X16_endR : List Cond := [.fieldLink RX16 236 "SsaForgeModel$Block" "end" "LSsaForgeModel$Row;", .fieldLink RX16 239 "SsaForgeModel$Row" "gone" "Z", .fieldLink RX16 217 "SsaForgeModel$Row" "regA" "Z", .fieldLink RX16 214 "SsaForgeModel$Row" "a" "I", .fieldLink RX16 242 "SsaForgeModel$Block" "first" "I", .fieldLink RX16 245 "SsaForgeModel$Block" "second" "I", .methodLink RX16 132 yX16_is, .instanceMethod yX16_is, .selects RX16 yX16_is yX16_is, .initialized RX16, .methodLink RX16 136 yX16_no, .instanceMethod yX16_no, .selects RX16 yX16_no yX16_no, .methodLink RX16 35 yX16_next, .instanceMethod yX16_next, .selects RX16 yX16_next yX16_next, .fieldLink RX16 220 "SsaForgeModel$Row" "op" "I", .methodLink RX16 223 yX16_operand, .instanceMethod yX16_operand, .selects RX16 yX16_operand yX16_operand, .methodLink RX16 250 yX16_goal, .instanceMethod yX16_goal, .selects RX16 yX16_goal yX16_goal]
def v_X16_endR : List Cond := .code yX16_end cX16_end 3 none :: (o_X16_endR ++ (wsX120 ++ (wsX170 ++ (v_X16_isKK ++ (v_X16_no ++ (v_X16_nextK ++ (v_X16_opAR ++ (v_X16_goalK ++ []))))))))
theorem mow_X16_endR : ∀ w ∈ o_X16_endR, w ∈ v_X16_endR := fun _ h => List.mem_cons_of_mem _ (List.mem_append_left _ h)
theorem mem_X16_endR_0 : ∀ w ∈ wsX120, w ∈ v_X16_endR := fun _ h => List.mem_cons_of_mem _ (List.mem_append_right _ (List.mem_append_left _ h))
theorem mem_X16_endR_1 : ∀ w ∈ wsX170, w ∈ v_X16_endR := fun _ h => List.mem_cons_of_mem _ (List.mem_append_right _ (List.mem_append_right _ (List.mem_append_left _ h)))
theorem mem_X16_endR_2 : ∀ w ∈ v_X16_isKK, w ∈ v_X16_endR := fun _ h => List.mem_cons_of_mem _ (List.mem_append_right _ (List.mem_append_right _ (List.mem_append_right _ (List.mem_append_left _ h))))
theorem mem_X16_endR_3 : ∀ w ∈ v_X16_no, w ∈ v_X16_endR := fun _ h => List.mem_cons_of_mem _ (List.mem_append_right _ (List.mem_append_right _ (List.mem_append_right _ (List.mem_append_right _ (List.mem_append_left _ h)))))
theorem mem_X16_endR_4 : ∀ w ∈ v_X16_nextK, w ∈ v_X16_endR := fun _ h => List.mem_cons_of_mem _ (List.mem_append_right _ (List.mem_append_right _ (List.mem_append_right _ (List.mem_append_right _ (List.mem_append_right _ (List.mem_append_left _ h))))))
theorem mem_X16_endR_5 : ∀ w ∈ v_X16_opAR, w ∈ v_X16_endR := fun _ h => List.mem_cons_of_mem _ (List.mem_append_right _ (List.mem_append_right _ (List.mem_append_right _ (List.mem_append_right _ (List.mem_append_right _ (List.mem_append_right _ (List.mem_append_left _ h)))))))
theorem mem_X16_endR_6 : ∀ w ∈ v_X16_goalK, w ∈ v_X16_endR := fun _ h => List.mem_cons_of_mem _ (List.mem_append_right _ (List.mem_append_right _ (List.mem_append_right _ (List.mem_append_right _ (List.mem_append_right _ (List.mem_append_right _ (List.mem_append_right _ (List.mem_append_left _ h))))))))
set_option maxRecDepth 20000 in
theorem gw_X16_endR : v_X16_endR.all goodWord = true := by decide +kernel
set_option maxRecDepth 20000 in
theorem g_X16_endR_X16_isKK : GoodIn v_X16_endR (wsV RX16 132 RX16 yX16_is v_X16_isKK) := goodIn_app (goodIn_sub (fun w h => mow_X16_endR w (by revert w h; decide +kernel)) (by decide +kernel)) (goodIn_sub mem_X16_endR_2 gw_X16_isKK)
set_option maxRecDepth 20000 in
theorem g_X16_endR_X16_no : GoodIn v_X16_endR (wsV RX16 136 RX16 yX16_no v_X16_no) := goodIn_app (goodIn_sub (fun w h => mow_X16_endR w (by revert w h; decide +kernel)) (by decide +kernel)) (goodIn_sub mem_X16_endR_3 gw_X16_no)
set_option maxRecDepth 20000 in
theorem g_X16_endR_X16_nextK : GoodIn v_X16_endR (wsV RX16 35 RX16 yX16_next v_X16_nextK) := goodIn_app (goodIn_sub (fun w h => mow_X16_endR w (by revert w h; decide +kernel)) (by decide +kernel)) (goodIn_sub mem_X16_endR_4 gw_X16_nextK)
set_option maxRecDepth 20000 in
theorem g_X16_endR_X16_opAR : GoodIn v_X16_endR (wsV RX16 223 RX16 yX16_operand v_X16_opAR) := goodIn_app (goodIn_sub (fun w h => mow_X16_endR w (by revert w h; decide +kernel)) (by decide +kernel)) (goodIn_sub mem_X16_endR_5 gw_X16_opAR)
set_option maxRecDepth 20000 in
theorem g_X16_endR_X16_goalK : GoodIn v_X16_endR (wsV RX16 250 RX16 yX16_goal v_X16_goalK) := goodIn_app (goodIn_sub (fun w h => mow_X16_endR w (by revert w h; decide +kernel)) (by decide +kernel)) (goodIn_sub mem_X16_endR_6 gw_X16_goalK)
set_option maxHeartbeats 40000000 in
set_option maxRecDepth 100000 in
theorem c_X16_endR (l : Launch) (dC : Nat → ClassId) (dI : Nat → Nat → Nat) (cZ : ClassId) (h0 : Nat) (z16_n : Int) (z16_at : Int) (z16_kind : Int) (z16_place : Int) (z16_value : Int) (z16_before : Int) (v16_8 : Value) (v16_9 : Value) (v16_10 : Value) (z16_goalN : Int) (q_t : Nat) (cT : ClassId) (a_t : Int → Int) (tx9 : Nat) (q_gp : Nat) (q_gs : Nat) (cI : ClassId) (ng : Nat) (mg : Nat) (a_gp : Int → Int) (a_gs : Int → Int) (L : List Nat) (P : PO) (sa_RX16_9 : Nat) (cO : ClassId) (la : Nat) (sx_ed : Nat) (xb : Nat) (hNz16_n : 0 ≤ z16_n ∧ z16_n ≤ 8192) (hNz16_at : 0 ≤ z16_at ∧ z16_at ≤ 8192) (hNz16_kind : 0 ≤ z16_kind ∧ z16_kind ≤ 6) (hNz16_place : 0 ≤ z16_place ∧ z16_place ≤ 8192) (hNz16_value : -2147483648 ≤ z16_value ∧ z16_value ≤ 2147483647) (hNz16_before : 0 ≤ z16_before ∧ z16_before ≤ 6) (hNz16_goalN : 0 ≤ z16_goalN ∧ z16_goalN ≤ 20000) (hR_a_t : ∀ j : Int, -128 ≤ a_t j ∧ a_t j ≤ 127) (hNng : (mg : Int) = ng ∧ z16_goalN ≤ ng ∧ 1 ≤ ng ∧ ng ≤ 17000 ∧ z16_goalN ≤ 8192) (hR_a_gp : ∀ j : Int, 0 ≤ a_gp j ∧ a_gp j ≤ 8192) (hR_a_gs : ∀ j : Int, 0 ≤ a_gs j ∧ a_gs j ≤ 59) (hX_g : GLR L P cO cI cZ sx_ed) (hX_la : la ∈ L ∧ P.kd la = 30 ∧ P.ek la = 12 ∧ P.ow la = la) (hX_b : xb ∈ L) (hX_bk : P.kd xb = 12) (hX_tx : TXT L P cT sa_RX16_9 tx9) (hNd : z16_at ≤ z16_n ∧ z16_place ≤ z16_at) (hX_kv : KV9 z16_kind z16_value) (hX_tn : TKQ z16_kind z16_place z16_at) (hNga : z16_goalN ≤ z16_at) (sz : Nat) (sa_RX16_248 : Nat) (sv_RX16_248 : Nat) (sv_RX16_9 : Nat) (sa_RX16_253 : Nat) (sv_RX16_253 : Nat) (sa_RX16_255 : Nat) (sv_RX16_255 : Nat) (HU : Heap) (sa_RX16_119 : Nat) (sv_RX16_119 : Nat) (sa_RX16_100 : Nat) (sv_RX16_100 : Nat) (sa_RX16_117 : Nat) (sv_RX16_117 : Nat) (sa_RX16_98 : Nat) (sv_RX16_98 : Nat) : vx_Met l yX16_end v_X16_endR ({ frames := 10, cells := ((8 * (z16_n - z16_place) - TKW z16_kind (z16_at - z16_place) + 4 * z16_goalN + 160).toNat), slots := ((45 * (z16_n - z16_place) - TKV z16_kind (z16_at - z16_place) + 16 * z16_goalN + 700).toNat), locals := 259 }) (va_Pc [.ref h0, .ref xb] (fun U => U.heap.size = sz ∧ va_P (dC, dI) vwQ ([(h0, .inr (14, [.ref q_t, .int (zI (z16_n)), .int (zI (z16_at)), .int (zI (z16_kind)), .int (zI (z16_place)), .int (zI (z16_value)), .int (zI (z16_before)), .ref tx9, v16_8, v16_9, v16_10, .ref q_gp, .ref q_gs, .int (zI (z16_goalN))])), (q_t, .inl (cT, 8192, .inl (fun j : Nat => zI (a_t (j : Int))))), (q_gp, .inl (cI, mg, .inl (fun j : Nat => zI (a_gp (j : Int))))), (q_gs, .inl (cI, ng, .inl (fun j : Nat => zI (a_gs (j : Int)))))] ++ va_pl L (pE P)) U.heap ∧ va_K (dC, dI) vwQ [(cT, .byte), (cI, .int), (cO, .object "java/lang/Object"), (cZ, .boolean)] U ∧ va_D (fun _ => True) ([(h0, .inr (14, [.ref q_t, .int (zI (z16_n)), .int (zI (z16_at)), .int (zI (z16_kind)), .int (zI (z16_place)), .int (zI (z16_value)), .int (zI (z16_before)), .ref tx9, v16_8, v16_9, v16_10, .ref q_gp, .ref q_gs, .int (zI (z16_goalN))])), (q_t, .inl (cT, 8192, .inl (fun j : Nat => zI (a_t (j : Int))))), (q_gp, .inl (cI, mg, .inl (fun j : Nat => zI (a_gp (j : Int))))), (q_gs, .inl (cI, ng, .inl (fun j : Nat => zI (a_gs (j : Int)))))] ++ va_pl L (pE P)) ∧ vk_R RX16 248 "jump" sa_RX16_248 U ∧ vs_S sa_RX16_248 sv_RX16_248 4 (fun j : Nat => ([106, 117, 109, 112] : List Int32).getD j 0) (va_A ([(h0, .inr (14, [.ref q_t, .int (zI (z16_n)), .int (zI (z16_at)), .int (zI (z16_kind)), .int (zI (z16_place)), .int (zI (z16_value)), .int (zI (z16_before)), .ref tx9, v16_8, v16_9, v16_10, .ref q_gp, .ref q_gs, .int (zI (z16_goalN))])), (q_t, .inl (cT, 8192, .inl (fun j : Nat => zI (a_t (j : Int))))), (q_gp, .inl (cI, mg, .inl (fun j : Nat => zI (a_gp (j : Int))))), (q_gs, .inl (cI, ng, .inl (fun j : Nat => zI (a_gs (j : Int)))))] ++ va_pl L (pE P)) sz) U U.heap ∧ vs_S sa_RX16_9 sv_RX16_9 0 (fun j : Nat => ([] : List Int32).getD j 0) (va_A ([(h0, .inr (14, [.ref q_t, .int (zI (z16_n)), .int (zI (z16_at)), .int (zI (z16_kind)), .int (zI (z16_place)), .int (zI (z16_value)), .int (zI (z16_before)), .ref tx9, v16_8, v16_9, v16_10, .ref q_gp, .ref q_gs, .int (zI (z16_goalN))])), (q_t, .inl (cT, 8192, .inl (fun j : Nat => zI (a_t (j : Int))))), (q_gp, .inl (cI, mg, .inl (fun j : Nat => zI (a_gp (j : Int))))), (q_gs, .inl (cI, ng, .inl (fun j : Nat => zI (a_gs (j : Int)))))] ++ va_pl L (pE P)) sz) U U.heap ∧ va_Z "java/lang/String" "COMPACT_STRINGS" "Z" (.int 1) (va_A ([(h0, .inr (14, [.ref q_t, .int (zI (z16_n)), .int (zI (z16_at)), .int (zI (z16_kind)), .int (zI (z16_place)), .int (zI (z16_value)), .int (zI (z16_before)), .ref tx9, v16_8, v16_9, v16_10, .ref q_gp, .ref q_gs, .int (zI (z16_goalN))])), (q_t, .inl (cT, 8192, .inl (fun j : Nat => zI (a_t (j : Int))))), (q_gp, .inl (cI, mg, .inl (fun j : Nat => zI (a_gp (j : Int))))), (q_gs, .inl (cI, ng, .inl (fun j : Nat => zI (a_gs (j : Int)))))] ++ va_pl L (pE P)) sz) U U.heap ∧ vk_R RX16 253 "if" sa_RX16_253 U ∧ vs_S sa_RX16_253 sv_RX16_253 2 (fun j : Nat => ([105, 102] : List Int32).getD j 0) (va_A ([(h0, .inr (14, [.ref q_t, .int (zI (z16_n)), .int (zI (z16_at)), .int (zI (z16_kind)), .int (zI (z16_place)), .int (zI (z16_value)), .int (zI (z16_before)), .ref tx9, v16_8, v16_9, v16_10, .ref q_gp, .ref q_gs, .int (zI (z16_goalN))])), (q_t, .inl (cT, 8192, .inl (fun j : Nat => zI (a_t (j : Int))))), (q_gp, .inl (cI, mg, .inl (fun j : Nat => zI (a_gp (j : Int))))), (q_gs, .inl (cI, ng, .inl (fun j : Nat => zI (a_gs (j : Int)))))] ++ va_pl L (pE P)) sz) U U.heap ∧ vk_R RX16 255 "ret" sa_RX16_255 U ∧ vs_S sa_RX16_255 sv_RX16_255 3 (fun j : Nat => ([114, 101, 116] : List Int32).getD j 0) (va_A ([(h0, .inr (14, [.ref q_t, .int (zI (z16_n)), .int (zI (z16_at)), .int (zI (z16_kind)), .int (zI (z16_place)), .int (zI (z16_value)), .int (zI (z16_before)), .ref tx9, v16_8, v16_9, v16_10, .ref q_gp, .ref q_gs, .int (zI (z16_goalN))])), (q_t, .inl (cT, 8192, .inl (fun j : Nat => zI (a_t (j : Int))))), (q_gp, .inl (cI, mg, .inl (fun j : Nat => zI (a_gp (j : Int))))), (q_gs, .inl (cI, ng, .inl (fun j : Nat => zI (a_gs (j : Int)))))] ++ va_pl L (pE P)) sz) U U.heap ∧ vx_Zq Bundle.tN "UNASSIGNED_STACK" Bundle.steD (va_A ([(h0, .inr (14, [.ref q_t, .int (zI (z16_n)), .int (zI (z16_at)), .int (zI (z16_kind)), .int (zI (z16_place)), .int (zI (z16_value)), .int (zI (z16_before)), .ref tx9, v16_8, v16_9, v16_10, .ref q_gp, .ref q_gs, .int (zI (z16_goalN))])), (q_t, .inl (cT, 8192, .inl (fun j : Nat => zI (a_t (j : Int))))), (q_gp, .inl (cI, mg, .inl (fun j : Nat => zI (a_gp (j : Int))))), (q_gs, .inl (cI, ng, .inl (fun j : Nat => zI (a_gs (j : Int)))))] ++ va_pl L (pE P)) sz) U U.heap ∧ vx_Zq Bundle.tN "SUPPRESSED_SENTINEL" Bundle.listD (va_A ([(h0, .inr (14, [.ref q_t, .int (zI (z16_n)), .int (zI (z16_at)), .int (zI (z16_kind)), .int (zI (z16_place)), .int (zI (z16_value)), .int (zI (z16_before)), .ref tx9, v16_8, v16_9, v16_10, .ref q_gp, .ref q_gs, .int (zI (z16_goalN))])), (q_t, .inl (cT, 8192, .inl (fun j : Nat => zI (a_t (j : Int))))), (q_gp, .inl (cI, mg, .inl (fun j : Nat => zI (a_gp (j : Int))))), (q_gs, .inl (cI, ng, .inl (fun j : Nat => zI (a_gs (j : Int)))))] ++ va_pl L (pE P)) sz) U U.heap ∧ U.heap = HU ∧ vk_R RX16 9 "" sa_RX16_9 U ∧ va_Nw (.castable "[B" "java/lang/Cloneable") U ∧ vk_R RX16 119 "+-*/%&|^<(),:=" sa_RX16_119 U ∧ vs_S sa_RX16_119 sv_RX16_119 14 (fun j : Nat => ([43, 45, 42, 47, 37, 38, 124, 94, 60, 40, 41, 44, 58, 61] : List Int32).getD j 0) (va_A ([(h0, .inr (14, [.ref q_t, .int (zI (z16_n)), .int (zI (z16_at)), .int (zI (z16_kind)), .int (zI (z16_place)), .int (zI (z16_value)), .int (zI (z16_before)), .ref tx9, v16_8, v16_9, v16_10, .ref q_gp, .ref q_gs, .int (zI (z16_goalN))])), (q_t, .inl (cT, 8192, .inl (fun j : Nat => zI (a_t (j : Int))))), (q_gp, .inl (cI, mg, .inl (fun j : Nat => zI (a_gp (j : Int))))), (q_gs, .inl (cI, ng, .inl (fun j : Nat => zI (a_gs (j : Int)))))] ++ va_pl L (pE P)) sz) U U.heap ∧ vs_S sa_RX16_100 sv_RX16_100 1 (fun j : Nat => ([32] : List Int32).getD j 0) (va_A ([(h0, .inr (14, [.ref q_t, .int (zI (z16_n)), .int (zI (z16_at)), .int (zI (z16_kind)), .int (zI (z16_place)), .int (zI (z16_value)), .int (zI (z16_before)), .ref tx9, v16_8, v16_9, v16_10, .ref q_gp, .ref q_gs, .int (zI (z16_goalN))])), (q_t, .inl (cT, 8192, .inl (fun j : Nat => zI (a_t (j : Int))))), (q_gp, .inl (cI, mg, .inl (fun j : Nat => zI (a_gp (j : Int))))), (q_gs, .inl (cI, ng, .inl (fun j : Nat => zI (a_gs (j : Int)))))] ++ va_pl L (pE P)) sz) U U.heap ∧ vk_R RX16 117 " << >> <= == != " sa_RX16_117 U ∧ vk_R RX16 100 " " sa_RX16_100 U ∧ vs_S sa_RX16_117 sv_RX16_117 16 (fun j : Nat => ([32, 60, 60, 32, 62, 62, 32, 60, 61, 32, 61, 61, 32, 33, 61, 32] : List Int32).getD j 0) (va_A ([(h0, .inr (14, [.ref q_t, .int (zI (z16_n)), .int (zI (z16_at)), .int (zI (z16_kind)), .int (zI (z16_place)), .int (zI (z16_value)), .int (zI (z16_before)), .ref tx9, v16_8, v16_9, v16_10, .ref q_gp, .ref q_gs, .int (zI (z16_goalN))])), (q_t, .inl (cT, 8192, .inl (fun j : Nat => zI (a_t (j : Int))))), (q_gp, .inl (cI, mg, .inl (fun j : Nat => zI (a_gp (j : Int))))), (q_gs, .inl (cI, ng, .inl (fun j : Nat => zI (a_gs (j : Int)))))] ++ va_pl L (pE P)) sz) U U.heap ∧ vk_R RX16 98 " in show if jump ret phi " sa_RX16_98 U ∧ vs_S sa_RX16_98 sv_RX16_98 25 (fun j : Nat => ([32, 105, 110, 32, 115, 104, 111, 119, 32, 105, 102, 32, 106, 117, 109, 112, 32, 114, 101, 116, 32, 112, 104, 105, 32] : List Int32).getD j 0) (va_A ([(h0, .inr (14, [.ref q_t, .int (zI (z16_n)), .int (zI (z16_at)), .int (zI (z16_kind)), .int (zI (z16_place)), .int (zI (z16_value)), .int (zI (z16_before)), .ref tx9, v16_8, v16_9, v16_10, .ref q_gp, .ref q_gs, .int (zI (z16_goalN))])), (q_t, .inl (cT, 8192, .inl (fun j : Nat => zI (a_t (j : Int))))), (q_gp, .inl (cI, mg, .inl (fun j : Nat => zI (a_gp (j : Int))))), (q_gs, .inl (cI, ng, .inl (fun j : Nat => zI (a_gs (j : Int)))))] ++ va_pl L (pE P)) sz) U U.heap)) (va_Qv (fun _ : Unit => True) (fun (_ : Unit) (t : State) => ∃ (z0_9 : Int) (z1_9 : Int) (z2_9 : Int) (z3_9 : Int) (z4_9 : Int) (q5_9 : Nat) (z6_9 : Int) (qn0_9 : Nat) (nn0_9 : Nat) (an0_9 : Int → Int) (qn1_9 : Nat) (nn1_9 : Nat) (an1_9 : Int → Int) (Ln_9 : List Nat) (Pn_9 : PO) (kc_9 : Nat) (ks_9 : Nat), ((RM HU t.heap kc_9 ks_9 ∧ ((ks_9 : Int) ≤ 4 * ((nn1_9 : Int) - ng) + 45 * (z2_9 - z16_place) - TKV z16_kind (z16_at - z16_place) + TKV (z1_9) (z0_9 - z2_9) - 24 * (z6_9 - z16_goalN) ∧ (kc_9 : Int) ≤ 2 * ((nn1_9 : Int) - ng) + 8 * (z2_9 - z16_place) - TKW z16_kind (z16_at - z16_place) + TKW (z1_9) (z0_9 - z2_9) - 8 * (z6_9 - z16_goalN))) ∧ ((0 ≤ z0_9 ∧ z0_9 ≤ 8192) ∧ (0 ≤ z1_9 ∧ z1_9 ≤ 6) ∧ (0 ≤ z2_9 ∧ z2_9 ≤ 8192) ∧ (-2147483648 ≤ z3_9 ∧ z3_9 ≤ 2147483647) ∧ (0 ≤ z4_9 ∧ z4_9 ≤ 6) ∧ (0 ≤ z6_9 ∧ z6_9 ≤ 20000) ∧ (∀ j : Int, 0 ≤ an0_9 j ∧ an0_9 j ≤ 8192) ∧ (∀ j : Int, 0 ≤ an1_9 j ∧ an1_9 j ≤ 59) ∧ (KEG [] L P Ln_9 Pn_9 ∧ GLR Ln_9 Pn_9 cO cI cZ sx_ed ∧ ((7 * (z16_n - z0_9) + z1_9 < 7 * (z16_n - z16_at) + z16_kind ∧ z16_at + 1 ≤ z0_9) ∧ NTX L P Ln_9 Pn_9) ∧ CHG (fun z => z = xb ∨ z = P.be xb) L P Ln_9 Pn_9 ∧ (z16_goalN ≤ z6_9 ∧ z6_9 ≤ z16_goalN + 2 ∧ z6_9 ≤ (nn1_9 : Int) ∧ (nn0_9 : Int) = nn1_9 ∧ (ng : Int) ≤ nn1_9 ∧ (nn1_9 : Int) ≤ 17000 ∧ z6_9 ≤ z0_9 ∧ GRW (nn1_9 : Int) ng (z6_9)) ∧ (∀ j : Int, 0 ≤ j → j < z16_goalN → an1_9 j = a_gs j) ∧ GIN an1_9 (z6_9) (Pn_9.bf xb) ∧ GIN an1_9 (z6_9) (Pn_9.bs xb) ∧ (30 ≤ Pn_9.ro (P.be xb) ∧ Pn_9.ro (P.be xb) ≤ 32 ∧ OPQ (Pn_9.rA (P.be xb)) (Pn_9.ra (P.be xb))) ∧ ((z16_at ≤ z2_9 ∧ z2_9 ≤ z0_9 ∧ z0_9 ≤ z16_n) ∧ TKQ (z1_9) (z2_9) (z0_9)) ∧ KDN (z1_9) (z0_9) (z3_9) z16_n z16_at ∧ TXT Ln_9 Pn_9 cT sa_RX16_9 q5_9))) ∧ va_P (dC, dI) vwQ ([(h0, .inr (14, [.ref q_t, .int (zI (z16_n)), .int (zI (z0_9)), .int (zI (z1_9)), .int (zI (z2_9)), .int (zI (z3_9)), .int (zI (z4_9)), .ref q5_9, v16_8, v16_9, v16_10, .ref qn0_9, .ref qn1_9, .int (zI (z6_9))])), (q_t, .inl (cT, 8192, .inl (fun j : Nat => zI (a_t (j : Int))))), (qn0_9, .inl (cI, nn0_9, .inl (fun j : Nat => zI (an0_9 (j : Int))))), (qn1_9, .inl (cI, nn1_9, .inl (fun j : Nat => zI (an1_9 (j : Int)))))] ++ va_pl Ln_9 (pE Pn_9)) t.heap ∧ va_K (dC, dI) vwQ [(cT, .byte), (cI, .int), (cO, .object "java/lang/Object"), (cZ, .boolean)] t ∧ va_D (va_A ([(h0, .inr (14, [.ref q_t, .int (zI (z16_n)), .int (zI (z16_at)), .int (zI (z16_kind)), .int (zI (z16_place)), .int (zI (z16_value)), .int (zI (z16_before)), .ref tx9, v16_8, v16_9, v16_10, .ref q_gp, .ref q_gs, .int (zI (z16_goalN))])), (q_t, .inl (cT, 8192, .inl (fun j : Nat => zI (a_t (j : Int))))), (q_gp, .inl (cI, mg, .inl (fun j : Nat => zI (a_gp (j : Int))))), (q_gs, .inl (cI, ng, .inl (fun j : Nat => zI (a_gs (j : Int)))))] ++ va_pl L (pE P)) sz) ([(h0, .inr (14, [.ref q_t, .int (zI (z16_n)), .int (zI (z0_9)), .int (zI (z1_9)), .int (zI (z2_9)), .int (zI (z3_9)), .int (zI (z4_9)), .ref q5_9, v16_8, v16_9, v16_10, .ref qn0_9, .ref qn1_9, .int (zI (z6_9))])), (q_t, .inl (cT, 8192, .inl (fun j : Nat => zI (a_t (j : Int))))), (qn0_9, .inl (cI, nn0_9, .inl (fun j : Nat => zI (an0_9 (j : Int))))), (qn1_9, .inl (cI, nn1_9, .inl (fun j : Nat => zI (an1_9 (j : Int)))))] ++ va_pl Ln_9 (pE Pn_9))) (va_A ([(h0, .inr (14, [.ref q_t, .int (zI (z16_n)), .int (zI (z16_at)), .int (zI (z16_kind)), .int (zI (z16_place)), .int (zI (z16_value)), .int (zI (z16_before)), .ref tx9, v16_8, v16_9, v16_10, .ref q_gp, .ref q_gs, .int (zI (z16_goalN))])), (q_t, .inl (cT, 8192, .inl (fun j : Nat => zI (a_t (j : Int))))), (q_gp, .inl (cI, mg, .inl (fun j : Nat => zI (a_gp (j : Int))))), (q_gs, .inl (cI, ng, .inl (fun j : Nat => zI (a_gs (j : Int)))))] ++ va_pl L (pE P)) sz)) (vx_X (fun _ : Unit => True) (fun E (q9 : Addr) (_ : Unit) (t9 : State) => (E = RX18 ∧ ∃ (zp_9 : Int) (Ln_9 : List Nat) (Pn_9 : PO) (kc_9 : Nat) (ks_9 : Nat), ((RM HU t9.heap kc_9 ks_9 ∧ ((ks_9 : Int) ≤ 45 * (z16_n - z16_place) - TKV z16_kind (z16_at - z16_place) + 8 * z16_goalN + 130 ∧ (kc_9 : Int) ≤ 8 * (z16_n - z16_place) - TKW z16_kind (z16_at - z16_place) + 2 * z16_goalN + 60)) ∧ ((0 ≤ zp_9 ∧ zp_9 ≤ 8192) ∧ (KEG [] L P Ln_9 Pn_9 ∧ GLR Ln_9 Pn_9 cO cI cZ sx_ed ∧ CPA L P Pn_9 ∧ NTX L P Ln_9 Pn_9))) ∧ va_P (dC, dI) vwQ ([(q_t, .inl (cT, 8192, .inl (fun j : Nat => zI (a_t (j : Int))))), (q9, .inr (15, [.null, .null, .null, .null, .null, .int 0, .int (zI (zp_9))]))] ++ va_pl Ln_9 (pE Pn_9)) t9.heap ∧ va_D (va_A ([(h0, .inr (14, [.ref q_t, .int (zI (z16_n)), .int (zI (z16_at)), .int (zI (z16_kind)), .int (zI (z16_place)), .int (zI (z16_value)), .int (zI (z16_before)), .ref tx9, v16_8, v16_9, v16_10, .ref q_gp, .ref q_gs, .int (zI (z16_goalN))])), (q_t, .inl (cT, 8192, .inl (fun j : Nat => zI (a_t (j : Int))))), (q_gp, .inl (cI, mg, .inl (fun j : Nat => zI (a_gp (j : Int))))), (q_gs, .inl (cI, ng, .inl (fun j : Nat => zI (a_gs (j : Int)))))] ++ va_pl L (pE P)) sz) ([(q_t, .inl (cT, 8192, .inl (fun j : Nat => zI (a_t (j : Int))))), (q9, .inr (15, [.null, .null, .null, .null, .null, .int 0, .int (zI (zp_9))]))] ++ va_pl Ln_9 (pE Pn_9)))) (va_A ([(h0, .inr (14, [.ref q_t, .int (zI (z16_n)), .int (zI (z16_at)), .int (zI (z16_kind)), .int (zI (z16_place)), .int (zI (z16_value)), .int (zI (z16_before)), .ref tx9, v16_8, v16_9, v16_10, .ref q_gp, .ref q_gs, .int (zI (z16_goalN))])), (q_t, .inl (cT, 8192, .inl (fun j : Nat => zI (a_t (j : Int))))), (q_gp, .inl (cI, mg, .inl (fun j : Nat => zI (a_gp (j : Int))))), (q_gs, .inl (cI, ng, .inl (fun j : Nat => zI (a_gs (j : Int)))))] ++ va_pl L (pE P)) sz)) ((8 * (z16_n - z16_place) - TKW z16_kind (z16_at - z16_place) + 4 * z16_goalN + 160).toNat) ((45 * (z16_n - z16_place) - TKV z16_kind (z16_at - z16_place) + 16 * z16_goalN + 700).toNat) (va_A ([(h0, .inr (14, [.ref q_t, .int (zI (z16_n)), .int (zI (z16_at)), .int (zI (z16_kind)), .int (zI (z16_place)), .int (zI (z16_value)), .int (zI (z16_before)), .ref tx9, v16_8, v16_9, v16_10, .ref q_gp, .ref q_gs, .int (zI (z16_goalN))])), (q_t, .inl (cT, 8192, .inl (fun j : Nat => zI (a_t (j : Int))))), (q_gp, .inl (cI, mg, .inl (fun j : Nat => zI (a_gp (j : Int))))), (q_gs, .inl (cI, ng, .inl (fun j : Nat => zI (a_gs (j : Int)))))] ++ va_pl L (pE P)) sz) := by
  refine vx_ofW (cc := cX16_end) (maxL := 3) (ret := none) (by decide) rfl ?_
  intro p e s m args below meth c s₁ B hml hnt hv
  obtain ⟨rfl, hsz, hP, hK, hD0, hp0, hp1, hp2, hp3, hp4, hp5, hp6, hp7, hp8, hp9, hp10, hp11, hp12, hp13, hp14, hp15, hp16, hp17, hp18, hp19, hp20⟩ := hv
  have hx := B.exec
  have hb := B.bytes
  have hr := B.returns
  have hts := atoms_spec (ws := v_X16_endR) B.pre
  have hown : s.vm.findClass RX16 = some m.cls := findClass_of_methodNamed B.named
  have hlocks := B.notSynchronized
  have ow : ∀ {k : Nat} {w : Cond}, o_X16_endR[k]? = some w → w.before ([.ref h0, .ref xb] : List Value).toArray s = true := fun h => hts _ (mow_X16_endR _ (List.mem_of_getElem? h))
  subst hsz
  have hD := hD0.self (sz := s.heap.size)
  generalize hAe : va_A ([(h0, .inr (14, [.ref q_t, .int (zI (z16_n)), .int (zI (z16_at)), .int (zI (z16_kind)), .int (zI (z16_place)), .int (zI (z16_value)), .int (zI (z16_before)), .ref tx9, v16_8, v16_9, v16_10, .ref q_gp, .ref q_gs, .int (zI (z16_goalN))])), (q_t, .inl (cT, 8192, .inl (fun j : Nat => zI (a_t (j : Int))))), (q_gp, .inl (cI, mg, .inl (fun j : Nat => zI (a_gp (j : Int))))), (q_gs, .inl (cI, ng, .inl (fun j : Nat => zI (a_gs (j : Int)))))] ++ va_pl L (pE P)) s.heap.size = A at hD hp1 hp2 hp3 hp5 hp7 hp8 hp9 hp14 hp15 hp18 hp20 ⊢
  have hA : ∀ q : Nat, s.heap.size ≤ q → A q := fun q h => by rw [← hAe]; exact Or.inr h
  have hS : va_S A s.heap s.heap [] := va_S.rf
  have hP : va_P (dC, dI) vwQ ([(h0, .inr (14, [.ref q_t, .int (zI (z16_n)), .int (zI (z16_at)), .int (zI (z16_kind)), .int (zI (z16_place)), .int (zI (z16_value)), .int (zI (z16_before)), .ref tx9, v16_8, v16_9, v16_10, .ref q_gp, .ref q_gs, .int (zI (z16_goalN))])), (q_t, .inl (cT, 8192, .inl (fun j : Nat => zI (a_t (j : Int))))), (q_gp, .inl (cI, mg, .inl (fun j : Nat => zI (a_gp (j : Int))))), (q_gs, .inl (cI, ng, .inl (fun j : Nat => zI (a_gs (j : Int)))))] ++ va_pl L (pE P)) s.heap := hP
  have hl := lv_entry ([.ref h0, .ref xb]) (n := 3) (Nat.le_of_ble_eq_true rfl)
  rw [lg_entry_eq]
  generalize (lg_sl ([.ref h0, .ref xb]) ++ List.replicate (3 - (lg_sl ([.ref h0, .ref xb])).length) Slot.unset).toArray = ls at hl ⊢
  have hl : lv_has ls 3 [(0, .ref h0), (1, .ref xb)] := hl
  obtain ⟨H, hH⟩ : ∃ H, H = s.heap := ⟨_, rfl⟩
  rw [← hH] at hP
  have hS : va_S A s.heap H [] := by rw [hH]; exact hS
  rw [← hH]
  refine zW_cap (fun Q hQ => ?_)
  have hX_g9 := hX_g
  have hnx0 : NTX L P L P := NTX.refl _ _
  have hX_tn9 := hX_tn
  have hX_tg9 := hX_tn.1
  have hnn9 := TKV.nn (k := z16_kind) (d := z16_at - z16_place) (by omega)
  have hC_la := hX_la
  have hg00 := hX_g
  have hcx0 : CHG (fun z => z = xb ∨ z = P.be xb) L P L P := CHG.refl _ _ _
  refine lv_aload_n hx hb dX16_end_0 rfl (lv_at hl 1 rfl) ?_
  have hfb := (hX_g9.gb hX_b hX_bk).2
  obtain ⟨kp_1, hkp_1⟩ := va_pl_get (X := [(h0, .inr (14, [.ref q_t, .int (zI (z16_n)), .int (zI (z16_at)), .int (zI (z16_kind)), .int (zI (z16_place)), .int (zI (z16_value)), .int (zI (z16_before)), .ref tx9, v16_8, v16_9, v16_10, .ref q_gp, .ref q_gs, .int (zI (z16_goalN))])), (q_t, .inl (cT, 8192, .inl (fun j : Nat => zI (a_t (j : Int))))), (q_gp, .inl (cI, mg, .inl (fun j : Nat => zI (a_gp (j : Int))))), (q_gs, .inl (cI, ng, .inl (fun j : Nat => zI (a_gs (j : Int)))))]) (f := pE P) hX_b
  rw [pE_block hX_bk] at hkp_1
  refine va_get (D := (dC, dI)) (ci := 19) (v := .ref (P.be xb)) (C := RX12) (T := TX12) (N := 5) hx hb hts mem_X16_endR_0 hown hK hP kp_1 hkp_1 rfl 2 (by decide) (ow (k := 0) rfl) (fun _ h9 => h9) rfl dX16_end_1 ?_
  obtain ⟨pr_2, epr_2⟩ : ∃ q9 : Nat, q9 = P.be xb := ⟨_, rfl⟩
  rw [← epr_2]
  have hbe_3 : pr_2 ∈ L ∧ P.kd pr_2 = 17 ∧ P.ek pr_2 = 1 := (by rw [epr_2]; exact (hX_g9.gb hX_b hX_bk).1)
  have hE_4 : HID (P.ek pr_2 = 1) := hbe_3.2.2
  refine lv_astore_n (lv' := [(2, .ref pr_2), (0, .ref h0), (1, .ref xb)]) hx hb dX16_end_4 rfl hl (by decide) rfl (fun ls hl => ?_)
  refine lv_aload_n hx hb dX16_end_5 rfl (lv_at hl 0 rfl) ?_
  refine lv_iconst (v := 0) hx hb dX16_end_6 (by decide) ?_
  have hr7 := (hX_g9.rokR hbe_3.1 hbe_3.2.1).n7
  refine lv_topi (fun z ez => ?_)
  obtain rfl : z = zI (0) := ez
  obtain ⟨kp_5, gkp_5⟩ := va_pl_get (X := [(h0, .inr (14, [.ref q_t, .int (zI (z16_n)), .int (zI (z16_at)), .int (zI (z16_kind)), .int (zI (z16_place)), .int (zI (z16_value)), .int (zI (z16_before)), .ref tx9, v16_8, v16_9, v16_10, .ref q_gp, .ref q_gs, .int (zI (z16_goalN))])), (q_t, .inl (cT, 8192, .inl (fun j : Nat => zI (a_t (j : Int))))), (q_gp, .inl (cI, mg, .inl (fun j : Nat => zI (a_gp (j : Int))))), (q_gs, .inl (cI, ng, .inl (fun j : Nat => zI (a_gs (j : Int)))))]) (f := pE P) hbe_3.1
  have hkp_5 := gkp_5
  rw [pE_row hbe_3.2.1] at hkp_5
  have hD0 := hD
  refine va_put (D := (dC, dI)) (ci := 21) (v := .int (zI (0))) (ty := .boolean) (C := RX17) (T := TX17) (N := 7) hx hb hts mem_X16_endR_1 tyX17 tyX17_ok nmX17 hown hK hP hD hS kp_5 hkp_5 rfl 6 (by decide) (ow (k := 1) rfl) (fun _ h9 => h9) rfl (by decide +kernel) (zI_bool (by omega) (by omega)) (zI_fitb (by omega) (by omega)) (by first | exact Nat.le_of_ble_eq_true rfl | exact (show 0 ≤ (8 * (z16_n - z16_place) - TKW z16_kind (z16_at - z16_place) + 4 * z16_goalN + 160).toNat from (rmW (by omega))) | exact (show 0 ≤ (45 * (z16_n - z16_place) - TKV z16_kind (z16_at - z16_place) + 16 * z16_goalN + 700).toNat from (rmW (by omega)))) dX16_end_7 (fun H locs hP hD hS => ?_)
  obtain ⟨Pw_6, ePw_6⟩ : ∃ q9 : PO, q9 = P.rw9 6 pr_2 (0) := ⟨_, rfl⟩
  have eU : (([(h0, .inr (14, [.ref q_t, .int (zI (z16_n)), .int (zI (z16_at)), .int (zI (z16_kind)), .int (zI (z16_place)), .int (zI (z16_value)), .int (zI (z16_before)), .ref tx9, v16_8, v16_9, v16_10, .ref q_gp, .ref q_gs, .int (zI (z16_goalN))])), (q_t, .inl (cT, 8192, .inl (fun j : Nat => zI (a_t (j : Int))))), (q_gp, .inl (cI, mg, .inl (fun j : Nat => zI (a_gp (j : Int))))), (q_gs, .inl (cI, ng, .inl (fun j : Nat => zI (a_gs (j : Int)))))] : va_W) ++ va_pl L (pE P)).set kp_5 (pr_2, rowE (P.ro pr_2) (P.rt pr_2) (P.ra pr_2) (P.rb pr_2) (P.rA pr_2) (P.rB pr_2) (0)) = ([(h0, .inr (14, [.ref q_t, .int (zI (z16_n)), .int (zI (z16_at)), .int (zI (z16_kind)), .int (zI (z16_place)), .int (zI (z16_value)), .int (zI (z16_before)), .ref tx9, v16_8, v16_9, v16_10, .ref q_gp, .ref q_gs, .int (zI (z16_goalN))])), (q_t, .inl (cT, 8192, .inl (fun j : Nat => zI (a_t (j : Int))))), (q_gp, .inl (cI, mg, .inl (fun j : Nat => zI (a_gp (j : Int))))), (q_gs, .inl (cI, ng, .inl (fun j : Nat => zI (a_gs (j : Int)))))] : va_W) ++ va_pl L (pE Pw_6) := (by rw [va_pl_set hD0 hbe_3.1 gkp_5, ePw_6]; exact congrArg (fun f9 => ([(h0, .inr (14, [.ref q_t, .int (zI (z16_n)), .int (zI (z16_at)), .int (zI (z16_kind)), .int (zI (z16_place)), .int (zI (z16_value)), .int (zI (z16_before)), .ref tx9, v16_8, v16_9, v16_10, .ref q_gp, .ref q_gs, .int (zI (z16_goalN))])), (q_t, .inl (cT, 8192, .inl (fun j : Nat => zI (a_t (j : Int))))), (q_gp, .inl (cI, mg, .inl (fun j : Nat => zI (a_gp (j : Int))))), (q_gs, .inl (cI, ng, .inl (fun j : Nat => zI (a_gs (j : Int)))))] : va_W) ++ va_pl L f9) (put17_6 hbe_3.2.1))
  have hP : va_P (dC, dI) vwQ ([(h0, .inr (14, [.ref q_t, .int (zI (z16_n)), .int (zI (z16_at)), .int (zI (z16_kind)), .int (zI (z16_place)), .int (zI (z16_value)), .int (zI (z16_before)), .ref tx9, v16_8, v16_9, v16_10, .ref q_gp, .ref q_gs, .int (zI (z16_goalN))])), (q_t, .inl (cT, 8192, .inl (fun j : Nat => zI (a_t (j : Int))))), (q_gp, .inl (cI, mg, .inl (fun j : Nat => zI (a_gp (j : Int))))), (q_gs, .inl (cI, ng, .inl (fun j : Nat => zI (a_gs (j : Int)))))] ++ va_pl L (pE Pw_6)) H := (by rw [← eU]; exact hP)
  have hD : va_D A ([(h0, .inr (14, [.ref q_t, .int (zI (z16_n)), .int (zI (z16_at)), .int (zI (z16_kind)), .int (zI (z16_place)), .int (zI (z16_value)), .int (zI (z16_before)), .ref tx9, v16_8, v16_9, v16_10, .ref q_gp, .ref q_gs, .int (zI (z16_goalN))])), (q_t, .inl (cT, 8192, .inl (fun j : Nat => zI (a_t (j : Int))))), (q_gp, .inl (cI, mg, .inl (fun j : Nat => zI (a_gp (j : Int))))), (q_gs, .inl (cI, ng, .inl (fun j : Nat => zI (a_gs (j : Int)))))] ++ va_pl L (pE Pw_6)) := (by rw [← eU]; exact hD)
  clear eU hD0 gkp_5 hkp_5
  have wPw_6 : RW1 pr_2 P Pw_6 := (by rw [ePw_6]; exact RW1.put _ _ _ _)
  have hy_7 : Pw_6.kd la = 30 := (by rw [ePw_6]; exact hC_la.2.1)
  have hy_8 : Pw_6.kd xb = 12 := (by rw [ePw_6]; exact hX_bk)
  have : Pw_6.bf xb = P.bf xb := wPw_6.2 _ (kd_ne hX_bk hbe_3.2.1 (by decide)) _
  have : Pw_6.bs xb = P.bs xb := wPw_6.2 _ (kd_ne hX_bk hbe_3.2.1 (by decide)) _
  have hy_9 : Pw_6.kd pr_2 = 17 := (by rw [ePw_6]; exact hbe_3.2.1)
  have : Pw_6.ro pr_2 = P.ro pr_2 := (by rw [ePw_6]; exact rw9_of _ (by decide))
  have : Pw_6.rt pr_2 = P.rt pr_2 := (by rw [ePw_6]; exact rw9_of _ (by decide))
  have : Pw_6.ra pr_2 = P.ra pr_2 := (by rw [ePw_6]; exact rw9_of _ (by decide))
  have : Pw_6.rb pr_2 = P.rb pr_2 := (by rw [ePw_6]; exact rw9_of _ (by decide))
  have : Pw_6.rA pr_2 = P.rA pr_2 := (by rw [ePw_6]; exact rw9_of _ (by decide))
  have : Pw_6.rB pr_2 = P.rB pr_2 := (by rw [ePw_6]; exact rw9_of _ (by decide))
  have : Pw_6.rg pr_2 = 0 := (by rw [ePw_6]; exact rw9_at _ _ _ _)
  have : Pw_6.ek pr_2 = P.ek pr_2 := (by rw [ePw_6]; rfl)
  have ha_10 : HID (Pw_6.be xb = pr_2) := (by rw [ePw_6]; exact epr_2.symm)
  refine lv_aload_n hx hb dX16_end_10 rfl (lv_at hl 0 rfl) ?_
  refine lv_iconst (v := 0) hx hb dX16_end_11 (by decide) ?_
  refine lv_topi (fun z ez => ?_)
  obtain rfl : z = zI (0) := ez
  obtain ⟨kp_11, gkp_11⟩ := va_pl_get (X := [(h0, .inr (14, [.ref q_t, .int (zI (z16_n)), .int (zI (z16_at)), .int (zI (z16_kind)), .int (zI (z16_place)), .int (zI (z16_value)), .int (zI (z16_before)), .ref tx9, v16_8, v16_9, v16_10, .ref q_gp, .ref q_gs, .int (zI (z16_goalN))])), (q_t, .inl (cT, 8192, .inl (fun j : Nat => zI (a_t (j : Int))))), (q_gp, .inl (cI, mg, .inl (fun j : Nat => zI (a_gp (j : Int))))), (q_gs, .inl (cI, ng, .inl (fun j : Nat => zI (a_gs (j : Int)))))]) (f := pE Pw_6) hbe_3.1
  have hkp_11 := gkp_11
  rw [pE_row hy_9] at hkp_11
  have hD0 := hD
  refine va_put (D := (dC, dI)) (ci := 21) (v := .int (zI (0))) (ty := .boolean) (C := RX17) (T := TX17) (N := 7) hx hb hts mem_X16_endR_1 tyX17 tyX17_ok nmX17 hown hK hP hD hS kp_11 hkp_11 rfl 4 (by decide) (ow (k := 2) rfl) (fun _ h9 => h9) rfl (by decide +kernel) (zI_bool (by omega) (by omega)) (zI_fitb (by omega) (by omega)) (by first | exact Nat.le_of_ble_eq_true rfl | exact (show 0 ≤ (8 * (z16_n - z16_place) - TKW z16_kind (z16_at - z16_place) + 4 * z16_goalN + 160).toNat from (rmW (by omega))) | exact (show 0 ≤ (45 * (z16_n - z16_place) - TKV z16_kind (z16_at - z16_place) + 16 * z16_goalN + 700).toNat from (rmW (by omega)))) dX16_end_12 (fun H locs hP hD hS => ?_)
  obtain ⟨Pw_12, ePw_12⟩ : ∃ q9 : PO, q9 = Pw_6.rw9 4 pr_2 (0) := ⟨_, rfl⟩
  have eU : (([(h0, .inr (14, [.ref q_t, .int (zI (z16_n)), .int (zI (z16_at)), .int (zI (z16_kind)), .int (zI (z16_place)), .int (zI (z16_value)), .int (zI (z16_before)), .ref tx9, v16_8, v16_9, v16_10, .ref q_gp, .ref q_gs, .int (zI (z16_goalN))])), (q_t, .inl (cT, 8192, .inl (fun j : Nat => zI (a_t (j : Int))))), (q_gp, .inl (cI, mg, .inl (fun j : Nat => zI (a_gp (j : Int))))), (q_gs, .inl (cI, ng, .inl (fun j : Nat => zI (a_gs (j : Int)))))] : va_W) ++ va_pl L (pE Pw_6)).set kp_11 (pr_2, rowE (Pw_6.ro pr_2) (Pw_6.rt pr_2) (Pw_6.ra pr_2) (Pw_6.rb pr_2) (0) (Pw_6.rB pr_2) (Pw_6.rg pr_2)) = ([(h0, .inr (14, [.ref q_t, .int (zI (z16_n)), .int (zI (z16_at)), .int (zI (z16_kind)), .int (zI (z16_place)), .int (zI (z16_value)), .int (zI (z16_before)), .ref tx9, v16_8, v16_9, v16_10, .ref q_gp, .ref q_gs, .int (zI (z16_goalN))])), (q_t, .inl (cT, 8192, .inl (fun j : Nat => zI (a_t (j : Int))))), (q_gp, .inl (cI, mg, .inl (fun j : Nat => zI (a_gp (j : Int))))), (q_gs, .inl (cI, ng, .inl (fun j : Nat => zI (a_gs (j : Int)))))] : va_W) ++ va_pl L (pE Pw_12) := (by rw [va_pl_set hD0 hbe_3.1 gkp_11, ePw_12]; exact congrArg (fun f9 => ([(h0, .inr (14, [.ref q_t, .int (zI (z16_n)), .int (zI (z16_at)), .int (zI (z16_kind)), .int (zI (z16_place)), .int (zI (z16_value)), .int (zI (z16_before)), .ref tx9, v16_8, v16_9, v16_10, .ref q_gp, .ref q_gs, .int (zI (z16_goalN))])), (q_t, .inl (cT, 8192, .inl (fun j : Nat => zI (a_t (j : Int))))), (q_gp, .inl (cI, mg, .inl (fun j : Nat => zI (a_gp (j : Int))))), (q_gs, .inl (cI, ng, .inl (fun j : Nat => zI (a_gs (j : Int)))))] : va_W) ++ va_pl L f9) (put17_4 hy_9))
  have hP : va_P (dC, dI) vwQ ([(h0, .inr (14, [.ref q_t, .int (zI (z16_n)), .int (zI (z16_at)), .int (zI (z16_kind)), .int (zI (z16_place)), .int (zI (z16_value)), .int (zI (z16_before)), .ref tx9, v16_8, v16_9, v16_10, .ref q_gp, .ref q_gs, .int (zI (z16_goalN))])), (q_t, .inl (cT, 8192, .inl (fun j : Nat => zI (a_t (j : Int))))), (q_gp, .inl (cI, mg, .inl (fun j : Nat => zI (a_gp (j : Int))))), (q_gs, .inl (cI, ng, .inl (fun j : Nat => zI (a_gs (j : Int)))))] ++ va_pl L (pE Pw_12)) H := (by rw [← eU]; exact hP)
  have hD : va_D A ([(h0, .inr (14, [.ref q_t, .int (zI (z16_n)), .int (zI (z16_at)), .int (zI (z16_kind)), .int (zI (z16_place)), .int (zI (z16_value)), .int (zI (z16_before)), .ref tx9, v16_8, v16_9, v16_10, .ref q_gp, .ref q_gs, .int (zI (z16_goalN))])), (q_t, .inl (cT, 8192, .inl (fun j : Nat => zI (a_t (j : Int))))), (q_gp, .inl (cI, mg, .inl (fun j : Nat => zI (a_gp (j : Int))))), (q_gs, .inl (cI, ng, .inl (fun j : Nat => zI (a_gs (j : Int)))))] ++ va_pl L (pE Pw_12)) := (by rw [← eU]; exact hD)
  clear eU hD0 gkp_11 hkp_11
  have wPw_12 : RW1 pr_2 Pw_6 Pw_12 := (by rw [ePw_12]; exact RW1.put _ _ _ _)
  have hy_13 : Pw_12.kd la = 30 := (by rw [ePw_12]; exact hy_7)
  have hy_14 : Pw_12.kd xb = 12 := (by rw [ePw_12]; exact hy_8)
  have : Pw_12.bf xb = Pw_6.bf xb := wPw_12.2 _ (kd_ne hy_8 hy_9 (by decide)) _
  have : Pw_12.bs xb = Pw_6.bs xb := wPw_12.2 _ (kd_ne hy_8 hy_9 (by decide)) _
  have hy_15 : Pw_12.kd pr_2 = 17 := (by rw [ePw_12]; exact hy_9)
  have : Pw_12.ro pr_2 = Pw_6.ro pr_2 := (by rw [ePw_12]; exact rw9_of _ (by decide))
  have : Pw_12.rt pr_2 = Pw_6.rt pr_2 := (by rw [ePw_12]; exact rw9_of _ (by decide))
  have : Pw_12.ra pr_2 = Pw_6.ra pr_2 := (by rw [ePw_12]; exact rw9_of _ (by decide))
  have : Pw_12.rb pr_2 = Pw_6.rb pr_2 := (by rw [ePw_12]; exact rw9_of _ (by decide))
  have : Pw_12.rA pr_2 = 0 := (by rw [ePw_12]; exact rw9_at _ _ _ _)
  have : Pw_12.rB pr_2 = Pw_6.rB pr_2 := (by rw [ePw_12]; exact rw9_of _ (by decide))
  have : Pw_12.rg pr_2 = Pw_6.rg pr_2 := (by rw [ePw_12]; exact rw9_of _ (by decide))
  have : Pw_12.ek pr_2 = Pw_6.ek pr_2 := (by rw [ePw_12]; rfl)
  have ha_16 : HID (Pw_12.be xb = pr_2) := (by rw [ePw_12]; exact ha_10.out)
  refine lv_aload_n hx hb dX16_end_15 rfl (lv_at hl 0 rfl) ?_
  refine lv_iconst (v := 0) hx hb dX16_end_16 (by decide) ?_
  refine lv_topi (fun z ez => ?_)
  obtain rfl : z = zI (0) := ez
  obtain ⟨kp_17, gkp_17⟩ := va_pl_get (X := [(h0, .inr (14, [.ref q_t, .int (zI (z16_n)), .int (zI (z16_at)), .int (zI (z16_kind)), .int (zI (z16_place)), .int (zI (z16_value)), .int (zI (z16_before)), .ref tx9, v16_8, v16_9, v16_10, .ref q_gp, .ref q_gs, .int (zI (z16_goalN))])), (q_t, .inl (cT, 8192, .inl (fun j : Nat => zI (a_t (j : Int))))), (q_gp, .inl (cI, mg, .inl (fun j : Nat => zI (a_gp (j : Int))))), (q_gs, .inl (cI, ng, .inl (fun j : Nat => zI (a_gs (j : Int)))))]) (f := pE Pw_12) hbe_3.1
  have hkp_17 := gkp_17
  rw [pE_row hy_15] at hkp_17
  have hD0 := hD
  refine va_put (D := (dC, dI)) (ci := 21) (v := .int (zI (0))) (ty := .int) (C := RX17) (T := TX17) (N := 7) hx hb hts mem_X16_endR_1 tyX17 tyX17_ok nmX17 hown hK hP hD hS kp_17 hkp_17 rfl 2 (by decide) (ow (k := 3) rfl) (fun _ h9 => h9) rfl (by decide +kernel) rfl rfl (by first | exact Nat.le_of_ble_eq_true rfl | exact (show 0 ≤ (8 * (z16_n - z16_place) - TKW z16_kind (z16_at - z16_place) + 4 * z16_goalN + 160).toNat from (rmW (by omega))) | exact (show 0 ≤ (45 * (z16_n - z16_place) - TKV z16_kind (z16_at - z16_place) + 16 * z16_goalN + 700).toNat from (rmW (by omega)))) dX16_end_17 (fun H locs hP hD hS => ?_)
  obtain ⟨Pw_18, ePw_18⟩ : ∃ q9 : PO, q9 = Pw_12.rw9 2 pr_2 (0) := ⟨_, rfl⟩
  have eU : (([(h0, .inr (14, [.ref q_t, .int (zI (z16_n)), .int (zI (z16_at)), .int (zI (z16_kind)), .int (zI (z16_place)), .int (zI (z16_value)), .int (zI (z16_before)), .ref tx9, v16_8, v16_9, v16_10, .ref q_gp, .ref q_gs, .int (zI (z16_goalN))])), (q_t, .inl (cT, 8192, .inl (fun j : Nat => zI (a_t (j : Int))))), (q_gp, .inl (cI, mg, .inl (fun j : Nat => zI (a_gp (j : Int))))), (q_gs, .inl (cI, ng, .inl (fun j : Nat => zI (a_gs (j : Int)))))] : va_W) ++ va_pl L (pE Pw_12)).set kp_17 (pr_2, rowE (Pw_12.ro pr_2) (Pw_12.rt pr_2) (0) (Pw_12.rb pr_2) (Pw_12.rA pr_2) (Pw_12.rB pr_2) (Pw_12.rg pr_2)) = ([(h0, .inr (14, [.ref q_t, .int (zI (z16_n)), .int (zI (z16_at)), .int (zI (z16_kind)), .int (zI (z16_place)), .int (zI (z16_value)), .int (zI (z16_before)), .ref tx9, v16_8, v16_9, v16_10, .ref q_gp, .ref q_gs, .int (zI (z16_goalN))])), (q_t, .inl (cT, 8192, .inl (fun j : Nat => zI (a_t (j : Int))))), (q_gp, .inl (cI, mg, .inl (fun j : Nat => zI (a_gp (j : Int))))), (q_gs, .inl (cI, ng, .inl (fun j : Nat => zI (a_gs (j : Int)))))] : va_W) ++ va_pl L (pE Pw_18) := (by rw [va_pl_set hD0 hbe_3.1 gkp_17, ePw_18]; exact congrArg (fun f9 => ([(h0, .inr (14, [.ref q_t, .int (zI (z16_n)), .int (zI (z16_at)), .int (zI (z16_kind)), .int (zI (z16_place)), .int (zI (z16_value)), .int (zI (z16_before)), .ref tx9, v16_8, v16_9, v16_10, .ref q_gp, .ref q_gs, .int (zI (z16_goalN))])), (q_t, .inl (cT, 8192, .inl (fun j : Nat => zI (a_t (j : Int))))), (q_gp, .inl (cI, mg, .inl (fun j : Nat => zI (a_gp (j : Int))))), (q_gs, .inl (cI, ng, .inl (fun j : Nat => zI (a_gs (j : Int)))))] : va_W) ++ va_pl L f9) (put17_2 hy_15))
  have hP : va_P (dC, dI) vwQ ([(h0, .inr (14, [.ref q_t, .int (zI (z16_n)), .int (zI (z16_at)), .int (zI (z16_kind)), .int (zI (z16_place)), .int (zI (z16_value)), .int (zI (z16_before)), .ref tx9, v16_8, v16_9, v16_10, .ref q_gp, .ref q_gs, .int (zI (z16_goalN))])), (q_t, .inl (cT, 8192, .inl (fun j : Nat => zI (a_t (j : Int))))), (q_gp, .inl (cI, mg, .inl (fun j : Nat => zI (a_gp (j : Int))))), (q_gs, .inl (cI, ng, .inl (fun j : Nat => zI (a_gs (j : Int)))))] ++ va_pl L (pE Pw_18)) H := (by rw [← eU]; exact hP)
  have hD : va_D A ([(h0, .inr (14, [.ref q_t, .int (zI (z16_n)), .int (zI (z16_at)), .int (zI (z16_kind)), .int (zI (z16_place)), .int (zI (z16_value)), .int (zI (z16_before)), .ref tx9, v16_8, v16_9, v16_10, .ref q_gp, .ref q_gs, .int (zI (z16_goalN))])), (q_t, .inl (cT, 8192, .inl (fun j : Nat => zI (a_t (j : Int))))), (q_gp, .inl (cI, mg, .inl (fun j : Nat => zI (a_gp (j : Int))))), (q_gs, .inl (cI, ng, .inl (fun j : Nat => zI (a_gs (j : Int)))))] ++ va_pl L (pE Pw_18)) := (by rw [← eU]; exact hD)
  clear eU hD0 gkp_17 hkp_17
  have wPw_18 : RW1 pr_2 Pw_12 Pw_18 := (by rw [ePw_18]; exact RW1.put _ _ _ _)
  have hy_19 : Pw_18.kd la = 30 := (by rw [ePw_18]; exact hy_13)
  have hy_20 : Pw_18.kd xb = 12 := (by rw [ePw_18]; exact hy_14)
  have : Pw_18.bf xb = Pw_12.bf xb := wPw_18.2 _ (kd_ne hy_14 hy_15 (by decide)) _
  have : Pw_18.bs xb = Pw_12.bs xb := wPw_18.2 _ (kd_ne hy_14 hy_15 (by decide)) _
  have hy_21 : Pw_18.kd pr_2 = 17 := (by rw [ePw_18]; exact hy_15)
  have : Pw_18.ro pr_2 = Pw_12.ro pr_2 := (by rw [ePw_18]; exact rw9_of _ (by decide))
  have : Pw_18.rt pr_2 = Pw_12.rt pr_2 := (by rw [ePw_18]; exact rw9_of _ (by decide))
  have : Pw_18.ra pr_2 = 0 := (by rw [ePw_18]; exact rw9_at _ _ _ _)
  have : Pw_18.rb pr_2 = Pw_12.rb pr_2 := (by rw [ePw_18]; exact rw9_of _ (by decide))
  have : Pw_18.rA pr_2 = Pw_12.rA pr_2 := (by rw [ePw_18]; exact rw9_of _ (by decide))
  have : Pw_18.rB pr_2 = Pw_12.rB pr_2 := (by rw [ePw_18]; exact rw9_of _ (by decide))
  have : Pw_18.rg pr_2 = Pw_12.rg pr_2 := (by rw [ePw_18]; exact rw9_of _ (by decide))
  have : Pw_18.ek pr_2 = Pw_12.ek pr_2 := (by rw [ePw_18]; rfl)
  have ha_22 : HID (Pw_18.be xb = pr_2) := (by rw [ePw_18]; exact ha_16.out)
  have hW_23 : RW1 pr_2 P Pw_18 := wPw_6.trans (wPw_12.trans (wPw_18))
  have hrw_26 : RWD P Pw_18 := hW_23.rwd (Or.inl hbe_3.2.1)
  have hak_25 : GLR L Pw_18 cO cI cZ sx_ed := hX_g9.row hW_23 hbe_3.2.1 (ROKR.of (by omega) (by omega) (by omega) (by omega) (by omega) (by omega) (by omega) (uaZR (by omega)) ((hX_g9.rokR hbe_3.1 hbe_3.2.1).ub (by omega) (by omega) (by omega))) (fun e9 => absurd hE_4.out e9)
  have hke_24 : KEG [] L P L Pw_18 := hrw_26.kegR _ hC_la.2.1
  have hq_27 : HID (la ∈ L ∧ Pw_18.kd la = 30) := hke_24.mem hC_la.1 hC_la.2.1 (by decide)
  have hq_28 : HID (xb ∈ L ∧ Pw_18.kd xb = 12) := hke_24.mem hX_b hX_bk (by decide)
  have hq_29 : HID (pr_2 ∈ L ∧ Pw_18.kd pr_2 = 17) := hke_24.mem hbe_3.1 hbe_3.2.1 (by decide)
  have ha_30 : HID (Pw_18.be xb = pr_2) := hke_24.be hX_b hX_bk epr_2.symm
  have hA_31 : KEG [] L P L Pw_18 := (KEG.refl [] L P).trans hke_24
  have : Pw_18.lz la = P.lz la := hrw_26.lz hC_la.2.1
  have : Pw_18.cap la = P.cap la := hW_23.cap la
  have hek_32 : HID (Pw_18.ek la = 12) := (by rw [hke_24.ek hC_la.1 hC_la.2.1 (by decide)]; exact hC_la.2.2.1)
  have how_33 : HID (Pw_18.ow la = la) := ((hke_24.1 la hC_la.1 (by rw [hC_la.2.1]; decide)).2.2.2.1 hC_la.2.1 hC_la.2.2.2).1
  have hcz := (((hke_24.1 la hC_la.1 (by rw [hC_la.2.1]; decide)).2.2.2.1 hC_la.2.1 hC_la.2.2.2).2 (by simp)).1
  have hE_34 : HID (Pw_18.ek pr_2 = 1) := (by rw [hke_24.ek hbe_3.1 hbe_3.2.1 (by decide)]; exact hE_4.out)
  have hX_tx := hX_tx.rw1R hW_23 (Or.inl hbe_3.2.1)
  have hcx_35 : CHG (fun z => z = xb ∨ z = P.be xb) L P L Pw_18 := hcx0.trans (hW_23.chg _) (fun z m q => Or.inr (q.trans epr_2))
  have hsm_36 := (hW_23.chg L xb hq_28.1 (fun e9 => absurd e9 (kd_ne hq_28.2 hq_29.2 (by decide)))).2
  have : Pw_18.bf xb = P.bf xb := hsm_36.1 0
  have : Pw_18.bs xb = P.bs xb := hsm_36.1 1
  have hnx_37 : NTX L P L Pw_18 := hnx0.trans (NTX.put9 hW_23)
  refine lv_aload_n hx hb dX16_end_20 rfl (lv_at hl 2 rfl) ?_
  refine lv_iconst (v := 0) hx hb dX16_end_21 (by decide) ?_
  have hfb := (hak_25.gb hq_28.1 hq_28.2).2
  refine lv_topi (fun z ez => ?_)
  obtain rfl : z = zI (0) := ez
  obtain ⟨kp_38, gkp_38⟩ := va_pl_get (X := [(h0, .inr (14, [.ref q_t, .int (zI (z16_n)), .int (zI (z16_at)), .int (zI (z16_kind)), .int (zI (z16_place)), .int (zI (z16_value)), .int (zI (z16_before)), .ref tx9, v16_8, v16_9, v16_10, .ref q_gp, .ref q_gs, .int (zI (z16_goalN))])), (q_t, .inl (cT, 8192, .inl (fun j : Nat => zI (a_t (j : Int))))), (q_gp, .inl (cI, mg, .inl (fun j : Nat => zI (a_gp (j : Int))))), (q_gs, .inl (cI, ng, .inl (fun j : Nat => zI (a_gs (j : Int)))))]) (f := pE Pw_18) hq_28.1
  have hkp_38 := gkp_38
  rw [pE_block hq_28.2] at hkp_38
  have hD0 := hD
  refine va_put (D := (dC, dI)) (ci := 19) (v := .int (zI (0))) (ty := .int) (C := RX12) (T := TX12) (N := 5) hx hb hts mem_X16_endR_0 tyX12 tyX12_ok nmX12 hown hK hP hD hS kp_38 hkp_38 rfl 3 (by decide) (ow (k := 4) rfl) (fun _ h9 => h9) rfl (by decide +kernel) rfl rfl (by first | exact Nat.le_of_ble_eq_true rfl | exact (show 0 ≤ (8 * (z16_n - z16_place) - TKW z16_kind (z16_at - z16_place) + 4 * z16_goalN + 160).toNat from (rmW (by omega))) | exact (show 0 ≤ (45 * (z16_n - z16_place) - TKV z16_kind (z16_at - z16_place) + 16 * z16_goalN + 700).toNat from (rmW (by omega)))) dX16_end_22 (fun H locs hP hD hS => ?_)
  obtain ⟨Pw_39, ePw_39⟩ : ∃ q9 : PO, q9 = Pw_18.rw9 0 xb (0) := ⟨_, rfl⟩
  have eU : (([(h0, .inr (14, [.ref q_t, .int (zI (z16_n)), .int (zI (z16_at)), .int (zI (z16_kind)), .int (zI (z16_place)), .int (zI (z16_value)), .int (zI (z16_before)), .ref tx9, v16_8, v16_9, v16_10, .ref q_gp, .ref q_gs, .int (zI (z16_goalN))])), (q_t, .inl (cT, 8192, .inl (fun j : Nat => zI (a_t (j : Int))))), (q_gp, .inl (cI, mg, .inl (fun j : Nat => zI (a_gp (j : Int))))), (q_gs, .inl (cI, ng, .inl (fun j : Nat => zI (a_gs (j : Int)))))] : va_W) ++ va_pl L (pE Pw_18)).set kp_38 (xb, blockE (Pw_18.bp xb) (Pw_18.br xb) (Pw_18.be xb) (0) (Pw_18.bs xb)) = ([(h0, .inr (14, [.ref q_t, .int (zI (z16_n)), .int (zI (z16_at)), .int (zI (z16_kind)), .int (zI (z16_place)), .int (zI (z16_value)), .int (zI (z16_before)), .ref tx9, v16_8, v16_9, v16_10, .ref q_gp, .ref q_gs, .int (zI (z16_goalN))])), (q_t, .inl (cT, 8192, .inl (fun j : Nat => zI (a_t (j : Int))))), (q_gp, .inl (cI, mg, .inl (fun j : Nat => zI (a_gp (j : Int))))), (q_gs, .inl (cI, ng, .inl (fun j : Nat => zI (a_gs (j : Int)))))] : va_W) ++ va_pl L (pE Pw_39) := (by rw [va_pl_set hD0 hq_28.1 gkp_38, ePw_39]; exact congrArg (fun f9 => ([(h0, .inr (14, [.ref q_t, .int (zI (z16_n)), .int (zI (z16_at)), .int (zI (z16_kind)), .int (zI (z16_place)), .int (zI (z16_value)), .int (zI (z16_before)), .ref tx9, v16_8, v16_9, v16_10, .ref q_gp, .ref q_gs, .int (zI (z16_goalN))])), (q_t, .inl (cT, 8192, .inl (fun j : Nat => zI (a_t (j : Int))))), (q_gp, .inl (cI, mg, .inl (fun j : Nat => zI (a_gp (j : Int))))), (q_gs, .inl (cI, ng, .inl (fun j : Nat => zI (a_gs (j : Int)))))] : va_W) ++ va_pl L f9) (put12_0 hq_28.2))
  have hP : va_P (dC, dI) vwQ ([(h0, .inr (14, [.ref q_t, .int (zI (z16_n)), .int (zI (z16_at)), .int (zI (z16_kind)), .int (zI (z16_place)), .int (zI (z16_value)), .int (zI (z16_before)), .ref tx9, v16_8, v16_9, v16_10, .ref q_gp, .ref q_gs, .int (zI (z16_goalN))])), (q_t, .inl (cT, 8192, .inl (fun j : Nat => zI (a_t (j : Int))))), (q_gp, .inl (cI, mg, .inl (fun j : Nat => zI (a_gp (j : Int))))), (q_gs, .inl (cI, ng, .inl (fun j : Nat => zI (a_gs (j : Int)))))] ++ va_pl L (pE Pw_39)) H := (by rw [← eU]; exact hP)
  have hD : va_D A ([(h0, .inr (14, [.ref q_t, .int (zI (z16_n)), .int (zI (z16_at)), .int (zI (z16_kind)), .int (zI (z16_place)), .int (zI (z16_value)), .int (zI (z16_before)), .ref tx9, v16_8, v16_9, v16_10, .ref q_gp, .ref q_gs, .int (zI (z16_goalN))])), (q_t, .inl (cT, 8192, .inl (fun j : Nat => zI (a_t (j : Int))))), (q_gp, .inl (cI, mg, .inl (fun j : Nat => zI (a_gp (j : Int))))), (q_gs, .inl (cI, ng, .inl (fun j : Nat => zI (a_gs (j : Int)))))] ++ va_pl L (pE Pw_39)) := (by rw [← eU]; exact hD)
  clear eU hD0 gkp_38 hkp_38
  have wPw_39 : RW1 xb Pw_18 Pw_39 := (by rw [ePw_39]; exact RW1.put _ _ _ _)
  have hy_40 : Pw_39.kd la = 30 := (by rw [ePw_39]; exact hq_27.2)
  have hy_41 : Pw_39.kd xb = 12 := (by rw [ePw_39]; exact hq_28.2)
  have : Pw_39.bf xb = 0 := (by rw [ePw_39]; exact rw9_at _ _ _ _)
  have : Pw_39.bs xb = Pw_18.bs xb := (by rw [ePw_39]; exact rw9_of _ (by decide))
  have hy_42 : Pw_39.kd pr_2 = 17 := (by rw [ePw_39]; exact hq_29.2)
  have : Pw_39.ro pr_2 = Pw_18.ro pr_2 := wPw_39.2 _ (kd_ne hq_29.2 hq_28.2 (by decide)) _
  have : Pw_39.rt pr_2 = Pw_18.rt pr_2 := wPw_39.2 _ (kd_ne hq_29.2 hq_28.2 (by decide)) _
  have : Pw_39.ra pr_2 = Pw_18.ra pr_2 := wPw_39.2 _ (kd_ne hq_29.2 hq_28.2 (by decide)) _
  have : Pw_39.rb pr_2 = Pw_18.rb pr_2 := wPw_39.2 _ (kd_ne hq_29.2 hq_28.2 (by decide)) _
  have : Pw_39.rA pr_2 = Pw_18.rA pr_2 := wPw_39.2 _ (kd_ne hq_29.2 hq_28.2 (by decide)) _
  have : Pw_39.rB pr_2 = Pw_18.rB pr_2 := wPw_39.2 _ (kd_ne hq_29.2 hq_28.2 (by decide)) _
  have : Pw_39.rg pr_2 = Pw_18.rg pr_2 := wPw_39.2 _ (kd_ne hq_29.2 hq_28.2 (by decide)) _
  have ha_43 : HID (Pw_39.be xb = pr_2) := (by rw [ePw_39]; exact ha_30.out)
  have hW_44 : RW1 xb Pw_18 Pw_39 := wPw_39
  have hak_46 : GLR L Pw_39 cO cI cZ sx_ed := hak_25.goal hW_44 hq_28.2 (by omega)
  have hke_45 : KEG [] L Pw_18 L Pw_39 := hW_44.kegR _ hq_27.2 (by have q9 := hq_28.2; omega)
  have hq_48 : HID (la ∈ L ∧ Pw_39.kd la = 30) := hke_45.mem hq_27.1 hq_27.2 (by decide)
  have hq_49 : HID (xb ∈ L ∧ Pw_39.kd xb = 12) := hke_45.mem hq_28.1 hq_28.2 (by decide)
  have hq_50 : HID (pr_2 ∈ L ∧ Pw_39.kd pr_2 = 17) := hke_45.mem hq_29.1 hq_29.2 (by decide)
  have ha_51 : HID (Pw_39.be xb = pr_2) := hke_45.be hq_28.1 hq_28.2 ha_30.out
  have hA_52 : KEG [] L P L Pw_39 := hA_31.trans hke_45
  have : Pw_39.cap la = Pw_18.cap la := hW_44.cap la
  have hek_53 : HID (Pw_39.ek la = 12) := (by rw [hke_45.ek hq_27.1 hq_27.2 (by decide)]; exact hek_32.out)
  have how_54 : HID (Pw_39.ow la = la) := ((hke_45.1 la hq_27.1 (by rw [hq_27.2]; decide)).2.2.2.1 hq_27.2 how_33.out).1
  have hcz := (((hke_45.1 la hq_27.1 (by rw [hq_27.2]; decide)).2.2.2.1 hq_27.2 how_33.out).2 (by simp)).1
  have hE_55 : HID (Pw_39.ek pr_2 = 1) := (by rw [hke_45.ek hq_29.1 hq_29.2 (by decide)]; exact hE_34.out)
  have hX_tx := hX_tx.rw1R hW_44 (Or.inr hq_28.2)
  have hcx_56 : CHG (fun z => z = xb ∨ z = P.be xb) L P L Pw_39 := hcx_35.trans (hW_44.chg _) (fun z m q => Or.inl q)
  have hsm_57 := (hW_44.chg L pr_2 hq_50.1 (fun e9 => absurd e9 (kd_ne hq_50.2 hq_49.2 (by decide)))).2
  have : Pw_39.ro pr_2 = Pw_18.ro pr_2 := hsm_57.1 0
  have : Pw_39.rt pr_2 = Pw_18.rt pr_2 := hsm_57.1 1
  have : Pw_39.ra pr_2 = Pw_18.ra pr_2 := hsm_57.1 2
  have : Pw_39.rb pr_2 = Pw_18.rb pr_2 := hsm_57.1 3
  have : Pw_39.rA pr_2 = Pw_18.rA pr_2 := hsm_57.1 4
  have : Pw_39.rB pr_2 = Pw_18.rB pr_2 := hsm_57.1 5
  have : Pw_39.rg pr_2 = Pw_18.rg pr_2 := hsm_57.1 6
  have : Pw_39.ek pr_2 = Pw_18.ek pr_2 := hsm_57.2.1 8
  have hnx_58 : NTX L P L Pw_39 := hnx_37.trans (NTX.put9 hW_44)
  refine lv_aload_n hx hb dX16_end_25 rfl (lv_at hl 2 rfl) ?_
  refine lv_iconst (v := 0) hx hb dX16_end_26 (by decide) ?_
  have hfb := (hak_46.gb hq_49.1 hq_49.2).2
  refine lv_topi (fun z ez => ?_)
  obtain rfl : z = zI (0) := ez
  obtain ⟨kp_59, gkp_59⟩ := va_pl_get (X := [(h0, .inr (14, [.ref q_t, .int (zI (z16_n)), .int (zI (z16_at)), .int (zI (z16_kind)), .int (zI (z16_place)), .int (zI (z16_value)), .int (zI (z16_before)), .ref tx9, v16_8, v16_9, v16_10, .ref q_gp, .ref q_gs, .int (zI (z16_goalN))])), (q_t, .inl (cT, 8192, .inl (fun j : Nat => zI (a_t (j : Int))))), (q_gp, .inl (cI, mg, .inl (fun j : Nat => zI (a_gp (j : Int))))), (q_gs, .inl (cI, ng, .inl (fun j : Nat => zI (a_gs (j : Int)))))]) (f := pE Pw_39) hq_49.1
  have hkp_59 := gkp_59
  rw [pE_block hq_49.2] at hkp_59
  have hD0 := hD
  refine va_put (D := (dC, dI)) (ci := 19) (v := .int (zI (0))) (ty := .int) (C := RX12) (T := TX12) (N := 5) hx hb hts mem_X16_endR_0 tyX12 tyX12_ok nmX12 hown hK hP hD hS kp_59 hkp_59 rfl 4 (by decide) (ow (k := 5) rfl) (fun _ h9 => h9) rfl (by decide +kernel) rfl rfl (by first | exact Nat.le_of_ble_eq_true rfl | exact (show 0 ≤ (8 * (z16_n - z16_place) - TKW z16_kind (z16_at - z16_place) + 4 * z16_goalN + 160).toNat from (rmW (by omega))) | exact (show 0 ≤ (45 * (z16_n - z16_place) - TKV z16_kind (z16_at - z16_place) + 16 * z16_goalN + 700).toNat from (rmW (by omega)))) dX16_end_27 (fun H locs hP hD hS => ?_)
  obtain ⟨Pw_60, ePw_60⟩ : ∃ q9 : PO, q9 = Pw_39.rw9 1 xb (0) := ⟨_, rfl⟩
  have eU : (([(h0, .inr (14, [.ref q_t, .int (zI (z16_n)), .int (zI (z16_at)), .int (zI (z16_kind)), .int (zI (z16_place)), .int (zI (z16_value)), .int (zI (z16_before)), .ref tx9, v16_8, v16_9, v16_10, .ref q_gp, .ref q_gs, .int (zI (z16_goalN))])), (q_t, .inl (cT, 8192, .inl (fun j : Nat => zI (a_t (j : Int))))), (q_gp, .inl (cI, mg, .inl (fun j : Nat => zI (a_gp (j : Int))))), (q_gs, .inl (cI, ng, .inl (fun j : Nat => zI (a_gs (j : Int)))))] : va_W) ++ va_pl L (pE Pw_39)).set kp_59 (xb, blockE (Pw_39.bp xb) (Pw_39.br xb) (Pw_39.be xb) (Pw_39.bf xb) (0)) = ([(h0, .inr (14, [.ref q_t, .int (zI (z16_n)), .int (zI (z16_at)), .int (zI (z16_kind)), .int (zI (z16_place)), .int (zI (z16_value)), .int (zI (z16_before)), .ref tx9, v16_8, v16_9, v16_10, .ref q_gp, .ref q_gs, .int (zI (z16_goalN))])), (q_t, .inl (cT, 8192, .inl (fun j : Nat => zI (a_t (j : Int))))), (q_gp, .inl (cI, mg, .inl (fun j : Nat => zI (a_gp (j : Int))))), (q_gs, .inl (cI, ng, .inl (fun j : Nat => zI (a_gs (j : Int)))))] : va_W) ++ va_pl L (pE Pw_60) := (by rw [va_pl_set hD0 hq_49.1 gkp_59, ePw_60]; exact congrArg (fun f9 => ([(h0, .inr (14, [.ref q_t, .int (zI (z16_n)), .int (zI (z16_at)), .int (zI (z16_kind)), .int (zI (z16_place)), .int (zI (z16_value)), .int (zI (z16_before)), .ref tx9, v16_8, v16_9, v16_10, .ref q_gp, .ref q_gs, .int (zI (z16_goalN))])), (q_t, .inl (cT, 8192, .inl (fun j : Nat => zI (a_t (j : Int))))), (q_gp, .inl (cI, mg, .inl (fun j : Nat => zI (a_gp (j : Int))))), (q_gs, .inl (cI, ng, .inl (fun j : Nat => zI (a_gs (j : Int)))))] : va_W) ++ va_pl L f9) (put12_1 hq_49.2))
  have hP : va_P (dC, dI) vwQ ([(h0, .inr (14, [.ref q_t, .int (zI (z16_n)), .int (zI (z16_at)), .int (zI (z16_kind)), .int (zI (z16_place)), .int (zI (z16_value)), .int (zI (z16_before)), .ref tx9, v16_8, v16_9, v16_10, .ref q_gp, .ref q_gs, .int (zI (z16_goalN))])), (q_t, .inl (cT, 8192, .inl (fun j : Nat => zI (a_t (j : Int))))), (q_gp, .inl (cI, mg, .inl (fun j : Nat => zI (a_gp (j : Int))))), (q_gs, .inl (cI, ng, .inl (fun j : Nat => zI (a_gs (j : Int)))))] ++ va_pl L (pE Pw_60)) H := (by rw [← eU]; exact hP)
  have hD : va_D A ([(h0, .inr (14, [.ref q_t, .int (zI (z16_n)), .int (zI (z16_at)), .int (zI (z16_kind)), .int (zI (z16_place)), .int (zI (z16_value)), .int (zI (z16_before)), .ref tx9, v16_8, v16_9, v16_10, .ref q_gp, .ref q_gs, .int (zI (z16_goalN))])), (q_t, .inl (cT, 8192, .inl (fun j : Nat => zI (a_t (j : Int))))), (q_gp, .inl (cI, mg, .inl (fun j : Nat => zI (a_gp (j : Int))))), (q_gs, .inl (cI, ng, .inl (fun j : Nat => zI (a_gs (j : Int)))))] ++ va_pl L (pE Pw_60)) := (by rw [← eU]; exact hD)
  clear eU hD0 gkp_59 hkp_59
  have wPw_60 : RW1 xb Pw_39 Pw_60 := (by rw [ePw_60]; exact RW1.put _ _ _ _)
  have hy_61 : Pw_60.kd la = 30 := (by rw [ePw_60]; exact hq_48.2)
  have hy_62 : Pw_60.kd xb = 12 := (by rw [ePw_60]; exact hq_49.2)
  have : Pw_60.bf xb = Pw_39.bf xb := (by rw [ePw_60]; exact rw9_of _ (by decide))
  have : Pw_60.bs xb = 0 := (by rw [ePw_60]; exact rw9_at _ _ _ _)
  have hy_63 : Pw_60.kd pr_2 = 17 := (by rw [ePw_60]; exact hq_50.2)
  have : Pw_60.ro pr_2 = Pw_39.ro pr_2 := wPw_60.2 _ (kd_ne hq_50.2 hq_49.2 (by decide)) _
  have : Pw_60.rt pr_2 = Pw_39.rt pr_2 := wPw_60.2 _ (kd_ne hq_50.2 hq_49.2 (by decide)) _
  have : Pw_60.ra pr_2 = Pw_39.ra pr_2 := wPw_60.2 _ (kd_ne hq_50.2 hq_49.2 (by decide)) _
  have : Pw_60.rb pr_2 = Pw_39.rb pr_2 := wPw_60.2 _ (kd_ne hq_50.2 hq_49.2 (by decide)) _
  have : Pw_60.rA pr_2 = Pw_39.rA pr_2 := wPw_60.2 _ (kd_ne hq_50.2 hq_49.2 (by decide)) _
  have : Pw_60.rB pr_2 = Pw_39.rB pr_2 := wPw_60.2 _ (kd_ne hq_50.2 hq_49.2 (by decide)) _
  have : Pw_60.rg pr_2 = Pw_39.rg pr_2 := wPw_60.2 _ (kd_ne hq_50.2 hq_49.2 (by decide)) _
  have ha_64 : HID (Pw_60.be xb = pr_2) := (by rw [ePw_60]; exact ha_51.out)
  have hW_65 : RW1 xb Pw_39 Pw_60 := wPw_60
  have hak_67 : GLR L Pw_60 cO cI cZ sx_ed := hak_46.goal hW_65 hq_49.2 (by omega)
  have hke_66 : KEG [] L Pw_39 L Pw_60 := hW_65.kegR _ hq_48.2 (by have q9 := hq_49.2; omega)
  have hq_69 : HID (la ∈ L ∧ Pw_60.kd la = 30) := hke_66.mem hq_48.1 hq_48.2 (by decide)
  have hq_70 : HID (xb ∈ L ∧ Pw_60.kd xb = 12) := hke_66.mem hq_49.1 hq_49.2 (by decide)
  have hq_71 : HID (pr_2 ∈ L ∧ Pw_60.kd pr_2 = 17) := hke_66.mem hq_50.1 hq_50.2 (by decide)
  have ha_72 : HID (Pw_60.be xb = pr_2) := hke_66.be hq_49.1 hq_49.2 ha_51.out
  have hA_73 : KEG [] L P L Pw_60 := hA_52.trans hke_66
  have : Pw_60.cap la = Pw_39.cap la := hW_65.cap la
  have hek_74 : HID (Pw_60.ek la = 12) := (by rw [hke_66.ek hq_48.1 hq_48.2 (by decide)]; exact hek_53.out)
  have how_75 : HID (Pw_60.ow la = la) := ((hke_66.1 la hq_48.1 (by rw [hq_48.2]; decide)).2.2.2.1 hq_48.2 how_54.out).1
  have hcz := (((hke_66.1 la hq_48.1 (by rw [hq_48.2]; decide)).2.2.2.1 hq_48.2 how_54.out).2 (by simp)).1
  have hE_76 : HID (Pw_60.ek pr_2 = 1) := (by rw [hke_66.ek hq_50.1 hq_50.2 (by decide)]; exact hE_55.out)
  have hX_tx := hX_tx.rw1R hW_65 (Or.inr hq_49.2)
  have hcx_77 : CHG (fun z => z = xb ∨ z = P.be xb) L P L Pw_60 := hcx_56.trans (hW_65.chg _) (fun z m q => Or.inl q)
  have hsm_78 := (hW_65.chg L pr_2 hq_71.1 (fun e9 => absurd e9 (kd_ne hq_71.2 hq_70.2 (by decide)))).2
  have : Pw_60.ro pr_2 = Pw_39.ro pr_2 := hsm_78.1 0
  have : Pw_60.rt pr_2 = Pw_39.rt pr_2 := hsm_78.1 1
  have : Pw_60.ra pr_2 = Pw_39.ra pr_2 := hsm_78.1 2
  have : Pw_60.rb pr_2 = Pw_39.rb pr_2 := hsm_78.1 3
  have : Pw_60.rA pr_2 = Pw_39.rA pr_2 := hsm_78.1 4
  have : Pw_60.rB pr_2 = Pw_39.rB pr_2 := hsm_78.1 5
  have : Pw_60.rg pr_2 = Pw_39.rg pr_2 := hsm_78.1 6
  have : Pw_60.ek pr_2 = Pw_39.ek pr_2 := hsm_78.2.1 8
  have hnx_79 : NTX L P L Pw_60 := hnx_58.trans (NTX.put9 hW_65)
  refine lv_aload_n hx hb dX16_end_30 rfl (lv_at hl 1 rfl) ?_
  refine va_ldcS hx hb hown hp0 dX16_end_31 ?_
  have hPc := hP.part (X := [(h0, .inr (14, [.ref q_t, .int (zI (z16_n)), .int (zI (z16_at)), .int (zI (z16_kind)), .int (zI (z16_place)), .int (zI (z16_value)), .int (zI (z16_before)), .ref tx9, v16_8, v16_9, v16_10, .ref q_gp, .ref q_gs, .int (zI (z16_goalN))])), (q_t, .inl (cT, 8192, .inl (fun j : Nat => zI (a_t (j : Int))))), (q_gp, .inl (cI, mg, .inl (fun j : Nat => zI (a_gp (j : Int))))), (q_gs, .inl (cI, ng, .inl (fun j : Nat => zI (a_gs (j : Int)))))]) (cx := [(h0, .inr (14, [.ref q_t, .int (zI (z16_n)), .int (zI (z16_at)), .int (zI (z16_kind)), .int (zI (z16_place)), .int (zI (z16_value)), .int (zI (z16_before)), .ref tx9, v16_8, v16_9, v16_10, .ref q_gp, .ref q_gs, .int (zI (z16_goalN))])), (q_t, .inl (cT, 8192, .inl (fun j : Nat => zI (a_t (j : Int)))))]) (pl := va_pl L (pE Pw_60)) [0, 1] rfl
  have hDc := hD.part (X := [(h0, .inr (14, [.ref q_t, .int (zI (z16_n)), .int (zI (z16_at)), .int (zI (z16_kind)), .int (zI (z16_place)), .int (zI (z16_value)), .int (zI (z16_before)), .ref tx9, v16_8, v16_9, v16_10, .ref q_gp, .ref q_gs, .int (zI (z16_goalN))])), (q_t, .inl (cT, 8192, .inl (fun j : Nat => zI (a_t (j : Int))))), (q_gp, .inl (cI, mg, .inl (fun j : Nat => zI (a_gp (j : Int))))), (q_gs, .inl (cI, ng, .inl (fun j : Nat => zI (a_gs (j : Int)))))]) (cx := [(h0, .inr (14, [.ref q_t, .int (zI (z16_n)), .int (zI (z16_at)), .int (zI (z16_kind)), .int (zI (z16_place)), .int (zI (z16_value)), .int (zI (z16_before)), .ref tx9, v16_8, v16_9, v16_10, .ref q_gp, .ref q_gs, .int (zI (z16_goalN))])), (q_t, .inl (cT, 8192, .inl (fun j : Nat => zI (a_t (j : Int)))))]) (pl := va_pl L (pE Pw_60)) [0, 1] (by decide) rfl
  have hKc := hK.sub (tys' := [(cT, .byte)]) [0] rfl
  have hFc := va_freeP (X := [(h0, .inr (14, [.ref q_t, .int (zI (z16_n)), .int (zI (z16_at)), .int (zI (z16_kind)), .int (zI (z16_place)), .int (zI (z16_value)), .int (zI (z16_before)), .ref tx9, v16_8, v16_9, v16_10, .ref q_gp, .ref q_gs, .int (zI (z16_goalN))])), (q_t, .inl (cT, 8192, .inl (fun j : Nat => zI (a_t (j : Int))))), (q_gp, .inl (cI, mg, .inl (fun j : Nat => zI (a_gp (j : Int))))), (q_gs, .inl (cI, ng, .inl (fun j : Nat => zI (a_gs (j : Int)))))]) (cx := [(h0, .inr (14, [.ref q_t, .int (zI (z16_n)), .int (zI (z16_at)), .int (zI (z16_kind)), .int (zI (z16_place)), .int (zI (z16_value)), .int (zI (z16_before)), .ref tx9, v16_8, v16_9, v16_10, .ref q_gp, .ref q_gs, .int (zI (z16_goalN))])), (q_t, .inl (cT, 8192, .inl (fun j : Nat => zI (a_t (j : Int)))))]) (pl := va_pl L (pE Pw_60)) hD hS hA [0, 1] rfl
  refine va_calli (va_runV (As := [.ref sa_RX16_248]) (rest := []) ⟨hx, hb, hml, hown, hts⟩ (c_X16_isKK l dC dI h0 (.int (zI (z16_n))) (.int (zI (z16_at))) z16_kind (.int (zI (z16_place))) (.int (zI (z16_value))) (.int (zI (z16_before))) v16_8 v16_9 v16_10 (.ref q_gp) (.ref q_gs) (.int (zI (z16_goalN))) q_t cT a_t tx9 L Pw_60 sa_RX16_9 sa_RX16_248 sv_RX16_248 4 ((fun j : Nat => ([106, 117, 109, 112] : List Int32).getD j 0)) (by omega) hR_a_t hX_tx (by omega) H.size sv_RX16_9) (cwV 1 hts g_X16_endR_X16_isKK rfl rfl rfl (by decide +kernel) ⟨(Nat.le_of_ble_eq_true rfl), (Nat.le_of_ble_eq_true rfl)⟩) ⟨fun a U g mk q => by obtain ⟨q0, q1, qP, qK, qD, e0, e1, e2⟩ := q; exact ⟨q0, q1, qP, va_K.moved (u := U) (U := U.calling g mk a) (Vm.Alike.refl U.vm) qK, qD, vs_S.moved (u := U) (U := U.calling g mk a) (Vm.Alike.refl U.vm) e0, vs_S.moved (u := U) (U := U.calling g mk a) (Vm.Alike.refl U.vm) e1, va_Z.moved (u := U) (U := U.calling g mk a) (Vm.Alike.refl U.vm) e2⟩, va_recv hKc hPc (ci := 14) (q0 := 0) rfl rfl, fun U hU hW => ⟨rfl, by rw [hU], by rw [hU]; exact hPc, va_K.moved hW.alike hKc, hDc.weaken (fun _ _ _ _ => trivial), vs_S.go hp2 hS hFc hU hW.alike, vs_S.go hp1 hS hFc hU hW.alike, va_Z.go hp3 hS hFc hU hW.alike⟩⟩ rfl rfl hl.1 rfl (lv_room (Nat.le_of_ble_eq_true rfl)) dX16_end_33 ⟨(Nat.zero_le _), (Nat.zero_le _)⟩) hS (fun q _ h => hFc q h) hFc (fun r_80 u t H1 locs ht hvm hw hB hz1 hk1 hS => ?_)
  obtain ⟨hP1, hK1, hD1⟩ := hB
  rw [ht] at hP1
  have hK1 := va_K.moved hvm.symm hK1
  obtain ⟨hP, hD⟩ := va_joinP (X := [(h0, .inr (14, [.ref q_t, .int (zI (z16_n)), .int (zI (z16_at)), .int (zI (z16_kind)), .int (zI (z16_place)), .int (zI (z16_value)), .int (zI (z16_before)), .ref tx9, v16_8, v16_9, v16_10, .ref q_gp, .ref q_gs, .int (zI (z16_goalN))])), (q_t, .inl (cT, 8192, .inl (fun j : Nat => zI (a_t (j : Int))))), (q_gp, .inl (cI, mg, .inl (fun j : Nat => zI (a_gp (j : Int))))), (q_gs, .inl (cI, ng, .inl (fun j : Nat => zI (a_gs (j : Int)))))]) (cx := [(h0, .inr (14, [.ref q_t, .int (zI (z16_n)), .int (zI (z16_at)), .int (zI (z16_kind)), .int (zI (z16_place)), .int (zI (z16_value)), .int (zI (z16_before)), .ref tx9, v16_8, v16_9, v16_10, .ref q_gp, .ref q_gs, .int (zI (z16_goalN))])), (q_t, .inl (cT, 8192, .inl (fun j : Nat => zI (a_t (j : Int)))))]) (wr := [(q_gp, .inl (cI, mg, .inl (fun j : Nat => zI (a_gp (j : Int))))), (q_gs, .inl (cI, ng, .inl (fun j : Nat => zI (a_gs (j : Int)))))]) (rx := [(h0, .inr (14, [.ref q_t, .int (zI (z16_n)), .int (zI (z16_at)), .int (zI (z16_kind)), .int (zI (z16_place)), .int (zI (z16_value)), .int (zI (z16_before)), .ref tx9, v16_8, v16_9, v16_10, .ref q_gp, .ref q_gs, .int (zI (z16_goalN))])), (q_t, .inl (cT, 8192, .inl (fun j : Nat => zI (a_t (j : Int)))))]) (pl := va_pl L (pE Pw_60)) (pl1 := va_pl L (pE Pw_60)) hP hD [0, 1] [2, 3] rfl rfl (by decide) (by decide) hk1 hFc hP1 hD1
  have hK := (hK.sub (tys' := [(cI, .int), (cO, .object "java/lang/Object"), (cZ, .boolean)]) [1, 2, 3] rfl).app hK1
  generalize H1 = H at hP hS ⊢
  have hP : va_P (dC, dI) vwQ ([(q_gp, .inl (cI, mg, .inl (fun j : Nat => zI (a_gp (j : Int))))), (q_gs, .inl (cI, ng, .inl (fun j : Nat => zI (a_gs (j : Int))))), (h0, .inr (14, [.ref q_t, .int (zI (z16_n)), .int (zI (z16_at)), .int (zI (z16_kind)), .int (zI (z16_place)), .int (zI (z16_value)), .int (zI (z16_before)), .ref tx9, v16_8, v16_9, v16_10, .ref q_gp, .ref q_gs, .int (zI (z16_goalN))])), (q_t, .inl (cT, 8192, .inl (fun j : Nat => zI (a_t (j : Int)))))] ++ va_pl L (pE Pw_60)) H := hP
  have hD : va_D A ([(q_gp, .inl (cI, mg, .inl (fun j : Nat => zI (a_gp (j : Int))))), (q_gs, .inl (cI, ng, .inl (fun j : Nat => zI (a_gs (j : Int))))), (h0, .inr (14, [.ref q_t, .int (zI (z16_n)), .int (zI (z16_at)), .int (zI (z16_kind)), .int (zI (z16_place)), .int (zI (z16_value)), .int (zI (z16_before)), .ref tx9, v16_8, v16_9, v16_10, .ref q_gp, .ref q_gs, .int (zI (z16_goalN))])), (q_t, .inl (cT, 8192, .inl (fun j : Nat => zI (a_t (j : Int)))))] ++ va_pl L (pE Pw_60)) := hD
  have hK : va_K (dC, dI) vwQ [(cI, .int), (cO, .object "java/lang/Object"), (cZ, .boolean), (cT, .byte)] s := hK
  refine W.widen (k := 0) (n := 0) (Nat.le_of_ble_eq_true rfl) (Nat.le_of_ble_eq_true rfl) ?_
  have hw_81 := hw
  obtain ⟨z_82, rfl, hzz_82⟩ := hw_81
  skip
  refine lv_if_eq (tgt := 68) hx hb dX16_end_36 (by decide) (fun b36 => ?_) (fun b36 => ?_)
  · have yb36 : (z_82 : Int) = (0 : Int) := (zI_eq (a := z_82) (b := 0) (by omega) (by omega) (by omega) (by omega)).mp b36
    refine lv_aload_n hx hb dX16_end_68 rfl (lv_at hl 1 rfl) ?_
    refine va_ldcS hx hb hown hp4 dX16_end_69 ?_
    have hPc := hP.part (X := [(q_gp, .inl (cI, mg, .inl (fun j : Nat => zI (a_gp (j : Int))))), (q_gs, .inl (cI, ng, .inl (fun j : Nat => zI (a_gs (j : Int))))), (h0, .inr (14, [.ref q_t, .int (zI (z16_n)), .int (zI (z16_at)), .int (zI (z16_kind)), .int (zI (z16_place)), .int (zI (z16_value)), .int (zI (z16_before)), .ref tx9, v16_8, v16_9, v16_10, .ref q_gp, .ref q_gs, .int (zI (z16_goalN))])), (q_t, .inl (cT, 8192, .inl (fun j : Nat => zI (a_t (j : Int)))))]) (cx := [(h0, .inr (14, [.ref q_t, .int (zI (z16_n)), .int (zI (z16_at)), .int (zI (z16_kind)), .int (zI (z16_place)), .int (zI (z16_value)), .int (zI (z16_before)), .ref tx9, v16_8, v16_9, v16_10, .ref q_gp, .ref q_gs, .int (zI (z16_goalN))])), (q_t, .inl (cT, 8192, .inl (fun j : Nat => zI (a_t (j : Int)))))]) (pl := va_pl L (pE Pw_60)) [2, 3] rfl
    have hDc := hD.part (X := [(q_gp, .inl (cI, mg, .inl (fun j : Nat => zI (a_gp (j : Int))))), (q_gs, .inl (cI, ng, .inl (fun j : Nat => zI (a_gs (j : Int))))), (h0, .inr (14, [.ref q_t, .int (zI (z16_n)), .int (zI (z16_at)), .int (zI (z16_kind)), .int (zI (z16_place)), .int (zI (z16_value)), .int (zI (z16_before)), .ref tx9, v16_8, v16_9, v16_10, .ref q_gp, .ref q_gs, .int (zI (z16_goalN))])), (q_t, .inl (cT, 8192, .inl (fun j : Nat => zI (a_t (j : Int)))))]) (cx := [(h0, .inr (14, [.ref q_t, .int (zI (z16_n)), .int (zI (z16_at)), .int (zI (z16_kind)), .int (zI (z16_place)), .int (zI (z16_value)), .int (zI (z16_before)), .ref tx9, v16_8, v16_9, v16_10, .ref q_gp, .ref q_gs, .int (zI (z16_goalN))])), (q_t, .inl (cT, 8192, .inl (fun j : Nat => zI (a_t (j : Int)))))]) (pl := va_pl L (pE Pw_60)) [2, 3] (by decide) rfl
    have hKc := hK.sub (tys' := [(cT, .byte)]) [3] rfl
    have hFc := va_freeP (X := [(q_gp, .inl (cI, mg, .inl (fun j : Nat => zI (a_gp (j : Int))))), (q_gs, .inl (cI, ng, .inl (fun j : Nat => zI (a_gs (j : Int))))), (h0, .inr (14, [.ref q_t, .int (zI (z16_n)), .int (zI (z16_at)), .int (zI (z16_kind)), .int (zI (z16_place)), .int (zI (z16_value)), .int (zI (z16_before)), .ref tx9, v16_8, v16_9, v16_10, .ref q_gp, .ref q_gs, .int (zI (z16_goalN))])), (q_t, .inl (cT, 8192, .inl (fun j : Nat => zI (a_t (j : Int)))))]) (cx := [(h0, .inr (14, [.ref q_t, .int (zI (z16_n)), .int (zI (z16_at)), .int (zI (z16_kind)), .int (zI (z16_place)), .int (zI (z16_value)), .int (zI (z16_before)), .ref tx9, v16_8, v16_9, v16_10, .ref q_gp, .ref q_gs, .int (zI (z16_goalN))])), (q_t, .inl (cT, 8192, .inl (fun j : Nat => zI (a_t (j : Int)))))]) (pl := va_pl L (pE Pw_60)) hD hS hA [2, 3] rfl
    refine va_calli (va_runV (As := [.ref sa_RX16_253]) (rest := []) ⟨hx, hb, hml, hown, hts⟩ (c_X16_isKK l dC dI h0 (.int (zI (z16_n))) (.int (zI (z16_at))) z16_kind (.int (zI (z16_place))) (.int (zI (z16_value))) (.int (zI (z16_before))) v16_8 v16_9 v16_10 (.ref q_gp) (.ref q_gs) (.int (zI (z16_goalN))) q_t cT a_t tx9 L Pw_60 sa_RX16_9 sa_RX16_253 sv_RX16_253 2 ((fun j : Nat => ([105, 102] : List Int32).getD j 0)) (by omega) hR_a_t hX_tx (by omega) H.size sv_RX16_9) (cwV 1 hts g_X16_endR_X16_isKK rfl rfl rfl (by decide +kernel) ⟨(Nat.le_of_ble_eq_true rfl), (Nat.le_of_ble_eq_true rfl)⟩) ⟨fun a U g mk q => by obtain ⟨q0, q1, qP, qK, qD, e0, e1, e2⟩ := q; exact ⟨q0, q1, qP, va_K.moved (u := U) (U := U.calling g mk a) (Vm.Alike.refl U.vm) qK, qD, vs_S.moved (u := U) (U := U.calling g mk a) (Vm.Alike.refl U.vm) e0, vs_S.moved (u := U) (U := U.calling g mk a) (Vm.Alike.refl U.vm) e1, va_Z.moved (u := U) (U := U.calling g mk a) (Vm.Alike.refl U.vm) e2⟩, va_recv hKc hPc (ci := 14) (q0 := 0) rfl rfl, fun U hU hW => ⟨rfl, by rw [hU], by rw [hU]; exact hPc, va_K.moved hW.alike hKc, hDc.weaken (fun _ _ _ _ => trivial), vs_S.go hp2 hS hFc hU hW.alike, vs_S.go hp5 hS hFc hU hW.alike, va_Z.go hp3 hS hFc hU hW.alike⟩⟩ rfl rfl hl.1 rfl (lv_room (Nat.le_of_ble_eq_true rfl)) dX16_end_71 ⟨(Nat.zero_le _), (Nat.zero_le _)⟩) hS (fun q _ h => hFc q h) hFc (fun r_83 u t H1 locs ht hvm hw hB hz1 hk1 hS => ?_)
    obtain ⟨hP1, hK1, hD1⟩ := hB
    rw [ht] at hP1
    have hK1 := va_K.moved hvm.symm hK1
    obtain ⟨hP, hD⟩ := va_joinP (X := [(q_gp, .inl (cI, mg, .inl (fun j : Nat => zI (a_gp (j : Int))))), (q_gs, .inl (cI, ng, .inl (fun j : Nat => zI (a_gs (j : Int))))), (h0, .inr (14, [.ref q_t, .int (zI (z16_n)), .int (zI (z16_at)), .int (zI (z16_kind)), .int (zI (z16_place)), .int (zI (z16_value)), .int (zI (z16_before)), .ref tx9, v16_8, v16_9, v16_10, .ref q_gp, .ref q_gs, .int (zI (z16_goalN))])), (q_t, .inl (cT, 8192, .inl (fun j : Nat => zI (a_t (j : Int)))))]) (cx := [(h0, .inr (14, [.ref q_t, .int (zI (z16_n)), .int (zI (z16_at)), .int (zI (z16_kind)), .int (zI (z16_place)), .int (zI (z16_value)), .int (zI (z16_before)), .ref tx9, v16_8, v16_9, v16_10, .ref q_gp, .ref q_gs, .int (zI (z16_goalN))])), (q_t, .inl (cT, 8192, .inl (fun j : Nat => zI (a_t (j : Int)))))]) (wr := [(q_gp, .inl (cI, mg, .inl (fun j : Nat => zI (a_gp (j : Int))))), (q_gs, .inl (cI, ng, .inl (fun j : Nat => zI (a_gs (j : Int)))))]) (rx := [(h0, .inr (14, [.ref q_t, .int (zI (z16_n)), .int (zI (z16_at)), .int (zI (z16_kind)), .int (zI (z16_place)), .int (zI (z16_value)), .int (zI (z16_before)), .ref tx9, v16_8, v16_9, v16_10, .ref q_gp, .ref q_gs, .int (zI (z16_goalN))])), (q_t, .inl (cT, 8192, .inl (fun j : Nat => zI (a_t (j : Int)))))]) (pl := va_pl L (pE Pw_60)) (pl1 := va_pl L (pE Pw_60)) hP hD [2, 3] [0, 1] rfl rfl (by decide) (by decide) hk1 hFc hP1 hD1
    have hK := (hK.sub (tys' := [(cI, .int), (cO, .object "java/lang/Object"), (cZ, .boolean)]) [0, 1, 2] rfl).app hK1
    generalize H1 = H at hP hS ⊢
    have hP : va_P (dC, dI) vwQ ([(q_gp, .inl (cI, mg, .inl (fun j : Nat => zI (a_gp (j : Int))))), (q_gs, .inl (cI, ng, .inl (fun j : Nat => zI (a_gs (j : Int))))), (h0, .inr (14, [.ref q_t, .int (zI (z16_n)), .int (zI (z16_at)), .int (zI (z16_kind)), .int (zI (z16_place)), .int (zI (z16_value)), .int (zI (z16_before)), .ref tx9, v16_8, v16_9, v16_10, .ref q_gp, .ref q_gs, .int (zI (z16_goalN))])), (q_t, .inl (cT, 8192, .inl (fun j : Nat => zI (a_t (j : Int)))))] ++ va_pl L (pE Pw_60)) H := hP
    have hD : va_D A ([(q_gp, .inl (cI, mg, .inl (fun j : Nat => zI (a_gp (j : Int))))), (q_gs, .inl (cI, ng, .inl (fun j : Nat => zI (a_gs (j : Int))))), (h0, .inr (14, [.ref q_t, .int (zI (z16_n)), .int (zI (z16_at)), .int (zI (z16_kind)), .int (zI (z16_place)), .int (zI (z16_value)), .int (zI (z16_before)), .ref tx9, v16_8, v16_9, v16_10, .ref q_gp, .ref q_gs, .int (zI (z16_goalN))])), (q_t, .inl (cT, 8192, .inl (fun j : Nat => zI (a_t (j : Int)))))] ++ va_pl L (pE Pw_60)) := hD
    have hK : va_K (dC, dI) vwQ [(cI, .int), (cO, .object "java/lang/Object"), (cZ, .boolean), (cT, .byte)] s := hK
    refine W.widen (k := 0) (n := 0) (Nat.le_of_ble_eq_true rfl) (Nat.le_of_ble_eq_true rfl) ?_
    have hw_84 := hw
    obtain ⟨z_85, rfl, hzz_85⟩ := hw_84
    skip
    refine lv_if_eq (tgt := 112) hx hb dX16_end_74 (by decide) (fun b74 => ?_) (fun b74 => ?_)
    · have yb74 : (z_85 : Int) = (0 : Int) := (zI_eq (a := z_85) (b := 0) (by omega) (by omega) (by omega) (by omega)).mp b74
      refine lv_aload_n hx hb dX16_end_112 rfl (lv_at hl 1 rfl) ?_
      refine va_ldcS hx hb hown hp6 dX16_end_113 ?_
      have hPc := hP.part (X := [(q_gp, .inl (cI, mg, .inl (fun j : Nat => zI (a_gp (j : Int))))), (q_gs, .inl (cI, ng, .inl (fun j : Nat => zI (a_gs (j : Int))))), (h0, .inr (14, [.ref q_t, .int (zI (z16_n)), .int (zI (z16_at)), .int (zI (z16_kind)), .int (zI (z16_place)), .int (zI (z16_value)), .int (zI (z16_before)), .ref tx9, v16_8, v16_9, v16_10, .ref q_gp, .ref q_gs, .int (zI (z16_goalN))])), (q_t, .inl (cT, 8192, .inl (fun j : Nat => zI (a_t (j : Int)))))]) (cx := [(h0, .inr (14, [.ref q_t, .int (zI (z16_n)), .int (zI (z16_at)), .int (zI (z16_kind)), .int (zI (z16_place)), .int (zI (z16_value)), .int (zI (z16_before)), .ref tx9, v16_8, v16_9, v16_10, .ref q_gp, .ref q_gs, .int (zI (z16_goalN))])), (q_t, .inl (cT, 8192, .inl (fun j : Nat => zI (a_t (j : Int)))))]) (pl := va_pl L (pE Pw_60)) [2, 3] rfl
      have hDc := hD.part (X := [(q_gp, .inl (cI, mg, .inl (fun j : Nat => zI (a_gp (j : Int))))), (q_gs, .inl (cI, ng, .inl (fun j : Nat => zI (a_gs (j : Int))))), (h0, .inr (14, [.ref q_t, .int (zI (z16_n)), .int (zI (z16_at)), .int (zI (z16_kind)), .int (zI (z16_place)), .int (zI (z16_value)), .int (zI (z16_before)), .ref tx9, v16_8, v16_9, v16_10, .ref q_gp, .ref q_gs, .int (zI (z16_goalN))])), (q_t, .inl (cT, 8192, .inl (fun j : Nat => zI (a_t (j : Int)))))]) (cx := [(h0, .inr (14, [.ref q_t, .int (zI (z16_n)), .int (zI (z16_at)), .int (zI (z16_kind)), .int (zI (z16_place)), .int (zI (z16_value)), .int (zI (z16_before)), .ref tx9, v16_8, v16_9, v16_10, .ref q_gp, .ref q_gs, .int (zI (z16_goalN))])), (q_t, .inl (cT, 8192, .inl (fun j : Nat => zI (a_t (j : Int)))))]) (pl := va_pl L (pE Pw_60)) [2, 3] (by decide) rfl
      have hKc := hK.sub (tys' := [(cT, .byte)]) [3] rfl
      have hFc := va_freeP (X := [(q_gp, .inl (cI, mg, .inl (fun j : Nat => zI (a_gp (j : Int))))), (q_gs, .inl (cI, ng, .inl (fun j : Nat => zI (a_gs (j : Int))))), (h0, .inr (14, [.ref q_t, .int (zI (z16_n)), .int (zI (z16_at)), .int (zI (z16_kind)), .int (zI (z16_place)), .int (zI (z16_value)), .int (zI (z16_before)), .ref tx9, v16_8, v16_9, v16_10, .ref q_gp, .ref q_gs, .int (zI (z16_goalN))])), (q_t, .inl (cT, 8192, .inl (fun j : Nat => zI (a_t (j : Int)))))]) (cx := [(h0, .inr (14, [.ref q_t, .int (zI (z16_n)), .int (zI (z16_at)), .int (zI (z16_kind)), .int (zI (z16_place)), .int (zI (z16_value)), .int (zI (z16_before)), .ref tx9, v16_8, v16_9, v16_10, .ref q_gp, .ref q_gs, .int (zI (z16_goalN))])), (q_t, .inl (cT, 8192, .inl (fun j : Nat => zI (a_t (j : Int)))))]) (pl := va_pl L (pE Pw_60)) hD hS hA [2, 3] rfl
      refine va_calli (va_runV (As := [.ref sa_RX16_255]) (rest := []) ⟨hx, hb, hml, hown, hts⟩ (c_X16_isKK l dC dI h0 (.int (zI (z16_n))) (.int (zI (z16_at))) z16_kind (.int (zI (z16_place))) (.int (zI (z16_value))) (.int (zI (z16_before))) v16_8 v16_9 v16_10 (.ref q_gp) (.ref q_gs) (.int (zI (z16_goalN))) q_t cT a_t tx9 L Pw_60 sa_RX16_9 sa_RX16_255 sv_RX16_255 3 ((fun j : Nat => ([114, 101, 116] : List Int32).getD j 0)) (by omega) hR_a_t hX_tx (by omega) H.size sv_RX16_9) (cwV 1 hts g_X16_endR_X16_isKK rfl rfl rfl (by decide +kernel) ⟨(Nat.le_of_ble_eq_true rfl), (Nat.le_of_ble_eq_true rfl)⟩) ⟨fun a U g mk q => by obtain ⟨q0, q1, qP, qK, qD, e0, e1, e2⟩ := q; exact ⟨q0, q1, qP, va_K.moved (u := U) (U := U.calling g mk a) (Vm.Alike.refl U.vm) qK, qD, vs_S.moved (u := U) (U := U.calling g mk a) (Vm.Alike.refl U.vm) e0, vs_S.moved (u := U) (U := U.calling g mk a) (Vm.Alike.refl U.vm) e1, va_Z.moved (u := U) (U := U.calling g mk a) (Vm.Alike.refl U.vm) e2⟩, va_recv hKc hPc (ci := 14) (q0 := 0) rfl rfl, fun U hU hW => ⟨rfl, by rw [hU], by rw [hU]; exact hPc, va_K.moved hW.alike hKc, hDc.weaken (fun _ _ _ _ => trivial), vs_S.go hp2 hS hFc hU hW.alike, vs_S.go hp7 hS hFc hU hW.alike, va_Z.go hp3 hS hFc hU hW.alike⟩⟩ rfl rfl hl.1 rfl (lv_room (Nat.le_of_ble_eq_true rfl)) dX16_end_115 ⟨(Nat.zero_le _), (Nat.zero_le _)⟩) hS (fun q _ h => hFc q h) hFc (fun r_86 u t H1 locs ht hvm hw hB hz1 hk1 hS => ?_)
      obtain ⟨hP1, hK1, hD1⟩ := hB
      rw [ht] at hP1
      have hK1 := va_K.moved hvm.symm hK1
      obtain ⟨hP, hD⟩ := va_joinP (X := [(q_gp, .inl (cI, mg, .inl (fun j : Nat => zI (a_gp (j : Int))))), (q_gs, .inl (cI, ng, .inl (fun j : Nat => zI (a_gs (j : Int))))), (h0, .inr (14, [.ref q_t, .int (zI (z16_n)), .int (zI (z16_at)), .int (zI (z16_kind)), .int (zI (z16_place)), .int (zI (z16_value)), .int (zI (z16_before)), .ref tx9, v16_8, v16_9, v16_10, .ref q_gp, .ref q_gs, .int (zI (z16_goalN))])), (q_t, .inl (cT, 8192, .inl (fun j : Nat => zI (a_t (j : Int)))))]) (cx := [(h0, .inr (14, [.ref q_t, .int (zI (z16_n)), .int (zI (z16_at)), .int (zI (z16_kind)), .int (zI (z16_place)), .int (zI (z16_value)), .int (zI (z16_before)), .ref tx9, v16_8, v16_9, v16_10, .ref q_gp, .ref q_gs, .int (zI (z16_goalN))])), (q_t, .inl (cT, 8192, .inl (fun j : Nat => zI (a_t (j : Int)))))]) (wr := [(q_gp, .inl (cI, mg, .inl (fun j : Nat => zI (a_gp (j : Int))))), (q_gs, .inl (cI, ng, .inl (fun j : Nat => zI (a_gs (j : Int)))))]) (rx := [(h0, .inr (14, [.ref q_t, .int (zI (z16_n)), .int (zI (z16_at)), .int (zI (z16_kind)), .int (zI (z16_place)), .int (zI (z16_value)), .int (zI (z16_before)), .ref tx9, v16_8, v16_9, v16_10, .ref q_gp, .ref q_gs, .int (zI (z16_goalN))])), (q_t, .inl (cT, 8192, .inl (fun j : Nat => zI (a_t (j : Int)))))]) (pl := va_pl L (pE Pw_60)) (pl1 := va_pl L (pE Pw_60)) hP hD [2, 3] [0, 1] rfl rfl (by decide) (by decide) hk1 hFc hP1 hD1
      have hK := (hK.sub (tys' := [(cI, .int), (cO, .object "java/lang/Object"), (cZ, .boolean)]) [0, 1, 2] rfl).app hK1
      generalize H1 = H at hP hS ⊢
      have hP : va_P (dC, dI) vwQ ([(q_gp, .inl (cI, mg, .inl (fun j : Nat => zI (a_gp (j : Int))))), (q_gs, .inl (cI, ng, .inl (fun j : Nat => zI (a_gs (j : Int))))), (h0, .inr (14, [.ref q_t, .int (zI (z16_n)), .int (zI (z16_at)), .int (zI (z16_kind)), .int (zI (z16_place)), .int (zI (z16_value)), .int (zI (z16_before)), .ref tx9, v16_8, v16_9, v16_10, .ref q_gp, .ref q_gs, .int (zI (z16_goalN))])), (q_t, .inl (cT, 8192, .inl (fun j : Nat => zI (a_t (j : Int)))))] ++ va_pl L (pE Pw_60)) H := hP
      have hD : va_D A ([(q_gp, .inl (cI, mg, .inl (fun j : Nat => zI (a_gp (j : Int))))), (q_gs, .inl (cI, ng, .inl (fun j : Nat => zI (a_gs (j : Int))))), (h0, .inr (14, [.ref q_t, .int (zI (z16_n)), .int (zI (z16_at)), .int (zI (z16_kind)), .int (zI (z16_place)), .int (zI (z16_value)), .int (zI (z16_before)), .ref tx9, v16_8, v16_9, v16_10, .ref q_gp, .ref q_gs, .int (zI (z16_goalN))])), (q_t, .inl (cT, 8192, .inl (fun j : Nat => zI (a_t (j : Int)))))] ++ va_pl L (pE Pw_60)) := hD
      have hK : va_K (dC, dI) vwQ [(cI, .int), (cO, .object "java/lang/Object"), (cZ, .boolean), (cT, .byte)] s := hK
      refine W.widen (k := 0) (n := 0) (Nat.le_of_ble_eq_true rfl) (Nat.le_of_ble_eq_true rfl) ?_
      have hw_87 := hw
      obtain ⟨z_88, rfl, hzz_88⟩ := hw_87
      skip
      refine lv_if_eq (tgt := 140) hx hb dX16_end_118 (by decide) (fun b118 => ?_) (fun b118 => ?_)
      · have yb118 : (z_88 : Int) = (0 : Int) := (zI_eq (a := z_88) (b := 0) (by omega) (by omega) (by omega) (by omega)).mp b118
        refine lv_aload_n hx hb dX16_end_140 rfl (lv_at hl 1 rfl) ?_
        have hPc := hP.sub (ws' := [(h0, .inr (14, [.ref q_t, .int (zI (z16_n)), .int (zI (z16_at)), .int (zI (z16_kind)), .int (zI (z16_place)), .int (zI (z16_value)), .int (zI (z16_before)), .ref tx9, v16_8, v16_9, v16_10, .ref q_gp, .ref q_gs, .int (zI (z16_goalN))]))]) [2] rfl
        have hDc := hD.sub (ws' := [(h0, .inr (14, [.ref q_t, .int (zI (z16_n)), .int (zI (z16_at)), .int (zI (z16_kind)), .int (zI (z16_place)), .int (zI (z16_value)), .int (zI (z16_before)), .ref tx9, v16_8, v16_9, v16_10, .ref q_gp, .ref q_gs, .int (zI (z16_goalN))]))]) [2] (by decide) rfl
        have hKc := hK.sub (tys' := []) [] rfl
        have hFc := va_free (wc := [(h0, .inr (14, [.ref q_t, .int (zI (z16_n)), .int (zI (z16_at)), .int (zI (z16_kind)), .int (zI (z16_place)), .int (zI (z16_value)), .int (zI (z16_before)), .ref tx9, v16_8, v16_9, v16_10, .ref q_gp, .ref q_gs, .int (zI (z16_goalN))]))]) hD hS hA [2] rfl
        refine va_callr (va_runV (As := []) (rest := []) ⟨hx, hb, hml, hown, hts⟩ (c_X16_no l dC dI h0 (.ref q_t) (.int (zI (z16_n))) (.int (zI (z16_at))) (.int (zI (z16_kind))) z16_place (.int (zI (z16_value))) (.int (zI (z16_before))) (.ref tx9) v16_8 v16_9 v16_10 (.ref q_gp) (.ref q_gs) (.int (zI (z16_goalN))) (by omega) H.size) (cwV 0 hts g_X16_endR_X16_no rfl rfl rfl (by decide +kernel) ⟨(Nat.le_of_ble_eq_true rfl), (Nat.le_of_ble_eq_true rfl)⟩) ⟨fun a U g mk q => by obtain ⟨q0, q1, qP, qK, qD, e0, e1⟩ := q; exact ⟨q0, q1, qP, va_K.moved (u := U) (U := U.calling g mk a) (Vm.Alike.refl U.vm) qK, qD, vx_Zq.moved (u := U) (U := U.calling g mk a) (Vm.Alike.refl U.vm) e0, vx_Zq.moved (u := U) (U := U.calling g mk a) (Vm.Alike.refl U.vm) e1⟩, va_recv hKc hPc (ci := 14) (q0 := 0) rfl rfl, fun U hU hW => ⟨rfl, by rw [hU], by rw [hU]; exact hPc, va_K.moved hW.alike hKc, hDc.weaken (fun _ _ _ _ => trivial), vx_Zq.go hp8 hS hFc hU hW.alike, vx_Zq.go hp9 hS hFc hU hW.alike⟩⟩ rfl rfl hl.1 rfl (lv_room (Nat.le_of_ble_eq_true rfl)) dX16_end_141 ⟨(show 0 + 1 ≤ (8 * (z16_n - z16_place) - TKW z16_kind (z16_at - z16_place) + 4 * z16_goalN + 160).toNat from (rmW (by omega))), (show 0 + 7 ≤ (45 * (z16_n - z16_place) - TKV z16_kind (z16_at - z16_place) + 16 * z16_goalN + 700).toNat from (rmW (by omega)))⟩) hS (fun q _ h => hFc q h) hFc (fun u q_89 t H1 locs ht hvm hw hB hz1 hk1 hS => ?_)
        obtain ⟨zq_90, hxt_90, hP1, hK1, hD1⟩ := hB
        rw [ht] at hP1
        have hK1 := va_K.moved hvm.symm hK1
        obtain ⟨hP, hD⟩ := va_joinQ (X := [(q_gp, .inl (cI, mg, .inl (fun j : Nat => zI (a_gp (j : Int))))), (q_gs, .inl (cI, ng, .inl (fun j : Nat => zI (a_gs (j : Int))))), (h0, .inr (14, [.ref q_t, .int (zI (z16_n)), .int (zI (z16_at)), .int (zI (z16_kind)), .int (zI (z16_place)), .int (zI (z16_value)), .int (zI (z16_before)), .ref tx9, v16_8, v16_9, v16_10, .ref q_gp, .ref q_gs, .int (zI (z16_goalN))])), (q_t, .inl (cT, 8192, .inl (fun j : Nat => zI (a_t (j : Int)))))]) (cx := [(h0, .inr (14, [.ref q_t, .int (zI (z16_n)), .int (zI (z16_at)), .int (zI (z16_kind)), .int (zI (z16_place)), .int (zI (z16_value)), .int (zI (z16_before)), .ref tx9, v16_8, v16_9, v16_10, .ref q_gp, .ref q_gs, .int (zI (z16_goalN))]))]) (wr := [(q_gp, .inl (cI, mg, .inl (fun j : Nat => zI (a_gp (j : Int))))), (q_gs, .inl (cI, ng, .inl (fun j : Nat => zI (a_gs (j : Int))))), (q_t, .inl (cT, 8192, .inl (fun j : Nat => zI (a_t (j : Int)))))]) (w1 := [(h0, .inr (14, [.ref q_t, .int (zI (z16_n)), .int (zI (z16_at)), .int (zI (z16_kind)), .int (zI (z16_place)), .int (zI (z16_value)), .int (zI (z16_before)), .ref tx9, v16_8, v16_9, v16_10, .ref q_gp, .ref q_gs, .int (zI (z16_goalN))])), (q_89, .inr (15, [.null, .null, .null, .null, .null, .int 0, .int (zI (zq_90))]))]) (pl := va_pl L (pE Pw_60)) hP hD [2] [0, 1, 3] rfl rfl (by decide) (by decide) hk1 hFc hP1 hD1
        have hK := (hK.sub (tys' := [(cI, .int), (cO, .object "java/lang/Object"), (cZ, .boolean), (cT, .byte)]) [0, 1, 2, 3] rfl).app hK1
        generalize H1 = H at hP hS ⊢
        have hP : va_P (dC, dI) vwQ ([(q_gp, .inl (cI, mg, .inl (fun j : Nat => zI (a_gp (j : Int))))), (q_gs, .inl (cI, ng, .inl (fun j : Nat => zI (a_gs (j : Int))))), (q_t, .inl (cT, 8192, .inl (fun j : Nat => zI (a_t (j : Int))))), (h0, .inr (14, [.ref q_t, .int (zI (z16_n)), .int (zI (z16_at)), .int (zI (z16_kind)), .int (zI (z16_place)), .int (zI (z16_value)), .int (zI (z16_before)), .ref tx9, v16_8, v16_9, v16_10, .ref q_gp, .ref q_gs, .int (zI (z16_goalN))])), (q_89, .inr (15, [.null, .null, .null, .null, .null, .int 0, .int (zI (zq_90))]))] ++ va_pl L (pE Pw_60)) H := hP
        have hD : va_D A ([(q_gp, .inl (cI, mg, .inl (fun j : Nat => zI (a_gp (j : Int))))), (q_gs, .inl (cI, ng, .inl (fun j : Nat => zI (a_gs (j : Int))))), (q_t, .inl (cT, 8192, .inl (fun j : Nat => zI (a_t (j : Int))))), (h0, .inr (14, [.ref q_t, .int (zI (z16_n)), .int (zI (z16_at)), .int (zI (z16_kind)), .int (zI (z16_place)), .int (zI (z16_value)), .int (zI (z16_before)), .ref tx9, v16_8, v16_9, v16_10, .ref q_gp, .ref q_gs, .int (zI (z16_goalN))])), (q_89, .inr (15, [.null, .null, .null, .null, .null, .int 0, .int (zI (zq_90))]))] ++ va_pl L (pE Pw_60)) := hD
        have hK : va_K (dC, dI) vwQ [(cI, .int), (cO, .object "java/lang/Object"), (cZ, .boolean), (cT, .byte)] s := hK
        refine W.widen (k := 1) (n := 7) (Nat.le_of_ble_eq_true rfl) (Nat.le_of_ble_eq_true rfl) ?_
        subst hQ
        obtain ⟨ce9, h91, h92, h93⟩ := vy_cell (C := RX18) (T := TX18) (N := 7) hK hP (k := 4) rfl rfl
        have hP := hP.part (X := [(q_gp, .inl (cI, mg, .inl (fun j : Nat => zI (a_gp (j : Int))))), (q_gs, .inl (cI, ng, .inl (fun j : Nat => zI (a_gs (j : Int))))), (q_t, .inl (cT, 8192, .inl (fun j : Nat => zI (a_t (j : Int))))), (h0, .inr (14, [.ref q_t, .int (zI (z16_n)), .int (zI (z16_at)), .int (zI (z16_kind)), .int (zI (z16_place)), .int (zI (z16_value)), .int (zI (z16_before)), .ref tx9, v16_8, v16_9, v16_10, .ref q_gp, .ref q_gs, .int (zI (z16_goalN))])), (q_89, .inr (15, [.null, .null, .null, .null, .null, .int 0, .int (zI (zq_90))]))]) (cx := [(q_t, .inl (cT, 8192, .inl (fun j : Nat => zI (a_t (j : Int))))), (q_89, .inr (15, [.null, .null, .null, .null, .null, .int 0, .int (zI (zq_90))]))]) (pl := va_pl L (pE Pw_60)) [2, 4] rfl
        have hD := hD.part (X := [(q_gp, .inl (cI, mg, .inl (fun j : Nat => zI (a_gp (j : Int))))), (q_gs, .inl (cI, ng, .inl (fun j : Nat => zI (a_gs (j : Int))))), (q_t, .inl (cT, 8192, .inl (fun j : Nat => zI (a_t (j : Int))))), (h0, .inr (14, [.ref q_t, .int (zI (z16_n)), .int (zI (z16_at)), .int (zI (z16_kind)), .int (zI (z16_place)), .int (zI (z16_value)), .int (zI (z16_before)), .ref tx9, v16_8, v16_9, v16_10, .ref q_gp, .ref q_gs, .int (zI (z16_goalN))])), (q_89, .inr (15, [.null, .null, .null, .null, .null, .int 0, .int (zI (zq_90))]))]) (cx := [(q_t, .inl (cT, 8192, .inl (fun j : Nat => zI (a_t (j : Int))))), (q_89, .inr (15, [.null, .null, .null, .null, .null, .int 0, .int (zI (zq_90))]))]) (pl := va_pl L (pE Pw_60)) [2, 4] (by decide) rfl
        refine W_knowS (fun hrm9 => ?_)
        refine W.widen (k := ((8 * (z16_n - z16_place) - TKW z16_kind (z16_at - z16_place) + 4 * z16_goalN + 160).toNat)) (n := ((45 * (z16_n - z16_place) - TKV z16_kind (z16_at - z16_place) + 16 * z16_goalN + 700).toNat)) (rmW (by omega)) (rmW (by omega)) ?_
        exact vy_athrow hx hb (fun x9 h9 => (hnt x9 h9).elim) hlocks h91 h92 h93 (fun t ht hvm => ⟨(), trivial, ⟨rfl, zq_90, L, Pw_60, 1, 7, ⟨⟨(by rw [ht, ← hp10]; exact hrm9), (by omega)⟩, ⟨(by omega), ⟨hA_73, hak_67, (hcx_77.cpa hg00.owa (fun z _ q => by rcases (show z = xb ∨ z = P.be xb from q) with q | q; rw [q, hX_bk]; decide; rw [q, (hg00.gb hX_b hX_bk).1.2.1]; decide)), hnx_79⟩⟩⟩, by rw [ht]; exact hP, hD⟩, hS.F ht⟩) hS.2.2 (Nat.le_refl _) (Nat.le_refl _) dX16_end_144
      · have yb118 : ¬ (z_88 : Int) = (0 : Int) := fun q => b118 ((zI_eq (a := z_88) (b := 0) (by omega) (by omega) (by omega) (by omega)).mpr q)
        have hni9 := TKQ.is hX_tn (hzz_88.2.2.2 (by omega))
        have hni8 := hX_tn.2.2.2 (by omega)
        skip
        refine lv_aload_n hx hb dX16_end_121 rfl (lv_at hl 1 rfl) ?_
        have hPc := hP.part (X := [(q_gp, .inl (cI, mg, .inl (fun j : Nat => zI (a_gp (j : Int))))), (q_gs, .inl (cI, ng, .inl (fun j : Nat => zI (a_gs (j : Int))))), (h0, .inr (14, [.ref q_t, .int (zI (z16_n)), .int (zI (z16_at)), .int (zI (z16_kind)), .int (zI (z16_place)), .int (zI (z16_value)), .int (zI (z16_before)), .ref tx9, v16_8, v16_9, v16_10, .ref q_gp, .ref q_gs, .int (zI (z16_goalN))])), (q_t, .inl (cT, 8192, .inl (fun j : Nat => zI (a_t (j : Int)))))]) (cx := [(h0, .inr (14, [.ref q_t, .int (zI (z16_n)), .int (zI (z16_at)), .int (zI (z16_kind)), .int (zI (z16_place)), .int (zI (z16_value)), .int (zI (z16_before)), .ref tx9, v16_8, v16_9, v16_10, .ref q_gp, .ref q_gs, .int (zI (z16_goalN))])), (q_t, .inl (cT, 8192, .inl (fun j : Nat => zI (a_t (j : Int)))))]) (pl := va_pl L (pE Pw_60)) [2, 3] rfl
        have hDc := hD.part (X := [(q_gp, .inl (cI, mg, .inl (fun j : Nat => zI (a_gp (j : Int))))), (q_gs, .inl (cI, ng, .inl (fun j : Nat => zI (a_gs (j : Int))))), (h0, .inr (14, [.ref q_t, .int (zI (z16_n)), .int (zI (z16_at)), .int (zI (z16_kind)), .int (zI (z16_place)), .int (zI (z16_value)), .int (zI (z16_before)), .ref tx9, v16_8, v16_9, v16_10, .ref q_gp, .ref q_gs, .int (zI (z16_goalN))])), (q_t, .inl (cT, 8192, .inl (fun j : Nat => zI (a_t (j : Int)))))]) (cx := [(h0, .inr (14, [.ref q_t, .int (zI (z16_n)), .int (zI (z16_at)), .int (zI (z16_kind)), .int (zI (z16_place)), .int (zI (z16_value)), .int (zI (z16_before)), .ref tx9, v16_8, v16_9, v16_10, .ref q_gp, .ref q_gs, .int (zI (z16_goalN))])), (q_t, .inl (cT, 8192, .inl (fun j : Nat => zI (a_t (j : Int)))))]) (pl := va_pl L (pE Pw_60)) [2, 3] (by decide) rfl
        have hKc := hK.sub (tys' := [(cT, .byte)]) [3] rfl
        have hFc := va_freeP (X := [(q_gp, .inl (cI, mg, .inl (fun j : Nat => zI (a_gp (j : Int))))), (q_gs, .inl (cI, ng, .inl (fun j : Nat => zI (a_gs (j : Int))))), (h0, .inr (14, [.ref q_t, .int (zI (z16_n)), .int (zI (z16_at)), .int (zI (z16_kind)), .int (zI (z16_place)), .int (zI (z16_value)), .int (zI (z16_before)), .ref tx9, v16_8, v16_9, v16_10, .ref q_gp, .ref q_gs, .int (zI (z16_goalN))])), (q_t, .inl (cT, 8192, .inl (fun j : Nat => zI (a_t (j : Int)))))]) (cx := [(h0, .inr (14, [.ref q_t, .int (zI (z16_n)), .int (zI (z16_at)), .int (zI (z16_kind)), .int (zI (z16_place)), .int (zI (z16_value)), .int (zI (z16_before)), .ref tx9, v16_8, v16_9, v16_10, .ref q_gp, .ref q_gs, .int (zI (z16_goalN))])), (q_t, .inl (cT, 8192, .inl (fun j : Nat => zI (a_t (j : Int)))))]) (pl := va_pl L (pE Pw_60)) hD hS hA [2, 3] rfl
        refine W_knowS (fun hrmA => ?_)
        refine va_callv (va_runV (As := []) (rest := []) ⟨hx, hb, hml, hown, hts⟩ (c_X16_nextK l dC dI h0 z16_n z16_at z16_kind z16_place z16_value z16_before (.ref tx9) v16_8 v16_9 v16_10 (.ref q_gp) (.ref q_gs) (.int (zI (z16_goalN))) q_t cT a_t L Pw_60 sa_RX16_9 (by omega) (by omega) (by omega) (by omega) (by omega) (by omega) hR_a_t (by omega) H.size sa_RX16_9 H sv_RX16_9 sa_RX16_119 sv_RX16_119 sa_RX16_100 sv_RX16_100 sa_RX16_117 sa_RX16_100 sv_RX16_117 sa_RX16_98 sv_RX16_98) (cwV 0 hts g_X16_endR_X16_nextK rfl rfl rfl (by decide +kernel) ⟨(Nat.le_of_ble_eq_true rfl), (Nat.le_of_ble_eq_true rfl)⟩) ⟨fun a U g mk q => by obtain ⟨q0, q1, qP, qK, qD, e0, e1, e2, e3, e4, e5, e6, e7, e8, e9, e10, e11, e12⟩ := q; exact ⟨q0, q1, qP, va_K.moved (u := U) (U := U.calling g mk a) (Vm.Alike.refl U.vm) qK, qD, vk_R.same (u := U) (U := U.calling g mk a) rfl e0, e1, va_Z.moved (u := U) (U := U.calling g mk a) (Vm.Alike.refl U.vm) e2, vs_S.moved (u := U) (U := U.calling g mk a) (Vm.Alike.refl U.vm) e3, va_Nw.same rfl (u := U) (U := U.calling g mk a) rfl e4, vk_R.same (u := U) (U := U.calling g mk a) rfl e5, vs_S.moved (u := U) (U := U.calling g mk a) (Vm.Alike.refl U.vm) e6, vs_S.moved (u := U) (U := U.calling g mk a) (Vm.Alike.refl U.vm) e7, vk_R.same (u := U) (U := U.calling g mk a) rfl e8, vk_R.same (u := U) (U := U.calling g mk a) rfl e9, vs_S.moved (u := U) (U := U.calling g mk a) (Vm.Alike.refl U.vm) e10, vk_R.same (u := U) (U := U.calling g mk a) rfl e11, vs_S.moved (u := U) (U := U.calling g mk a) (Vm.Alike.refl U.vm) e12⟩, va_recv hKc hPc (ci := 14) (q0 := 0) rfl rfl, fun U hU hW => ⟨rfl, by rw [hU], by rw [hU]; exact hPc, va_K.moved hW.alike hKc, hDc.weaken (fun _ _ _ _ => trivial), vk_R.warm hW hp11, hU, va_Z.go hp3 hS hFc hU hW.alike, vs_S.go hp2 hS hFc hU hW.alike, va_Nw.warmC hW hp12, vk_R.warm hW hp13, vs_S.go hp14 hS hFc hU hW.alike, vs_S.go hp15 hS hFc hU hW.alike, vk_R.warm hW hp16, vk_R.warm hW hp17, vs_S.go hp18 hS hFc hU hW.alike, vk_R.warm hW hp19, vs_S.go hp20 hS hFc hU hW.alike⟩⟩ rfl rfl hl.1 rfl (lv_room (Nat.le_of_ble_eq_true rfl)) dX16_end_122 ⟨(show 0 + ((z16_n - z16_at + 20).toNat) ≤ (8 * (z16_n - z16_place) - TKW z16_kind (z16_at - z16_place) + 4 * z16_goalN + 160).toNat from (rmT (by omega) (by omega))), (show 0 + ((10 * (z16_n - z16_at) + 120).toNat) ≤ (45 * (z16_n - z16_place) - TKV z16_kind (z16_at - z16_place) + 16 * z16_goalN + 700).toNat from (rmT (by omega) (by omega)))⟩) hS (fun q _ h => hFc q h) hFc (fun  u t H1 locs ht hvm hw hB hz1 hk1 hS => ?_)
        obtain ⟨z0_91, z1_92, z2_93, z3_94, z4_95, q5_96, Ln_97, Pn_98, kc_99, ks_100, hxt_100, hP1, hK1, hD1⟩ := hB
        rw [ht] at hP1
        have hK1 := va_K.moved hvm.symm hK1
        obtain ⟨hP, hD⟩ := va_joinP (X := [(q_gp, .inl (cI, mg, .inl (fun j : Nat => zI (a_gp (j : Int))))), (q_gs, .inl (cI, ng, .inl (fun j : Nat => zI (a_gs (j : Int))))), (h0, .inr (14, [.ref q_t, .int (zI (z16_n)), .int (zI (z16_at)), .int (zI (z16_kind)), .int (zI (z16_place)), .int (zI (z16_value)), .int (zI (z16_before)), .ref tx9, v16_8, v16_9, v16_10, .ref q_gp, .ref q_gs, .int (zI (z16_goalN))])), (q_t, .inl (cT, 8192, .inl (fun j : Nat => zI (a_t (j : Int)))))]) (cx := [(h0, .inr (14, [.ref q_t, .int (zI (z16_n)), .int (zI (z16_at)), .int (zI (z16_kind)), .int (zI (z16_place)), .int (zI (z16_value)), .int (zI (z16_before)), .ref tx9, v16_8, v16_9, v16_10, .ref q_gp, .ref q_gs, .int (zI (z16_goalN))])), (q_t, .inl (cT, 8192, .inl (fun j : Nat => zI (a_t (j : Int)))))]) (wr := [(q_gp, .inl (cI, mg, .inl (fun j : Nat => zI (a_gp (j : Int))))), (q_gs, .inl (cI, ng, .inl (fun j : Nat => zI (a_gs (j : Int)))))]) (rx := [(h0, .inr (14, [.ref q_t, .int (zI (z16_n)), .int (zI (z0_91)), .int (zI (z1_92)), .int (zI (z2_93)), .int (zI (z3_94)), .int (zI (z4_95)), .ref q5_96, v16_8, v16_9, v16_10, .ref q_gp, .ref q_gs, .int (zI (z16_goalN))])), (q_t, .inl (cT, 8192, .inl (fun j : Nat => zI (a_t (j : Int)))))]) (pl := va_pl L (pE Pw_60)) (pl1 := va_pl Ln_97 (pE Pn_98)) hP hD [2, 3] [0, 1] rfl rfl (by decide) (by decide) hk1 hFc hP1 hD1
        have hK := (hK.sub (tys' := [(cI, .int), (cO, .object "java/lang/Object"), (cZ, .boolean)]) [0, 1, 2] rfl).app hK1
        have hrmC := hxt_100.1.1
        rw [ht] at hrmC
        refine W_tightS (hrmA.trans hrmC) ?_
        have hrb := hxt_100.1.2
        generalize H1 = H at hP hS ⊢
        have hP : va_P (dC, dI) vwQ ([(q_gp, .inl (cI, mg, .inl (fun j : Nat => zI (a_gp (j : Int))))), (q_gs, .inl (cI, ng, .inl (fun j : Nat => zI (a_gs (j : Int))))), (h0, .inr (14, [.ref q_t, .int (zI (z16_n)), .int (zI (z0_91)), .int (zI (z1_92)), .int (zI (z2_93)), .int (zI (z3_94)), .int (zI (z4_95)), .ref q5_96, v16_8, v16_9, v16_10, .ref q_gp, .ref q_gs, .int (zI (z16_goalN))])), (q_t, .inl (cT, 8192, .inl (fun j : Nat => zI (a_t (j : Int)))))] ++ va_pl Ln_97 (pE Pn_98)) H := hP
        have hD : va_D A ([(q_gp, .inl (cI, mg, .inl (fun j : Nat => zI (a_gp (j : Int))))), (q_gs, .inl (cI, ng, .inl (fun j : Nat => zI (a_gs (j : Int))))), (h0, .inr (14, [.ref q_t, .int (zI (z16_n)), .int (zI (z0_91)), .int (zI (z1_92)), .int (zI (z2_93)), .int (zI (z3_94)), .int (zI (z4_95)), .ref q5_96, v16_8, v16_9, v16_10, .ref q_gp, .ref q_gs, .int (zI (z16_goalN))])), (q_t, .inl (cT, 8192, .inl (fun j : Nat => zI (a_t (j : Int)))))] ++ va_pl Ln_97 (pE Pn_98)) := hD
        have hK : va_K (dC, dI) vwQ [(cI, .int), (cO, .object "java/lang/Object"), (cZ, .boolean), (cT, .byte)] s := hK
        refine W.widen (k := (0 + kc_99)) (n := (0 + ks_100)) (by omega) (by omega) ?_
        obtain ⟨rk_101, rk_102, rk_103, rk_104, rk_105, hu_105⟩ := hxt_100.2
        have htk_106 := hu_105.1.2
        have hrg_106 := hu_105.1.1
        have htq_106 := htk_106.1
        have hkd_111 := hu_105.2.1
        have hX_kv := hkd_111.2
        have hu_107 := hu_105.2.2
        have hex_108 : EXT9 L Pw_60 Ln_97 Pn_98 := hu_107.1
        have hke_109 : KEG [] L Pw_60 Ln_97 Pn_98 := hex_108.kegR hak_67
        have hak_110 : GLR Ln_97 Pn_98 cO cI cZ sx_ed := hak_67.txt hex_108 hu_107.2.1
        have hsm_112 := (hex_108 xb hq_70.1).2
        have : Pn_98.bf xb = Pw_60.bf xb := hsm_112.1 0
        have : Pn_98.bs xb = Pw_60.bs xb := hsm_112.1 1
        have hsm_113 := (hex_108 pr_2 hq_71.1).2
        have : Pn_98.ro pr_2 = Pw_60.ro pr_2 := hsm_113.1 0
        have : Pn_98.rt pr_2 = Pw_60.rt pr_2 := hsm_113.1 1
        have : Pn_98.ra pr_2 = Pw_60.ra pr_2 := hsm_113.1 2
        have : Pn_98.rb pr_2 = Pw_60.rb pr_2 := hsm_113.1 3
        have : Pn_98.rA pr_2 = Pw_60.rA pr_2 := hsm_113.1 4
        have : Pn_98.rB pr_2 = Pw_60.rB pr_2 := hsm_113.1 5
        have : Pn_98.rg pr_2 = Pw_60.rg pr_2 := hsm_113.1 6
        have : Pn_98.ek pr_2 = Pw_60.ek pr_2 := hsm_113.2.1 8
        have hq_114 : HID (la ∈ Ln_97 ∧ Pn_98.kd la = 30) := hke_109.mem hq_69.1 hq_69.2 (by decide)
        have hq_115 : HID (xb ∈ Ln_97 ∧ Pn_98.kd xb = 12) := hke_109.mem hq_70.1 hq_70.2 (by decide)
        have hq_116 : HID (pr_2 ∈ Ln_97 ∧ Pn_98.kd pr_2 = 17) := hke_109.mem hq_71.1 hq_71.2 (by decide)
        have ha_117 : HID (Pn_98.be xb = pr_2) := hke_109.be hq_70.1 hq_70.2 ha_72.out
        have hA_118 : KEG [] L P Ln_97 Pn_98 := hA_73.trans hke_109
        have : Pn_98.lz la = Pw_60.lz la := (hex_108 la hq_69.1).2.1 0
        have hek_119 : HID (Pn_98.ek la = 12) := (by rw [hke_109.ek hq_69.1 hq_69.2 (by decide)]; exact hek_74.out)
        have how_120 : HID (Pn_98.ow la = la) := ((hke_109.1 la hq_69.1 (by rw [hq_69.2]; decide)).2.2.2.1 hq_69.2 how_75.out).1
        have hcz := (((hke_109.1 la hq_69.1 (by rw [hq_69.2]; decide)).2.2.2.1 hq_69.2 how_75.out).2 (by simp)).1
        have hE_121 : HID (Pn_98.ek pr_2 = 1) := (by rw [hke_109.ek hq_71.1 hq_71.2 (by decide)]; exact hE_76.out)
        have hX_tx := hu_107.2.2.1
        have hxk9 := hu_107.2.2.2
        have hcx_122 : CHG (fun z => z = xb ∨ z = P.be xb) L P Ln_97 Pn_98 := hcx_77.trans hex_108.chg (fun z m q => q.elim)
        have hnn_106 := TKV.nn (k := z1_92) (d := z0_91 - z2_93) (by omega)
        have hnx_123 : NTX L P Ln_97 Pn_98 := hnx_79.trans (NTX.ext hex_108 hu_107.2.1)
        have hri_124 : (((0 + ks_100) : Nat) : Int) ≤ 45 * (z2_93 - z16_place) - TKV z16_kind (z16_at - z16_place) + TKV (z1_92) (z0_91 - z2_93) + 35 ∧ (((0 + kc_99) : Nat) : Int) ≤ 8 * (z2_93 - z16_place) - TKW z16_kind (z16_at - z16_place) + TKW (z1_92) (z0_91 - z2_93) + 5 := (by omega)
        clear hrb
        skip
        refine lv_aload_n hx hb dX16_end_125 rfl (lv_at hl 0 rfl) ?_
        refine lv_bipush (v := 32) hx hb dX16_end_126 (by decide) ?_
        have hr7 := (hak_110.rokR hq_116.1 hq_116.2).n7
        refine lv_topi (fun z ez => ?_)
        obtain rfl : z = zI (32) := ez
        obtain ⟨kp_125, gkp_125⟩ := va_pl_get (X := [(q_gp, .inl (cI, mg, .inl (fun j : Nat => zI (a_gp (j : Int))))), (q_gs, .inl (cI, ng, .inl (fun j : Nat => zI (a_gs (j : Int))))), (h0, .inr (14, [.ref q_t, .int (zI (z16_n)), .int (zI (z0_91)), .int (zI (z1_92)), .int (zI (z2_93)), .int (zI (z3_94)), .int (zI (z4_95)), .ref q5_96, v16_8, v16_9, v16_10, .ref q_gp, .ref q_gs, .int (zI (z16_goalN))])), (q_t, .inl (cT, 8192, .inl (fun j : Nat => zI (a_t (j : Int)))))]) (f := pE Pn_98) hq_116.1
        have hkp_125 := gkp_125
        rw [pE_row hq_116.2] at hkp_125
        have hD0 := hD
        refine va_put (D := (dC, dI)) (ci := 21) (v := .int (zI (32))) (ty := .int) (C := RX17) (T := TX17) (N := 7) hx hb hts mem_X16_endR_1 tyX17 tyX17_ok nmX17 hown hK hP hD hS kp_125 hkp_125 rfl 0 (by decide) (ow (k := 16) rfl) (fun _ h9 => h9) rfl (by decide +kernel) rfl rfl (by first | exact Nat.le_of_ble_eq_true rfl | exact (show (0 + kc_99) ≤ (8 * (z16_n - z16_place) - TKW z16_kind (z16_at - z16_place) + 4 * z16_goalN + 160).toNat from (rmW (by omega))) | exact (show (0 + ks_100) ≤ (45 * (z16_n - z16_place) - TKV z16_kind (z16_at - z16_place) + 16 * z16_goalN + 700).toNat from (rmW (by omega)))) dX16_end_128 (fun H locs hP hD hS => ?_)
        obtain ⟨Pw_126, ePw_126⟩ : ∃ q9 : PO, q9 = Pn_98.rw9 0 pr_2 (32) := ⟨_, rfl⟩
        have eU : (([(q_gp, .inl (cI, mg, .inl (fun j : Nat => zI (a_gp (j : Int))))), (q_gs, .inl (cI, ng, .inl (fun j : Nat => zI (a_gs (j : Int))))), (h0, .inr (14, [.ref q_t, .int (zI (z16_n)), .int (zI (z0_91)), .int (zI (z1_92)), .int (zI (z2_93)), .int (zI (z3_94)), .int (zI (z4_95)), .ref q5_96, v16_8, v16_9, v16_10, .ref q_gp, .ref q_gs, .int (zI (z16_goalN))])), (q_t, .inl (cT, 8192, .inl (fun j : Nat => zI (a_t (j : Int)))))] : va_W) ++ va_pl Ln_97 (pE Pn_98)).set kp_125 (pr_2, rowE (32) (Pn_98.rt pr_2) (Pn_98.ra pr_2) (Pn_98.rb pr_2) (Pn_98.rA pr_2) (Pn_98.rB pr_2) (Pn_98.rg pr_2)) = ([(q_gp, .inl (cI, mg, .inl (fun j : Nat => zI (a_gp (j : Int))))), (q_gs, .inl (cI, ng, .inl (fun j : Nat => zI (a_gs (j : Int))))), (h0, .inr (14, [.ref q_t, .int (zI (z16_n)), .int (zI (z0_91)), .int (zI (z1_92)), .int (zI (z2_93)), .int (zI (z3_94)), .int (zI (z4_95)), .ref q5_96, v16_8, v16_9, v16_10, .ref q_gp, .ref q_gs, .int (zI (z16_goalN))])), (q_t, .inl (cT, 8192, .inl (fun j : Nat => zI (a_t (j : Int)))))] : va_W) ++ va_pl Ln_97 (pE Pw_126) := (by rw [va_pl_set hD0 hq_116.1 gkp_125, ePw_126]; exact congrArg (fun f9 => ([(q_gp, .inl (cI, mg, .inl (fun j : Nat => zI (a_gp (j : Int))))), (q_gs, .inl (cI, ng, .inl (fun j : Nat => zI (a_gs (j : Int))))), (h0, .inr (14, [.ref q_t, .int (zI (z16_n)), .int (zI (z0_91)), .int (zI (z1_92)), .int (zI (z2_93)), .int (zI (z3_94)), .int (zI (z4_95)), .ref q5_96, v16_8, v16_9, v16_10, .ref q_gp, .ref q_gs, .int (zI (z16_goalN))])), (q_t, .inl (cT, 8192, .inl (fun j : Nat => zI (a_t (j : Int)))))] : va_W) ++ va_pl Ln_97 f9) (put17_0 hq_116.2))
        have hP : va_P (dC, dI) vwQ ([(q_gp, .inl (cI, mg, .inl (fun j : Nat => zI (a_gp (j : Int))))), (q_gs, .inl (cI, ng, .inl (fun j : Nat => zI (a_gs (j : Int))))), (h0, .inr (14, [.ref q_t, .int (zI (z16_n)), .int (zI (z0_91)), .int (zI (z1_92)), .int (zI (z2_93)), .int (zI (z3_94)), .int (zI (z4_95)), .ref q5_96, v16_8, v16_9, v16_10, .ref q_gp, .ref q_gs, .int (zI (z16_goalN))])), (q_t, .inl (cT, 8192, .inl (fun j : Nat => zI (a_t (j : Int)))))] ++ va_pl Ln_97 (pE Pw_126)) H := (by rw [← eU]; exact hP)
        have hD : va_D A ([(q_gp, .inl (cI, mg, .inl (fun j : Nat => zI (a_gp (j : Int))))), (q_gs, .inl (cI, ng, .inl (fun j : Nat => zI (a_gs (j : Int))))), (h0, .inr (14, [.ref q_t, .int (zI (z16_n)), .int (zI (z0_91)), .int (zI (z1_92)), .int (zI (z2_93)), .int (zI (z3_94)), .int (zI (z4_95)), .ref q5_96, v16_8, v16_9, v16_10, .ref q_gp, .ref q_gs, .int (zI (z16_goalN))])), (q_t, .inl (cT, 8192, .inl (fun j : Nat => zI (a_t (j : Int)))))] ++ va_pl Ln_97 (pE Pw_126)) := (by rw [← eU]; exact hD)
        clear eU hD0 gkp_125 hkp_125
        have wPw_126 : RW1 pr_2 Pn_98 Pw_126 := (by rw [ePw_126]; exact RW1.put _ _ _ _)
        have hy_127 : Pw_126.kd la = 30 := (by rw [ePw_126]; exact hq_114.2)
        have hy_128 : Pw_126.kd xb = 12 := (by rw [ePw_126]; exact hq_115.2)
        have : Pw_126.bf xb = Pn_98.bf xb := wPw_126.2 _ (kd_ne hq_115.2 hq_116.2 (by decide)) _
        have : Pw_126.bs xb = Pn_98.bs xb := wPw_126.2 _ (kd_ne hq_115.2 hq_116.2 (by decide)) _
        have hy_129 : Pw_126.kd pr_2 = 17 := (by rw [ePw_126]; exact hq_116.2)
        have : Pw_126.ro pr_2 = 32 := (by rw [ePw_126]; exact rw9_at _ _ _ _)
        have : Pw_126.rt pr_2 = Pn_98.rt pr_2 := (by rw [ePw_126]; exact rw9_of _ (by decide))
        have : Pw_126.ra pr_2 = Pn_98.ra pr_2 := (by rw [ePw_126]; exact rw9_of _ (by decide))
        have : Pw_126.rb pr_2 = Pn_98.rb pr_2 := (by rw [ePw_126]; exact rw9_of _ (by decide))
        have : Pw_126.rA pr_2 = Pn_98.rA pr_2 := (by rw [ePw_126]; exact rw9_of _ (by decide))
        have : Pw_126.rB pr_2 = Pn_98.rB pr_2 := (by rw [ePw_126]; exact rw9_of _ (by decide))
        have : Pw_126.rg pr_2 = Pn_98.rg pr_2 := (by rw [ePw_126]; exact rw9_of _ (by decide))
        have : Pw_126.ek pr_2 = Pn_98.ek pr_2 := (by rw [ePw_126]; rfl)
        have ha_130 : HID (Pw_126.be xb = pr_2) := (by rw [ePw_126]; exact ha_117.out)
        have hW_131 : RW1 pr_2 Pn_98 Pw_126 := wPw_126
        have hrw_134 : RWD Pn_98 Pw_126 := hW_131.rwd (Or.inl hq_116.2)
        have hak_133 : GLR Ln_97 Pw_126 cO cI cZ sx_ed := hak_110.row hW_131 hq_116.2 (ROKR.of (by omega) (by omega) (by omega) (by omega) (by omega) (by omega) (by omega) (uaZR (by omega)) (ubGR (by omega))) (fun e9 => absurd hE_121.out e9)
        have hke_132 : KEG [] Ln_97 Pn_98 Ln_97 Pw_126 := hrw_134.kegR _ hq_114.2
        have hq_135 : HID (la ∈ Ln_97 ∧ Pw_126.kd la = 30) := hke_132.mem hq_114.1 hq_114.2 (by decide)
        have hq_136 : HID (xb ∈ Ln_97 ∧ Pw_126.kd xb = 12) := hke_132.mem hq_115.1 hq_115.2 (by decide)
        have hq_137 : HID (pr_2 ∈ Ln_97 ∧ Pw_126.kd pr_2 = 17) := hke_132.mem hq_116.1 hq_116.2 (by decide)
        have ha_138 : HID (Pw_126.be xb = pr_2) := hke_132.be hq_115.1 hq_115.2 ha_117.out
        have hA_139 : KEG [] L P Ln_97 Pw_126 := hA_118.trans hke_132
        have : Pw_126.lz la = Pn_98.lz la := hrw_134.lz hq_114.2
        have : Pw_126.cap la = Pn_98.cap la := hW_131.cap la
        have hek_140 : HID (Pw_126.ek la = 12) := (by rw [hke_132.ek hq_114.1 hq_114.2 (by decide)]; exact hek_119.out)
        have how_141 : HID (Pw_126.ow la = la) := ((hke_132.1 la hq_114.1 (by rw [hq_114.2]; decide)).2.2.2.1 hq_114.2 how_120.out).1
        have hcz := (((hke_132.1 la hq_114.1 (by rw [hq_114.2]; decide)).2.2.2.1 hq_114.2 how_120.out).2 (by simp)).1
        have hE_142 : HID (Pw_126.ek pr_2 = 1) := (by rw [hke_132.ek hq_116.1 hq_116.2 (by decide)]; exact hE_121.out)
        have hX_tx := hX_tx.rw1R hW_131 (Or.inl hq_116.2)
        have hcx_143 : CHG (fun z => z = xb ∨ z = P.be xb) L P Ln_97 Pw_126 := hcx_122.trans (hW_131.chg _) (fun z m q => Or.inr (q.trans epr_2))
        have hsm_144 := (hW_131.chg Ln_97 xb hq_136.1 (fun e9 => absurd e9 (kd_ne hq_136.2 hq_137.2 (by decide)))).2
        have : Pw_126.bf xb = Pn_98.bf xb := hsm_144.1 0
        have : Pw_126.bs xb = Pn_98.bs xb := hsm_144.1 1
        have hnx_145 : NTX L P Ln_97 Pw_126 := hnx_123.trans (NTX.put9 hW_131)
        refine lv_aload_n hx hb dX16_end_131 rfl (lv_at hl 1 rfl) ?_
        refine lv_aload_n hx hb dX16_end_132 rfl (lv_at hl 0 rfl) ?_
        refine lv_iconst (v := 0) hx hb dX16_end_133 (by decide) ?_
        have hX_tn := htk_106
        have hX_g := hak_133
        have hX_x := hq_137.1
        have hX_k := hq_137.2
        have hX_la := (show la ∈ Ln_97 ∧ Pw_126.kd la = 30 ∧ Pw_126.ek la = 12 ∧ Pw_126.ow la = la from ⟨hq_135.1, hq_135.2, hek_140.out, how_141.out⟩)
        have hPc := hP.part (X := [(q_gp, .inl (cI, mg, .inl (fun j : Nat => zI (a_gp (j : Int))))), (q_gs, .inl (cI, ng, .inl (fun j : Nat => zI (a_gs (j : Int))))), (h0, .inr (14, [.ref q_t, .int (zI (z16_n)), .int (zI (z0_91)), .int (zI (z1_92)), .int (zI (z2_93)), .int (zI (z3_94)), .int (zI (z4_95)), .ref q5_96, v16_8, v16_9, v16_10, .ref q_gp, .ref q_gs, .int (zI (z16_goalN))])), (q_t, .inl (cT, 8192, .inl (fun j : Nat => zI (a_t (j : Int)))))]) (cx := [(h0, .inr (14, [.ref q_t, .int (zI (z16_n)), .int (zI (z0_91)), .int (zI (z1_92)), .int (zI (z2_93)), .int (zI (z3_94)), .int (zI (z4_95)), .ref q5_96, v16_8, v16_9, v16_10, .ref q_gp, .ref q_gs, .int (zI (z16_goalN))])), (q_t, .inl (cT, 8192, .inl (fun j : Nat => zI (a_t (j : Int)))))]) (pl := va_pl Ln_97 (pE Pw_126)) [2, 3] rfl
        have hDc := hD.part (X := [(q_gp, .inl (cI, mg, .inl (fun j : Nat => zI (a_gp (j : Int))))), (q_gs, .inl (cI, ng, .inl (fun j : Nat => zI (a_gs (j : Int))))), (h0, .inr (14, [.ref q_t, .int (zI (z16_n)), .int (zI (z0_91)), .int (zI (z1_92)), .int (zI (z2_93)), .int (zI (z3_94)), .int (zI (z4_95)), .ref q5_96, v16_8, v16_9, v16_10, .ref q_gp, .ref q_gs, .int (zI (z16_goalN))])), (q_t, .inl (cT, 8192, .inl (fun j : Nat => zI (a_t (j : Int)))))]) (cx := [(h0, .inr (14, [.ref q_t, .int (zI (z16_n)), .int (zI (z0_91)), .int (zI (z1_92)), .int (zI (z2_93)), .int (zI (z3_94)), .int (zI (z4_95)), .ref q5_96, v16_8, v16_9, v16_10, .ref q_gp, .ref q_gs, .int (zI (z16_goalN))])), (q_t, .inl (cT, 8192, .inl (fun j : Nat => zI (a_t (j : Int)))))]) (pl := va_pl Ln_97 (pE Pw_126)) [2, 3] (by decide) rfl
        have hKc := hK.sub (tys' := [(cT, .byte), (cO, .object "java/lang/Object"), (cI, .int), (cZ, .boolean)]) [3, 1, 0, 2] rfl
        have hFc := va_freeP (X := [(q_gp, .inl (cI, mg, .inl (fun j : Nat => zI (a_gp (j : Int))))), (q_gs, .inl (cI, ng, .inl (fun j : Nat => zI (a_gs (j : Int))))), (h0, .inr (14, [.ref q_t, .int (zI (z16_n)), .int (zI (z0_91)), .int (zI (z1_92)), .int (zI (z2_93)), .int (zI (z3_94)), .int (zI (z4_95)), .ref q5_96, v16_8, v16_9, v16_10, .ref q_gp, .ref q_gs, .int (zI (z16_goalN))])), (q_t, .inl (cT, 8192, .inl (fun j : Nat => zI (a_t (j : Int)))))]) (cx := [(h0, .inr (14, [.ref q_t, .int (zI (z16_n)), .int (zI (z0_91)), .int (zI (z1_92)), .int (zI (z2_93)), .int (zI (z3_94)), .int (zI (z4_95)), .ref q5_96, v16_8, v16_9, v16_10, .ref q_gp, .ref q_gs, .int (zI (z16_goalN))])), (q_t, .inl (cT, 8192, .inl (fun j : Nat => zI (a_t (j : Int)))))]) (pl := va_pl Ln_97 (pE Pw_126)) hD hS hA [2, 3] rfl
        refine W_knowS (fun hrmA => ?_)
        refine vx_callv (vx_runV (As := [.ref pr_2, .int 0]) (rest := []) ⟨hx, hb, hml, hown, hts⟩ (c_X16_opAR l dC dI cI cZ h0 z16_n z0_91 z1_92 z2_93 z3_94 z4_95 v16_8 v16_9 v16_10 (.ref q_gp) (.ref q_gs) (.int (zI (z16_goalN))) q_t cT a_t q5_96 Ln_97 Pw_126 sa_RX16_9 cO la sx_ed pr_2 (by omega) (by omega) (by omega) (by omega) (by omega) (by omega) hR_a_t hX_g hX_la hX_x hX_k (by omega) hX_kv hX_tn H.size sv_RX16_9 sa_RX16_119 sv_RX16_119 sa_RX16_100 sv_RX16_100 sa_RX16_117 sv_RX16_117 sa_RX16_98 sv_RX16_98 H) (cwV 2 hts g_X16_endR_X16_opAR rfl rfl rfl (by decide +kernel) ⟨(Nat.le_of_ble_eq_true rfl), (Nat.le_of_ble_eq_true rfl)⟩) ⟨fun a U g mk q => by obtain ⟨q0, q1, qP, qK, qD, e0, e1, e2, e3, e4, e5, e6, e7, e8, e9, e10, e11, e12, e13, e14⟩ := q; exact ⟨q0, q1, qP, va_K.moved (u := U) (U := U.calling g mk a) (Vm.Alike.refl U.vm) qK, qD, vk_R.same (u := U) (U := U.calling g mk a) rfl e0, va_Z.moved (u := U) (U := U.calling g mk a) (Vm.Alike.refl U.vm) e1, vs_S.moved (u := U) (U := U.calling g mk a) (Vm.Alike.refl U.vm) e2, va_Nw.same rfl (u := U) (U := U.calling g mk a) rfl e3, vk_R.same (u := U) (U := U.calling g mk a) rfl e4, vs_S.moved (u := U) (U := U.calling g mk a) (Vm.Alike.refl U.vm) e5, vs_S.moved (u := U) (U := U.calling g mk a) (Vm.Alike.refl U.vm) e6, vk_R.same (u := U) (U := U.calling g mk a) rfl e7, vk_R.same (u := U) (U := U.calling g mk a) rfl e8, vs_S.moved (u := U) (U := U.calling g mk a) (Vm.Alike.refl U.vm) e9, vk_R.same (u := U) (U := U.calling g mk a) rfl e10, vs_S.moved (u := U) (U := U.calling g mk a) (Vm.Alike.refl U.vm) e11, e12, vx_Zq.moved (u := U) (U := U.calling g mk a) (Vm.Alike.refl U.vm) e13, vx_Zq.moved (u := U) (U := U.calling g mk a) (Vm.Alike.refl U.vm) e14⟩, va_recv hKc hPc (ci := 14) (q0 := 0) rfl rfl, fun U hU hW => ⟨rfl, by rw [hU], by rw [hU]; exact hPc, va_K.moved hW.alike hKc, hDc.weaken (fun _ _ _ _ => trivial), vk_R.warm hW hp11, va_Z.go hp3 hS hFc hU hW.alike, vs_S.go hp2 hS hFc hU hW.alike, va_Nw.warmC hW hp12, vk_R.warm hW hp13, vs_S.go hp14 hS hFc hU hW.alike, vs_S.go hp15 hS hFc hU hW.alike, vk_R.warm hW hp16, vk_R.warm hW hp17, vs_S.go hp18 hS hFc hU hW.alike, vk_R.warm hW hp19, vs_S.go hp20 hS hFc hU hW.alike, hU, vx_Zq.go hp8 hS hFc hU hW.alike, vx_Zq.go hp9 hS hFc hU hW.alike⟩⟩ rfl rfl hl.1 rfl (lv_room (Nat.le_of_ble_eq_true rfl)) dX16_end_134 ⟨(show (0 + kc_99) + ((z16_n - z0_91 + 20).toNat) ≤ (8 * (z16_n - z16_place) - TKW z16_kind (z16_at - z16_place) + 4 * z16_goalN + 160).toNat from (rmT (by omega) (by omega))), (show (0 + ks_100) + ((10 * (z16_n - z0_91) + 120).toNat) ≤ (45 * (z16_n - z16_place) - TKV z16_kind (z16_at - z16_place) + 16 * z16_goalN + 700).toNat from (rmT (by omega) (by omega)))⟩) hS (fun q _ h => hFc q h) hFc (fun q _ h => hFc q h) (fun E ce q9 u t H1 locs ht hvm _ hB hz1 hk1 hS hce hcv hcl => ?_) (fun  u t H1 locs ht hvm hw hB hz1 hk1 hS => ?_)
        · obtain ⟨rfl, zp_146, Ln_147, Pn_148, kc_149, ks_150, hxt_151, hP1, hD1⟩ := hB
          rw [ht] at hP1
          obtain ⟨hP, hD⟩ := va_joinP (X := [(q_gp, .inl (cI, mg, .inl (fun j : Nat => zI (a_gp (j : Int))))), (q_gs, .inl (cI, ng, .inl (fun j : Nat => zI (a_gs (j : Int))))), (h0, .inr (14, [.ref q_t, .int (zI (z16_n)), .int (zI (z0_91)), .int (zI (z1_92)), .int (zI (z2_93)), .int (zI (z3_94)), .int (zI (z4_95)), .ref q5_96, v16_8, v16_9, v16_10, .ref q_gp, .ref q_gs, .int (zI (z16_goalN))])), (q_t, .inl (cT, 8192, .inl (fun j : Nat => zI (a_t (j : Int)))))]) (cx := [(h0, .inr (14, [.ref q_t, .int (zI (z16_n)), .int (zI (z0_91)), .int (zI (z1_92)), .int (zI (z2_93)), .int (zI (z3_94)), .int (zI (z4_95)), .ref q5_96, v16_8, v16_9, v16_10, .ref q_gp, .ref q_gs, .int (zI (z16_goalN))])), (q_t, .inl (cT, 8192, .inl (fun j : Nat => zI (a_t (j : Int)))))]) (wr := [(q_gp, .inl (cI, mg, .inl (fun j : Nat => zI (a_gp (j : Int))))), (q_gs, .inl (cI, ng, .inl (fun j : Nat => zI (a_gs (j : Int)))))]) (rx := [(q_t, .inl (cT, 8192, .inl (fun j : Nat => zI (a_t (j : Int))))), (q9, .inr (15, [.null, .null, .null, .null, .null, .int 0, .int (zI (zp_146))]))]) (pl := va_pl Ln_97 (pE Pw_126)) (pl1 := va_pl Ln_147 (pE Pn_148)) hP hD [2, 3] [0, 1] rfl rfl (by decide) (by decide) hk1 hFc hP1 hD1
          have hrmC := hxt_151.1.1
          rw [ht] at hrmC
          refine vx_tightS (hrmA.trans hrmC) ?_
          have hrb := hxt_151.1.2
          generalize H1 = H at hP hS hce ⊢
          have hP : va_P (dC, dI) vwQ ([(q_gp, .inl (cI, mg, .inl (fun j : Nat => zI (a_gp (j : Int))))), (q_gs, .inl (cI, ng, .inl (fun j : Nat => zI (a_gs (j : Int))))), (q_t, .inl (cT, 8192, .inl (fun j : Nat => zI (a_t (j : Int))))), (q9, .inr (15, [.null, .null, .null, .null, .null, .int 0, .int (zI (zp_146))]))] ++ va_pl Ln_147 (pE Pn_148)) H := hP
          have hD : va_D A ([(q_gp, .inl (cI, mg, .inl (fun j : Nat => zI (a_gp (j : Int))))), (q_gs, .inl (cI, ng, .inl (fun j : Nat => zI (a_gs (j : Int))))), (q_t, .inl (cT, 8192, .inl (fun j : Nat => zI (a_t (j : Int))))), (q9, .inr (15, [.null, .null, .null, .null, .null, .int 0, .int (zI (zp_146))]))] ++ va_pl Ln_147 (pE Pn_148)) := hD
          have hzp : 0 ≤ zp_146 ∧ zp_146 ≤ 8192 := hxt_151.2.1
          subst hQ
          have hP := hP.part (X := [(q_gp, .inl (cI, mg, .inl (fun j : Nat => zI (a_gp (j : Int))))), (q_gs, .inl (cI, ng, .inl (fun j : Nat => zI (a_gs (j : Int))))), (q_t, .inl (cT, 8192, .inl (fun j : Nat => zI (a_t (j : Int))))), (q9, .inr (15, [.null, .null, .null, .null, .null, .int 0, .int (zI (zp_146))]))]) (cx := [(q_t, .inl (cT, 8192, .inl (fun j : Nat => zI (a_t (j : Int))))), (q9, .inr (15, [.null, .null, .null, .null, .null, .int 0, .int (zI (zp_146))]))]) (pl := va_pl Ln_147 (pE Pn_148)) [2, 3] rfl
          have hD := hD.part (X := [(q_gp, .inl (cI, mg, .inl (fun j : Nat => zI (a_gp (j : Int))))), (q_gs, .inl (cI, ng, .inl (fun j : Nat => zI (a_gs (j : Int))))), (q_t, .inl (cT, 8192, .inl (fun j : Nat => zI (a_t (j : Int))))), (q9, .inr (15, [.null, .null, .null, .null, .null, .int 0, .int (zI (zp_146))]))]) (cx := [(q_t, .inl (cT, 8192, .inl (fun j : Nat => zI (a_t (j : Int))))), (q9, .inr (15, [.null, .null, .null, .null, .null, .int 0, .int (zI (zp_146))]))]) (pl := va_pl Ln_147 (pE Pn_148)) [2, 3] (by decide) rfl
          refine vx_knowS (fun hrm9 => ?_)
          refine vx_widen (k := ((8 * (z16_n - z16_place) - TKW z16_kind (z16_at - z16_place) + 4 * z16_goalN + 160).toNat)) (n := ((45 * (z16_n - z16_place) - TKV z16_kind (z16_at - z16_place) + 16 * z16_goalN + 700).toNat)) (rmW (by omega)) (rmW (by omega)) ?_
          exact vx_out (fun x9 h9 => (hnt x9 h9).elim) hlocks hce hcv hcl (fun t ht hvm => ⟨(), trivial, ⟨rfl, zp_146, Ln_147, Pn_148, ((0 + kc_99) + kc_149), ((0 + ks_100) + ks_150), ⟨⟨(by rw [ht, ← hp10]; exact hrm9), (by omega)⟩, ⟨(by omega), ⟨hA_139.trans hxt_151.2.2.1, hxt_151.2.2.2.1, (hcx_143.cpa hg00.owa (fun z _ q => by rcases (show z = xb ∨ z = P.be xb from q) with q | q; rw [q, hX_bk]; decide; rw [q, (hg00.gb hX_b hX_bk).1.2.1]; decide)).trans hA_139 hxt_151.2.2.2.2.1, hnx_145.trans hxt_151.2.2.2.2.2⟩⟩⟩, by rw [ht]; exact hP, hD⟩, hS.F ht⟩) hS.2.2 (Nat.le_refl _) (Nat.le_refl _)
        obtain ⟨z0_152, z1_153, z2_154, z3_155, z4_156, q5_157, Ln_158, Pn_159, kc_160, ks_161, hxt_161, hP1, hK1, hD1⟩ := hB
        rw [ht] at hP1
        have hK1 := va_K.moved hvm.symm hK1
        obtain ⟨hP, hD⟩ := va_joinP (X := [(q_gp, .inl (cI, mg, .inl (fun j : Nat => zI (a_gp (j : Int))))), (q_gs, .inl (cI, ng, .inl (fun j : Nat => zI (a_gs (j : Int))))), (h0, .inr (14, [.ref q_t, .int (zI (z16_n)), .int (zI (z0_91)), .int (zI (z1_92)), .int (zI (z2_93)), .int (zI (z3_94)), .int (zI (z4_95)), .ref q5_96, v16_8, v16_9, v16_10, .ref q_gp, .ref q_gs, .int (zI (z16_goalN))])), (q_t, .inl (cT, 8192, .inl (fun j : Nat => zI (a_t (j : Int)))))]) (cx := [(h0, .inr (14, [.ref q_t, .int (zI (z16_n)), .int (zI (z0_91)), .int (zI (z1_92)), .int (zI (z2_93)), .int (zI (z3_94)), .int (zI (z4_95)), .ref q5_96, v16_8, v16_9, v16_10, .ref q_gp, .ref q_gs, .int (zI (z16_goalN))])), (q_t, .inl (cT, 8192, .inl (fun j : Nat => zI (a_t (j : Int)))))]) (wr := [(q_gp, .inl (cI, mg, .inl (fun j : Nat => zI (a_gp (j : Int))))), (q_gs, .inl (cI, ng, .inl (fun j : Nat => zI (a_gs (j : Int)))))]) (rx := [(h0, .inr (14, [.ref q_t, .int (zI (z16_n)), .int (zI (z0_152)), .int (zI (z1_153)), .int (zI (z2_154)), .int (zI (z3_155)), .int (zI (z4_156)), .ref q5_157, v16_8, v16_9, v16_10, .ref q_gp, .ref q_gs, .int (zI (z16_goalN))])), (q_t, .inl (cT, 8192, .inl (fun j : Nat => zI (a_t (j : Int)))))]) (pl := va_pl Ln_97 (pE Pw_126)) (pl1 := va_pl Ln_158 (pE Pn_159)) hP hD [2, 3] [0, 1] rfl rfl (by decide) (by decide) hk1 hFc hP1 hD1
        have hK := (hK.sub (tys' := [(cI, .int)]) [0] rfl).app hK1
        have hrmC := hxt_161.1.1
        rw [ht] at hrmC
        refine W_tightS (hrmA.trans hrmC) ?_
        have hrb := hxt_161.1.2
        generalize H1 = H at hP hS ⊢
        have hP : va_P (dC, dI) vwQ ([(q_gp, .inl (cI, mg, .inl (fun j : Nat => zI (a_gp (j : Int))))), (q_gs, .inl (cI, ng, .inl (fun j : Nat => zI (a_gs (j : Int))))), (h0, .inr (14, [.ref q_t, .int (zI (z16_n)), .int (zI (z0_152)), .int (zI (z1_153)), .int (zI (z2_154)), .int (zI (z3_155)), .int (zI (z4_156)), .ref q5_157, v16_8, v16_9, v16_10, .ref q_gp, .ref q_gs, .int (zI (z16_goalN))])), (q_t, .inl (cT, 8192, .inl (fun j : Nat => zI (a_t (j : Int)))))] ++ va_pl Ln_158 (pE Pn_159)) H := hP
        have hD : va_D A ([(q_gp, .inl (cI, mg, .inl (fun j : Nat => zI (a_gp (j : Int))))), (q_gs, .inl (cI, ng, .inl (fun j : Nat => zI (a_gs (j : Int))))), (h0, .inr (14, [.ref q_t, .int (zI (z16_n)), .int (zI (z0_152)), .int (zI (z1_153)), .int (zI (z2_154)), .int (zI (z3_155)), .int (zI (z4_156)), .ref q5_157, v16_8, v16_9, v16_10, .ref q_gp, .ref q_gs, .int (zI (z16_goalN))])), (q_t, .inl (cT, 8192, .inl (fun j : Nat => zI (a_t (j : Int)))))] ++ va_pl Ln_158 (pE Pn_159)) := hD
        have hK : va_K (dC, dI) vwQ [(cI, .int), (cT, .byte), (cO, .object "java/lang/Object"), (cI, .int), (cZ, .boolean)] s := hK
        refine W.widen (k := ((0 + kc_99) + kc_160)) (n := ((0 + ks_100) + ks_161)) (by omega) (by omega) ?_
        obtain ⟨rk_162, rk_163, rk_164, rk_165, rk_166, hu_166⟩ := hxt_161.2
        have htk_167 := hu_166.2.2.2.2.1.2
        have hrg_167 := hu_166.2.2.2.2.1.1
        have htq_167 := htk_167.1
        have hu_168 := HID.mk (hu_166)
        replace hu_166 := HID.mk hu_166
        replace hxt_161 := HID.mk hxt_161
        have hsm_169 := (hu_168.2.2.2.1 xb hq_136.1 (fun e9 => absurd e9 (kd_ne hq_136.2 hq_137.2 (by decide)))).2
        have : Pn_159.bf xb = Pw_126.bf xb := hsm_169.1 0
        have : Pn_159.bs xb = Pw_126.bs xb := hsm_169.1 1
        have hoc9 := hu_168.2.2.1.2
        have hoq9 : OPQ (Pn_159.rA pr_2) (Pn_159.ra pr_2) := hu_168.2.2.1.1
        have hgo9 := hkd_111.go (by omega)
        have hkd_170 := hu_168.2.2.2.2.2.1
        have hX_kv := hkd_170.2
        have hq_171 : HID (la ∈ Ln_158 ∧ Pn_159.kd la = 30) := hu_168.1.mem hq_135.1 hq_135.2 (by decide)
        have hq_172 : HID (xb ∈ Ln_158 ∧ Pn_159.kd xb = 12) := hu_168.1.mem hq_136.1 hq_136.2 (by decide)
        have hq_173 : HID (pr_2 ∈ Ln_158 ∧ Pn_159.kd pr_2 = 17) := hu_168.1.mem hq_137.1 hq_137.2 (by decide)
        have ha_174 : HID (Pn_159.be xb = pr_2) := hu_168.1.be hq_136.1 hq_136.2 ha_138.out
        have hA_175 : KEG [] L P Ln_158 Pn_159 := hA_139.trans hu_168.1
        have : Pn_159.lz la = Pw_126.lz la := (hu_168.2.2.2.1 la hq_135.1 (fun e9 => absurd e9 (kd_ne hq_135.2 hq_137.2 (by decide)))).2.1 0
        have hek_176 : HID (Pn_159.ek la = 12) := (by rw [hu_168.1.ek hq_135.1 hq_135.2 (by decide)]; exact hek_140.out)
        have how_177 : HID (Pn_159.ow la = la) := ((hu_168.1.1 la hq_135.1 (by rw [hq_135.2]; decide)).2.2.2.1 hq_135.2 how_141.out).1
        have hcz := (((hu_168.1.1 la hq_135.1 (by rw [hq_135.2]; decide)).2.2.2.1 hq_135.2 how_141.out).2 (by simp)).1
        have hE_178 : HID (Pn_159.ek pr_2 = 1) := (by rw [hu_168.1.ek hq_137.1 hq_137.2 (by decide)]; exact hE_142.out)
        have hX_tx := hu_168.2.2.2.2.2.2.1
        have hxk9 := hu_168.2.2.2.2.2.2.2
        have hcx_179 : CHG (fun z => z = xb ∨ z = P.be xb) L P Ln_158 Pn_159 := hcx_143.trans hu_168.2.2.2.1 (fun z m q => Or.inr (q.trans epr_2))
        have hnn_167 := TKV.nn (k := z1_153) (d := z0_152 - z2_154) (by omega)
        have hnx_180 : NTX L P Ln_158 Pn_159 := hnx_145.trans hu_168.2.2.1.2.2.2.2.2.2.2.2.2.2
        have hri_181 : ((((0 + ks_100) + ks_161) : Nat) : Int) ≤ 45 * (z2_154 - z16_place) - TKV z16_kind (z16_at - z16_place) + TKV (z1_153) (z0_152 - z2_154) - 10 ∧ ((((0 + kc_99) + kc_160) : Nat) : Int) ≤ 8 * (z2_154 - z16_place) - TKW z16_kind (z16_at - z16_place) + TKW (z1_153) (z0_152 - z2_154) - 3 := (by omega)
        clear hrb hri_124
        skip
        have hoa9 := hoq9
        refine lv_goto (tgt := 145) hx hb dX16_end_137 (by decide) ?_
        subst hQ
        have hP := hP.part (X := [(q_gp, .inl (cI, mg, .inl (fun j : Nat => zI (a_gp (j : Int))))), (q_gs, .inl (cI, ng, .inl (fun j : Nat => zI (a_gs (j : Int))))), (h0, .inr (14, [.ref q_t, .int (zI (z16_n)), .int (zI (z0_152)), .int (zI (z1_153)), .int (zI (z2_154)), .int (zI (z3_155)), .int (zI (z4_156)), .ref q5_157, v16_8, v16_9, v16_10, .ref q_gp, .ref q_gs, .int (zI (z16_goalN))])), (q_t, .inl (cT, 8192, .inl (fun j : Nat => zI (a_t (j : Int)))))]) (cx := [(h0, .inr (14, [.ref q_t, .int (zI (z16_n)), .int (zI (z0_152)), .int (zI (z1_153)), .int (zI (z2_154)), .int (zI (z3_155)), .int (zI (z4_156)), .ref q5_157, v16_8, v16_9, v16_10, .ref q_gp, .ref q_gs, .int (zI (z16_goalN))])), (q_t, .inl (cT, 8192, .inl (fun j : Nat => zI (a_t (j : Int))))), (q_gp, .inl (cI, mg, .inl (fun j : Nat => zI (a_gp (j : Int))))), (q_gs, .inl (cI, ng, .inl (fun j : Nat => zI (a_gs (j : Int)))))]) (pl := va_pl Ln_158 (pE Pn_159)) [2, 3, 0, 1] rfl
        have hD := hD.part (X := [(q_gp, .inl (cI, mg, .inl (fun j : Nat => zI (a_gp (j : Int))))), (q_gs, .inl (cI, ng, .inl (fun j : Nat => zI (a_gs (j : Int))))), (h0, .inr (14, [.ref q_t, .int (zI (z16_n)), .int (zI (z0_152)), .int (zI (z1_153)), .int (zI (z2_154)), .int (zI (z3_155)), .int (zI (z4_156)), .ref q5_157, v16_8, v16_9, v16_10, .ref q_gp, .ref q_gs, .int (zI (z16_goalN))])), (q_t, .inl (cT, 8192, .inl (fun j : Nat => zI (a_t (j : Int)))))]) (cx := [(h0, .inr (14, [.ref q_t, .int (zI (z16_n)), .int (zI (z0_152)), .int (zI (z1_153)), .int (zI (z2_154)), .int (zI (z3_155)), .int (zI (z4_156)), .ref q5_157, v16_8, v16_9, v16_10, .ref q_gp, .ref q_gs, .int (zI (z16_goalN))])), (q_t, .inl (cT, 8192, .inl (fun j : Nat => zI (a_t (j : Int))))), (q_gp, .inl (cI, mg, .inl (fun j : Nat => zI (a_gp (j : Int))))), (q_gs, .inl (cI, ng, .inl (fun j : Nat => zI (a_gs (j : Int)))))]) (pl := va_pl Ln_158 (pE Pn_159)) [2, 3, 0, 1] (by decide) rfl
        have hK := hK.sub (tys' := [(cT, .byte), (cI, .int), (cO, .object "java/lang/Object"), (cZ, .boolean)]) [1, 0, 2, 4] rfl
        refine W_knowS (fun hrm9 => ?_)
        refine W.widen (k := ((8 * (z16_n - z16_place) - TKW z16_kind (z16_at - z16_place) + 4 * z16_goalN + 160).toNat)) (n := ((45 * (z16_n - z16_place) - TKV z16_kind (z16_at - z16_place) + 16 * z16_goalN + 700).toNat)) (rmW (by omega)) (rmW (by omega)) ?_
        refine vx_ret ?_
        exact W.vret hx hb hr (fun t ht hW => ⟨⟨(), rfl, trivial, z0_152, z1_153, z2_154, z3_155, z4_156, q5_157, z16_goalN, q_gp, mg, a_gp, q_gs, ng, a_gs, Ln_158, Pn_159, ((0 + kc_99) + kc_160), ((0 + ks_100) + ks_161), ⟨⟨(by rw [ht, ← hp10]; exact hrm9), (by omega)⟩, ⟨(by omega), (by omega), (by omega), (by omega), (by omega), (by omega), hR_a_gp, hR_a_gs, ⟨hA_175, hu_168.2.1, ⟨⟨(hkd_170.mono (by omega)).ms (by omega) (by omega) (by omega), by omega⟩, hnx_180⟩, hcx_179, ⟨by omega, by omega, by omega, by omega, by omega, by omega, by omega, (by unfold GRW; omega)⟩, (fun _ _ _ => rfl), (Or.inl (by omega)), (Or.inl (by omega)), (by rw [← epr_2]; exact ⟨by omega, by omega, (by first | exact OPQ.z (by omega) | exact hoa9.to (by omega) (by omega))⟩), ⟨⟨by omega, by omega, by omega⟩, htk_167⟩, hkd_170.mono (by omega), hX_tx⟩⟩⟩, by rw [ht]; exact hP, va_K.moved hW.alike hK, hD⟩, hS.F ht⟩) hS.2.2 dX16_end_145
    · have yb74 : ¬ (z_85 : Int) = (0 : Int) := fun q => b74 ((zI_eq (a := z_85) (b := 0) (by omega) (by omega) (by omega) (by omega)).mpr q)
      have hni9 := TKQ.is hX_tn (hzz_85.2.2.2 (by omega))
      have hni8 := hX_tn.2.2.2 (by omega)
      skip
      refine lv_aload_n hx hb dX16_end_77 rfl (lv_at hl 1 rfl) ?_
      have hPc := hP.part (X := [(q_gp, .inl (cI, mg, .inl (fun j : Nat => zI (a_gp (j : Int))))), (q_gs, .inl (cI, ng, .inl (fun j : Nat => zI (a_gs (j : Int))))), (h0, .inr (14, [.ref q_t, .int (zI (z16_n)), .int (zI (z16_at)), .int (zI (z16_kind)), .int (zI (z16_place)), .int (zI (z16_value)), .int (zI (z16_before)), .ref tx9, v16_8, v16_9, v16_10, .ref q_gp, .ref q_gs, .int (zI (z16_goalN))])), (q_t, .inl (cT, 8192, .inl (fun j : Nat => zI (a_t (j : Int)))))]) (cx := [(h0, .inr (14, [.ref q_t, .int (zI (z16_n)), .int (zI (z16_at)), .int (zI (z16_kind)), .int (zI (z16_place)), .int (zI (z16_value)), .int (zI (z16_before)), .ref tx9, v16_8, v16_9, v16_10, .ref q_gp, .ref q_gs, .int (zI (z16_goalN))])), (q_t, .inl (cT, 8192, .inl (fun j : Nat => zI (a_t (j : Int)))))]) (pl := va_pl L (pE Pw_60)) [2, 3] rfl
      have hDc := hD.part (X := [(q_gp, .inl (cI, mg, .inl (fun j : Nat => zI (a_gp (j : Int))))), (q_gs, .inl (cI, ng, .inl (fun j : Nat => zI (a_gs (j : Int))))), (h0, .inr (14, [.ref q_t, .int (zI (z16_n)), .int (zI (z16_at)), .int (zI (z16_kind)), .int (zI (z16_place)), .int (zI (z16_value)), .int (zI (z16_before)), .ref tx9, v16_8, v16_9, v16_10, .ref q_gp, .ref q_gs, .int (zI (z16_goalN))])), (q_t, .inl (cT, 8192, .inl (fun j : Nat => zI (a_t (j : Int)))))]) (cx := [(h0, .inr (14, [.ref q_t, .int (zI (z16_n)), .int (zI (z16_at)), .int (zI (z16_kind)), .int (zI (z16_place)), .int (zI (z16_value)), .int (zI (z16_before)), .ref tx9, v16_8, v16_9, v16_10, .ref q_gp, .ref q_gs, .int (zI (z16_goalN))])), (q_t, .inl (cT, 8192, .inl (fun j : Nat => zI (a_t (j : Int)))))]) (pl := va_pl L (pE Pw_60)) [2, 3] (by decide) rfl
      have hKc := hK.sub (tys' := [(cT, .byte)]) [3] rfl
      have hFc := va_freeP (X := [(q_gp, .inl (cI, mg, .inl (fun j : Nat => zI (a_gp (j : Int))))), (q_gs, .inl (cI, ng, .inl (fun j : Nat => zI (a_gs (j : Int))))), (h0, .inr (14, [.ref q_t, .int (zI (z16_n)), .int (zI (z16_at)), .int (zI (z16_kind)), .int (zI (z16_place)), .int (zI (z16_value)), .int (zI (z16_before)), .ref tx9, v16_8, v16_9, v16_10, .ref q_gp, .ref q_gs, .int (zI (z16_goalN))])), (q_t, .inl (cT, 8192, .inl (fun j : Nat => zI (a_t (j : Int)))))]) (cx := [(h0, .inr (14, [.ref q_t, .int (zI (z16_n)), .int (zI (z16_at)), .int (zI (z16_kind)), .int (zI (z16_place)), .int (zI (z16_value)), .int (zI (z16_before)), .ref tx9, v16_8, v16_9, v16_10, .ref q_gp, .ref q_gs, .int (zI (z16_goalN))])), (q_t, .inl (cT, 8192, .inl (fun j : Nat => zI (a_t (j : Int)))))]) (pl := va_pl L (pE Pw_60)) hD hS hA [2, 3] rfl
      refine W_knowS (fun hrmA => ?_)
      refine va_callv (va_runV (As := []) (rest := []) ⟨hx, hb, hml, hown, hts⟩ (c_X16_nextK l dC dI h0 z16_n z16_at z16_kind z16_place z16_value z16_before (.ref tx9) v16_8 v16_9 v16_10 (.ref q_gp) (.ref q_gs) (.int (zI (z16_goalN))) q_t cT a_t L Pw_60 sa_RX16_9 (by omega) (by omega) (by omega) (by omega) (by omega) (by omega) hR_a_t (by omega) H.size sa_RX16_9 H sv_RX16_9 sa_RX16_119 sv_RX16_119 sa_RX16_100 sv_RX16_100 sa_RX16_117 sa_RX16_100 sv_RX16_117 sa_RX16_98 sv_RX16_98) (cwV 0 hts g_X16_endR_X16_nextK rfl rfl rfl (by decide +kernel) ⟨(Nat.le_of_ble_eq_true rfl), (Nat.le_of_ble_eq_true rfl)⟩) ⟨fun a U g mk q => by obtain ⟨q0, q1, qP, qK, qD, e0, e1, e2, e3, e4, e5, e6, e7, e8, e9, e10, e11, e12⟩ := q; exact ⟨q0, q1, qP, va_K.moved (u := U) (U := U.calling g mk a) (Vm.Alike.refl U.vm) qK, qD, vk_R.same (u := U) (U := U.calling g mk a) rfl e0, e1, va_Z.moved (u := U) (U := U.calling g mk a) (Vm.Alike.refl U.vm) e2, vs_S.moved (u := U) (U := U.calling g mk a) (Vm.Alike.refl U.vm) e3, va_Nw.same rfl (u := U) (U := U.calling g mk a) rfl e4, vk_R.same (u := U) (U := U.calling g mk a) rfl e5, vs_S.moved (u := U) (U := U.calling g mk a) (Vm.Alike.refl U.vm) e6, vs_S.moved (u := U) (U := U.calling g mk a) (Vm.Alike.refl U.vm) e7, vk_R.same (u := U) (U := U.calling g mk a) rfl e8, vk_R.same (u := U) (U := U.calling g mk a) rfl e9, vs_S.moved (u := U) (U := U.calling g mk a) (Vm.Alike.refl U.vm) e10, vk_R.same (u := U) (U := U.calling g mk a) rfl e11, vs_S.moved (u := U) (U := U.calling g mk a) (Vm.Alike.refl U.vm) e12⟩, va_recv hKc hPc (ci := 14) (q0 := 0) rfl rfl, fun U hU hW => ⟨rfl, by rw [hU], by rw [hU]; exact hPc, va_K.moved hW.alike hKc, hDc.weaken (fun _ _ _ _ => trivial), vk_R.warm hW hp11, hU, va_Z.go hp3 hS hFc hU hW.alike, vs_S.go hp2 hS hFc hU hW.alike, va_Nw.warmC hW hp12, vk_R.warm hW hp13, vs_S.go hp14 hS hFc hU hW.alike, vs_S.go hp15 hS hFc hU hW.alike, vk_R.warm hW hp16, vk_R.warm hW hp17, vs_S.go hp18 hS hFc hU hW.alike, vk_R.warm hW hp19, vs_S.go hp20 hS hFc hU hW.alike⟩⟩ rfl rfl hl.1 rfl (lv_room (Nat.le_of_ble_eq_true rfl)) dX16_end_78 ⟨(show 0 + ((z16_n - z16_at + 20).toNat) ≤ (8 * (z16_n - z16_place) - TKW z16_kind (z16_at - z16_place) + 4 * z16_goalN + 160).toNat from (rmT (by omega) (by omega))), (show 0 + ((10 * (z16_n - z16_at) + 120).toNat) ≤ (45 * (z16_n - z16_place) - TKV z16_kind (z16_at - z16_place) + 16 * z16_goalN + 700).toNat from (rmT (by omega) (by omega)))⟩) hS (fun q _ h => hFc q h) hFc (fun  u t H1 locs ht hvm hw hB hz1 hk1 hS => ?_)
      obtain ⟨z0_182, z1_183, z2_184, z3_185, z4_186, q5_187, Ln_188, Pn_189, kc_190, ks_191, hxt_191, hP1, hK1, hD1⟩ := hB
      rw [ht] at hP1
      have hK1 := va_K.moved hvm.symm hK1
      obtain ⟨hP, hD⟩ := va_joinP (X := [(q_gp, .inl (cI, mg, .inl (fun j : Nat => zI (a_gp (j : Int))))), (q_gs, .inl (cI, ng, .inl (fun j : Nat => zI (a_gs (j : Int))))), (h0, .inr (14, [.ref q_t, .int (zI (z16_n)), .int (zI (z16_at)), .int (zI (z16_kind)), .int (zI (z16_place)), .int (zI (z16_value)), .int (zI (z16_before)), .ref tx9, v16_8, v16_9, v16_10, .ref q_gp, .ref q_gs, .int (zI (z16_goalN))])), (q_t, .inl (cT, 8192, .inl (fun j : Nat => zI (a_t (j : Int)))))]) (cx := [(h0, .inr (14, [.ref q_t, .int (zI (z16_n)), .int (zI (z16_at)), .int (zI (z16_kind)), .int (zI (z16_place)), .int (zI (z16_value)), .int (zI (z16_before)), .ref tx9, v16_8, v16_9, v16_10, .ref q_gp, .ref q_gs, .int (zI (z16_goalN))])), (q_t, .inl (cT, 8192, .inl (fun j : Nat => zI (a_t (j : Int)))))]) (wr := [(q_gp, .inl (cI, mg, .inl (fun j : Nat => zI (a_gp (j : Int))))), (q_gs, .inl (cI, ng, .inl (fun j : Nat => zI (a_gs (j : Int)))))]) (rx := [(h0, .inr (14, [.ref q_t, .int (zI (z16_n)), .int (zI (z0_182)), .int (zI (z1_183)), .int (zI (z2_184)), .int (zI (z3_185)), .int (zI (z4_186)), .ref q5_187, v16_8, v16_9, v16_10, .ref q_gp, .ref q_gs, .int (zI (z16_goalN))])), (q_t, .inl (cT, 8192, .inl (fun j : Nat => zI (a_t (j : Int)))))]) (pl := va_pl L (pE Pw_60)) (pl1 := va_pl Ln_188 (pE Pn_189)) hP hD [2, 3] [0, 1] rfl rfl (by decide) (by decide) hk1 hFc hP1 hD1
      have hK := (hK.sub (tys' := [(cI, .int), (cO, .object "java/lang/Object"), (cZ, .boolean)]) [0, 1, 2] rfl).app hK1
      have hrmC := hxt_191.1.1
      rw [ht] at hrmC
      refine W_tightS (hrmA.trans hrmC) ?_
      have hrb := hxt_191.1.2
      generalize H1 = H at hP hS ⊢
      have hP : va_P (dC, dI) vwQ ([(q_gp, .inl (cI, mg, .inl (fun j : Nat => zI (a_gp (j : Int))))), (q_gs, .inl (cI, ng, .inl (fun j : Nat => zI (a_gs (j : Int))))), (h0, .inr (14, [.ref q_t, .int (zI (z16_n)), .int (zI (z0_182)), .int (zI (z1_183)), .int (zI (z2_184)), .int (zI (z3_185)), .int (zI (z4_186)), .ref q5_187, v16_8, v16_9, v16_10, .ref q_gp, .ref q_gs, .int (zI (z16_goalN))])), (q_t, .inl (cT, 8192, .inl (fun j : Nat => zI (a_t (j : Int)))))] ++ va_pl Ln_188 (pE Pn_189)) H := hP
      have hD : va_D A ([(q_gp, .inl (cI, mg, .inl (fun j : Nat => zI (a_gp (j : Int))))), (q_gs, .inl (cI, ng, .inl (fun j : Nat => zI (a_gs (j : Int))))), (h0, .inr (14, [.ref q_t, .int (zI (z16_n)), .int (zI (z0_182)), .int (zI (z1_183)), .int (zI (z2_184)), .int (zI (z3_185)), .int (zI (z4_186)), .ref q5_187, v16_8, v16_9, v16_10, .ref q_gp, .ref q_gs, .int (zI (z16_goalN))])), (q_t, .inl (cT, 8192, .inl (fun j : Nat => zI (a_t (j : Int)))))] ++ va_pl Ln_188 (pE Pn_189)) := hD
      have hK : va_K (dC, dI) vwQ [(cI, .int), (cO, .object "java/lang/Object"), (cZ, .boolean), (cT, .byte)] s := hK
      refine W.widen (k := (0 + kc_190)) (n := (0 + ks_191)) (by omega) (by omega) ?_
      obtain ⟨rk_192, rk_193, rk_194, rk_195, rk_196, hu_196⟩ := hxt_191.2
      have htk_197 := hu_196.1.2
      have hrg_197 := hu_196.1.1
      have htq_197 := htk_197.1
      have hkd_202 := hu_196.2.1
      have hX_kv := hkd_202.2
      have hu_198 := hu_196.2.2
      have hex_199 : EXT9 L Pw_60 Ln_188 Pn_189 := hu_198.1
      have hke_200 : KEG [] L Pw_60 Ln_188 Pn_189 := hex_199.kegR hak_67
      have hak_201 : GLR Ln_188 Pn_189 cO cI cZ sx_ed := hak_67.txt hex_199 hu_198.2.1
      have hsm_203 := (hex_199 xb hq_70.1).2
      have : Pn_189.bf xb = Pw_60.bf xb := hsm_203.1 0
      have : Pn_189.bs xb = Pw_60.bs xb := hsm_203.1 1
      have hsm_204 := (hex_199 pr_2 hq_71.1).2
      have : Pn_189.ro pr_2 = Pw_60.ro pr_2 := hsm_204.1 0
      have : Pn_189.rt pr_2 = Pw_60.rt pr_2 := hsm_204.1 1
      have : Pn_189.ra pr_2 = Pw_60.ra pr_2 := hsm_204.1 2
      have : Pn_189.rb pr_2 = Pw_60.rb pr_2 := hsm_204.1 3
      have : Pn_189.rA pr_2 = Pw_60.rA pr_2 := hsm_204.1 4
      have : Pn_189.rB pr_2 = Pw_60.rB pr_2 := hsm_204.1 5
      have : Pn_189.rg pr_2 = Pw_60.rg pr_2 := hsm_204.1 6
      have : Pn_189.ek pr_2 = Pw_60.ek pr_2 := hsm_204.2.1 8
      have hq_205 : HID (la ∈ Ln_188 ∧ Pn_189.kd la = 30) := hke_200.mem hq_69.1 hq_69.2 (by decide)
      have hq_206 : HID (xb ∈ Ln_188 ∧ Pn_189.kd xb = 12) := hke_200.mem hq_70.1 hq_70.2 (by decide)
      have hq_207 : HID (pr_2 ∈ Ln_188 ∧ Pn_189.kd pr_2 = 17) := hke_200.mem hq_71.1 hq_71.2 (by decide)
      have ha_208 : HID (Pn_189.be xb = pr_2) := hke_200.be hq_70.1 hq_70.2 ha_72.out
      have hA_209 : KEG [] L P Ln_188 Pn_189 := hA_73.trans hke_200
      have : Pn_189.lz la = Pw_60.lz la := (hex_199 la hq_69.1).2.1 0
      have hek_210 : HID (Pn_189.ek la = 12) := (by rw [hke_200.ek hq_69.1 hq_69.2 (by decide)]; exact hek_74.out)
      have how_211 : HID (Pn_189.ow la = la) := ((hke_200.1 la hq_69.1 (by rw [hq_69.2]; decide)).2.2.2.1 hq_69.2 how_75.out).1
      have hcz := (((hke_200.1 la hq_69.1 (by rw [hq_69.2]; decide)).2.2.2.1 hq_69.2 how_75.out).2 (by simp)).1
      have hE_212 : HID (Pn_189.ek pr_2 = 1) := (by rw [hke_200.ek hq_71.1 hq_71.2 (by decide)]; exact hE_76.out)
      have hX_tx := hu_198.2.2.1
      have hxk9 := hu_198.2.2.2
      have hcx_213 : CHG (fun z => z = xb ∨ z = P.be xb) L P Ln_188 Pn_189 := hcx_77.trans hex_199.chg (fun z m q => q.elim)
      have hnn_197 := TKV.nn (k := z1_183) (d := z0_182 - z2_184) (by omega)
      have hnx_214 : NTX L P Ln_188 Pn_189 := hnx_79.trans (NTX.ext hex_199 hu_198.2.1)
      have hri_215 : (((0 + ks_191) : Nat) : Int) ≤ 45 * (z2_184 - z16_place) - TKV z16_kind (z16_at - z16_place) + TKV (z1_183) (z0_182 - z2_184) + 35 ∧ (((0 + kc_190) : Nat) : Int) ≤ 8 * (z2_184 - z16_place) - TKW z16_kind (z16_at - z16_place) + TKW (z1_183) (z0_182 - z2_184) + 5 := (by omega)
      clear hrb
      skip
      refine lv_aload_n hx hb dX16_end_81 rfl (lv_at hl 0 rfl) ?_
      refine lv_bipush (v := 31) hx hb dX16_end_82 (by decide) ?_
      have hr7 := (hak_201.rokR hq_207.1 hq_207.2).n7
      refine lv_topi (fun z ez => ?_)
      obtain rfl : z = zI (31) := ez
      obtain ⟨kp_216, gkp_216⟩ := va_pl_get (X := [(q_gp, .inl (cI, mg, .inl (fun j : Nat => zI (a_gp (j : Int))))), (q_gs, .inl (cI, ng, .inl (fun j : Nat => zI (a_gs (j : Int))))), (h0, .inr (14, [.ref q_t, .int (zI (z16_n)), .int (zI (z0_182)), .int (zI (z1_183)), .int (zI (z2_184)), .int (zI (z3_185)), .int (zI (z4_186)), .ref q5_187, v16_8, v16_9, v16_10, .ref q_gp, .ref q_gs, .int (zI (z16_goalN))])), (q_t, .inl (cT, 8192, .inl (fun j : Nat => zI (a_t (j : Int)))))]) (f := pE Pn_189) hq_207.1
      have hkp_216 := gkp_216
      rw [pE_row hq_207.2] at hkp_216
      have hD0 := hD
      refine va_put (D := (dC, dI)) (ci := 21) (v := .int (zI (31))) (ty := .int) (C := RX17) (T := TX17) (N := 7) hx hb hts mem_X16_endR_1 tyX17 tyX17_ok nmX17 hown hK hP hD hS kp_216 hkp_216 rfl 0 (by decide) (ow (k := 16) rfl) (fun _ h9 => h9) rfl (by decide +kernel) rfl rfl (by first | exact Nat.le_of_ble_eq_true rfl | exact (show (0 + kc_190) ≤ (8 * (z16_n - z16_place) - TKW z16_kind (z16_at - z16_place) + 4 * z16_goalN + 160).toNat from (rmW (by omega))) | exact (show (0 + ks_191) ≤ (45 * (z16_n - z16_place) - TKV z16_kind (z16_at - z16_place) + 16 * z16_goalN + 700).toNat from (rmW (by omega)))) dX16_end_84 (fun H locs hP hD hS => ?_)
      obtain ⟨Pw_217, ePw_217⟩ : ∃ q9 : PO, q9 = Pn_189.rw9 0 pr_2 (31) := ⟨_, rfl⟩
      have eU : (([(q_gp, .inl (cI, mg, .inl (fun j : Nat => zI (a_gp (j : Int))))), (q_gs, .inl (cI, ng, .inl (fun j : Nat => zI (a_gs (j : Int))))), (h0, .inr (14, [.ref q_t, .int (zI (z16_n)), .int (zI (z0_182)), .int (zI (z1_183)), .int (zI (z2_184)), .int (zI (z3_185)), .int (zI (z4_186)), .ref q5_187, v16_8, v16_9, v16_10, .ref q_gp, .ref q_gs, .int (zI (z16_goalN))])), (q_t, .inl (cT, 8192, .inl (fun j : Nat => zI (a_t (j : Int)))))] : va_W) ++ va_pl Ln_188 (pE Pn_189)).set kp_216 (pr_2, rowE (31) (Pn_189.rt pr_2) (Pn_189.ra pr_2) (Pn_189.rb pr_2) (Pn_189.rA pr_2) (Pn_189.rB pr_2) (Pn_189.rg pr_2)) = ([(q_gp, .inl (cI, mg, .inl (fun j : Nat => zI (a_gp (j : Int))))), (q_gs, .inl (cI, ng, .inl (fun j : Nat => zI (a_gs (j : Int))))), (h0, .inr (14, [.ref q_t, .int (zI (z16_n)), .int (zI (z0_182)), .int (zI (z1_183)), .int (zI (z2_184)), .int (zI (z3_185)), .int (zI (z4_186)), .ref q5_187, v16_8, v16_9, v16_10, .ref q_gp, .ref q_gs, .int (zI (z16_goalN))])), (q_t, .inl (cT, 8192, .inl (fun j : Nat => zI (a_t (j : Int)))))] : va_W) ++ va_pl Ln_188 (pE Pw_217) := (by rw [va_pl_set hD0 hq_207.1 gkp_216, ePw_217]; exact congrArg (fun f9 => ([(q_gp, .inl (cI, mg, .inl (fun j : Nat => zI (a_gp (j : Int))))), (q_gs, .inl (cI, ng, .inl (fun j : Nat => zI (a_gs (j : Int))))), (h0, .inr (14, [.ref q_t, .int (zI (z16_n)), .int (zI (z0_182)), .int (zI (z1_183)), .int (zI (z2_184)), .int (zI (z3_185)), .int (zI (z4_186)), .ref q5_187, v16_8, v16_9, v16_10, .ref q_gp, .ref q_gs, .int (zI (z16_goalN))])), (q_t, .inl (cT, 8192, .inl (fun j : Nat => zI (a_t (j : Int)))))] : va_W) ++ va_pl Ln_188 f9) (put17_0 hq_207.2))
      have hP : va_P (dC, dI) vwQ ([(q_gp, .inl (cI, mg, .inl (fun j : Nat => zI (a_gp (j : Int))))), (q_gs, .inl (cI, ng, .inl (fun j : Nat => zI (a_gs (j : Int))))), (h0, .inr (14, [.ref q_t, .int (zI (z16_n)), .int (zI (z0_182)), .int (zI (z1_183)), .int (zI (z2_184)), .int (zI (z3_185)), .int (zI (z4_186)), .ref q5_187, v16_8, v16_9, v16_10, .ref q_gp, .ref q_gs, .int (zI (z16_goalN))])), (q_t, .inl (cT, 8192, .inl (fun j : Nat => zI (a_t (j : Int)))))] ++ va_pl Ln_188 (pE Pw_217)) H := (by rw [← eU]; exact hP)
      have hD : va_D A ([(q_gp, .inl (cI, mg, .inl (fun j : Nat => zI (a_gp (j : Int))))), (q_gs, .inl (cI, ng, .inl (fun j : Nat => zI (a_gs (j : Int))))), (h0, .inr (14, [.ref q_t, .int (zI (z16_n)), .int (zI (z0_182)), .int (zI (z1_183)), .int (zI (z2_184)), .int (zI (z3_185)), .int (zI (z4_186)), .ref q5_187, v16_8, v16_9, v16_10, .ref q_gp, .ref q_gs, .int (zI (z16_goalN))])), (q_t, .inl (cT, 8192, .inl (fun j : Nat => zI (a_t (j : Int)))))] ++ va_pl Ln_188 (pE Pw_217)) := (by rw [← eU]; exact hD)
      clear eU hD0 gkp_216 hkp_216
      have wPw_217 : RW1 pr_2 Pn_189 Pw_217 := (by rw [ePw_217]; exact RW1.put _ _ _ _)
      have hy_218 : Pw_217.kd la = 30 := (by rw [ePw_217]; exact hq_205.2)
      have hy_219 : Pw_217.kd xb = 12 := (by rw [ePw_217]; exact hq_206.2)
      have : Pw_217.bf xb = Pn_189.bf xb := wPw_217.2 _ (kd_ne hq_206.2 hq_207.2 (by decide)) _
      have : Pw_217.bs xb = Pn_189.bs xb := wPw_217.2 _ (kd_ne hq_206.2 hq_207.2 (by decide)) _
      have hy_220 : Pw_217.kd pr_2 = 17 := (by rw [ePw_217]; exact hq_207.2)
      have : Pw_217.ro pr_2 = 31 := (by rw [ePw_217]; exact rw9_at _ _ _ _)
      have : Pw_217.rt pr_2 = Pn_189.rt pr_2 := (by rw [ePw_217]; exact rw9_of _ (by decide))
      have : Pw_217.ra pr_2 = Pn_189.ra pr_2 := (by rw [ePw_217]; exact rw9_of _ (by decide))
      have : Pw_217.rb pr_2 = Pn_189.rb pr_2 := (by rw [ePw_217]; exact rw9_of _ (by decide))
      have : Pw_217.rA pr_2 = Pn_189.rA pr_2 := (by rw [ePw_217]; exact rw9_of _ (by decide))
      have : Pw_217.rB pr_2 = Pn_189.rB pr_2 := (by rw [ePw_217]; exact rw9_of _ (by decide))
      have : Pw_217.rg pr_2 = Pn_189.rg pr_2 := (by rw [ePw_217]; exact rw9_of _ (by decide))
      have : Pw_217.ek pr_2 = Pn_189.ek pr_2 := (by rw [ePw_217]; rfl)
      have ha_221 : HID (Pw_217.be xb = pr_2) := (by rw [ePw_217]; exact ha_208.out)
      have hW_222 : RW1 pr_2 Pn_189 Pw_217 := wPw_217
      have hrw_225 : RWD Pn_189 Pw_217 := hW_222.rwd (Or.inl hq_207.2)
      have hak_224 : GLR Ln_188 Pw_217 cO cI cZ sx_ed := hak_201.row hW_222 hq_207.2 (ROKR.of (by omega) (by omega) (by omega) (by omega) (by omega) (by omega) (by omega) (uaZR (by omega)) (ubGR (by omega))) (fun e9 => absurd hE_212.out e9)
      have hke_223 : KEG [] Ln_188 Pn_189 Ln_188 Pw_217 := hrw_225.kegR _ hq_205.2
      have hq_226 : HID (la ∈ Ln_188 ∧ Pw_217.kd la = 30) := hke_223.mem hq_205.1 hq_205.2 (by decide)
      have hq_227 : HID (xb ∈ Ln_188 ∧ Pw_217.kd xb = 12) := hke_223.mem hq_206.1 hq_206.2 (by decide)
      have hq_228 : HID (pr_2 ∈ Ln_188 ∧ Pw_217.kd pr_2 = 17) := hke_223.mem hq_207.1 hq_207.2 (by decide)
      have ha_229 : HID (Pw_217.be xb = pr_2) := hke_223.be hq_206.1 hq_206.2 ha_208.out
      have hA_230 : KEG [] L P Ln_188 Pw_217 := hA_209.trans hke_223
      have : Pw_217.lz la = Pn_189.lz la := hrw_225.lz hq_205.2
      have : Pw_217.cap la = Pn_189.cap la := hW_222.cap la
      have hek_231 : HID (Pw_217.ek la = 12) := (by rw [hke_223.ek hq_205.1 hq_205.2 (by decide)]; exact hek_210.out)
      have how_232 : HID (Pw_217.ow la = la) := ((hke_223.1 la hq_205.1 (by rw [hq_205.2]; decide)).2.2.2.1 hq_205.2 how_211.out).1
      have hcz := (((hke_223.1 la hq_205.1 (by rw [hq_205.2]; decide)).2.2.2.1 hq_205.2 how_211.out).2 (by simp)).1
      have hE_233 : HID (Pw_217.ek pr_2 = 1) := (by rw [hke_223.ek hq_207.1 hq_207.2 (by decide)]; exact hE_212.out)
      have hX_tx := hX_tx.rw1R hW_222 (Or.inl hq_207.2)
      have hcx_234 : CHG (fun z => z = xb ∨ z = P.be xb) L P Ln_188 Pw_217 := hcx_213.trans (hW_222.chg _) (fun z m q => Or.inr (q.trans epr_2))
      have hsm_235 := (hW_222.chg Ln_188 xb hq_227.1 (fun e9 => absurd e9 (kd_ne hq_227.2 hq_228.2 (by decide)))).2
      have : Pw_217.bf xb = Pn_189.bf xb := hsm_235.1 0
      have : Pw_217.bs xb = Pn_189.bs xb := hsm_235.1 1
      have hnx_236 : NTX L P Ln_188 Pw_217 := hnx_214.trans (NTX.put9 hW_222)
      refine lv_aload_n hx hb dX16_end_87 rfl (lv_at hl 1 rfl) ?_
      refine lv_aload_n hx hb dX16_end_88 rfl (lv_at hl 0 rfl) ?_
      refine lv_iconst (v := 0) hx hb dX16_end_89 (by decide) ?_
      have hX_tn := htk_197
      have hX_g := hak_224
      have hX_x := hq_228.1
      have hX_k := hq_228.2
      have hX_la := (show la ∈ Ln_188 ∧ Pw_217.kd la = 30 ∧ Pw_217.ek la = 12 ∧ Pw_217.ow la = la from ⟨hq_226.1, hq_226.2, hek_231.out, how_232.out⟩)
      have hPc := hP.part (X := [(q_gp, .inl (cI, mg, .inl (fun j : Nat => zI (a_gp (j : Int))))), (q_gs, .inl (cI, ng, .inl (fun j : Nat => zI (a_gs (j : Int))))), (h0, .inr (14, [.ref q_t, .int (zI (z16_n)), .int (zI (z0_182)), .int (zI (z1_183)), .int (zI (z2_184)), .int (zI (z3_185)), .int (zI (z4_186)), .ref q5_187, v16_8, v16_9, v16_10, .ref q_gp, .ref q_gs, .int (zI (z16_goalN))])), (q_t, .inl (cT, 8192, .inl (fun j : Nat => zI (a_t (j : Int)))))]) (cx := [(h0, .inr (14, [.ref q_t, .int (zI (z16_n)), .int (zI (z0_182)), .int (zI (z1_183)), .int (zI (z2_184)), .int (zI (z3_185)), .int (zI (z4_186)), .ref q5_187, v16_8, v16_9, v16_10, .ref q_gp, .ref q_gs, .int (zI (z16_goalN))])), (q_t, .inl (cT, 8192, .inl (fun j : Nat => zI (a_t (j : Int)))))]) (pl := va_pl Ln_188 (pE Pw_217)) [2, 3] rfl
      have hDc := hD.part (X := [(q_gp, .inl (cI, mg, .inl (fun j : Nat => zI (a_gp (j : Int))))), (q_gs, .inl (cI, ng, .inl (fun j : Nat => zI (a_gs (j : Int))))), (h0, .inr (14, [.ref q_t, .int (zI (z16_n)), .int (zI (z0_182)), .int (zI (z1_183)), .int (zI (z2_184)), .int (zI (z3_185)), .int (zI (z4_186)), .ref q5_187, v16_8, v16_9, v16_10, .ref q_gp, .ref q_gs, .int (zI (z16_goalN))])), (q_t, .inl (cT, 8192, .inl (fun j : Nat => zI (a_t (j : Int)))))]) (cx := [(h0, .inr (14, [.ref q_t, .int (zI (z16_n)), .int (zI (z0_182)), .int (zI (z1_183)), .int (zI (z2_184)), .int (zI (z3_185)), .int (zI (z4_186)), .ref q5_187, v16_8, v16_9, v16_10, .ref q_gp, .ref q_gs, .int (zI (z16_goalN))])), (q_t, .inl (cT, 8192, .inl (fun j : Nat => zI (a_t (j : Int)))))]) (pl := va_pl Ln_188 (pE Pw_217)) [2, 3] (by decide) rfl
      have hKc := hK.sub (tys' := [(cT, .byte), (cO, .object "java/lang/Object"), (cI, .int), (cZ, .boolean)]) [3, 1, 0, 2] rfl
      have hFc := va_freeP (X := [(q_gp, .inl (cI, mg, .inl (fun j : Nat => zI (a_gp (j : Int))))), (q_gs, .inl (cI, ng, .inl (fun j : Nat => zI (a_gs (j : Int))))), (h0, .inr (14, [.ref q_t, .int (zI (z16_n)), .int (zI (z0_182)), .int (zI (z1_183)), .int (zI (z2_184)), .int (zI (z3_185)), .int (zI (z4_186)), .ref q5_187, v16_8, v16_9, v16_10, .ref q_gp, .ref q_gs, .int (zI (z16_goalN))])), (q_t, .inl (cT, 8192, .inl (fun j : Nat => zI (a_t (j : Int)))))]) (cx := [(h0, .inr (14, [.ref q_t, .int (zI (z16_n)), .int (zI (z0_182)), .int (zI (z1_183)), .int (zI (z2_184)), .int (zI (z3_185)), .int (zI (z4_186)), .ref q5_187, v16_8, v16_9, v16_10, .ref q_gp, .ref q_gs, .int (zI (z16_goalN))])), (q_t, .inl (cT, 8192, .inl (fun j : Nat => zI (a_t (j : Int)))))]) (pl := va_pl Ln_188 (pE Pw_217)) hD hS hA [2, 3] rfl
      refine W_knowS (fun hrmA => ?_)
      refine vx_callv (vx_runV (As := [.ref pr_2, .int 0]) (rest := []) ⟨hx, hb, hml, hown, hts⟩ (c_X16_opAR l dC dI cI cZ h0 z16_n z0_182 z1_183 z2_184 z3_185 z4_186 v16_8 v16_9 v16_10 (.ref q_gp) (.ref q_gs) (.int (zI (z16_goalN))) q_t cT a_t q5_187 Ln_188 Pw_217 sa_RX16_9 cO la sx_ed pr_2 (by omega) (by omega) (by omega) (by omega) (by omega) (by omega) hR_a_t hX_g hX_la hX_x hX_k (by omega) hX_kv hX_tn H.size sv_RX16_9 sa_RX16_119 sv_RX16_119 sa_RX16_100 sv_RX16_100 sa_RX16_117 sv_RX16_117 sa_RX16_98 sv_RX16_98 H) (cwV 2 hts g_X16_endR_X16_opAR rfl rfl rfl (by decide +kernel) ⟨(Nat.le_of_ble_eq_true rfl), (Nat.le_of_ble_eq_true rfl)⟩) ⟨fun a U g mk q => by obtain ⟨q0, q1, qP, qK, qD, e0, e1, e2, e3, e4, e5, e6, e7, e8, e9, e10, e11, e12, e13, e14⟩ := q; exact ⟨q0, q1, qP, va_K.moved (u := U) (U := U.calling g mk a) (Vm.Alike.refl U.vm) qK, qD, vk_R.same (u := U) (U := U.calling g mk a) rfl e0, va_Z.moved (u := U) (U := U.calling g mk a) (Vm.Alike.refl U.vm) e1, vs_S.moved (u := U) (U := U.calling g mk a) (Vm.Alike.refl U.vm) e2, va_Nw.same rfl (u := U) (U := U.calling g mk a) rfl e3, vk_R.same (u := U) (U := U.calling g mk a) rfl e4, vs_S.moved (u := U) (U := U.calling g mk a) (Vm.Alike.refl U.vm) e5, vs_S.moved (u := U) (U := U.calling g mk a) (Vm.Alike.refl U.vm) e6, vk_R.same (u := U) (U := U.calling g mk a) rfl e7, vk_R.same (u := U) (U := U.calling g mk a) rfl e8, vs_S.moved (u := U) (U := U.calling g mk a) (Vm.Alike.refl U.vm) e9, vk_R.same (u := U) (U := U.calling g mk a) rfl e10, vs_S.moved (u := U) (U := U.calling g mk a) (Vm.Alike.refl U.vm) e11, e12, vx_Zq.moved (u := U) (U := U.calling g mk a) (Vm.Alike.refl U.vm) e13, vx_Zq.moved (u := U) (U := U.calling g mk a) (Vm.Alike.refl U.vm) e14⟩, va_recv hKc hPc (ci := 14) (q0 := 0) rfl rfl, fun U hU hW => ⟨rfl, by rw [hU], by rw [hU]; exact hPc, va_K.moved hW.alike hKc, hDc.weaken (fun _ _ _ _ => trivial), vk_R.warm hW hp11, va_Z.go hp3 hS hFc hU hW.alike, vs_S.go hp2 hS hFc hU hW.alike, va_Nw.warmC hW hp12, vk_R.warm hW hp13, vs_S.go hp14 hS hFc hU hW.alike, vs_S.go hp15 hS hFc hU hW.alike, vk_R.warm hW hp16, vk_R.warm hW hp17, vs_S.go hp18 hS hFc hU hW.alike, vk_R.warm hW hp19, vs_S.go hp20 hS hFc hU hW.alike, hU, vx_Zq.go hp8 hS hFc hU hW.alike, vx_Zq.go hp9 hS hFc hU hW.alike⟩⟩ rfl rfl hl.1 rfl (lv_room (Nat.le_of_ble_eq_true rfl)) dX16_end_90 ⟨(show (0 + kc_190) + ((z16_n - z0_182 + 20).toNat) ≤ (8 * (z16_n - z16_place) - TKW z16_kind (z16_at - z16_place) + 4 * z16_goalN + 160).toNat from (rmT (by omega) (by omega))), (show (0 + ks_191) + ((10 * (z16_n - z0_182) + 120).toNat) ≤ (45 * (z16_n - z16_place) - TKV z16_kind (z16_at - z16_place) + 16 * z16_goalN + 700).toNat from (rmT (by omega) (by omega)))⟩) hS (fun q _ h => hFc q h) hFc (fun q _ h => hFc q h) (fun E ce q9 u t H1 locs ht hvm _ hB hz1 hk1 hS hce hcv hcl => ?_) (fun  u t H1 locs ht hvm hw hB hz1 hk1 hS => ?_)
      · obtain ⟨rfl, zp_237, Ln_238, Pn_239, kc_240, ks_241, hxt_242, hP1, hD1⟩ := hB
        rw [ht] at hP1
        obtain ⟨hP, hD⟩ := va_joinP (X := [(q_gp, .inl (cI, mg, .inl (fun j : Nat => zI (a_gp (j : Int))))), (q_gs, .inl (cI, ng, .inl (fun j : Nat => zI (a_gs (j : Int))))), (h0, .inr (14, [.ref q_t, .int (zI (z16_n)), .int (zI (z0_182)), .int (zI (z1_183)), .int (zI (z2_184)), .int (zI (z3_185)), .int (zI (z4_186)), .ref q5_187, v16_8, v16_9, v16_10, .ref q_gp, .ref q_gs, .int (zI (z16_goalN))])), (q_t, .inl (cT, 8192, .inl (fun j : Nat => zI (a_t (j : Int)))))]) (cx := [(h0, .inr (14, [.ref q_t, .int (zI (z16_n)), .int (zI (z0_182)), .int (zI (z1_183)), .int (zI (z2_184)), .int (zI (z3_185)), .int (zI (z4_186)), .ref q5_187, v16_8, v16_9, v16_10, .ref q_gp, .ref q_gs, .int (zI (z16_goalN))])), (q_t, .inl (cT, 8192, .inl (fun j : Nat => zI (a_t (j : Int)))))]) (wr := [(q_gp, .inl (cI, mg, .inl (fun j : Nat => zI (a_gp (j : Int))))), (q_gs, .inl (cI, ng, .inl (fun j : Nat => zI (a_gs (j : Int)))))]) (rx := [(q_t, .inl (cT, 8192, .inl (fun j : Nat => zI (a_t (j : Int))))), (q9, .inr (15, [.null, .null, .null, .null, .null, .int 0, .int (zI (zp_237))]))]) (pl := va_pl Ln_188 (pE Pw_217)) (pl1 := va_pl Ln_238 (pE Pn_239)) hP hD [2, 3] [0, 1] rfl rfl (by decide) (by decide) hk1 hFc hP1 hD1
        have hrmC := hxt_242.1.1
        rw [ht] at hrmC
        refine vx_tightS (hrmA.trans hrmC) ?_
        have hrb := hxt_242.1.2
        generalize H1 = H at hP hS hce ⊢
        have hP : va_P (dC, dI) vwQ ([(q_gp, .inl (cI, mg, .inl (fun j : Nat => zI (a_gp (j : Int))))), (q_gs, .inl (cI, ng, .inl (fun j : Nat => zI (a_gs (j : Int))))), (q_t, .inl (cT, 8192, .inl (fun j : Nat => zI (a_t (j : Int))))), (q9, .inr (15, [.null, .null, .null, .null, .null, .int 0, .int (zI (zp_237))]))] ++ va_pl Ln_238 (pE Pn_239)) H := hP
        have hD : va_D A ([(q_gp, .inl (cI, mg, .inl (fun j : Nat => zI (a_gp (j : Int))))), (q_gs, .inl (cI, ng, .inl (fun j : Nat => zI (a_gs (j : Int))))), (q_t, .inl (cT, 8192, .inl (fun j : Nat => zI (a_t (j : Int))))), (q9, .inr (15, [.null, .null, .null, .null, .null, .int 0, .int (zI (zp_237))]))] ++ va_pl Ln_238 (pE Pn_239)) := hD
        have hzp : 0 ≤ zp_237 ∧ zp_237 ≤ 8192 := hxt_242.2.1
        subst hQ
        have hP := hP.part (X := [(q_gp, .inl (cI, mg, .inl (fun j : Nat => zI (a_gp (j : Int))))), (q_gs, .inl (cI, ng, .inl (fun j : Nat => zI (a_gs (j : Int))))), (q_t, .inl (cT, 8192, .inl (fun j : Nat => zI (a_t (j : Int))))), (q9, .inr (15, [.null, .null, .null, .null, .null, .int 0, .int (zI (zp_237))]))]) (cx := [(q_t, .inl (cT, 8192, .inl (fun j : Nat => zI (a_t (j : Int))))), (q9, .inr (15, [.null, .null, .null, .null, .null, .int 0, .int (zI (zp_237))]))]) (pl := va_pl Ln_238 (pE Pn_239)) [2, 3] rfl
        have hD := hD.part (X := [(q_gp, .inl (cI, mg, .inl (fun j : Nat => zI (a_gp (j : Int))))), (q_gs, .inl (cI, ng, .inl (fun j : Nat => zI (a_gs (j : Int))))), (q_t, .inl (cT, 8192, .inl (fun j : Nat => zI (a_t (j : Int))))), (q9, .inr (15, [.null, .null, .null, .null, .null, .int 0, .int (zI (zp_237))]))]) (cx := [(q_t, .inl (cT, 8192, .inl (fun j : Nat => zI (a_t (j : Int))))), (q9, .inr (15, [.null, .null, .null, .null, .null, .int 0, .int (zI (zp_237))]))]) (pl := va_pl Ln_238 (pE Pn_239)) [2, 3] (by decide) rfl
        refine vx_knowS (fun hrm9 => ?_)
        refine vx_widen (k := ((8 * (z16_n - z16_place) - TKW z16_kind (z16_at - z16_place) + 4 * z16_goalN + 160).toNat)) (n := ((45 * (z16_n - z16_place) - TKV z16_kind (z16_at - z16_place) + 16 * z16_goalN + 700).toNat)) (rmW (by omega)) (rmW (by omega)) ?_
        exact vx_out (fun x9 h9 => (hnt x9 h9).elim) hlocks hce hcv hcl (fun t ht hvm => ⟨(), trivial, ⟨rfl, zp_237, Ln_238, Pn_239, ((0 + kc_190) + kc_240), ((0 + ks_191) + ks_241), ⟨⟨(by rw [ht, ← hp10]; exact hrm9), (by omega)⟩, ⟨(by omega), ⟨hA_230.trans hxt_242.2.2.1, hxt_242.2.2.2.1, (hcx_234.cpa hg00.owa (fun z _ q => by rcases (show z = xb ∨ z = P.be xb from q) with q | q; rw [q, hX_bk]; decide; rw [q, (hg00.gb hX_b hX_bk).1.2.1]; decide)).trans hA_230 hxt_242.2.2.2.2.1, hnx_236.trans hxt_242.2.2.2.2.2⟩⟩⟩, by rw [ht]; exact hP, hD⟩, hS.F ht⟩) hS.2.2 (Nat.le_refl _) (Nat.le_refl _)
      obtain ⟨z0_243, z1_244, z2_245, z3_246, z4_247, q5_248, Ln_249, Pn_250, kc_251, ks_252, hxt_252, hP1, hK1, hD1⟩ := hB
      rw [ht] at hP1
      have hK1 := va_K.moved hvm.symm hK1
      obtain ⟨hP, hD⟩ := va_joinP (X := [(q_gp, .inl (cI, mg, .inl (fun j : Nat => zI (a_gp (j : Int))))), (q_gs, .inl (cI, ng, .inl (fun j : Nat => zI (a_gs (j : Int))))), (h0, .inr (14, [.ref q_t, .int (zI (z16_n)), .int (zI (z0_182)), .int (zI (z1_183)), .int (zI (z2_184)), .int (zI (z3_185)), .int (zI (z4_186)), .ref q5_187, v16_8, v16_9, v16_10, .ref q_gp, .ref q_gs, .int (zI (z16_goalN))])), (q_t, .inl (cT, 8192, .inl (fun j : Nat => zI (a_t (j : Int)))))]) (cx := [(h0, .inr (14, [.ref q_t, .int (zI (z16_n)), .int (zI (z0_182)), .int (zI (z1_183)), .int (zI (z2_184)), .int (zI (z3_185)), .int (zI (z4_186)), .ref q5_187, v16_8, v16_9, v16_10, .ref q_gp, .ref q_gs, .int (zI (z16_goalN))])), (q_t, .inl (cT, 8192, .inl (fun j : Nat => zI (a_t (j : Int)))))]) (wr := [(q_gp, .inl (cI, mg, .inl (fun j : Nat => zI (a_gp (j : Int))))), (q_gs, .inl (cI, ng, .inl (fun j : Nat => zI (a_gs (j : Int)))))]) (rx := [(h0, .inr (14, [.ref q_t, .int (zI (z16_n)), .int (zI (z0_243)), .int (zI (z1_244)), .int (zI (z2_245)), .int (zI (z3_246)), .int (zI (z4_247)), .ref q5_248, v16_8, v16_9, v16_10, .ref q_gp, .ref q_gs, .int (zI (z16_goalN))])), (q_t, .inl (cT, 8192, .inl (fun j : Nat => zI (a_t (j : Int)))))]) (pl := va_pl Ln_188 (pE Pw_217)) (pl1 := va_pl Ln_249 (pE Pn_250)) hP hD [2, 3] [0, 1] rfl rfl (by decide) (by decide) hk1 hFc hP1 hD1
      have hK := (hK.sub (tys' := [(cI, .int)]) [0] rfl).app hK1
      have hrmC := hxt_252.1.1
      rw [ht] at hrmC
      refine W_tightS (hrmA.trans hrmC) ?_
      have hrb := hxt_252.1.2
      generalize H1 = H at hP hS ⊢
      have hP : va_P (dC, dI) vwQ ([(q_gp, .inl (cI, mg, .inl (fun j : Nat => zI (a_gp (j : Int))))), (q_gs, .inl (cI, ng, .inl (fun j : Nat => zI (a_gs (j : Int))))), (h0, .inr (14, [.ref q_t, .int (zI (z16_n)), .int (zI (z0_243)), .int (zI (z1_244)), .int (zI (z2_245)), .int (zI (z3_246)), .int (zI (z4_247)), .ref q5_248, v16_8, v16_9, v16_10, .ref q_gp, .ref q_gs, .int (zI (z16_goalN))])), (q_t, .inl (cT, 8192, .inl (fun j : Nat => zI (a_t (j : Int)))))] ++ va_pl Ln_249 (pE Pn_250)) H := hP
      have hD : va_D A ([(q_gp, .inl (cI, mg, .inl (fun j : Nat => zI (a_gp (j : Int))))), (q_gs, .inl (cI, ng, .inl (fun j : Nat => zI (a_gs (j : Int))))), (h0, .inr (14, [.ref q_t, .int (zI (z16_n)), .int (zI (z0_243)), .int (zI (z1_244)), .int (zI (z2_245)), .int (zI (z3_246)), .int (zI (z4_247)), .ref q5_248, v16_8, v16_9, v16_10, .ref q_gp, .ref q_gs, .int (zI (z16_goalN))])), (q_t, .inl (cT, 8192, .inl (fun j : Nat => zI (a_t (j : Int)))))] ++ va_pl Ln_249 (pE Pn_250)) := hD
      have hK : va_K (dC, dI) vwQ [(cI, .int), (cT, .byte), (cO, .object "java/lang/Object"), (cI, .int), (cZ, .boolean)] s := hK
      refine W.widen (k := ((0 + kc_190) + kc_251)) (n := ((0 + ks_191) + ks_252)) (by omega) (by omega) ?_
      obtain ⟨rk_253, rk_254, rk_255, rk_256, rk_257, hu_257⟩ := hxt_252.2
      have htk_258 := hu_257.2.2.2.2.1.2
      have hrg_258 := hu_257.2.2.2.2.1.1
      have htq_258 := htk_258.1
      have hu_259 := HID.mk (hu_257)
      replace hu_257 := HID.mk hu_257
      replace hxt_252 := HID.mk hxt_252
      have hsm_260 := (hu_259.2.2.2.1 xb hq_227.1 (fun e9 => absurd e9 (kd_ne hq_227.2 hq_228.2 (by decide)))).2
      have : Pn_250.bf xb = Pw_217.bf xb := hsm_260.1 0
      have : Pn_250.bs xb = Pw_217.bs xb := hsm_260.1 1
      have hoc9 := hu_259.2.2.1.2
      have hoq9 : OPQ (Pn_250.rA pr_2) (Pn_250.ra pr_2) := hu_259.2.2.1.1
      have hgo9 := hkd_202.go (by omega)
      have hkd_261 := hu_259.2.2.2.2.2.1
      have hX_kv := hkd_261.2
      have hq_262 : HID (la ∈ Ln_249 ∧ Pn_250.kd la = 30) := hu_259.1.mem hq_226.1 hq_226.2 (by decide)
      have hq_263 : HID (xb ∈ Ln_249 ∧ Pn_250.kd xb = 12) := hu_259.1.mem hq_227.1 hq_227.2 (by decide)
      have hq_264 : HID (pr_2 ∈ Ln_249 ∧ Pn_250.kd pr_2 = 17) := hu_259.1.mem hq_228.1 hq_228.2 (by decide)
      have ha_265 : HID (Pn_250.be xb = pr_2) := hu_259.1.be hq_227.1 hq_227.2 ha_229.out
      have hA_266 : KEG [] L P Ln_249 Pn_250 := hA_230.trans hu_259.1
      have : Pn_250.lz la = Pw_217.lz la := (hu_259.2.2.2.1 la hq_226.1 (fun e9 => absurd e9 (kd_ne hq_226.2 hq_228.2 (by decide)))).2.1 0
      have hek_267 : HID (Pn_250.ek la = 12) := (by rw [hu_259.1.ek hq_226.1 hq_226.2 (by decide)]; exact hek_231.out)
      have how_268 : HID (Pn_250.ow la = la) := ((hu_259.1.1 la hq_226.1 (by rw [hq_226.2]; decide)).2.2.2.1 hq_226.2 how_232.out).1
      have hcz := (((hu_259.1.1 la hq_226.1 (by rw [hq_226.2]; decide)).2.2.2.1 hq_226.2 how_232.out).2 (by simp)).1
      have hE_269 : HID (Pn_250.ek pr_2 = 1) := (by rw [hu_259.1.ek hq_228.1 hq_228.2 (by decide)]; exact hE_233.out)
      have hX_tx := hu_259.2.2.2.2.2.2.1
      have hxk9 := hu_259.2.2.2.2.2.2.2
      have hcx_270 : CHG (fun z => z = xb ∨ z = P.be xb) L P Ln_249 Pn_250 := hcx_234.trans hu_259.2.2.2.1 (fun z m q => Or.inr (q.trans epr_2))
      have hnn_258 := TKV.nn (k := z1_244) (d := z0_243 - z2_245) (by omega)
      have hnx_271 : NTX L P Ln_249 Pn_250 := hnx_236.trans hu_259.2.2.1.2.2.2.2.2.2.2.2.2.2
      have hri_272 : ((((0 + ks_191) + ks_252) : Nat) : Int) ≤ 45 * (z2_245 - z16_place) - TKV z16_kind (z16_at - z16_place) + TKV (z1_244) (z0_243 - z2_245) - 10 ∧ ((((0 + kc_190) + kc_251) : Nat) : Int) ≤ 8 * (z2_245 - z16_place) - TKW z16_kind (z16_at - z16_place) + TKW (z1_244) (z0_243 - z2_245) - 3 := (by omega)
      clear hrb hri_215
      skip
      have hoa9 := hoq9
      refine lv_aload_n hx hb dX16_end_93 rfl (lv_at hl 2 rfl) ?_
      refine lv_aload_n hx hb dX16_end_94 rfl (lv_at hl 1 rfl) ?_
      have hX_tn := htk_258
      have hPc := hP.part (X := [(q_gp, .inl (cI, mg, .inl (fun j : Nat => zI (a_gp (j : Int))))), (q_gs, .inl (cI, ng, .inl (fun j : Nat => zI (a_gs (j : Int))))), (h0, .inr (14, [.ref q_t, .int (zI (z16_n)), .int (zI (z0_243)), .int (zI (z1_244)), .int (zI (z2_245)), .int (zI (z3_246)), .int (zI (z4_247)), .ref q5_248, v16_8, v16_9, v16_10, .ref q_gp, .ref q_gs, .int (zI (z16_goalN))])), (q_t, .inl (cT, 8192, .inl (fun j : Nat => zI (a_t (j : Int)))))]) (cx := [(h0, .inr (14, [.ref q_t, .int (zI (z16_n)), .int (zI (z0_243)), .int (zI (z1_244)), .int (zI (z2_245)), .int (zI (z3_246)), .int (zI (z4_247)), .ref q5_248, v16_8, v16_9, v16_10, .ref q_gp, .ref q_gs, .int (zI (z16_goalN))])), (q_t, .inl (cT, 8192, .inl (fun j : Nat => zI (a_t (j : Int))))), (q_gp, .inl (cI, mg, .inl (fun j : Nat => zI (a_gp (j : Int))))), (q_gs, .inl (cI, ng, .inl (fun j : Nat => zI (a_gs (j : Int)))))]) (pl := va_pl Ln_249 (pE Pn_250)) [2, 3, 0, 1] rfl
      have hDc := hD.part (X := [(q_gp, .inl (cI, mg, .inl (fun j : Nat => zI (a_gp (j : Int))))), (q_gs, .inl (cI, ng, .inl (fun j : Nat => zI (a_gs (j : Int))))), (h0, .inr (14, [.ref q_t, .int (zI (z16_n)), .int (zI (z0_243)), .int (zI (z1_244)), .int (zI (z2_245)), .int (zI (z3_246)), .int (zI (z4_247)), .ref q5_248, v16_8, v16_9, v16_10, .ref q_gp, .ref q_gs, .int (zI (z16_goalN))])), (q_t, .inl (cT, 8192, .inl (fun j : Nat => zI (a_t (j : Int)))))]) (cx := [(h0, .inr (14, [.ref q_t, .int (zI (z16_n)), .int (zI (z0_243)), .int (zI (z1_244)), .int (zI (z2_245)), .int (zI (z3_246)), .int (zI (z4_247)), .ref q5_248, v16_8, v16_9, v16_10, .ref q_gp, .ref q_gs, .int (zI (z16_goalN))])), (q_t, .inl (cT, 8192, .inl (fun j : Nat => zI (a_t (j : Int))))), (q_gp, .inl (cI, mg, .inl (fun j : Nat => zI (a_gp (j : Int))))), (q_gs, .inl (cI, ng, .inl (fun j : Nat => zI (a_gs (j : Int)))))]) (pl := va_pl Ln_249 (pE Pn_250)) [2, 3, 0, 1] (by decide) rfl
      have hKc := hK.sub (tys' := [(cT, .byte), (cI, .int)]) [1, 0] rfl
      have hFc := va_freeP (X := [(q_gp, .inl (cI, mg, .inl (fun j : Nat => zI (a_gp (j : Int))))), (q_gs, .inl (cI, ng, .inl (fun j : Nat => zI (a_gs (j : Int))))), (h0, .inr (14, [.ref q_t, .int (zI (z16_n)), .int (zI (z0_243)), .int (zI (z1_244)), .int (zI (z2_245)), .int (zI (z3_246)), .int (zI (z4_247)), .ref q5_248, v16_8, v16_9, v16_10, .ref q_gp, .ref q_gs, .int (zI (z16_goalN))])), (q_t, .inl (cT, 8192, .inl (fun j : Nat => zI (a_t (j : Int)))))]) (cx := [(h0, .inr (14, [.ref q_t, .int (zI (z16_n)), .int (zI (z0_243)), .int (zI (z1_244)), .int (zI (z2_245)), .int (zI (z3_246)), .int (zI (z4_247)), .ref q5_248, v16_8, v16_9, v16_10, .ref q_gp, .ref q_gs, .int (zI (z16_goalN))])), (q_t, .inl (cT, 8192, .inl (fun j : Nat => zI (a_t (j : Int))))), (q_gp, .inl (cI, mg, .inl (fun j : Nat => zI (a_gp (j : Int))))), (q_gs, .inl (cI, ng, .inl (fun j : Nat => zI (a_gs (j : Int)))))]) (pl := va_pl Ln_249 (pE Pn_250)) hD hS hA [2, 3, 0, 1] rfl
      refine W_knowS (fun hrmA => ?_)
      refine vx_calli (vx_runV (As := []) (rest := [.ref xb]) ⟨hx, hb, hml, hown, hts⟩ (c_X16_goalK l dC dI h0 z16_n z0_243 z1_244 z2_245 z3_246 z4_247 v16_8 v16_9 v16_10 z16_goalN q_t cT a_t q5_248 q_gp q_gs cI ng mg a_gp a_gs Ln_249 Pn_250 sa_RX16_9 (by omega) (by omega) (by omega) (by omega) (by omega) (by omega) (by omega) hR_a_t (by omega) hR_a_gp hR_a_gs hX_tx (by omega) hX_kv hX_tn H.size sv_RX16_9 sa_RX16_119 sv_RX16_119 sa_RX16_100 sv_RX16_100 sa_RX16_117 sv_RX16_117 sa_RX16_98 sv_RX16_98 H) (cwV 0 hts g_X16_endR_X16_goalK rfl rfl rfl (by decide +kernel) ⟨(Nat.le_of_ble_eq_true rfl), (Nat.le_of_ble_eq_true rfl)⟩) ⟨fun a U g mk q => by obtain ⟨q0, q1, qP, qK, qD, e0, e1, e2, e3, e4, e5, e6, e7, e8, e9, e10, e11, e12, e13, e14⟩ := q; exact ⟨q0, q1, qP, va_K.moved (u := U) (U := U.calling g mk a) (Vm.Alike.refl U.vm) qK, qD, vk_R.same (u := U) (U := U.calling g mk a) rfl e0, va_Z.moved (u := U) (U := U.calling g mk a) (Vm.Alike.refl U.vm) e1, vs_S.moved (u := U) (U := U.calling g mk a) (Vm.Alike.refl U.vm) e2, va_Nw.same rfl (u := U) (U := U.calling g mk a) rfl e3, vk_R.same (u := U) (U := U.calling g mk a) rfl e4, vs_S.moved (u := U) (U := U.calling g mk a) (Vm.Alike.refl U.vm) e5, vs_S.moved (u := U) (U := U.calling g mk a) (Vm.Alike.refl U.vm) e6, vk_R.same (u := U) (U := U.calling g mk a) rfl e7, vk_R.same (u := U) (U := U.calling g mk a) rfl e8, vs_S.moved (u := U) (U := U.calling g mk a) (Vm.Alike.refl U.vm) e9, vk_R.same (u := U) (U := U.calling g mk a) rfl e10, vs_S.moved (u := U) (U := U.calling g mk a) (Vm.Alike.refl U.vm) e11, vx_Zq.moved (u := U) (U := U.calling g mk a) (Vm.Alike.refl U.vm) e12, vx_Zq.moved (u := U) (U := U.calling g mk a) (Vm.Alike.refl U.vm) e13, e14⟩, va_recv hKc hPc (ci := 14) (q0 := 0) rfl rfl, fun U hU hW => ⟨rfl, by rw [hU], by rw [hU]; exact hPc, va_K.moved hW.alike hKc, hDc.weaken (fun _ _ _ _ => trivial), vk_R.warm hW hp11, va_Z.go hp3 hS hFc hU hW.alike, vs_S.go hp2 hS hFc hU hW.alike, va_Nw.warmC hW hp12, vk_R.warm hW hp13, vs_S.go hp14 hS hFc hU hW.alike, vs_S.go hp15 hS hFc hU hW.alike, vk_R.warm hW hp16, vk_R.warm hW hp17, vs_S.go hp18 hS hFc hU hW.alike, vk_R.warm hW hp19, vs_S.go hp20 hS hFc hU hW.alike, vx_Zq.go hp8 hS hFc hU hW.alike, vx_Zq.go hp9 hS hFc hU hW.alike, hU⟩⟩ rfl rfl hl.1 rfl (lv_room (Nat.le_of_ble_eq_true rfl)) dX16_end_95 ⟨(show ((0 + kc_190) + kc_251) + ((z16_n - z0_243 + 22).toNat) ≤ (8 * (z16_n - z16_place) - TKW z16_kind (z16_at - z16_place) + 4 * z16_goalN + 160).toNat from (rmT (by omega) (by omega))), (show ((0 + ks_191) + ks_252) + ((10 * (z16_n - z0_243) + 4 * z16_goalN + 120).toNat) ≤ (45 * (z16_n - z16_place) - TKV z16_kind (z16_at - z16_place) + 16 * z16_goalN + 700).toNat from (rmT (by omega) (by omega)))⟩) hS (fun q _ h => hFc q h) hFc (fun q _ h => hFc q h) (fun E ce q9 u t H1 locs ht hvm _ hB hz1 hk1 hS hce hcv hcl => ?_) (fun r_273 z_274 t H1 locs ht hvm hw hB hz1 hk1 hS => ?_)
      · obtain ⟨rfl, zp_275, Ln_276, Pn_277, kc_278, ks_279, hxt_280, hP1, hD1⟩ := hB
        rw [ht] at hP1
        obtain ⟨hP, hD⟩ := va_joinP (X := [(q_gp, .inl (cI, mg, .inl (fun j : Nat => zI (a_gp (j : Int))))), (q_gs, .inl (cI, ng, .inl (fun j : Nat => zI (a_gs (j : Int))))), (h0, .inr (14, [.ref q_t, .int (zI (z16_n)), .int (zI (z0_243)), .int (zI (z1_244)), .int (zI (z2_245)), .int (zI (z3_246)), .int (zI (z4_247)), .ref q5_248, v16_8, v16_9, v16_10, .ref q_gp, .ref q_gs, .int (zI (z16_goalN))])), (q_t, .inl (cT, 8192, .inl (fun j : Nat => zI (a_t (j : Int)))))]) (cx := [(h0, .inr (14, [.ref q_t, .int (zI (z16_n)), .int (zI (z0_243)), .int (zI (z1_244)), .int (zI (z2_245)), .int (zI (z3_246)), .int (zI (z4_247)), .ref q5_248, v16_8, v16_9, v16_10, .ref q_gp, .ref q_gs, .int (zI (z16_goalN))])), (q_t, .inl (cT, 8192, .inl (fun j : Nat => zI (a_t (j : Int))))), (q_gp, .inl (cI, mg, .inl (fun j : Nat => zI (a_gp (j : Int))))), (q_gs, .inl (cI, ng, .inl (fun j : Nat => zI (a_gs (j : Int)))))]) (wr := []) (rx := [(q_t, .inl (cT, 8192, .inl (fun j : Nat => zI (a_t (j : Int))))), (q9, .inr (15, [.null, .null, .null, .null, .null, .int 0, .int (zI (zp_275))]))]) (pl := va_pl Ln_249 (pE Pn_250)) (pl1 := va_pl Ln_276 (pE Pn_277)) hP hD [2, 3, 0, 1] [] rfl rfl (by decide) (by decide) hk1 hFc hP1 hD1
        have hrmC := hxt_280.1.1
        rw [ht] at hrmC
        refine vx_tightS (hrmA.trans hrmC) ?_
        have hrb := hxt_280.1.2
        generalize H1 = H at hP hS hce ⊢
        have hP : va_P (dC, dI) vwQ ([(q_t, .inl (cT, 8192, .inl (fun j : Nat => zI (a_t (j : Int))))), (q9, .inr (15, [.null, .null, .null, .null, .null, .int 0, .int (zI (zp_275))]))] ++ va_pl Ln_276 (pE Pn_277)) H := hP
        have hD : va_D A ([(q_t, .inl (cT, 8192, .inl (fun j : Nat => zI (a_t (j : Int))))), (q9, .inr (15, [.null, .null, .null, .null, .null, .int 0, .int (zI (zp_275))]))] ++ va_pl Ln_276 (pE Pn_277)) := hD
        have hzp : 0 ≤ zp_275 ∧ zp_275 ≤ 8192 := hxt_280.2.1
        subst hQ
        refine vx_knowS (fun hrm9 => ?_)
        refine vx_widen (k := ((8 * (z16_n - z16_place) - TKW z16_kind (z16_at - z16_place) + 4 * z16_goalN + 160).toNat)) (n := ((45 * (z16_n - z16_place) - TKV z16_kind (z16_at - z16_place) + 16 * z16_goalN + 700).toNat)) (rmW (by omega)) (rmW (by omega)) ?_
        exact vx_out (fun x9 h9 => (hnt x9 h9).elim) hlocks hce hcv hcl (fun t ht hvm => ⟨(), trivial, ⟨rfl, zp_275, Ln_276, Pn_277, (((0 + kc_190) + kc_251) + kc_278), (((0 + ks_191) + ks_252) + ks_279), ⟨⟨(by rw [ht, ← hp10]; exact hrm9), (by omega)⟩, ⟨(by omega), ⟨hA_266.trans (hxt_280.2.2.1.kegR hu_259.2.1), hu_259.2.1.txt hxt_280.2.2.1 hxt_280.2.2.2, (hcx_270.cpa hg00.owa (fun z _ q => by rcases (show z = xb ∨ z = P.be xb from q) with q | q; rw [q, hX_bk]; decide; rw [q, (hg00.gb hX_b hX_bk).1.2.1]; decide)).trans hA_266 (hxt_280.2.2.1.cpa hu_259.2.1.owa), hnx_271.trans (NTX.ext hxt_280.2.2.1 hxt_280.2.2.2)⟩⟩⟩, by rw [ht]; exact hP, hD⟩, hS.F ht⟩) hS.2.2 (Nat.le_refl _) (Nat.le_refl _)
      obtain ⟨z0_281, z1_282, z2_283, z3_284, z4_285, q5_286, z6_287, qn0_288, nn0_289, an0_290, qn1_291, nn1_292, an1_293, Ln_294, Pn_295, kc_296, ks_297, hxt_297, hP1, hK1, hD1⟩ := hB
      rw [ht] at hP1
      have hK1 := va_K.moved hvm.symm hK1
      obtain ⟨hP, hD⟩ := va_joinP (X := [(q_gp, .inl (cI, mg, .inl (fun j : Nat => zI (a_gp (j : Int))))), (q_gs, .inl (cI, ng, .inl (fun j : Nat => zI (a_gs (j : Int))))), (h0, .inr (14, [.ref q_t, .int (zI (z16_n)), .int (zI (z0_243)), .int (zI (z1_244)), .int (zI (z2_245)), .int (zI (z3_246)), .int (zI (z4_247)), .ref q5_248, v16_8, v16_9, v16_10, .ref q_gp, .ref q_gs, .int (zI (z16_goalN))])), (q_t, .inl (cT, 8192, .inl (fun j : Nat => zI (a_t (j : Int)))))]) (cx := [(h0, .inr (14, [.ref q_t, .int (zI (z16_n)), .int (zI (z0_243)), .int (zI (z1_244)), .int (zI (z2_245)), .int (zI (z3_246)), .int (zI (z4_247)), .ref q5_248, v16_8, v16_9, v16_10, .ref q_gp, .ref q_gs, .int (zI (z16_goalN))])), (q_t, .inl (cT, 8192, .inl (fun j : Nat => zI (a_t (j : Int))))), (q_gp, .inl (cI, mg, .inl (fun j : Nat => zI (a_gp (j : Int))))), (q_gs, .inl (cI, ng, .inl (fun j : Nat => zI (a_gs (j : Int)))))]) (wr := []) (rx := [(h0, .inr (14, [.ref q_t, .int (zI (z16_n)), .int (zI (z0_281)), .int (zI (z1_282)), .int (zI (z2_283)), .int (zI (z3_284)), .int (zI (z4_285)), .ref q5_286, v16_8, v16_9, v16_10, .ref qn0_288, .ref qn1_291, .int (zI (z6_287))])), (q_t, .inl (cT, 8192, .inl (fun j : Nat => zI (a_t (j : Int))))), (qn0_288, .inl (cI, nn0_289, .inl (fun j : Nat => zI (an0_290 (j : Int))))), (qn1_291, .inl (cI, nn1_292, .inl (fun j : Nat => zI (an1_293 (j : Int)))))]) (pl := va_pl Ln_249 (pE Pn_250)) (pl1 := va_pl Ln_294 (pE Pn_295)) hP hD [2, 3, 0, 1] [] rfl rfl (by decide) (by decide) hk1 hFc hP1 hD1
      have hK := (hK.sub (tys' := [(cO, .object "java/lang/Object"), (cZ, .boolean)]) [2, 4] rfl).app hK1
      have hrmC := hxt_297.1.1
      rw [ht] at hrmC
      refine W_tightS (hrmA.trans hrmC) ?_
      have hrb := hxt_297.1.2
      generalize H1 = H at hP hS ⊢
      have hP : va_P (dC, dI) vwQ ([(h0, .inr (14, [.ref q_t, .int (zI (z16_n)), .int (zI (z0_281)), .int (zI (z1_282)), .int (zI (z2_283)), .int (zI (z3_284)), .int (zI (z4_285)), .ref q5_286, v16_8, v16_9, v16_10, .ref qn0_288, .ref qn1_291, .int (zI (z6_287))])), (q_t, .inl (cT, 8192, .inl (fun j : Nat => zI (a_t (j : Int))))), (qn0_288, .inl (cI, nn0_289, .inl (fun j : Nat => zI (an0_290 (j : Int))))), (qn1_291, .inl (cI, nn1_292, .inl (fun j : Nat => zI (an1_293 (j : Int)))))] ++ va_pl Ln_294 (pE Pn_295)) H := hP
      have hD : va_D A ([(h0, .inr (14, [.ref q_t, .int (zI (z16_n)), .int (zI (z0_281)), .int (zI (z1_282)), .int (zI (z2_283)), .int (zI (z3_284)), .int (zI (z4_285)), .ref q5_286, v16_8, v16_9, v16_10, .ref qn0_288, .ref qn1_291, .int (zI (z6_287))])), (q_t, .inl (cT, 8192, .inl (fun j : Nat => zI (a_t (j : Int))))), (qn0_288, .inl (cI, nn0_289, .inl (fun j : Nat => zI (an0_290 (j : Int))))), (qn1_291, .inl (cI, nn1_292, .inl (fun j : Nat => zI (an1_293 (j : Int)))))] ++ va_pl Ln_294 (pE Pn_295)) := hD
      have hK : va_K (dC, dI) vwQ [(cO, .object "java/lang/Object"), (cZ, .boolean), (cT, .byte), (cI, .int)] s := hK
      refine W.widen (k := (((0 + kc_190) + kc_251) + kc_296)) (n := (((0 + ks_191) + ks_252) + ks_297)) (by omega) (by omega) ?_
      obtain ⟨rfl, hzz_274⟩ := hw
      obtain ⟨rk_298, rk_299, rk_300, rk_301, rk_302, rk_303, rk_304, rk_305, hu_305⟩ := hxt_297.2
      have htk_306 := hu_305.2.2.2.1.2
      have hrg_306 := hu_305.2.2.2.1.1
      have htq_306 := htk_306.1
      have hgo9 := hkd_261.go (by omega)
      have hkd_311 := hu_305.2.2.2.2.1
      have hX_kv := hkd_311.2
      have hu_307 := hu_305.2.2.2.2.2
      have hex_308 : EXT9 Ln_249 Pn_250 Ln_294 Pn_295 := hu_307.1
      have hke_309 : KEG [] Ln_249 Pn_250 Ln_294 Pn_295 := hex_308.kegR hu_259.2.1
      have hak_310 : GLR Ln_294 Pn_295 cO cI cZ sx_ed := hu_259.2.1.txt hex_308 hu_307.2.1
      have hsm_312 := (hex_308 xb hq_263.1).2
      have : Pn_295.bf xb = Pn_250.bf xb := hsm_312.1 0
      have : Pn_295.bs xb = Pn_250.bs xb := hsm_312.1 1
      have hsm_313 := (hex_308 pr_2 hq_264.1).2
      have : Pn_295.ro pr_2 = Pn_250.ro pr_2 := hsm_313.1 0
      have : Pn_295.rt pr_2 = Pn_250.rt pr_2 := hsm_313.1 1
      have : Pn_295.ra pr_2 = Pn_250.ra pr_2 := hsm_313.1 2
      have : Pn_295.rb pr_2 = Pn_250.rb pr_2 := hsm_313.1 3
      have : Pn_295.rA pr_2 = Pn_250.rA pr_2 := hsm_313.1 4
      have : Pn_295.rB pr_2 = Pn_250.rB pr_2 := hsm_313.1 5
      have : Pn_295.rg pr_2 = Pn_250.rg pr_2 := hsm_313.1 6
      have : Pn_295.ek pr_2 = Pn_250.ek pr_2 := hsm_313.2.1 8
      have hq_314 : HID (la ∈ Ln_294 ∧ Pn_295.kd la = 30) := hke_309.mem hq_262.1 hq_262.2 (by decide)
      have hq_315 : HID (xb ∈ Ln_294 ∧ Pn_295.kd xb = 12) := hke_309.mem hq_263.1 hq_263.2 (by decide)
      have hq_316 : HID (pr_2 ∈ Ln_294 ∧ Pn_295.kd pr_2 = 17) := hke_309.mem hq_264.1 hq_264.2 (by decide)
      have ha_317 : HID (Pn_295.be xb = pr_2) := hke_309.be hq_263.1 hq_263.2 ha_265.out
      have hA_318 : KEG [] L P Ln_294 Pn_295 := hA_266.trans hke_309
      have : Pn_295.lz la = Pn_250.lz la := (hex_308 la hq_262.1).2.1 0
      have hek_319 : HID (Pn_295.ek la = 12) := (by rw [hke_309.ek hq_262.1 hq_262.2 (by decide)]; exact hek_267.out)
      have how_320 : HID (Pn_295.ow la = la) := ((hke_309.1 la hq_262.1 (by rw [hq_262.2]; decide)).2.2.2.1 hq_262.2 how_268.out).1
      have hcz := (((hke_309.1 la hq_262.1 (by rw [hq_262.2]; decide)).2.2.2.1 hq_262.2 how_268.out).2 (by simp)).1
      have hE_321 : HID (Pn_295.ek pr_2 = 1) := (by rw [hke_309.ek hq_264.1 hq_264.2 (by decide)]; exact hE_269.out)
      have hX_tx := hu_307.2.2
      have hcx_322 : CHG (fun z => z = xb ∨ z = P.be xb) L P Ln_294 Pn_295 := hcx_270.trans hex_308.chg (fun z m q => q.elim)
      have hnn_306 := TKV.nn (k := z1_282) (d := z0_281 - z2_283) (by omega)
      have hnx_323 : NTX L P Ln_294 Pn_295 := hnx_271.trans (NTX.ext hex_308 hu_307.2.1)
      have hgo1 := hu_305
      have hgn1 := hgo1.1
      have hri_324 : (((((0 + ks_191) + ks_252) + ks_297) : Nat) : Int) ≤ 45 * (z2_283 - z16_place) - TKV z16_kind (z16_at - z16_place) + TKV (z1_282) (z0_281 - z2_283) + 4 * ((nn1_292 : Int) - ng) - 100 ∧ (((((0 + kc_190) + kc_251) + kc_296) : Nat) : Int) ≤ 8 * (z2_283 - z16_place) - TKW z16_kind (z16_at - z16_place) + TKW (z1_282) (z0_281 - z2_283) + 2 * ((nn1_292 : Int) - ng) - 19 := (by omega)
      clear hrb hri_272
      skip
      have hfb := (hak_310.gb hq_315.1 hq_315.2).2
      obtain ⟨kp_325, gkp_325⟩ := va_pl_get (X := [(h0, .inr (14, [.ref q_t, .int (zI (z16_n)), .int (zI (z0_281)), .int (zI (z1_282)), .int (zI (z2_283)), .int (zI (z3_284)), .int (zI (z4_285)), .ref q5_286, v16_8, v16_9, v16_10, .ref qn0_288, .ref qn1_291, .int (zI (z6_287))])), (q_t, .inl (cT, 8192, .inl (fun j : Nat => zI (a_t (j : Int))))), (qn0_288, .inl (cI, nn0_289, .inl (fun j : Nat => zI (an0_290 (j : Int))))), (qn1_291, .inl (cI, nn1_292, .inl (fun j : Nat => zI (an1_293 (j : Int)))))]) (f := pE Pn_295) hq_315.1
      have hkp_325 := gkp_325
      rw [pE_block hq_315.2] at hkp_325
      have hD0 := hD
      refine va_put (D := (dC, dI)) (ci := 19) (v := .int (zI (z_274))) (ty := .int) (C := RX12) (T := TX12) (N := 5) hx hb hts mem_X16_endR_0 tyX12 tyX12_ok nmX12 hown hK hP hD hS kp_325 hkp_325 rfl 3 (by decide) (ow (k := 4) rfl) (fun _ h9 => h9) rfl (by decide +kernel) rfl rfl (by first | exact Nat.le_of_ble_eq_true rfl | exact (show (((0 + kc_190) + kc_251) + kc_296) ≤ (8 * (z16_n - z16_place) - TKW z16_kind (z16_at - z16_place) + 4 * z16_goalN + 160).toNat from (rmW (by omega))) | exact (show (((0 + ks_191) + ks_252) + ks_297) ≤ (45 * (z16_n - z16_place) - TKV z16_kind (z16_at - z16_place) + 16 * z16_goalN + 700).toNat from (rmW (by omega)))) dX16_end_98 (fun H locs hP hD hS => ?_)
      obtain ⟨Pw_326, ePw_326⟩ : ∃ q9 : PO, q9 = Pn_295.rw9 0 xb (z_274) := ⟨_, rfl⟩
      have eU : (([(h0, .inr (14, [.ref q_t, .int (zI (z16_n)), .int (zI (z0_281)), .int (zI (z1_282)), .int (zI (z2_283)), .int (zI (z3_284)), .int (zI (z4_285)), .ref q5_286, v16_8, v16_9, v16_10, .ref qn0_288, .ref qn1_291, .int (zI (z6_287))])), (q_t, .inl (cT, 8192, .inl (fun j : Nat => zI (a_t (j : Int))))), (qn0_288, .inl (cI, nn0_289, .inl (fun j : Nat => zI (an0_290 (j : Int))))), (qn1_291, .inl (cI, nn1_292, .inl (fun j : Nat => zI (an1_293 (j : Int)))))] : va_W) ++ va_pl Ln_294 (pE Pn_295)).set kp_325 (xb, blockE (Pn_295.bp xb) (Pn_295.br xb) (Pn_295.be xb) (z_274) (Pn_295.bs xb)) = ([(h0, .inr (14, [.ref q_t, .int (zI (z16_n)), .int (zI (z0_281)), .int (zI (z1_282)), .int (zI (z2_283)), .int (zI (z3_284)), .int (zI (z4_285)), .ref q5_286, v16_8, v16_9, v16_10, .ref qn0_288, .ref qn1_291, .int (zI (z6_287))])), (q_t, .inl (cT, 8192, .inl (fun j : Nat => zI (a_t (j : Int))))), (qn0_288, .inl (cI, nn0_289, .inl (fun j : Nat => zI (an0_290 (j : Int))))), (qn1_291, .inl (cI, nn1_292, .inl (fun j : Nat => zI (an1_293 (j : Int)))))] : va_W) ++ va_pl Ln_294 (pE Pw_326) := (by rw [va_pl_set hD0 hq_315.1 gkp_325, ePw_326]; exact congrArg (fun f9 => ([(h0, .inr (14, [.ref q_t, .int (zI (z16_n)), .int (zI (z0_281)), .int (zI (z1_282)), .int (zI (z2_283)), .int (zI (z3_284)), .int (zI (z4_285)), .ref q5_286, v16_8, v16_9, v16_10, .ref qn0_288, .ref qn1_291, .int (zI (z6_287))])), (q_t, .inl (cT, 8192, .inl (fun j : Nat => zI (a_t (j : Int))))), (qn0_288, .inl (cI, nn0_289, .inl (fun j : Nat => zI (an0_290 (j : Int))))), (qn1_291, .inl (cI, nn1_292, .inl (fun j : Nat => zI (an1_293 (j : Int)))))] : va_W) ++ va_pl Ln_294 f9) (put12_0 hq_315.2))
      have hP : va_P (dC, dI) vwQ ([(h0, .inr (14, [.ref q_t, .int (zI (z16_n)), .int (zI (z0_281)), .int (zI (z1_282)), .int (zI (z2_283)), .int (zI (z3_284)), .int (zI (z4_285)), .ref q5_286, v16_8, v16_9, v16_10, .ref qn0_288, .ref qn1_291, .int (zI (z6_287))])), (q_t, .inl (cT, 8192, .inl (fun j : Nat => zI (a_t (j : Int))))), (qn0_288, .inl (cI, nn0_289, .inl (fun j : Nat => zI (an0_290 (j : Int))))), (qn1_291, .inl (cI, nn1_292, .inl (fun j : Nat => zI (an1_293 (j : Int)))))] ++ va_pl Ln_294 (pE Pw_326)) H := (by rw [← eU]; exact hP)
      have hD : va_D A ([(h0, .inr (14, [.ref q_t, .int (zI (z16_n)), .int (zI (z0_281)), .int (zI (z1_282)), .int (zI (z2_283)), .int (zI (z3_284)), .int (zI (z4_285)), .ref q5_286, v16_8, v16_9, v16_10, .ref qn0_288, .ref qn1_291, .int (zI (z6_287))])), (q_t, .inl (cT, 8192, .inl (fun j : Nat => zI (a_t (j : Int))))), (qn0_288, .inl (cI, nn0_289, .inl (fun j : Nat => zI (an0_290 (j : Int))))), (qn1_291, .inl (cI, nn1_292, .inl (fun j : Nat => zI (an1_293 (j : Int)))))] ++ va_pl Ln_294 (pE Pw_326)) := (by rw [← eU]; exact hD)
      clear eU hD0 gkp_325 hkp_325
      have wPw_326 : RW1 xb Pn_295 Pw_326 := (by rw [ePw_326]; exact RW1.put _ _ _ _)
      have hy_327 : Pw_326.kd la = 30 := (by rw [ePw_326]; exact hq_314.2)
      have hy_328 : Pw_326.kd xb = 12 := (by rw [ePw_326]; exact hq_315.2)
      have : Pw_326.bf xb = z_274 := (by rw [ePw_326]; exact rw9_at _ _ _ _)
      have : Pw_326.bs xb = Pn_295.bs xb := (by rw [ePw_326]; exact rw9_of _ (by decide))
      have hy_329 : Pw_326.kd pr_2 = 17 := (by rw [ePw_326]; exact hq_316.2)
      have : Pw_326.ro pr_2 = Pn_295.ro pr_2 := wPw_326.2 _ (kd_ne hq_316.2 hq_315.2 (by decide)) _
      have : Pw_326.rt pr_2 = Pn_295.rt pr_2 := wPw_326.2 _ (kd_ne hq_316.2 hq_315.2 (by decide)) _
      have : Pw_326.ra pr_2 = Pn_295.ra pr_2 := wPw_326.2 _ (kd_ne hq_316.2 hq_315.2 (by decide)) _
      have : Pw_326.rb pr_2 = Pn_295.rb pr_2 := wPw_326.2 _ (kd_ne hq_316.2 hq_315.2 (by decide)) _
      have : Pw_326.rA pr_2 = Pn_295.rA pr_2 := wPw_326.2 _ (kd_ne hq_316.2 hq_315.2 (by decide)) _
      have : Pw_326.rB pr_2 = Pn_295.rB pr_2 := wPw_326.2 _ (kd_ne hq_316.2 hq_315.2 (by decide)) _
      have : Pw_326.rg pr_2 = Pn_295.rg pr_2 := wPw_326.2 _ (kd_ne hq_316.2 hq_315.2 (by decide)) _
      have ha_330 : HID (Pw_326.be xb = pr_2) := (by rw [ePw_326]; exact ha_317.out)
      have hW_331 : RW1 xb Pn_295 Pw_326 := wPw_326
      have hak_333 : GLR Ln_294 Pw_326 cO cI cZ sx_ed := hak_310.goal hW_331 hq_315.2 (by omega)
      have hke_332 : KEG [] Ln_294 Pn_295 Ln_294 Pw_326 := hW_331.kegR _ hq_314.2 (by have q9 := hq_315.2; omega)
      have hq_335 : HID (la ∈ Ln_294 ∧ Pw_326.kd la = 30) := hke_332.mem hq_314.1 hq_314.2 (by decide)
      have hq_336 : HID (xb ∈ Ln_294 ∧ Pw_326.kd xb = 12) := hke_332.mem hq_315.1 hq_315.2 (by decide)
      have hq_337 : HID (pr_2 ∈ Ln_294 ∧ Pw_326.kd pr_2 = 17) := hke_332.mem hq_316.1 hq_316.2 (by decide)
      have ha_338 : HID (Pw_326.be xb = pr_2) := hke_332.be hq_315.1 hq_315.2 ha_317.out
      have hA_339 : KEG [] L P Ln_294 Pw_326 := hA_318.trans hke_332
      have : Pw_326.cap la = Pn_295.cap la := hW_331.cap la
      have hek_340 : HID (Pw_326.ek la = 12) := (by rw [hke_332.ek hq_314.1 hq_314.2 (by decide)]; exact hek_319.out)
      have how_341 : HID (Pw_326.ow la = la) := ((hke_332.1 la hq_314.1 (by rw [hq_314.2]; decide)).2.2.2.1 hq_314.2 how_320.out).1
      have hcz := (((hke_332.1 la hq_314.1 (by rw [hq_314.2]; decide)).2.2.2.1 hq_314.2 how_320.out).2 (by simp)).1
      have hE_342 : HID (Pw_326.ek pr_2 = 1) := (by rw [hke_332.ek hq_316.1 hq_316.2 (by decide)]; exact hE_321.out)
      have hX_tx := hX_tx.rw1R hW_331 (Or.inr hq_315.2)
      have hcx_343 : CHG (fun z => z = xb ∨ z = P.be xb) L P Ln_294 Pw_326 := hcx_322.trans (hW_331.chg _) (fun z m q => Or.inl q)
      have hsm_344 := (hW_331.chg Ln_294 pr_2 hq_337.1 (fun e9 => absurd e9 (kd_ne hq_337.2 hq_336.2 (by decide)))).2
      have : Pw_326.ro pr_2 = Pn_295.ro pr_2 := hsm_344.1 0
      have : Pw_326.rt pr_2 = Pn_295.rt pr_2 := hsm_344.1 1
      have : Pw_326.ra pr_2 = Pn_295.ra pr_2 := hsm_344.1 2
      have : Pw_326.rb pr_2 = Pn_295.rb pr_2 := hsm_344.1 3
      have : Pw_326.rA pr_2 = Pn_295.rA pr_2 := hsm_344.1 4
      have : Pw_326.rB pr_2 = Pn_295.rB pr_2 := hsm_344.1 5
      have : Pw_326.rg pr_2 = Pn_295.rg pr_2 := hsm_344.1 6
      have : Pw_326.ek pr_2 = Pn_295.ek pr_2 := hsm_344.2.1 8
      have hnx_345 : NTX L P Ln_294 Pw_326 := hnx_323.trans (NTX.put9 hW_331)
      refine lv_aload_n hx hb dX16_end_101 rfl (lv_at hl 2 rfl) ?_
      refine lv_aload_n hx hb dX16_end_102 rfl (lv_at hl 1 rfl) ?_
      have hX_tn := htk_306
      have hPc := hP.part (X := [(h0, .inr (14, [.ref q_t, .int (zI (z16_n)), .int (zI (z0_281)), .int (zI (z1_282)), .int (zI (z2_283)), .int (zI (z3_284)), .int (zI (z4_285)), .ref q5_286, v16_8, v16_9, v16_10, .ref qn0_288, .ref qn1_291, .int (zI (z6_287))])), (q_t, .inl (cT, 8192, .inl (fun j : Nat => zI (a_t (j : Int))))), (qn0_288, .inl (cI, nn0_289, .inl (fun j : Nat => zI (an0_290 (j : Int))))), (qn1_291, .inl (cI, nn1_292, .inl (fun j : Nat => zI (an1_293 (j : Int)))))]) (cx := [(h0, .inr (14, [.ref q_t, .int (zI (z16_n)), .int (zI (z0_281)), .int (zI (z1_282)), .int (zI (z2_283)), .int (zI (z3_284)), .int (zI (z4_285)), .ref q5_286, v16_8, v16_9, v16_10, .ref qn0_288, .ref qn1_291, .int (zI (z6_287))])), (q_t, .inl (cT, 8192, .inl (fun j : Nat => zI (a_t (j : Int))))), (qn0_288, .inl (cI, nn0_289, .inl (fun j : Nat => zI (an0_290 (j : Int))))), (qn1_291, .inl (cI, nn1_292, .inl (fun j : Nat => zI (an1_293 (j : Int)))))]) (pl := va_pl Ln_294 (pE Pw_326)) [0, 1, 2, 3] rfl
      have hDc := hD.part (X := [(h0, .inr (14, [.ref q_t, .int (zI (z16_n)), .int (zI (z0_281)), .int (zI (z1_282)), .int (zI (z2_283)), .int (zI (z3_284)), .int (zI (z4_285)), .ref q5_286, v16_8, v16_9, v16_10, .ref qn0_288, .ref qn1_291, .int (zI (z6_287))])), (q_t, .inl (cT, 8192, .inl (fun j : Nat => zI (a_t (j : Int))))), (qn0_288, .inl (cI, nn0_289, .inl (fun j : Nat => zI (an0_290 (j : Int))))), (qn1_291, .inl (cI, nn1_292, .inl (fun j : Nat => zI (an1_293 (j : Int)))))]) (cx := [(h0, .inr (14, [.ref q_t, .int (zI (z16_n)), .int (zI (z0_281)), .int (zI (z1_282)), .int (zI (z2_283)), .int (zI (z3_284)), .int (zI (z4_285)), .ref q5_286, v16_8, v16_9, v16_10, .ref qn0_288, .ref qn1_291, .int (zI (z6_287))])), (q_t, .inl (cT, 8192, .inl (fun j : Nat => zI (a_t (j : Int))))), (qn0_288, .inl (cI, nn0_289, .inl (fun j : Nat => zI (an0_290 (j : Int))))), (qn1_291, .inl (cI, nn1_292, .inl (fun j : Nat => zI (an1_293 (j : Int)))))]) (pl := va_pl Ln_294 (pE Pw_326)) [0, 1, 2, 3] (by decide) rfl
      have hKc := hK.sub (tys' := [(cT, .byte), (cI, .int)]) [2, 3] rfl
      have hFc := va_freeP (X := [(h0, .inr (14, [.ref q_t, .int (zI (z16_n)), .int (zI (z0_281)), .int (zI (z1_282)), .int (zI (z2_283)), .int (zI (z3_284)), .int (zI (z4_285)), .ref q5_286, v16_8, v16_9, v16_10, .ref qn0_288, .ref qn1_291, .int (zI (z6_287))])), (q_t, .inl (cT, 8192, .inl (fun j : Nat => zI (a_t (j : Int))))), (qn0_288, .inl (cI, nn0_289, .inl (fun j : Nat => zI (an0_290 (j : Int))))), (qn1_291, .inl (cI, nn1_292, .inl (fun j : Nat => zI (an1_293 (j : Int)))))]) (cx := [(h0, .inr (14, [.ref q_t, .int (zI (z16_n)), .int (zI (z0_281)), .int (zI (z1_282)), .int (zI (z2_283)), .int (zI (z3_284)), .int (zI (z4_285)), .ref q5_286, v16_8, v16_9, v16_10, .ref qn0_288, .ref qn1_291, .int (zI (z6_287))])), (q_t, .inl (cT, 8192, .inl (fun j : Nat => zI (a_t (j : Int))))), (qn0_288, .inl (cI, nn0_289, .inl (fun j : Nat => zI (an0_290 (j : Int))))), (qn1_291, .inl (cI, nn1_292, .inl (fun j : Nat => zI (an1_293 (j : Int)))))]) (pl := va_pl Ln_294 (pE Pw_326)) hD hS hA [0, 1, 2, 3] rfl
      refine W_knowS (fun hrmA => ?_)
      refine vx_calli (vx_runV (As := []) (rest := [.ref xb]) ⟨hx, hb, hml, hown, hts⟩ (c_X16_goalK l dC dI h0 z16_n z0_281 z1_282 z2_283 z3_284 z4_285 v16_8 v16_9 v16_10 z6_287 q_t cT a_t q5_286 qn0_288 qn1_291 cI nn1_292 nn0_289 an0_290 an1_293 Ln_294 Pw_326 sa_RX16_9 (by omega) (by omega) (by omega) (by omega) (by omega) (by omega) (by omega) hR_a_t (by omega) rk_304 rk_305 hX_tx (by omega) hX_kv hX_tn H.size sv_RX16_9 sa_RX16_119 sv_RX16_119 sa_RX16_100 sv_RX16_100 sa_RX16_117 sv_RX16_117 sa_RX16_98 sv_RX16_98 H) (cwV 0 hts g_X16_endR_X16_goalK rfl rfl rfl (by decide +kernel) ⟨(Nat.le_of_ble_eq_true rfl), (Nat.le_of_ble_eq_true rfl)⟩) ⟨fun a U g mk q => by obtain ⟨q0, q1, qP, qK, qD, e0, e1, e2, e3, e4, e5, e6, e7, e8, e9, e10, e11, e12, e13, e14⟩ := q; exact ⟨q0, q1, qP, va_K.moved (u := U) (U := U.calling g mk a) (Vm.Alike.refl U.vm) qK, qD, vk_R.same (u := U) (U := U.calling g mk a) rfl e0, va_Z.moved (u := U) (U := U.calling g mk a) (Vm.Alike.refl U.vm) e1, vs_S.moved (u := U) (U := U.calling g mk a) (Vm.Alike.refl U.vm) e2, va_Nw.same rfl (u := U) (U := U.calling g mk a) rfl e3, vk_R.same (u := U) (U := U.calling g mk a) rfl e4, vs_S.moved (u := U) (U := U.calling g mk a) (Vm.Alike.refl U.vm) e5, vs_S.moved (u := U) (U := U.calling g mk a) (Vm.Alike.refl U.vm) e6, vk_R.same (u := U) (U := U.calling g mk a) rfl e7, vk_R.same (u := U) (U := U.calling g mk a) rfl e8, vs_S.moved (u := U) (U := U.calling g mk a) (Vm.Alike.refl U.vm) e9, vk_R.same (u := U) (U := U.calling g mk a) rfl e10, vs_S.moved (u := U) (U := U.calling g mk a) (Vm.Alike.refl U.vm) e11, vx_Zq.moved (u := U) (U := U.calling g mk a) (Vm.Alike.refl U.vm) e12, vx_Zq.moved (u := U) (U := U.calling g mk a) (Vm.Alike.refl U.vm) e13, e14⟩, va_recv hKc hPc (ci := 14) (q0 := 0) rfl rfl, fun U hU hW => ⟨rfl, by rw [hU], by rw [hU]; exact hPc, va_K.moved hW.alike hKc, hDc.weaken (fun _ _ _ _ => trivial), vk_R.warm hW hp11, va_Z.go hp3 hS hFc hU hW.alike, vs_S.go hp2 hS hFc hU hW.alike, va_Nw.warmC hW hp12, vk_R.warm hW hp13, vs_S.go hp14 hS hFc hU hW.alike, vs_S.go hp15 hS hFc hU hW.alike, vk_R.warm hW hp16, vk_R.warm hW hp17, vs_S.go hp18 hS hFc hU hW.alike, vk_R.warm hW hp19, vs_S.go hp20 hS hFc hU hW.alike, vx_Zq.go hp8 hS hFc hU hW.alike, vx_Zq.go hp9 hS hFc hU hW.alike, hU⟩⟩ rfl rfl hl.1 rfl (lv_room (Nat.le_of_ble_eq_true rfl)) dX16_end_103 ⟨(show (((0 + kc_190) + kc_251) + kc_296) + ((z16_n - z0_281 + 22).toNat) ≤ (8 * (z16_n - z16_place) - TKW z16_kind (z16_at - z16_place) + 4 * z16_goalN + 160).toNat from (rmT (by omega) (by omega))), (show (((0 + ks_191) + ks_252) + ks_297) + ((10 * (z16_n - z0_281) + 4 * z6_287 + 120).toNat) ≤ (45 * (z16_n - z16_place) - TKV z16_kind (z16_at - z16_place) + 16 * z16_goalN + 700).toNat from (rmT (by omega) (by omega)))⟩) hS (fun q _ h => hFc q h) hFc (fun q _ h => hFc q h) (fun E ce q9 u t H1 locs ht hvm _ hB hz1 hk1 hS hce hcv hcl => ?_) (fun r_346 z_347 t H1 locs ht hvm hw hB hz1 hk1 hS => ?_)
      · obtain ⟨rfl, zp_348, Ln_349, Pn_350, kc_351, ks_352, hxt_353, hP1, hD1⟩ := hB
        rw [ht] at hP1
        obtain ⟨hP, hD⟩ := va_joinP (X := [(h0, .inr (14, [.ref q_t, .int (zI (z16_n)), .int (zI (z0_281)), .int (zI (z1_282)), .int (zI (z2_283)), .int (zI (z3_284)), .int (zI (z4_285)), .ref q5_286, v16_8, v16_9, v16_10, .ref qn0_288, .ref qn1_291, .int (zI (z6_287))])), (q_t, .inl (cT, 8192, .inl (fun j : Nat => zI (a_t (j : Int))))), (qn0_288, .inl (cI, nn0_289, .inl (fun j : Nat => zI (an0_290 (j : Int))))), (qn1_291, .inl (cI, nn1_292, .inl (fun j : Nat => zI (an1_293 (j : Int)))))]) (cx := [(h0, .inr (14, [.ref q_t, .int (zI (z16_n)), .int (zI (z0_281)), .int (zI (z1_282)), .int (zI (z2_283)), .int (zI (z3_284)), .int (zI (z4_285)), .ref q5_286, v16_8, v16_9, v16_10, .ref qn0_288, .ref qn1_291, .int (zI (z6_287))])), (q_t, .inl (cT, 8192, .inl (fun j : Nat => zI (a_t (j : Int))))), (qn0_288, .inl (cI, nn0_289, .inl (fun j : Nat => zI (an0_290 (j : Int))))), (qn1_291, .inl (cI, nn1_292, .inl (fun j : Nat => zI (an1_293 (j : Int)))))]) (wr := []) (rx := [(q_t, .inl (cT, 8192, .inl (fun j : Nat => zI (a_t (j : Int))))), (q9, .inr (15, [.null, .null, .null, .null, .null, .int 0, .int (zI (zp_348))]))]) (pl := va_pl Ln_294 (pE Pw_326)) (pl1 := va_pl Ln_349 (pE Pn_350)) hP hD [0, 1, 2, 3] [] rfl rfl (by decide) (by decide) hk1 hFc hP1 hD1
        have hrmC := hxt_353.1.1
        rw [ht] at hrmC
        refine vx_tightS (hrmA.trans hrmC) ?_
        have hrb := hxt_353.1.2
        generalize H1 = H at hP hS hce ⊢
        have hP : va_P (dC, dI) vwQ ([(q_t, .inl (cT, 8192, .inl (fun j : Nat => zI (a_t (j : Int))))), (q9, .inr (15, [.null, .null, .null, .null, .null, .int 0, .int (zI (zp_348))]))] ++ va_pl Ln_349 (pE Pn_350)) H := hP
        have hD : va_D A ([(q_t, .inl (cT, 8192, .inl (fun j : Nat => zI (a_t (j : Int))))), (q9, .inr (15, [.null, .null, .null, .null, .null, .int 0, .int (zI (zp_348))]))] ++ va_pl Ln_349 (pE Pn_350)) := hD
        have hzp : 0 ≤ zp_348 ∧ zp_348 ≤ 8192 := hxt_353.2.1
        subst hQ
        refine vx_knowS (fun hrm9 => ?_)
        refine vx_widen (k := ((8 * (z16_n - z16_place) - TKW z16_kind (z16_at - z16_place) + 4 * z16_goalN + 160).toNat)) (n := ((45 * (z16_n - z16_place) - TKV z16_kind (z16_at - z16_place) + 16 * z16_goalN + 700).toNat)) (rmW (by omega)) (rmW (by omega)) ?_
        exact vx_out (fun x9 h9 => (hnt x9 h9).elim) hlocks hce hcv hcl (fun t ht hvm => ⟨(), trivial, ⟨rfl, zp_348, Ln_349, Pn_350, ((((0 + kc_190) + kc_251) + kc_296) + kc_351), ((((0 + ks_191) + ks_252) + ks_297) + ks_352), ⟨⟨(by rw [ht, ← hp10]; exact hrm9), (by omega)⟩, ⟨(by omega), ⟨hA_339.trans (hxt_353.2.2.1.kegR hak_333), hak_333.txt hxt_353.2.2.1 hxt_353.2.2.2, (hcx_343.cpa hg00.owa (fun z _ q => by rcases (show z = xb ∨ z = P.be xb from q) with q | q; rw [q, hX_bk]; decide; rw [q, (hg00.gb hX_b hX_bk).1.2.1]; decide)).trans hA_339 (hxt_353.2.2.1.cpa hak_333.owa), hnx_345.trans (NTX.ext hxt_353.2.2.1 hxt_353.2.2.2)⟩⟩⟩, by rw [ht]; exact hP, hD⟩, hS.F ht⟩) hS.2.2 (Nat.le_refl _) (Nat.le_refl _)
      obtain ⟨z0_354, z1_355, z2_356, z3_357, z4_358, q5_359, z6_360, qn0_361, nn0_362, an0_363, qn1_364, nn1_365, an1_366, Ln_367, Pn_368, kc_369, ks_370, hxt_370, hP1, hK1, hD1⟩ := hB
      rw [ht] at hP1
      have hK1 := va_K.moved hvm.symm hK1
      obtain ⟨hP, hD⟩ := va_joinP (X := [(h0, .inr (14, [.ref q_t, .int (zI (z16_n)), .int (zI (z0_281)), .int (zI (z1_282)), .int (zI (z2_283)), .int (zI (z3_284)), .int (zI (z4_285)), .ref q5_286, v16_8, v16_9, v16_10, .ref qn0_288, .ref qn1_291, .int (zI (z6_287))])), (q_t, .inl (cT, 8192, .inl (fun j : Nat => zI (a_t (j : Int))))), (qn0_288, .inl (cI, nn0_289, .inl (fun j : Nat => zI (an0_290 (j : Int))))), (qn1_291, .inl (cI, nn1_292, .inl (fun j : Nat => zI (an1_293 (j : Int)))))]) (cx := [(h0, .inr (14, [.ref q_t, .int (zI (z16_n)), .int (zI (z0_281)), .int (zI (z1_282)), .int (zI (z2_283)), .int (zI (z3_284)), .int (zI (z4_285)), .ref q5_286, v16_8, v16_9, v16_10, .ref qn0_288, .ref qn1_291, .int (zI (z6_287))])), (q_t, .inl (cT, 8192, .inl (fun j : Nat => zI (a_t (j : Int))))), (qn0_288, .inl (cI, nn0_289, .inl (fun j : Nat => zI (an0_290 (j : Int))))), (qn1_291, .inl (cI, nn1_292, .inl (fun j : Nat => zI (an1_293 (j : Int)))))]) (wr := []) (rx := [(h0, .inr (14, [.ref q_t, .int (zI (z16_n)), .int (zI (z0_354)), .int (zI (z1_355)), .int (zI (z2_356)), .int (zI (z3_357)), .int (zI (z4_358)), .ref q5_359, v16_8, v16_9, v16_10, .ref qn0_361, .ref qn1_364, .int (zI (z6_360))])), (q_t, .inl (cT, 8192, .inl (fun j : Nat => zI (a_t (j : Int))))), (qn0_361, .inl (cI, nn0_362, .inl (fun j : Nat => zI (an0_363 (j : Int))))), (qn1_364, .inl (cI, nn1_365, .inl (fun j : Nat => zI (an1_366 (j : Int)))))]) (pl := va_pl Ln_294 (pE Pw_326)) (pl1 := va_pl Ln_367 (pE Pn_368)) hP hD [0, 1, 2, 3] [] rfl rfl (by decide) (by decide) hk1 hFc hP1 hD1
      have hK := (hK.sub (tys' := [(cO, .object "java/lang/Object"), (cZ, .boolean)]) [0, 1] rfl).app hK1
      have hrmC := hxt_370.1.1
      rw [ht] at hrmC
      refine W_tightS (hrmA.trans hrmC) ?_
      have hrb := hxt_370.1.2
      generalize H1 = H at hP hS ⊢
      have hP : va_P (dC, dI) vwQ ([(h0, .inr (14, [.ref q_t, .int (zI (z16_n)), .int (zI (z0_354)), .int (zI (z1_355)), .int (zI (z2_356)), .int (zI (z3_357)), .int (zI (z4_358)), .ref q5_359, v16_8, v16_9, v16_10, .ref qn0_361, .ref qn1_364, .int (zI (z6_360))])), (q_t, .inl (cT, 8192, .inl (fun j : Nat => zI (a_t (j : Int))))), (qn0_361, .inl (cI, nn0_362, .inl (fun j : Nat => zI (an0_363 (j : Int))))), (qn1_364, .inl (cI, nn1_365, .inl (fun j : Nat => zI (an1_366 (j : Int)))))] ++ va_pl Ln_367 (pE Pn_368)) H := hP
      have hD : va_D A ([(h0, .inr (14, [.ref q_t, .int (zI (z16_n)), .int (zI (z0_354)), .int (zI (z1_355)), .int (zI (z2_356)), .int (zI (z3_357)), .int (zI (z4_358)), .ref q5_359, v16_8, v16_9, v16_10, .ref qn0_361, .ref qn1_364, .int (zI (z6_360))])), (q_t, .inl (cT, 8192, .inl (fun j : Nat => zI (a_t (j : Int))))), (qn0_361, .inl (cI, nn0_362, .inl (fun j : Nat => zI (an0_363 (j : Int))))), (qn1_364, .inl (cI, nn1_365, .inl (fun j : Nat => zI (an1_366 (j : Int)))))] ++ va_pl Ln_367 (pE Pn_368)) := hD
      have hK : va_K (dC, dI) vwQ [(cO, .object "java/lang/Object"), (cZ, .boolean), (cT, .byte), (cI, .int)] s := hK
      refine W.widen (k := ((((0 + kc_190) + kc_251) + kc_296) + kc_369)) (n := ((((0 + ks_191) + ks_252) + ks_297) + ks_370)) (by omega) (by omega) ?_
      obtain ⟨rfl, hzz_347⟩ := hw
      obtain ⟨rk_371, rk_372, rk_373, rk_374, rk_375, rk_376, rk_377, rk_378, hu_378⟩ := hxt_370.2
      have htk_379 := hu_378.2.2.2.1.2
      have hrg_379 := hu_378.2.2.2.1.1
      have htq_379 := htk_379.1
      have hgo9 := hkd_311.go (by omega)
      have hkd_384 := hu_378.2.2.2.2.1
      have hX_kv := hkd_384.2
      have hu_380 := hu_378.2.2.2.2.2
      have hex_381 : EXT9 Ln_294 Pw_326 Ln_367 Pn_368 := hu_380.1
      have hke_382 : KEG [] Ln_294 Pw_326 Ln_367 Pn_368 := hex_381.kegR hak_333
      have hak_383 : GLR Ln_367 Pn_368 cO cI cZ sx_ed := hak_333.txt hex_381 hu_380.2.1
      have hsm_385 := (hex_381 xb hq_336.1).2
      have : Pn_368.bf xb = Pw_326.bf xb := hsm_385.1 0
      have : Pn_368.bs xb = Pw_326.bs xb := hsm_385.1 1
      have hsm_386 := (hex_381 pr_2 hq_337.1).2
      have : Pn_368.ro pr_2 = Pw_326.ro pr_2 := hsm_386.1 0
      have : Pn_368.rt pr_2 = Pw_326.rt pr_2 := hsm_386.1 1
      have : Pn_368.ra pr_2 = Pw_326.ra pr_2 := hsm_386.1 2
      have : Pn_368.rb pr_2 = Pw_326.rb pr_2 := hsm_386.1 3
      have : Pn_368.rA pr_2 = Pw_326.rA pr_2 := hsm_386.1 4
      have : Pn_368.rB pr_2 = Pw_326.rB pr_2 := hsm_386.1 5
      have : Pn_368.rg pr_2 = Pw_326.rg pr_2 := hsm_386.1 6
      have : Pn_368.ek pr_2 = Pw_326.ek pr_2 := hsm_386.2.1 8
      have hq_387 : HID (la ∈ Ln_367 ∧ Pn_368.kd la = 30) := hke_382.mem hq_335.1 hq_335.2 (by decide)
      have hq_388 : HID (xb ∈ Ln_367 ∧ Pn_368.kd xb = 12) := hke_382.mem hq_336.1 hq_336.2 (by decide)
      have hq_389 : HID (pr_2 ∈ Ln_367 ∧ Pn_368.kd pr_2 = 17) := hke_382.mem hq_337.1 hq_337.2 (by decide)
      have ha_390 : HID (Pn_368.be xb = pr_2) := hke_382.be hq_336.1 hq_336.2 ha_338.out
      have hA_391 : KEG [] L P Ln_367 Pn_368 := hA_339.trans hke_382
      have : Pn_368.lz la = Pw_326.lz la := (hex_381 la hq_335.1).2.1 0
      have hek_392 : HID (Pn_368.ek la = 12) := (by rw [hke_382.ek hq_335.1 hq_335.2 (by decide)]; exact hek_340.out)
      have how_393 : HID (Pn_368.ow la = la) := ((hke_382.1 la hq_335.1 (by rw [hq_335.2]; decide)).2.2.2.1 hq_335.2 how_341.out).1
      have hcz := (((hke_382.1 la hq_335.1 (by rw [hq_335.2]; decide)).2.2.2.1 hq_335.2 how_341.out).2 (by simp)).1
      have hE_394 : HID (Pn_368.ek pr_2 = 1) := (by rw [hke_382.ek hq_337.1 hq_337.2 (by decide)]; exact hE_342.out)
      have hX_tx := hu_380.2.2
      have hcx_395 : CHG (fun z => z = xb ∨ z = P.be xb) L P Ln_367 Pn_368 := hcx_343.trans hex_381.chg (fun z m q => q.elim)
      have hnn_379 := TKV.nn (k := z1_355) (d := z0_354 - z2_356) (by omega)
      have hnx_396 : NTX L P Ln_367 Pn_368 := hnx_345.trans (NTX.ext hex_381 hu_380.2.1)
      have hgo2 := hu_378
      have hgn2 := hgo2.1
      have hri_397 : ((((((0 + ks_191) + ks_252) + ks_297) + ks_370) : Nat) : Int) ≤ 45 * (z2_356 - z16_place) - TKV z16_kind (z16_at - z16_place) + TKV (z1_355) (z0_354 - z2_356) + 4 * ((nn1_365 : Int) - ng) - 190 ∧ ((((((0 + kc_190) + kc_251) + kc_296) + kc_369) : Nat) : Int) ≤ 8 * (z2_356 - z16_place) - TKW z16_kind (z16_at - z16_place) + TKW (z1_355) (z0_354 - z2_356) + 2 * ((nn1_365 : Int) - ng) - 35 := (by omega)
      clear hrb hri_324
      skip
      have hfb := (hak_383.gb hq_388.1 hq_388.2).2
      obtain ⟨kp_398, gkp_398⟩ := va_pl_get (X := [(h0, .inr (14, [.ref q_t, .int (zI (z16_n)), .int (zI (z0_354)), .int (zI (z1_355)), .int (zI (z2_356)), .int (zI (z3_357)), .int (zI (z4_358)), .ref q5_359, v16_8, v16_9, v16_10, .ref qn0_361, .ref qn1_364, .int (zI (z6_360))])), (q_t, .inl (cT, 8192, .inl (fun j : Nat => zI (a_t (j : Int))))), (qn0_361, .inl (cI, nn0_362, .inl (fun j : Nat => zI (an0_363 (j : Int))))), (qn1_364, .inl (cI, nn1_365, .inl (fun j : Nat => zI (an1_366 (j : Int)))))]) (f := pE Pn_368) hq_388.1
      have hkp_398 := gkp_398
      rw [pE_block hq_388.2] at hkp_398
      have hD0 := hD
      refine va_put (D := (dC, dI)) (ci := 19) (v := .int (zI (z_347))) (ty := .int) (C := RX12) (T := TX12) (N := 5) hx hb hts mem_X16_endR_0 tyX12 tyX12_ok nmX12 hown hK hP hD hS kp_398 hkp_398 rfl 4 (by decide) (ow (k := 5) rfl) (fun _ h9 => h9) rfl (by decide +kernel) rfl rfl (by first | exact Nat.le_of_ble_eq_true rfl | exact (show ((((0 + kc_190) + kc_251) + kc_296) + kc_369) ≤ (8 * (z16_n - z16_place) - TKW z16_kind (z16_at - z16_place) + 4 * z16_goalN + 160).toNat from (rmW (by omega))) | exact (show ((((0 + ks_191) + ks_252) + ks_297) + ks_370) ≤ (45 * (z16_n - z16_place) - TKV z16_kind (z16_at - z16_place) + 16 * z16_goalN + 700).toNat from (rmW (by omega)))) dX16_end_106 (fun H locs hP hD hS => ?_)
      obtain ⟨Pw_399, ePw_399⟩ : ∃ q9 : PO, q9 = Pn_368.rw9 1 xb (z_347) := ⟨_, rfl⟩
      have eU : (([(h0, .inr (14, [.ref q_t, .int (zI (z16_n)), .int (zI (z0_354)), .int (zI (z1_355)), .int (zI (z2_356)), .int (zI (z3_357)), .int (zI (z4_358)), .ref q5_359, v16_8, v16_9, v16_10, .ref qn0_361, .ref qn1_364, .int (zI (z6_360))])), (q_t, .inl (cT, 8192, .inl (fun j : Nat => zI (a_t (j : Int))))), (qn0_361, .inl (cI, nn0_362, .inl (fun j : Nat => zI (an0_363 (j : Int))))), (qn1_364, .inl (cI, nn1_365, .inl (fun j : Nat => zI (an1_366 (j : Int)))))] : va_W) ++ va_pl Ln_367 (pE Pn_368)).set kp_398 (xb, blockE (Pn_368.bp xb) (Pn_368.br xb) (Pn_368.be xb) (Pn_368.bf xb) (z_347)) = ([(h0, .inr (14, [.ref q_t, .int (zI (z16_n)), .int (zI (z0_354)), .int (zI (z1_355)), .int (zI (z2_356)), .int (zI (z3_357)), .int (zI (z4_358)), .ref q5_359, v16_8, v16_9, v16_10, .ref qn0_361, .ref qn1_364, .int (zI (z6_360))])), (q_t, .inl (cT, 8192, .inl (fun j : Nat => zI (a_t (j : Int))))), (qn0_361, .inl (cI, nn0_362, .inl (fun j : Nat => zI (an0_363 (j : Int))))), (qn1_364, .inl (cI, nn1_365, .inl (fun j : Nat => zI (an1_366 (j : Int)))))] : va_W) ++ va_pl Ln_367 (pE Pw_399) := (by rw [va_pl_set hD0 hq_388.1 gkp_398, ePw_399]; exact congrArg (fun f9 => ([(h0, .inr (14, [.ref q_t, .int (zI (z16_n)), .int (zI (z0_354)), .int (zI (z1_355)), .int (zI (z2_356)), .int (zI (z3_357)), .int (zI (z4_358)), .ref q5_359, v16_8, v16_9, v16_10, .ref qn0_361, .ref qn1_364, .int (zI (z6_360))])), (q_t, .inl (cT, 8192, .inl (fun j : Nat => zI (a_t (j : Int))))), (qn0_361, .inl (cI, nn0_362, .inl (fun j : Nat => zI (an0_363 (j : Int))))), (qn1_364, .inl (cI, nn1_365, .inl (fun j : Nat => zI (an1_366 (j : Int)))))] : va_W) ++ va_pl Ln_367 f9) (put12_1 hq_388.2))
      have hP : va_P (dC, dI) vwQ ([(h0, .inr (14, [.ref q_t, .int (zI (z16_n)), .int (zI (z0_354)), .int (zI (z1_355)), .int (zI (z2_356)), .int (zI (z3_357)), .int (zI (z4_358)), .ref q5_359, v16_8, v16_9, v16_10, .ref qn0_361, .ref qn1_364, .int (zI (z6_360))])), (q_t, .inl (cT, 8192, .inl (fun j : Nat => zI (a_t (j : Int))))), (qn0_361, .inl (cI, nn0_362, .inl (fun j : Nat => zI (an0_363 (j : Int))))), (qn1_364, .inl (cI, nn1_365, .inl (fun j : Nat => zI (an1_366 (j : Int)))))] ++ va_pl Ln_367 (pE Pw_399)) H := (by rw [← eU]; exact hP)
      have hD : va_D A ([(h0, .inr (14, [.ref q_t, .int (zI (z16_n)), .int (zI (z0_354)), .int (zI (z1_355)), .int (zI (z2_356)), .int (zI (z3_357)), .int (zI (z4_358)), .ref q5_359, v16_8, v16_9, v16_10, .ref qn0_361, .ref qn1_364, .int (zI (z6_360))])), (q_t, .inl (cT, 8192, .inl (fun j : Nat => zI (a_t (j : Int))))), (qn0_361, .inl (cI, nn0_362, .inl (fun j : Nat => zI (an0_363 (j : Int))))), (qn1_364, .inl (cI, nn1_365, .inl (fun j : Nat => zI (an1_366 (j : Int)))))] ++ va_pl Ln_367 (pE Pw_399)) := (by rw [← eU]; exact hD)
      clear eU hD0 gkp_398 hkp_398
      have wPw_399 : RW1 xb Pn_368 Pw_399 := (by rw [ePw_399]; exact RW1.put _ _ _ _)
      have hy_400 : Pw_399.kd la = 30 := (by rw [ePw_399]; exact hq_387.2)
      have hy_401 : Pw_399.kd xb = 12 := (by rw [ePw_399]; exact hq_388.2)
      have : Pw_399.bf xb = Pn_368.bf xb := (by rw [ePw_399]; exact rw9_of _ (by decide))
      have : Pw_399.bs xb = z_347 := (by rw [ePw_399]; exact rw9_at _ _ _ _)
      have hy_402 : Pw_399.kd pr_2 = 17 := (by rw [ePw_399]; exact hq_389.2)
      have : Pw_399.ro pr_2 = Pn_368.ro pr_2 := wPw_399.2 _ (kd_ne hq_389.2 hq_388.2 (by decide)) _
      have : Pw_399.rt pr_2 = Pn_368.rt pr_2 := wPw_399.2 _ (kd_ne hq_389.2 hq_388.2 (by decide)) _
      have : Pw_399.ra pr_2 = Pn_368.ra pr_2 := wPw_399.2 _ (kd_ne hq_389.2 hq_388.2 (by decide)) _
      have : Pw_399.rb pr_2 = Pn_368.rb pr_2 := wPw_399.2 _ (kd_ne hq_389.2 hq_388.2 (by decide)) _
      have : Pw_399.rA pr_2 = Pn_368.rA pr_2 := wPw_399.2 _ (kd_ne hq_389.2 hq_388.2 (by decide)) _
      have : Pw_399.rB pr_2 = Pn_368.rB pr_2 := wPw_399.2 _ (kd_ne hq_389.2 hq_388.2 (by decide)) _
      have : Pw_399.rg pr_2 = Pn_368.rg pr_2 := wPw_399.2 _ (kd_ne hq_389.2 hq_388.2 (by decide)) _
      have ha_403 : HID (Pw_399.be xb = pr_2) := (by rw [ePw_399]; exact ha_390.out)
      have hW_404 : RW1 xb Pn_368 Pw_399 := wPw_399
      have hak_406 : GLR Ln_367 Pw_399 cO cI cZ sx_ed := hak_383.goal hW_404 hq_388.2 (by omega)
      have hke_405 : KEG [] Ln_367 Pn_368 Ln_367 Pw_399 := hW_404.kegR _ hq_387.2 (by have q9 := hq_388.2; omega)
      have hq_408 : HID (la ∈ Ln_367 ∧ Pw_399.kd la = 30) := hke_405.mem hq_387.1 hq_387.2 (by decide)
      have hq_409 : HID (xb ∈ Ln_367 ∧ Pw_399.kd xb = 12) := hke_405.mem hq_388.1 hq_388.2 (by decide)
      have hq_410 : HID (pr_2 ∈ Ln_367 ∧ Pw_399.kd pr_2 = 17) := hke_405.mem hq_389.1 hq_389.2 (by decide)
      have ha_411 : HID (Pw_399.be xb = pr_2) := hke_405.be hq_388.1 hq_388.2 ha_390.out
      have hA_412 : KEG [] L P Ln_367 Pw_399 := hA_391.trans hke_405
      have : Pw_399.cap la = Pn_368.cap la := hW_404.cap la
      have hek_413 : HID (Pw_399.ek la = 12) := (by rw [hke_405.ek hq_387.1 hq_387.2 (by decide)]; exact hek_392.out)
      have how_414 : HID (Pw_399.ow la = la) := ((hke_405.1 la hq_387.1 (by rw [hq_387.2]; decide)).2.2.2.1 hq_387.2 how_393.out).1
      have hcz := (((hke_405.1 la hq_387.1 (by rw [hq_387.2]; decide)).2.2.2.1 hq_387.2 how_393.out).2 (by simp)).1
      have hE_415 : HID (Pw_399.ek pr_2 = 1) := (by rw [hke_405.ek hq_389.1 hq_389.2 (by decide)]; exact hE_394.out)
      have hX_tx := hX_tx.rw1R hW_404 (Or.inr hq_388.2)
      have hcx_416 : CHG (fun z => z = xb ∨ z = P.be xb) L P Ln_367 Pw_399 := hcx_395.trans (hW_404.chg _) (fun z m q => Or.inl q)
      have hsm_417 := (hW_404.chg Ln_367 pr_2 hq_410.1 (fun e9 => absurd e9 (kd_ne hq_410.2 hq_409.2 (by decide)))).2
      have : Pw_399.ro pr_2 = Pn_368.ro pr_2 := hsm_417.1 0
      have : Pw_399.rt pr_2 = Pn_368.rt pr_2 := hsm_417.1 1
      have : Pw_399.ra pr_2 = Pn_368.ra pr_2 := hsm_417.1 2
      have : Pw_399.rb pr_2 = Pn_368.rb pr_2 := hsm_417.1 3
      have : Pw_399.rA pr_2 = Pn_368.rA pr_2 := hsm_417.1 4
      have : Pw_399.rB pr_2 = Pn_368.rB pr_2 := hsm_417.1 5
      have : Pw_399.rg pr_2 = Pn_368.rg pr_2 := hsm_417.1 6
      have : Pw_399.ek pr_2 = Pn_368.ek pr_2 := hsm_417.2.1 8
      have hnx_418 : NTX L P Ln_367 Pw_399 := hnx_396.trans (NTX.put9 hW_404)
      refine lv_goto (tgt := 145) hx hb dX16_end_109 (by decide) ?_
      subst hQ
      have hK := hK.sub (tys' := [(cT, .byte), (cI, .int), (cO, .object "java/lang/Object"), (cZ, .boolean)]) [2, 3, 0, 1] rfl
      refine W_knowS (fun hrm9 => ?_)
      refine W.widen (k := ((8 * (z16_n - z16_place) - TKW z16_kind (z16_at - z16_place) + 4 * z16_goalN + 160).toNat)) (n := ((45 * (z16_n - z16_place) - TKV z16_kind (z16_at - z16_place) + 16 * z16_goalN + 700).toNat)) (rmW (by omega)) (rmW (by omega)) ?_
      refine vx_ret ?_
      exact W.vret hx hb hr (fun t ht hW => ⟨⟨(), rfl, trivial, z0_354, z1_355, z2_356, z3_357, z4_358, q5_359, z6_360, qn0_361, nn0_362, an0_363, qn1_364, nn1_365, an1_366, Ln_367, Pw_399, ((((0 + kc_190) + kc_251) + kc_296) + kc_369), ((((0 + ks_191) + ks_252) + ks_297) + ks_370), ⟨⟨(by rw [ht, ← hp10]; exact hrm9), (by omega)⟩, ⟨(by omega), (by omega), (by omega), (by omega), (by omega), (by omega), rk_377, rk_378, ⟨hA_412, hak_406, ⟨⟨(hkd_384.mono (by omega)).ms (by omega) (by omega) (by omega), by omega⟩, hnx_418⟩, hcx_416, ⟨by omega, by omega, by omega, by omega, by omega, by omega, by omega, (by unfold GRW; omega)⟩, (fun j j0 j1 => (hgo2.2.1 j j0 (by omega)).trans (hgo1.2.1 j j0 j1)), (GIN.mk (k := z16_goalN) (by omega) (by omega) ((hgo2.2.1 _ (by omega) (by omega)).trans (hgo1.2.2.1.trans (by omega)))), (GIN.mk (k := z6_287) (by omega) (by omega) (hgo2.2.2.1.trans (by omega))), (by rw [← epr_2]; exact ⟨by omega, by omega, (by first | exact OPQ.z (by omega) | exact hoa9.to (by omega) (by omega))⟩), ⟨⟨by omega, by omega, by omega⟩, htk_379⟩, hkd_384.mono (by omega), hX_tx⟩⟩⟩, by rw [ht]; exact hP, va_K.moved hW.alike hK, hD⟩, hS.F ht⟩) hS.2.2 dX16_end_145
  · have yb36 : ¬ (z_82 : Int) = (0 : Int) := fun q => b36 ((zI_eq (a := z_82) (b := 0) (by omega) (by omega) (by omega) (by omega)).mpr q)
    have hni9 := TKQ.is hX_tn (hzz_82.2.2.2 (by omega))
    have hni8 := hX_tn.2.2.2 (by omega)
    skip
    refine lv_aload_n hx hb dX16_end_39 rfl (lv_at hl 1 rfl) ?_
    have hPc := hP.part (X := [(q_gp, .inl (cI, mg, .inl (fun j : Nat => zI (a_gp (j : Int))))), (q_gs, .inl (cI, ng, .inl (fun j : Nat => zI (a_gs (j : Int))))), (h0, .inr (14, [.ref q_t, .int (zI (z16_n)), .int (zI (z16_at)), .int (zI (z16_kind)), .int (zI (z16_place)), .int (zI (z16_value)), .int (zI (z16_before)), .ref tx9, v16_8, v16_9, v16_10, .ref q_gp, .ref q_gs, .int (zI (z16_goalN))])), (q_t, .inl (cT, 8192, .inl (fun j : Nat => zI (a_t (j : Int)))))]) (cx := [(h0, .inr (14, [.ref q_t, .int (zI (z16_n)), .int (zI (z16_at)), .int (zI (z16_kind)), .int (zI (z16_place)), .int (zI (z16_value)), .int (zI (z16_before)), .ref tx9, v16_8, v16_9, v16_10, .ref q_gp, .ref q_gs, .int (zI (z16_goalN))])), (q_t, .inl (cT, 8192, .inl (fun j : Nat => zI (a_t (j : Int)))))]) (pl := va_pl L (pE Pw_60)) [2, 3] rfl
    have hDc := hD.part (X := [(q_gp, .inl (cI, mg, .inl (fun j : Nat => zI (a_gp (j : Int))))), (q_gs, .inl (cI, ng, .inl (fun j : Nat => zI (a_gs (j : Int))))), (h0, .inr (14, [.ref q_t, .int (zI (z16_n)), .int (zI (z16_at)), .int (zI (z16_kind)), .int (zI (z16_place)), .int (zI (z16_value)), .int (zI (z16_before)), .ref tx9, v16_8, v16_9, v16_10, .ref q_gp, .ref q_gs, .int (zI (z16_goalN))])), (q_t, .inl (cT, 8192, .inl (fun j : Nat => zI (a_t (j : Int)))))]) (cx := [(h0, .inr (14, [.ref q_t, .int (zI (z16_n)), .int (zI (z16_at)), .int (zI (z16_kind)), .int (zI (z16_place)), .int (zI (z16_value)), .int (zI (z16_before)), .ref tx9, v16_8, v16_9, v16_10, .ref q_gp, .ref q_gs, .int (zI (z16_goalN))])), (q_t, .inl (cT, 8192, .inl (fun j : Nat => zI (a_t (j : Int)))))]) (pl := va_pl L (pE Pw_60)) [2, 3] (by decide) rfl
    have hKc := hK.sub (tys' := [(cT, .byte)]) [3] rfl
    have hFc := va_freeP (X := [(q_gp, .inl (cI, mg, .inl (fun j : Nat => zI (a_gp (j : Int))))), (q_gs, .inl (cI, ng, .inl (fun j : Nat => zI (a_gs (j : Int))))), (h0, .inr (14, [.ref q_t, .int (zI (z16_n)), .int (zI (z16_at)), .int (zI (z16_kind)), .int (zI (z16_place)), .int (zI (z16_value)), .int (zI (z16_before)), .ref tx9, v16_8, v16_9, v16_10, .ref q_gp, .ref q_gs, .int (zI (z16_goalN))])), (q_t, .inl (cT, 8192, .inl (fun j : Nat => zI (a_t (j : Int)))))]) (cx := [(h0, .inr (14, [.ref q_t, .int (zI (z16_n)), .int (zI (z16_at)), .int (zI (z16_kind)), .int (zI (z16_place)), .int (zI (z16_value)), .int (zI (z16_before)), .ref tx9, v16_8, v16_9, v16_10, .ref q_gp, .ref q_gs, .int (zI (z16_goalN))])), (q_t, .inl (cT, 8192, .inl (fun j : Nat => zI (a_t (j : Int)))))]) (pl := va_pl L (pE Pw_60)) hD hS hA [2, 3] rfl
    refine W_knowS (fun hrmA => ?_)
    refine va_callv (va_runV (As := []) (rest := []) ⟨hx, hb, hml, hown, hts⟩ (c_X16_nextK l dC dI h0 z16_n z16_at z16_kind z16_place z16_value z16_before (.ref tx9) v16_8 v16_9 v16_10 (.ref q_gp) (.ref q_gs) (.int (zI (z16_goalN))) q_t cT a_t L Pw_60 sa_RX16_9 (by omega) (by omega) (by omega) (by omega) (by omega) (by omega) hR_a_t (by omega) H.size sa_RX16_9 H sv_RX16_9 sa_RX16_119 sv_RX16_119 sa_RX16_100 sv_RX16_100 sa_RX16_117 sa_RX16_100 sv_RX16_117 sa_RX16_98 sv_RX16_98) (cwV 0 hts g_X16_endR_X16_nextK rfl rfl rfl (by decide +kernel) ⟨(Nat.le_of_ble_eq_true rfl), (Nat.le_of_ble_eq_true rfl)⟩) ⟨fun a U g mk q => by obtain ⟨q0, q1, qP, qK, qD, e0, e1, e2, e3, e4, e5, e6, e7, e8, e9, e10, e11, e12⟩ := q; exact ⟨q0, q1, qP, va_K.moved (u := U) (U := U.calling g mk a) (Vm.Alike.refl U.vm) qK, qD, vk_R.same (u := U) (U := U.calling g mk a) rfl e0, e1, va_Z.moved (u := U) (U := U.calling g mk a) (Vm.Alike.refl U.vm) e2, vs_S.moved (u := U) (U := U.calling g mk a) (Vm.Alike.refl U.vm) e3, va_Nw.same rfl (u := U) (U := U.calling g mk a) rfl e4, vk_R.same (u := U) (U := U.calling g mk a) rfl e5, vs_S.moved (u := U) (U := U.calling g mk a) (Vm.Alike.refl U.vm) e6, vs_S.moved (u := U) (U := U.calling g mk a) (Vm.Alike.refl U.vm) e7, vk_R.same (u := U) (U := U.calling g mk a) rfl e8, vk_R.same (u := U) (U := U.calling g mk a) rfl e9, vs_S.moved (u := U) (U := U.calling g mk a) (Vm.Alike.refl U.vm) e10, vk_R.same (u := U) (U := U.calling g mk a) rfl e11, vs_S.moved (u := U) (U := U.calling g mk a) (Vm.Alike.refl U.vm) e12⟩, va_recv hKc hPc (ci := 14) (q0 := 0) rfl rfl, fun U hU hW => ⟨rfl, by rw [hU], by rw [hU]; exact hPc, va_K.moved hW.alike hKc, hDc.weaken (fun _ _ _ _ => trivial), vk_R.warm hW hp11, hU, va_Z.go hp3 hS hFc hU hW.alike, vs_S.go hp2 hS hFc hU hW.alike, va_Nw.warmC hW hp12, vk_R.warm hW hp13, vs_S.go hp14 hS hFc hU hW.alike, vs_S.go hp15 hS hFc hU hW.alike, vk_R.warm hW hp16, vk_R.warm hW hp17, vs_S.go hp18 hS hFc hU hW.alike, vk_R.warm hW hp19, vs_S.go hp20 hS hFc hU hW.alike⟩⟩ rfl rfl hl.1 rfl (lv_room (Nat.le_of_ble_eq_true rfl)) dX16_end_40 ⟨(show 0 + ((z16_n - z16_at + 20).toNat) ≤ (8 * (z16_n - z16_place) - TKW z16_kind (z16_at - z16_place) + 4 * z16_goalN + 160).toNat from (rmT (by omega) (by omega))), (show 0 + ((10 * (z16_n - z16_at) + 120).toNat) ≤ (45 * (z16_n - z16_place) - TKV z16_kind (z16_at - z16_place) + 16 * z16_goalN + 700).toNat from (rmT (by omega) (by omega)))⟩) hS (fun q _ h => hFc q h) hFc (fun  u t H1 locs ht hvm hw hB hz1 hk1 hS => ?_)
    obtain ⟨z0_419, z1_420, z2_421, z3_422, z4_423, q5_424, Ln_425, Pn_426, kc_427, ks_428, hxt_428, hP1, hK1, hD1⟩ := hB
    rw [ht] at hP1
    have hK1 := va_K.moved hvm.symm hK1
    obtain ⟨hP, hD⟩ := va_joinP (X := [(q_gp, .inl (cI, mg, .inl (fun j : Nat => zI (a_gp (j : Int))))), (q_gs, .inl (cI, ng, .inl (fun j : Nat => zI (a_gs (j : Int))))), (h0, .inr (14, [.ref q_t, .int (zI (z16_n)), .int (zI (z16_at)), .int (zI (z16_kind)), .int (zI (z16_place)), .int (zI (z16_value)), .int (zI (z16_before)), .ref tx9, v16_8, v16_9, v16_10, .ref q_gp, .ref q_gs, .int (zI (z16_goalN))])), (q_t, .inl (cT, 8192, .inl (fun j : Nat => zI (a_t (j : Int)))))]) (cx := [(h0, .inr (14, [.ref q_t, .int (zI (z16_n)), .int (zI (z16_at)), .int (zI (z16_kind)), .int (zI (z16_place)), .int (zI (z16_value)), .int (zI (z16_before)), .ref tx9, v16_8, v16_9, v16_10, .ref q_gp, .ref q_gs, .int (zI (z16_goalN))])), (q_t, .inl (cT, 8192, .inl (fun j : Nat => zI (a_t (j : Int)))))]) (wr := [(q_gp, .inl (cI, mg, .inl (fun j : Nat => zI (a_gp (j : Int))))), (q_gs, .inl (cI, ng, .inl (fun j : Nat => zI (a_gs (j : Int)))))]) (rx := [(h0, .inr (14, [.ref q_t, .int (zI (z16_n)), .int (zI (z0_419)), .int (zI (z1_420)), .int (zI (z2_421)), .int (zI (z3_422)), .int (zI (z4_423)), .ref q5_424, v16_8, v16_9, v16_10, .ref q_gp, .ref q_gs, .int (zI (z16_goalN))])), (q_t, .inl (cT, 8192, .inl (fun j : Nat => zI (a_t (j : Int)))))]) (pl := va_pl L (pE Pw_60)) (pl1 := va_pl Ln_425 (pE Pn_426)) hP hD [2, 3] [0, 1] rfl rfl (by decide) (by decide) hk1 hFc hP1 hD1
    have hK := (hK.sub (tys' := [(cI, .int), (cO, .object "java/lang/Object"), (cZ, .boolean)]) [0, 1, 2] rfl).app hK1
    have hrmC := hxt_428.1.1
    rw [ht] at hrmC
    refine W_tightS (hrmA.trans hrmC) ?_
    have hrb := hxt_428.1.2
    generalize H1 = H at hP hS ⊢
    have hP : va_P (dC, dI) vwQ ([(q_gp, .inl (cI, mg, .inl (fun j : Nat => zI (a_gp (j : Int))))), (q_gs, .inl (cI, ng, .inl (fun j : Nat => zI (a_gs (j : Int))))), (h0, .inr (14, [.ref q_t, .int (zI (z16_n)), .int (zI (z0_419)), .int (zI (z1_420)), .int (zI (z2_421)), .int (zI (z3_422)), .int (zI (z4_423)), .ref q5_424, v16_8, v16_9, v16_10, .ref q_gp, .ref q_gs, .int (zI (z16_goalN))])), (q_t, .inl (cT, 8192, .inl (fun j : Nat => zI (a_t (j : Int)))))] ++ va_pl Ln_425 (pE Pn_426)) H := hP
    have hD : va_D A ([(q_gp, .inl (cI, mg, .inl (fun j : Nat => zI (a_gp (j : Int))))), (q_gs, .inl (cI, ng, .inl (fun j : Nat => zI (a_gs (j : Int))))), (h0, .inr (14, [.ref q_t, .int (zI (z16_n)), .int (zI (z0_419)), .int (zI (z1_420)), .int (zI (z2_421)), .int (zI (z3_422)), .int (zI (z4_423)), .ref q5_424, v16_8, v16_9, v16_10, .ref q_gp, .ref q_gs, .int (zI (z16_goalN))])), (q_t, .inl (cT, 8192, .inl (fun j : Nat => zI (a_t (j : Int)))))] ++ va_pl Ln_425 (pE Pn_426)) := hD
    have hK : va_K (dC, dI) vwQ [(cI, .int), (cO, .object "java/lang/Object"), (cZ, .boolean), (cT, .byte)] s := hK
    refine W.widen (k := (0 + kc_427)) (n := (0 + ks_428)) (by omega) (by omega) ?_
    obtain ⟨rk_429, rk_430, rk_431, rk_432, rk_433, hu_433⟩ := hxt_428.2
    have htk_434 := hu_433.1.2
    have hrg_434 := hu_433.1.1
    have htq_434 := htk_434.1
    have hkd_439 := hu_433.2.1
    have hX_kv := hkd_439.2
    have hu_435 := hu_433.2.2
    have hex_436 : EXT9 L Pw_60 Ln_425 Pn_426 := hu_435.1
    have hke_437 : KEG [] L Pw_60 Ln_425 Pn_426 := hex_436.kegR hak_67
    have hak_438 : GLR Ln_425 Pn_426 cO cI cZ sx_ed := hak_67.txt hex_436 hu_435.2.1
    have hsm_440 := (hex_436 xb hq_70.1).2
    have : Pn_426.bf xb = Pw_60.bf xb := hsm_440.1 0
    have : Pn_426.bs xb = Pw_60.bs xb := hsm_440.1 1
    have hsm_441 := (hex_436 pr_2 hq_71.1).2
    have : Pn_426.ro pr_2 = Pw_60.ro pr_2 := hsm_441.1 0
    have : Pn_426.rt pr_2 = Pw_60.rt pr_2 := hsm_441.1 1
    have : Pn_426.ra pr_2 = Pw_60.ra pr_2 := hsm_441.1 2
    have : Pn_426.rb pr_2 = Pw_60.rb pr_2 := hsm_441.1 3
    have : Pn_426.rA pr_2 = Pw_60.rA pr_2 := hsm_441.1 4
    have : Pn_426.rB pr_2 = Pw_60.rB pr_2 := hsm_441.1 5
    have : Pn_426.rg pr_2 = Pw_60.rg pr_2 := hsm_441.1 6
    have : Pn_426.ek pr_2 = Pw_60.ek pr_2 := hsm_441.2.1 8
    have hq_442 : HID (la ∈ Ln_425 ∧ Pn_426.kd la = 30) := hke_437.mem hq_69.1 hq_69.2 (by decide)
    have hq_443 : HID (xb ∈ Ln_425 ∧ Pn_426.kd xb = 12) := hke_437.mem hq_70.1 hq_70.2 (by decide)
    have hq_444 : HID (pr_2 ∈ Ln_425 ∧ Pn_426.kd pr_2 = 17) := hke_437.mem hq_71.1 hq_71.2 (by decide)
    have ha_445 : HID (Pn_426.be xb = pr_2) := hke_437.be hq_70.1 hq_70.2 ha_72.out
    have hA_446 : KEG [] L P Ln_425 Pn_426 := hA_73.trans hke_437
    have : Pn_426.lz la = Pw_60.lz la := (hex_436 la hq_69.1).2.1 0
    have hek_447 : HID (Pn_426.ek la = 12) := (by rw [hke_437.ek hq_69.1 hq_69.2 (by decide)]; exact hek_74.out)
    have how_448 : HID (Pn_426.ow la = la) := ((hke_437.1 la hq_69.1 (by rw [hq_69.2]; decide)).2.2.2.1 hq_69.2 how_75.out).1
    have hcz := (((hke_437.1 la hq_69.1 (by rw [hq_69.2]; decide)).2.2.2.1 hq_69.2 how_75.out).2 (by simp)).1
    have hE_449 : HID (Pn_426.ek pr_2 = 1) := (by rw [hke_437.ek hq_71.1 hq_71.2 (by decide)]; exact hE_76.out)
    have hX_tx := hu_435.2.2.1
    have hxk9 := hu_435.2.2.2
    have hcx_450 : CHG (fun z => z = xb ∨ z = P.be xb) L P Ln_425 Pn_426 := hcx_77.trans hex_436.chg (fun z m q => q.elim)
    have hnn_434 := TKV.nn (k := z1_420) (d := z0_419 - z2_421) (by omega)
    have hnx_451 : NTX L P Ln_425 Pn_426 := hnx_79.trans (NTX.ext hex_436 hu_435.2.1)
    have hri_452 : (((0 + ks_428) : Nat) : Int) ≤ 45 * (z2_421 - z16_place) - TKV z16_kind (z16_at - z16_place) + TKV (z1_420) (z0_419 - z2_421) + 35 ∧ (((0 + kc_427) : Nat) : Int) ≤ 8 * (z2_421 - z16_place) - TKW z16_kind (z16_at - z16_place) + TKW (z1_420) (z0_419 - z2_421) + 5 := (by omega)
    clear hrb
    skip
    refine lv_aload_n hx hb dX16_end_43 rfl (lv_at hl 0 rfl) ?_
    refine lv_bipush (v := 30) hx hb dX16_end_44 (by decide) ?_
    have hr7 := (hak_438.rokR hq_444.1 hq_444.2).n7
    refine lv_topi (fun z ez => ?_)
    obtain rfl : z = zI (30) := ez
    obtain ⟨kp_453, gkp_453⟩ := va_pl_get (X := [(q_gp, .inl (cI, mg, .inl (fun j : Nat => zI (a_gp (j : Int))))), (q_gs, .inl (cI, ng, .inl (fun j : Nat => zI (a_gs (j : Int))))), (h0, .inr (14, [.ref q_t, .int (zI (z16_n)), .int (zI (z0_419)), .int (zI (z1_420)), .int (zI (z2_421)), .int (zI (z3_422)), .int (zI (z4_423)), .ref q5_424, v16_8, v16_9, v16_10, .ref q_gp, .ref q_gs, .int (zI (z16_goalN))])), (q_t, .inl (cT, 8192, .inl (fun j : Nat => zI (a_t (j : Int)))))]) (f := pE Pn_426) hq_444.1
    have hkp_453 := gkp_453
    rw [pE_row hq_444.2] at hkp_453
    have hD0 := hD
    refine va_put (D := (dC, dI)) (ci := 21) (v := .int (zI (30))) (ty := .int) (C := RX17) (T := TX17) (N := 7) hx hb hts mem_X16_endR_1 tyX17 tyX17_ok nmX17 hown hK hP hD hS kp_453 hkp_453 rfl 0 (by decide) (ow (k := 16) rfl) (fun _ h9 => h9) rfl (by decide +kernel) rfl rfl (by first | exact Nat.le_of_ble_eq_true rfl | exact (show (0 + kc_427) ≤ (8 * (z16_n - z16_place) - TKW z16_kind (z16_at - z16_place) + 4 * z16_goalN + 160).toNat from (rmW (by omega))) | exact (show (0 + ks_428) ≤ (45 * (z16_n - z16_place) - TKV z16_kind (z16_at - z16_place) + 16 * z16_goalN + 700).toNat from (rmW (by omega)))) dX16_end_46 (fun H locs hP hD hS => ?_)
    obtain ⟨Pw_454, ePw_454⟩ : ∃ q9 : PO, q9 = Pn_426.rw9 0 pr_2 (30) := ⟨_, rfl⟩
    have eU : (([(q_gp, .inl (cI, mg, .inl (fun j : Nat => zI (a_gp (j : Int))))), (q_gs, .inl (cI, ng, .inl (fun j : Nat => zI (a_gs (j : Int))))), (h0, .inr (14, [.ref q_t, .int (zI (z16_n)), .int (zI (z0_419)), .int (zI (z1_420)), .int (zI (z2_421)), .int (zI (z3_422)), .int (zI (z4_423)), .ref q5_424, v16_8, v16_9, v16_10, .ref q_gp, .ref q_gs, .int (zI (z16_goalN))])), (q_t, .inl (cT, 8192, .inl (fun j : Nat => zI (a_t (j : Int)))))] : va_W) ++ va_pl Ln_425 (pE Pn_426)).set kp_453 (pr_2, rowE (30) (Pn_426.rt pr_2) (Pn_426.ra pr_2) (Pn_426.rb pr_2) (Pn_426.rA pr_2) (Pn_426.rB pr_2) (Pn_426.rg pr_2)) = ([(q_gp, .inl (cI, mg, .inl (fun j : Nat => zI (a_gp (j : Int))))), (q_gs, .inl (cI, ng, .inl (fun j : Nat => zI (a_gs (j : Int))))), (h0, .inr (14, [.ref q_t, .int (zI (z16_n)), .int (zI (z0_419)), .int (zI (z1_420)), .int (zI (z2_421)), .int (zI (z3_422)), .int (zI (z4_423)), .ref q5_424, v16_8, v16_9, v16_10, .ref q_gp, .ref q_gs, .int (zI (z16_goalN))])), (q_t, .inl (cT, 8192, .inl (fun j : Nat => zI (a_t (j : Int)))))] : va_W) ++ va_pl Ln_425 (pE Pw_454) := (by rw [va_pl_set hD0 hq_444.1 gkp_453, ePw_454]; exact congrArg (fun f9 => ([(q_gp, .inl (cI, mg, .inl (fun j : Nat => zI (a_gp (j : Int))))), (q_gs, .inl (cI, ng, .inl (fun j : Nat => zI (a_gs (j : Int))))), (h0, .inr (14, [.ref q_t, .int (zI (z16_n)), .int (zI (z0_419)), .int (zI (z1_420)), .int (zI (z2_421)), .int (zI (z3_422)), .int (zI (z4_423)), .ref q5_424, v16_8, v16_9, v16_10, .ref q_gp, .ref q_gs, .int (zI (z16_goalN))])), (q_t, .inl (cT, 8192, .inl (fun j : Nat => zI (a_t (j : Int)))))] : va_W) ++ va_pl Ln_425 f9) (put17_0 hq_444.2))
    have hP : va_P (dC, dI) vwQ ([(q_gp, .inl (cI, mg, .inl (fun j : Nat => zI (a_gp (j : Int))))), (q_gs, .inl (cI, ng, .inl (fun j : Nat => zI (a_gs (j : Int))))), (h0, .inr (14, [.ref q_t, .int (zI (z16_n)), .int (zI (z0_419)), .int (zI (z1_420)), .int (zI (z2_421)), .int (zI (z3_422)), .int (zI (z4_423)), .ref q5_424, v16_8, v16_9, v16_10, .ref q_gp, .ref q_gs, .int (zI (z16_goalN))])), (q_t, .inl (cT, 8192, .inl (fun j : Nat => zI (a_t (j : Int)))))] ++ va_pl Ln_425 (pE Pw_454)) H := (by rw [← eU]; exact hP)
    have hD : va_D A ([(q_gp, .inl (cI, mg, .inl (fun j : Nat => zI (a_gp (j : Int))))), (q_gs, .inl (cI, ng, .inl (fun j : Nat => zI (a_gs (j : Int))))), (h0, .inr (14, [.ref q_t, .int (zI (z16_n)), .int (zI (z0_419)), .int (zI (z1_420)), .int (zI (z2_421)), .int (zI (z3_422)), .int (zI (z4_423)), .ref q5_424, v16_8, v16_9, v16_10, .ref q_gp, .ref q_gs, .int (zI (z16_goalN))])), (q_t, .inl (cT, 8192, .inl (fun j : Nat => zI (a_t (j : Int)))))] ++ va_pl Ln_425 (pE Pw_454)) := (by rw [← eU]; exact hD)
    clear eU hD0 gkp_453 hkp_453
    have wPw_454 : RW1 pr_2 Pn_426 Pw_454 := (by rw [ePw_454]; exact RW1.put _ _ _ _)
    have hy_455 : Pw_454.kd la = 30 := (by rw [ePw_454]; exact hq_442.2)
    have hy_456 : Pw_454.kd xb = 12 := (by rw [ePw_454]; exact hq_443.2)
    have : Pw_454.bf xb = Pn_426.bf xb := wPw_454.2 _ (kd_ne hq_443.2 hq_444.2 (by decide)) _
    have : Pw_454.bs xb = Pn_426.bs xb := wPw_454.2 _ (kd_ne hq_443.2 hq_444.2 (by decide)) _
    have hy_457 : Pw_454.kd pr_2 = 17 := (by rw [ePw_454]; exact hq_444.2)
    have : Pw_454.ro pr_2 = 30 := (by rw [ePw_454]; exact rw9_at _ _ _ _)
    have : Pw_454.rt pr_2 = Pn_426.rt pr_2 := (by rw [ePw_454]; exact rw9_of _ (by decide))
    have : Pw_454.ra pr_2 = Pn_426.ra pr_2 := (by rw [ePw_454]; exact rw9_of _ (by decide))
    have : Pw_454.rb pr_2 = Pn_426.rb pr_2 := (by rw [ePw_454]; exact rw9_of _ (by decide))
    have : Pw_454.rA pr_2 = Pn_426.rA pr_2 := (by rw [ePw_454]; exact rw9_of _ (by decide))
    have : Pw_454.rB pr_2 = Pn_426.rB pr_2 := (by rw [ePw_454]; exact rw9_of _ (by decide))
    have : Pw_454.rg pr_2 = Pn_426.rg pr_2 := (by rw [ePw_454]; exact rw9_of _ (by decide))
    have : Pw_454.ek pr_2 = Pn_426.ek pr_2 := (by rw [ePw_454]; rfl)
    have ha_458 : HID (Pw_454.be xb = pr_2) := (by rw [ePw_454]; exact ha_445.out)
    have hW_459 : RW1 pr_2 Pn_426 Pw_454 := wPw_454
    have hrw_462 : RWD Pn_426 Pw_454 := hW_459.rwd (Or.inl hq_444.2)
    have hak_461 : GLR Ln_425 Pw_454 cO cI cZ sx_ed := hak_438.row hW_459 hq_444.2 (ROKR.of (by omega) (by omega) (by omega) (by omega) (by omega) (by omega) (by omega) (uaZR (by omega)) (ubGR (by omega))) (fun e9 => absurd hE_449.out e9)
    have hke_460 : KEG [] Ln_425 Pn_426 Ln_425 Pw_454 := hrw_462.kegR _ hq_442.2
    have hq_463 : HID (la ∈ Ln_425 ∧ Pw_454.kd la = 30) := hke_460.mem hq_442.1 hq_442.2 (by decide)
    have hq_464 : HID (xb ∈ Ln_425 ∧ Pw_454.kd xb = 12) := hke_460.mem hq_443.1 hq_443.2 (by decide)
    have hq_465 : HID (pr_2 ∈ Ln_425 ∧ Pw_454.kd pr_2 = 17) := hke_460.mem hq_444.1 hq_444.2 (by decide)
    have ha_466 : HID (Pw_454.be xb = pr_2) := hke_460.be hq_443.1 hq_443.2 ha_445.out
    have hA_467 : KEG [] L P Ln_425 Pw_454 := hA_446.trans hke_460
    have : Pw_454.lz la = Pn_426.lz la := hrw_462.lz hq_442.2
    have : Pw_454.cap la = Pn_426.cap la := hW_459.cap la
    have hek_468 : HID (Pw_454.ek la = 12) := (by rw [hke_460.ek hq_442.1 hq_442.2 (by decide)]; exact hek_447.out)
    have how_469 : HID (Pw_454.ow la = la) := ((hke_460.1 la hq_442.1 (by rw [hq_442.2]; decide)).2.2.2.1 hq_442.2 how_448.out).1
    have hcz := (((hke_460.1 la hq_442.1 (by rw [hq_442.2]; decide)).2.2.2.1 hq_442.2 how_448.out).2 (by simp)).1
    have hE_470 : HID (Pw_454.ek pr_2 = 1) := (by rw [hke_460.ek hq_444.1 hq_444.2 (by decide)]; exact hE_449.out)
    have hX_tx := hX_tx.rw1R hW_459 (Or.inl hq_444.2)
    have hcx_471 : CHG (fun z => z = xb ∨ z = P.be xb) L P Ln_425 Pw_454 := hcx_450.trans (hW_459.chg _) (fun z m q => Or.inr (q.trans epr_2))
    have hsm_472 := (hW_459.chg Ln_425 xb hq_464.1 (fun e9 => absurd e9 (kd_ne hq_464.2 hq_465.2 (by decide)))).2
    have : Pw_454.bf xb = Pn_426.bf xb := hsm_472.1 0
    have : Pw_454.bs xb = Pn_426.bs xb := hsm_472.1 1
    have hnx_473 : NTX L P Ln_425 Pw_454 := hnx_451.trans (NTX.put9 hW_459)
    refine lv_aload_n hx hb dX16_end_49 rfl (lv_at hl 2 rfl) ?_
    refine lv_aload_n hx hb dX16_end_50 rfl (lv_at hl 1 rfl) ?_
    have hX_tn := htk_434
    have hPc := hP.part (X := [(q_gp, .inl (cI, mg, .inl (fun j : Nat => zI (a_gp (j : Int))))), (q_gs, .inl (cI, ng, .inl (fun j : Nat => zI (a_gs (j : Int))))), (h0, .inr (14, [.ref q_t, .int (zI (z16_n)), .int (zI (z0_419)), .int (zI (z1_420)), .int (zI (z2_421)), .int (zI (z3_422)), .int (zI (z4_423)), .ref q5_424, v16_8, v16_9, v16_10, .ref q_gp, .ref q_gs, .int (zI (z16_goalN))])), (q_t, .inl (cT, 8192, .inl (fun j : Nat => zI (a_t (j : Int)))))]) (cx := [(h0, .inr (14, [.ref q_t, .int (zI (z16_n)), .int (zI (z0_419)), .int (zI (z1_420)), .int (zI (z2_421)), .int (zI (z3_422)), .int (zI (z4_423)), .ref q5_424, v16_8, v16_9, v16_10, .ref q_gp, .ref q_gs, .int (zI (z16_goalN))])), (q_t, .inl (cT, 8192, .inl (fun j : Nat => zI (a_t (j : Int))))), (q_gp, .inl (cI, mg, .inl (fun j : Nat => zI (a_gp (j : Int))))), (q_gs, .inl (cI, ng, .inl (fun j : Nat => zI (a_gs (j : Int)))))]) (pl := va_pl Ln_425 (pE Pw_454)) [2, 3, 0, 1] rfl
    have hDc := hD.part (X := [(q_gp, .inl (cI, mg, .inl (fun j : Nat => zI (a_gp (j : Int))))), (q_gs, .inl (cI, ng, .inl (fun j : Nat => zI (a_gs (j : Int))))), (h0, .inr (14, [.ref q_t, .int (zI (z16_n)), .int (zI (z0_419)), .int (zI (z1_420)), .int (zI (z2_421)), .int (zI (z3_422)), .int (zI (z4_423)), .ref q5_424, v16_8, v16_9, v16_10, .ref q_gp, .ref q_gs, .int (zI (z16_goalN))])), (q_t, .inl (cT, 8192, .inl (fun j : Nat => zI (a_t (j : Int)))))]) (cx := [(h0, .inr (14, [.ref q_t, .int (zI (z16_n)), .int (zI (z0_419)), .int (zI (z1_420)), .int (zI (z2_421)), .int (zI (z3_422)), .int (zI (z4_423)), .ref q5_424, v16_8, v16_9, v16_10, .ref q_gp, .ref q_gs, .int (zI (z16_goalN))])), (q_t, .inl (cT, 8192, .inl (fun j : Nat => zI (a_t (j : Int))))), (q_gp, .inl (cI, mg, .inl (fun j : Nat => zI (a_gp (j : Int))))), (q_gs, .inl (cI, ng, .inl (fun j : Nat => zI (a_gs (j : Int)))))]) (pl := va_pl Ln_425 (pE Pw_454)) [2, 3, 0, 1] (by decide) rfl
    have hKc := hK.sub (tys' := [(cT, .byte), (cI, .int)]) [3, 0] rfl
    have hFc := va_freeP (X := [(q_gp, .inl (cI, mg, .inl (fun j : Nat => zI (a_gp (j : Int))))), (q_gs, .inl (cI, ng, .inl (fun j : Nat => zI (a_gs (j : Int))))), (h0, .inr (14, [.ref q_t, .int (zI (z16_n)), .int (zI (z0_419)), .int (zI (z1_420)), .int (zI (z2_421)), .int (zI (z3_422)), .int (zI (z4_423)), .ref q5_424, v16_8, v16_9, v16_10, .ref q_gp, .ref q_gs, .int (zI (z16_goalN))])), (q_t, .inl (cT, 8192, .inl (fun j : Nat => zI (a_t (j : Int)))))]) (cx := [(h0, .inr (14, [.ref q_t, .int (zI (z16_n)), .int (zI (z0_419)), .int (zI (z1_420)), .int (zI (z2_421)), .int (zI (z3_422)), .int (zI (z4_423)), .ref q5_424, v16_8, v16_9, v16_10, .ref q_gp, .ref q_gs, .int (zI (z16_goalN))])), (q_t, .inl (cT, 8192, .inl (fun j : Nat => zI (a_t (j : Int))))), (q_gp, .inl (cI, mg, .inl (fun j : Nat => zI (a_gp (j : Int))))), (q_gs, .inl (cI, ng, .inl (fun j : Nat => zI (a_gs (j : Int)))))]) (pl := va_pl Ln_425 (pE Pw_454)) hD hS hA [2, 3, 0, 1] rfl
    refine W_knowS (fun hrmA => ?_)
    refine vx_calli (vx_runV (As := []) (rest := [.ref xb]) ⟨hx, hb, hml, hown, hts⟩ (c_X16_goalK l dC dI h0 z16_n z0_419 z1_420 z2_421 z3_422 z4_423 v16_8 v16_9 v16_10 z16_goalN q_t cT a_t q5_424 q_gp q_gs cI ng mg a_gp a_gs Ln_425 Pw_454 sa_RX16_9 (by omega) (by omega) (by omega) (by omega) (by omega) (by omega) (by omega) hR_a_t (by omega) hR_a_gp hR_a_gs hX_tx (by omega) hX_kv hX_tn H.size sv_RX16_9 sa_RX16_119 sv_RX16_119 sa_RX16_100 sv_RX16_100 sa_RX16_117 sv_RX16_117 sa_RX16_98 sv_RX16_98 H) (cwV 0 hts g_X16_endR_X16_goalK rfl rfl rfl (by decide +kernel) ⟨(Nat.le_of_ble_eq_true rfl), (Nat.le_of_ble_eq_true rfl)⟩) ⟨fun a U g mk q => by obtain ⟨q0, q1, qP, qK, qD, e0, e1, e2, e3, e4, e5, e6, e7, e8, e9, e10, e11, e12, e13, e14⟩ := q; exact ⟨q0, q1, qP, va_K.moved (u := U) (U := U.calling g mk a) (Vm.Alike.refl U.vm) qK, qD, vk_R.same (u := U) (U := U.calling g mk a) rfl e0, va_Z.moved (u := U) (U := U.calling g mk a) (Vm.Alike.refl U.vm) e1, vs_S.moved (u := U) (U := U.calling g mk a) (Vm.Alike.refl U.vm) e2, va_Nw.same rfl (u := U) (U := U.calling g mk a) rfl e3, vk_R.same (u := U) (U := U.calling g mk a) rfl e4, vs_S.moved (u := U) (U := U.calling g mk a) (Vm.Alike.refl U.vm) e5, vs_S.moved (u := U) (U := U.calling g mk a) (Vm.Alike.refl U.vm) e6, vk_R.same (u := U) (U := U.calling g mk a) rfl e7, vk_R.same (u := U) (U := U.calling g mk a) rfl e8, vs_S.moved (u := U) (U := U.calling g mk a) (Vm.Alike.refl U.vm) e9, vk_R.same (u := U) (U := U.calling g mk a) rfl e10, vs_S.moved (u := U) (U := U.calling g mk a) (Vm.Alike.refl U.vm) e11, vx_Zq.moved (u := U) (U := U.calling g mk a) (Vm.Alike.refl U.vm) e12, vx_Zq.moved (u := U) (U := U.calling g mk a) (Vm.Alike.refl U.vm) e13, e14⟩, va_recv hKc hPc (ci := 14) (q0 := 0) rfl rfl, fun U hU hW => ⟨rfl, by rw [hU], by rw [hU]; exact hPc, va_K.moved hW.alike hKc, hDc.weaken (fun _ _ _ _ => trivial), vk_R.warm hW hp11, va_Z.go hp3 hS hFc hU hW.alike, vs_S.go hp2 hS hFc hU hW.alike, va_Nw.warmC hW hp12, vk_R.warm hW hp13, vs_S.go hp14 hS hFc hU hW.alike, vs_S.go hp15 hS hFc hU hW.alike, vk_R.warm hW hp16, vk_R.warm hW hp17, vs_S.go hp18 hS hFc hU hW.alike, vk_R.warm hW hp19, vs_S.go hp20 hS hFc hU hW.alike, vx_Zq.go hp8 hS hFc hU hW.alike, vx_Zq.go hp9 hS hFc hU hW.alike, hU⟩⟩ rfl rfl hl.1 rfl (lv_room (Nat.le_of_ble_eq_true rfl)) dX16_end_51 ⟨(show (0 + kc_427) + ((z16_n - z0_419 + 22).toNat) ≤ (8 * (z16_n - z16_place) - TKW z16_kind (z16_at - z16_place) + 4 * z16_goalN + 160).toNat from (rmT (by omega) (by omega))), (show (0 + ks_428) + ((10 * (z16_n - z0_419) + 4 * z16_goalN + 120).toNat) ≤ (45 * (z16_n - z16_place) - TKV z16_kind (z16_at - z16_place) + 16 * z16_goalN + 700).toNat from (rmT (by omega) (by omega)))⟩) hS (fun q _ h => hFc q h) hFc (fun q _ h => hFc q h) (fun E ce q9 u t H1 locs ht hvm _ hB hz1 hk1 hS hce hcv hcl => ?_) (fun r_474 z_475 t H1 locs ht hvm hw hB hz1 hk1 hS => ?_)
    · obtain ⟨rfl, zp_476, Ln_477, Pn_478, kc_479, ks_480, hxt_481, hP1, hD1⟩ := hB
      rw [ht] at hP1
      obtain ⟨hP, hD⟩ := va_joinP (X := [(q_gp, .inl (cI, mg, .inl (fun j : Nat => zI (a_gp (j : Int))))), (q_gs, .inl (cI, ng, .inl (fun j : Nat => zI (a_gs (j : Int))))), (h0, .inr (14, [.ref q_t, .int (zI (z16_n)), .int (zI (z0_419)), .int (zI (z1_420)), .int (zI (z2_421)), .int (zI (z3_422)), .int (zI (z4_423)), .ref q5_424, v16_8, v16_9, v16_10, .ref q_gp, .ref q_gs, .int (zI (z16_goalN))])), (q_t, .inl (cT, 8192, .inl (fun j : Nat => zI (a_t (j : Int)))))]) (cx := [(h0, .inr (14, [.ref q_t, .int (zI (z16_n)), .int (zI (z0_419)), .int (zI (z1_420)), .int (zI (z2_421)), .int (zI (z3_422)), .int (zI (z4_423)), .ref q5_424, v16_8, v16_9, v16_10, .ref q_gp, .ref q_gs, .int (zI (z16_goalN))])), (q_t, .inl (cT, 8192, .inl (fun j : Nat => zI (a_t (j : Int))))), (q_gp, .inl (cI, mg, .inl (fun j : Nat => zI (a_gp (j : Int))))), (q_gs, .inl (cI, ng, .inl (fun j : Nat => zI (a_gs (j : Int)))))]) (wr := []) (rx := [(q_t, .inl (cT, 8192, .inl (fun j : Nat => zI (a_t (j : Int))))), (q9, .inr (15, [.null, .null, .null, .null, .null, .int 0, .int (zI (zp_476))]))]) (pl := va_pl Ln_425 (pE Pw_454)) (pl1 := va_pl Ln_477 (pE Pn_478)) hP hD [2, 3, 0, 1] [] rfl rfl (by decide) (by decide) hk1 hFc hP1 hD1
      have hrmC := hxt_481.1.1
      rw [ht] at hrmC
      refine vx_tightS (hrmA.trans hrmC) ?_
      have hrb := hxt_481.1.2
      generalize H1 = H at hP hS hce ⊢
      have hP : va_P (dC, dI) vwQ ([(q_t, .inl (cT, 8192, .inl (fun j : Nat => zI (a_t (j : Int))))), (q9, .inr (15, [.null, .null, .null, .null, .null, .int 0, .int (zI (zp_476))]))] ++ va_pl Ln_477 (pE Pn_478)) H := hP
      have hD : va_D A ([(q_t, .inl (cT, 8192, .inl (fun j : Nat => zI (a_t (j : Int))))), (q9, .inr (15, [.null, .null, .null, .null, .null, .int 0, .int (zI (zp_476))]))] ++ va_pl Ln_477 (pE Pn_478)) := hD
      have hzp : 0 ≤ zp_476 ∧ zp_476 ≤ 8192 := hxt_481.2.1
      subst hQ
      refine vx_knowS (fun hrm9 => ?_)
      refine vx_widen (k := ((8 * (z16_n - z16_place) - TKW z16_kind (z16_at - z16_place) + 4 * z16_goalN + 160).toNat)) (n := ((45 * (z16_n - z16_place) - TKV z16_kind (z16_at - z16_place) + 16 * z16_goalN + 700).toNat)) (rmW (by omega)) (rmW (by omega)) ?_
      exact vx_out (fun x9 h9 => (hnt x9 h9).elim) hlocks hce hcv hcl (fun t ht hvm => ⟨(), trivial, ⟨rfl, zp_476, Ln_477, Pn_478, ((0 + kc_427) + kc_479), ((0 + ks_428) + ks_480), ⟨⟨(by rw [ht, ← hp10]; exact hrm9), (by omega)⟩, ⟨(by omega), ⟨hA_467.trans (hxt_481.2.2.1.kegR hak_461), hak_461.txt hxt_481.2.2.1 hxt_481.2.2.2, (hcx_471.cpa hg00.owa (fun z _ q => by rcases (show z = xb ∨ z = P.be xb from q) with q | q; rw [q, hX_bk]; decide; rw [q, (hg00.gb hX_b hX_bk).1.2.1]; decide)).trans hA_467 (hxt_481.2.2.1.cpa hak_461.owa), hnx_473.trans (NTX.ext hxt_481.2.2.1 hxt_481.2.2.2)⟩⟩⟩, by rw [ht]; exact hP, hD⟩, hS.F ht⟩) hS.2.2 (Nat.le_refl _) (Nat.le_refl _)
    obtain ⟨z0_482, z1_483, z2_484, z3_485, z4_486, q5_487, z6_488, qn0_489, nn0_490, an0_491, qn1_492, nn1_493, an1_494, Ln_495, Pn_496, kc_497, ks_498, hxt_498, hP1, hK1, hD1⟩ := hB
    rw [ht] at hP1
    have hK1 := va_K.moved hvm.symm hK1
    obtain ⟨hP, hD⟩ := va_joinP (X := [(q_gp, .inl (cI, mg, .inl (fun j : Nat => zI (a_gp (j : Int))))), (q_gs, .inl (cI, ng, .inl (fun j : Nat => zI (a_gs (j : Int))))), (h0, .inr (14, [.ref q_t, .int (zI (z16_n)), .int (zI (z0_419)), .int (zI (z1_420)), .int (zI (z2_421)), .int (zI (z3_422)), .int (zI (z4_423)), .ref q5_424, v16_8, v16_9, v16_10, .ref q_gp, .ref q_gs, .int (zI (z16_goalN))])), (q_t, .inl (cT, 8192, .inl (fun j : Nat => zI (a_t (j : Int)))))]) (cx := [(h0, .inr (14, [.ref q_t, .int (zI (z16_n)), .int (zI (z0_419)), .int (zI (z1_420)), .int (zI (z2_421)), .int (zI (z3_422)), .int (zI (z4_423)), .ref q5_424, v16_8, v16_9, v16_10, .ref q_gp, .ref q_gs, .int (zI (z16_goalN))])), (q_t, .inl (cT, 8192, .inl (fun j : Nat => zI (a_t (j : Int))))), (q_gp, .inl (cI, mg, .inl (fun j : Nat => zI (a_gp (j : Int))))), (q_gs, .inl (cI, ng, .inl (fun j : Nat => zI (a_gs (j : Int)))))]) (wr := []) (rx := [(h0, .inr (14, [.ref q_t, .int (zI (z16_n)), .int (zI (z0_482)), .int (zI (z1_483)), .int (zI (z2_484)), .int (zI (z3_485)), .int (zI (z4_486)), .ref q5_487, v16_8, v16_9, v16_10, .ref qn0_489, .ref qn1_492, .int (zI (z6_488))])), (q_t, .inl (cT, 8192, .inl (fun j : Nat => zI (a_t (j : Int))))), (qn0_489, .inl (cI, nn0_490, .inl (fun j : Nat => zI (an0_491 (j : Int))))), (qn1_492, .inl (cI, nn1_493, .inl (fun j : Nat => zI (an1_494 (j : Int)))))]) (pl := va_pl Ln_425 (pE Pw_454)) (pl1 := va_pl Ln_495 (pE Pn_496)) hP hD [2, 3, 0, 1] [] rfl rfl (by decide) (by decide) hk1 hFc hP1 hD1
    have hK := (hK.sub (tys' := [(cO, .object "java/lang/Object"), (cZ, .boolean)]) [1, 2] rfl).app hK1
    have hrmC := hxt_498.1.1
    rw [ht] at hrmC
    refine W_tightS (hrmA.trans hrmC) ?_
    have hrb := hxt_498.1.2
    generalize H1 = H at hP hS ⊢
    have hP : va_P (dC, dI) vwQ ([(h0, .inr (14, [.ref q_t, .int (zI (z16_n)), .int (zI (z0_482)), .int (zI (z1_483)), .int (zI (z2_484)), .int (zI (z3_485)), .int (zI (z4_486)), .ref q5_487, v16_8, v16_9, v16_10, .ref qn0_489, .ref qn1_492, .int (zI (z6_488))])), (q_t, .inl (cT, 8192, .inl (fun j : Nat => zI (a_t (j : Int))))), (qn0_489, .inl (cI, nn0_490, .inl (fun j : Nat => zI (an0_491 (j : Int))))), (qn1_492, .inl (cI, nn1_493, .inl (fun j : Nat => zI (an1_494 (j : Int)))))] ++ va_pl Ln_495 (pE Pn_496)) H := hP
    have hD : va_D A ([(h0, .inr (14, [.ref q_t, .int (zI (z16_n)), .int (zI (z0_482)), .int (zI (z1_483)), .int (zI (z2_484)), .int (zI (z3_485)), .int (zI (z4_486)), .ref q5_487, v16_8, v16_9, v16_10, .ref qn0_489, .ref qn1_492, .int (zI (z6_488))])), (q_t, .inl (cT, 8192, .inl (fun j : Nat => zI (a_t (j : Int))))), (qn0_489, .inl (cI, nn0_490, .inl (fun j : Nat => zI (an0_491 (j : Int))))), (qn1_492, .inl (cI, nn1_493, .inl (fun j : Nat => zI (an1_494 (j : Int)))))] ++ va_pl Ln_495 (pE Pn_496)) := hD
    have hK : va_K (dC, dI) vwQ [(cO, .object "java/lang/Object"), (cZ, .boolean), (cT, .byte), (cI, .int)] s := hK
    refine W.widen (k := ((0 + kc_427) + kc_497)) (n := ((0 + ks_428) + ks_498)) (by omega) (by omega) ?_
    obtain ⟨rfl, hzz_475⟩ := hw
    obtain ⟨rk_499, rk_500, rk_501, rk_502, rk_503, rk_504, rk_505, rk_506, hu_506⟩ := hxt_498.2
    have htk_507 := hu_506.2.2.2.1.2
    have hrg_507 := hu_506.2.2.2.1.1
    have htq_507 := htk_507.1
    have hgo9 := hkd_439.go (by omega)
    have hkd_512 := hu_506.2.2.2.2.1
    have hX_kv := hkd_512.2
    have hu_508 := hu_506.2.2.2.2.2
    have hex_509 : EXT9 Ln_425 Pw_454 Ln_495 Pn_496 := hu_508.1
    have hke_510 : KEG [] Ln_425 Pw_454 Ln_495 Pn_496 := hex_509.kegR hak_461
    have hak_511 : GLR Ln_495 Pn_496 cO cI cZ sx_ed := hak_461.txt hex_509 hu_508.2.1
    have hsm_513 := (hex_509 xb hq_464.1).2
    have : Pn_496.bf xb = Pw_454.bf xb := hsm_513.1 0
    have : Pn_496.bs xb = Pw_454.bs xb := hsm_513.1 1
    have hsm_514 := (hex_509 pr_2 hq_465.1).2
    have : Pn_496.ro pr_2 = Pw_454.ro pr_2 := hsm_514.1 0
    have : Pn_496.rt pr_2 = Pw_454.rt pr_2 := hsm_514.1 1
    have : Pn_496.ra pr_2 = Pw_454.ra pr_2 := hsm_514.1 2
    have : Pn_496.rb pr_2 = Pw_454.rb pr_2 := hsm_514.1 3
    have : Pn_496.rA pr_2 = Pw_454.rA pr_2 := hsm_514.1 4
    have : Pn_496.rB pr_2 = Pw_454.rB pr_2 := hsm_514.1 5
    have : Pn_496.rg pr_2 = Pw_454.rg pr_2 := hsm_514.1 6
    have : Pn_496.ek pr_2 = Pw_454.ek pr_2 := hsm_514.2.1 8
    have hq_515 : HID (la ∈ Ln_495 ∧ Pn_496.kd la = 30) := hke_510.mem hq_463.1 hq_463.2 (by decide)
    have hq_516 : HID (xb ∈ Ln_495 ∧ Pn_496.kd xb = 12) := hke_510.mem hq_464.1 hq_464.2 (by decide)
    have hq_517 : HID (pr_2 ∈ Ln_495 ∧ Pn_496.kd pr_2 = 17) := hke_510.mem hq_465.1 hq_465.2 (by decide)
    have ha_518 : HID (Pn_496.be xb = pr_2) := hke_510.be hq_464.1 hq_464.2 ha_466.out
    have hA_519 : KEG [] L P Ln_495 Pn_496 := hA_467.trans hke_510
    have : Pn_496.lz la = Pw_454.lz la := (hex_509 la hq_463.1).2.1 0
    have hek_520 : HID (Pn_496.ek la = 12) := (by rw [hke_510.ek hq_463.1 hq_463.2 (by decide)]; exact hek_468.out)
    have how_521 : HID (Pn_496.ow la = la) := ((hke_510.1 la hq_463.1 (by rw [hq_463.2]; decide)).2.2.2.1 hq_463.2 how_469.out).1
    have hcz := (((hke_510.1 la hq_463.1 (by rw [hq_463.2]; decide)).2.2.2.1 hq_463.2 how_469.out).2 (by simp)).1
    have hE_522 : HID (Pn_496.ek pr_2 = 1) := (by rw [hke_510.ek hq_465.1 hq_465.2 (by decide)]; exact hE_470.out)
    have hX_tx := hu_508.2.2
    have hcx_523 : CHG (fun z => z = xb ∨ z = P.be xb) L P Ln_495 Pn_496 := hcx_471.trans hex_509.chg (fun z m q => q.elim)
    have hnn_507 := TKV.nn (k := z1_483) (d := z0_482 - z2_484) (by omega)
    have hnx_524 : NTX L P Ln_495 Pn_496 := hnx_473.trans (NTX.ext hex_509 hu_508.2.1)
    have hgo1 := hu_506
    have hgn1 := hgo1.1
    have hri_525 : ((((0 + ks_428) + ks_498) : Nat) : Int) ≤ 45 * (z2_484 - z16_place) - TKV z16_kind (z16_at - z16_place) + TKV (z1_483) (z0_482 - z2_484) + 4 * ((nn1_493 : Int) - ng) - 55 ∧ ((((0 + kc_427) + kc_497) : Nat) : Int) ≤ 8 * (z2_484 - z16_place) - TKW z16_kind (z16_at - z16_place) + TKW (z1_483) (z0_482 - z2_484) + 2 * ((nn1_493 : Int) - ng) - 11 := (by omega)
    replace hri_525 := HID.mk hri_525
    clear hrb hri_452
    skip
    have hfb := (hak_511.gb hq_516.1 hq_516.2).2
    obtain ⟨kp_526, gkp_526⟩ := va_pl_get (X := [(h0, .inr (14, [.ref q_t, .int (zI (z16_n)), .int (zI (z0_482)), .int (zI (z1_483)), .int (zI (z2_484)), .int (zI (z3_485)), .int (zI (z4_486)), .ref q5_487, v16_8, v16_9, v16_10, .ref qn0_489, .ref qn1_492, .int (zI (z6_488))])), (q_t, .inl (cT, 8192, .inl (fun j : Nat => zI (a_t (j : Int))))), (qn0_489, .inl (cI, nn0_490, .inl (fun j : Nat => zI (an0_491 (j : Int))))), (qn1_492, .inl (cI, nn1_493, .inl (fun j : Nat => zI (an1_494 (j : Int)))))]) (f := pE Pn_496) hq_516.1
    have hkp_526 := gkp_526
    rw [pE_block hq_516.2] at hkp_526
    have hD0 := hD
    refine va_put (D := (dC, dI)) (ci := 19) (v := .int (zI (z_475))) (ty := .int) (C := RX12) (T := TX12) (N := 5) hx hb hts mem_X16_endR_0 tyX12 tyX12_ok nmX12 hown hK hP hD hS kp_526 hkp_526 rfl 3 (by decide) (ow (k := 4) rfl) (fun _ h9 => h9) rfl (by decide +kernel) rfl rfl (by first | exact Nat.le_of_ble_eq_true rfl | exact (show ((0 + kc_427) + kc_497) ≤ (8 * (z16_n - z16_place) - TKW z16_kind (z16_at - z16_place) + 4 * z16_goalN + 160).toNat from (rmW (by omega))) | exact (show ((0 + ks_428) + ks_498) ≤ (45 * (z16_n - z16_place) - TKV z16_kind (z16_at - z16_place) + 16 * z16_goalN + 700).toNat from (rmW (by omega)))) dX16_end_54 (fun H locs hP hD hS => ?_)
    obtain ⟨Pw_527, ePw_527⟩ : ∃ q9 : PO, q9 = Pn_496.rw9 0 xb (z_475) := ⟨_, rfl⟩
    have eU : (([(h0, .inr (14, [.ref q_t, .int (zI (z16_n)), .int (zI (z0_482)), .int (zI (z1_483)), .int (zI (z2_484)), .int (zI (z3_485)), .int (zI (z4_486)), .ref q5_487, v16_8, v16_9, v16_10, .ref qn0_489, .ref qn1_492, .int (zI (z6_488))])), (q_t, .inl (cT, 8192, .inl (fun j : Nat => zI (a_t (j : Int))))), (qn0_489, .inl (cI, nn0_490, .inl (fun j : Nat => zI (an0_491 (j : Int))))), (qn1_492, .inl (cI, nn1_493, .inl (fun j : Nat => zI (an1_494 (j : Int)))))] : va_W) ++ va_pl Ln_495 (pE Pn_496)).set kp_526 (xb, blockE (Pn_496.bp xb) (Pn_496.br xb) (Pn_496.be xb) (z_475) (Pn_496.bs xb)) = ([(h0, .inr (14, [.ref q_t, .int (zI (z16_n)), .int (zI (z0_482)), .int (zI (z1_483)), .int (zI (z2_484)), .int (zI (z3_485)), .int (zI (z4_486)), .ref q5_487, v16_8, v16_9, v16_10, .ref qn0_489, .ref qn1_492, .int (zI (z6_488))])), (q_t, .inl (cT, 8192, .inl (fun j : Nat => zI (a_t (j : Int))))), (qn0_489, .inl (cI, nn0_490, .inl (fun j : Nat => zI (an0_491 (j : Int))))), (qn1_492, .inl (cI, nn1_493, .inl (fun j : Nat => zI (an1_494 (j : Int)))))] : va_W) ++ va_pl Ln_495 (pE Pw_527) := (by rw [va_pl_set hD0 hq_516.1 gkp_526, ePw_527]; exact congrArg (fun f9 => ([(h0, .inr (14, [.ref q_t, .int (zI (z16_n)), .int (zI (z0_482)), .int (zI (z1_483)), .int (zI (z2_484)), .int (zI (z3_485)), .int (zI (z4_486)), .ref q5_487, v16_8, v16_9, v16_10, .ref qn0_489, .ref qn1_492, .int (zI (z6_488))])), (q_t, .inl (cT, 8192, .inl (fun j : Nat => zI (a_t (j : Int))))), (qn0_489, .inl (cI, nn0_490, .inl (fun j : Nat => zI (an0_491 (j : Int))))), (qn1_492, .inl (cI, nn1_493, .inl (fun j : Nat => zI (an1_494 (j : Int)))))] : va_W) ++ va_pl Ln_495 f9) (put12_0 hq_516.2))
    have hP : va_P (dC, dI) vwQ ([(h0, .inr (14, [.ref q_t, .int (zI (z16_n)), .int (zI (z0_482)), .int (zI (z1_483)), .int (zI (z2_484)), .int (zI (z3_485)), .int (zI (z4_486)), .ref q5_487, v16_8, v16_9, v16_10, .ref qn0_489, .ref qn1_492, .int (zI (z6_488))])), (q_t, .inl (cT, 8192, .inl (fun j : Nat => zI (a_t (j : Int))))), (qn0_489, .inl (cI, nn0_490, .inl (fun j : Nat => zI (an0_491 (j : Int))))), (qn1_492, .inl (cI, nn1_493, .inl (fun j : Nat => zI (an1_494 (j : Int)))))] ++ va_pl Ln_495 (pE Pw_527)) H := (by rw [← eU]; exact hP)
    have hD : va_D A ([(h0, .inr (14, [.ref q_t, .int (zI (z16_n)), .int (zI (z0_482)), .int (zI (z1_483)), .int (zI (z2_484)), .int (zI (z3_485)), .int (zI (z4_486)), .ref q5_487, v16_8, v16_9, v16_10, .ref qn0_489, .ref qn1_492, .int (zI (z6_488))])), (q_t, .inl (cT, 8192, .inl (fun j : Nat => zI (a_t (j : Int))))), (qn0_489, .inl (cI, nn0_490, .inl (fun j : Nat => zI (an0_491 (j : Int))))), (qn1_492, .inl (cI, nn1_493, .inl (fun j : Nat => zI (an1_494 (j : Int)))))] ++ va_pl Ln_495 (pE Pw_527)) := (by rw [← eU]; exact hD)
    clear eU hD0 gkp_526 hkp_526
    have wPw_527 : RW1 xb Pn_496 Pw_527 := (by rw [ePw_527]; exact RW1.put _ _ _ _)
    have hy_528 : Pw_527.kd la = 30 := (by rw [ePw_527]; exact hq_515.2)
    have hy_529 : Pw_527.kd xb = 12 := (by rw [ePw_527]; exact hq_516.2)
    have : Pw_527.bf xb = z_475 := (by rw [ePw_527]; exact rw9_at _ _ _ _)
    have : Pw_527.bs xb = Pn_496.bs xb := (by rw [ePw_527]; exact rw9_of _ (by decide))
    have hy_530 : Pw_527.kd pr_2 = 17 := (by rw [ePw_527]; exact hq_517.2)
    have : Pw_527.ro pr_2 = Pn_496.ro pr_2 := wPw_527.2 _ (kd_ne hq_517.2 hq_516.2 (by decide)) _
    have : Pw_527.rt pr_2 = Pn_496.rt pr_2 := wPw_527.2 _ (kd_ne hq_517.2 hq_516.2 (by decide)) _
    have : Pw_527.ra pr_2 = Pn_496.ra pr_2 := wPw_527.2 _ (kd_ne hq_517.2 hq_516.2 (by decide)) _
    have : Pw_527.rb pr_2 = Pn_496.rb pr_2 := wPw_527.2 _ (kd_ne hq_517.2 hq_516.2 (by decide)) _
    have : Pw_527.rA pr_2 = Pn_496.rA pr_2 := wPw_527.2 _ (kd_ne hq_517.2 hq_516.2 (by decide)) _
    have : Pw_527.rB pr_2 = Pn_496.rB pr_2 := wPw_527.2 _ (kd_ne hq_517.2 hq_516.2 (by decide)) _
    have : Pw_527.rg pr_2 = Pn_496.rg pr_2 := wPw_527.2 _ (kd_ne hq_517.2 hq_516.2 (by decide)) _
    have ha_531 : HID (Pw_527.be xb = pr_2) := (by rw [ePw_527]; exact ha_518.out)
    have hW_532 : RW1 xb Pn_496 Pw_527 := wPw_527
    have hak_534 : GLR Ln_495 Pw_527 cO cI cZ sx_ed := hak_511.goal hW_532 hq_516.2 (by omega)
    have hke_533 : KEG [] Ln_495 Pn_496 Ln_495 Pw_527 := hW_532.kegR _ hq_515.2 (by have q9 := hq_516.2; omega)
    have hq_536 : HID (la ∈ Ln_495 ∧ Pw_527.kd la = 30) := hke_533.mem hq_515.1 hq_515.2 (by decide)
    have hq_537 : HID (xb ∈ Ln_495 ∧ Pw_527.kd xb = 12) := hke_533.mem hq_516.1 hq_516.2 (by decide)
    have hq_538 : HID (pr_2 ∈ Ln_495 ∧ Pw_527.kd pr_2 = 17) := hke_533.mem hq_517.1 hq_517.2 (by decide)
    have ha_539 : HID (Pw_527.be xb = pr_2) := hke_533.be hq_516.1 hq_516.2 ha_518.out
    have hA_540 : KEG [] L P Ln_495 Pw_527 := hA_519.trans hke_533
    have : Pw_527.cap la = Pn_496.cap la := hW_532.cap la
    have hek_541 : HID (Pw_527.ek la = 12) := (by rw [hke_533.ek hq_515.1 hq_515.2 (by decide)]; exact hek_520.out)
    have how_542 : HID (Pw_527.ow la = la) := ((hke_533.1 la hq_515.1 (by rw [hq_515.2]; decide)).2.2.2.1 hq_515.2 how_521.out).1
    have hcz := (((hke_533.1 la hq_515.1 (by rw [hq_515.2]; decide)).2.2.2.1 hq_515.2 how_521.out).2 (by simp)).1
    have hE_543 : HID (Pw_527.ek pr_2 = 1) := (by rw [hke_533.ek hq_517.1 hq_517.2 (by decide)]; exact hE_522.out)
    have hX_tx := hX_tx.rw1R hW_532 (Or.inr hq_516.2)
    have hcx_544 : CHG (fun z => z = xb ∨ z = P.be xb) L P Ln_495 Pw_527 := hcx_523.trans (hW_532.chg _) (fun z m q => Or.inl q)
    have hsm_545 := (hW_532.chg Ln_495 pr_2 hq_538.1 (fun e9 => absurd e9 (kd_ne hq_538.2 hq_537.2 (by decide)))).2
    have : Pw_527.ro pr_2 = Pn_496.ro pr_2 := hsm_545.1 0
    have : Pw_527.rt pr_2 = Pn_496.rt pr_2 := hsm_545.1 1
    have : Pw_527.ra pr_2 = Pn_496.ra pr_2 := hsm_545.1 2
    have : Pw_527.rb pr_2 = Pn_496.rb pr_2 := hsm_545.1 3
    have : Pw_527.rA pr_2 = Pn_496.rA pr_2 := hsm_545.1 4
    have : Pw_527.rB pr_2 = Pn_496.rB pr_2 := hsm_545.1 5
    have : Pw_527.rg pr_2 = Pn_496.rg pr_2 := hsm_545.1 6
    have : Pw_527.ek pr_2 = Pn_496.ek pr_2 := hsm_545.2.1 8
    have hnx_546 : NTX L P Ln_495 Pw_527 := hnx_524.trans (NTX.put9 hW_532)
    refine lv_aload_n hx hb dX16_end_57 rfl (lv_at hl 2 rfl) ?_
    refine lv_aload_n hx hb dX16_end_58 rfl (lv_at hl 2 rfl) ?_
    have hfb := (hak_534.gb hq_537.1 hq_537.2).2
    obtain ⟨kp_547, hkp_547⟩ := va_pl_get (X := [(h0, .inr (14, [.ref q_t, .int (zI (z16_n)), .int (zI (z0_482)), .int (zI (z1_483)), .int (zI (z2_484)), .int (zI (z3_485)), .int (zI (z4_486)), .ref q5_487, v16_8, v16_9, v16_10, .ref qn0_489, .ref qn1_492, .int (zI (z6_488))])), (q_t, .inl (cT, 8192, .inl (fun j : Nat => zI (a_t (j : Int))))), (qn0_489, .inl (cI, nn0_490, .inl (fun j : Nat => zI (an0_491 (j : Int))))), (qn1_492, .inl (cI, nn1_493, .inl (fun j : Nat => zI (an1_494 (j : Int)))))]) (f := pE Pw_527) hq_537.1
    rw [pE_block hq_537.2] at hkp_547
    refine va_get (D := (dC, dI)) (ci := 19) (v := .int (zI (Pw_527.bf xb))) (C := RX12) (T := TX12) (N := 5) hx hb hts mem_X16_endR_0 hown hK hP kp_547 hkp_547 rfl 3 (by decide) (ow (k := 4) rfl) (fun _ h9 => h9) rfl dX16_end_59 ?_
    obtain ⟨kp_548, gkp_548⟩ := va_pl_get (X := [(h0, .inr (14, [.ref q_t, .int (zI (z16_n)), .int (zI (z0_482)), .int (zI (z1_483)), .int (zI (z2_484)), .int (zI (z3_485)), .int (zI (z4_486)), .ref q5_487, v16_8, v16_9, v16_10, .ref qn0_489, .ref qn1_492, .int (zI (z6_488))])), (q_t, .inl (cT, 8192, .inl (fun j : Nat => zI (a_t (j : Int))))), (qn0_489, .inl (cI, nn0_490, .inl (fun j : Nat => zI (an0_491 (j : Int))))), (qn1_492, .inl (cI, nn1_493, .inl (fun j : Nat => zI (an1_494 (j : Int)))))]) (f := pE Pw_527) hq_537.1
    have hkp_548 := gkp_548
    rw [pE_block hq_537.2] at hkp_548
    have hD0 := hD
    refine va_put (D := (dC, dI)) (ci := 19) (v := .int (zI (Pw_527.bf xb))) (ty := .int) (C := RX12) (T := TX12) (N := 5) hx hb hts mem_X16_endR_0 tyX12 tyX12_ok nmX12 hown hK hP hD hS kp_548 hkp_548 rfl 4 (by decide) (ow (k := 5) rfl) (fun _ h9 => h9) rfl (by decide +kernel) rfl rfl (by first | exact Nat.le_of_ble_eq_true rfl | exact (show ((0 + kc_427) + kc_497) ≤ (8 * (z16_n - z16_place) - TKW z16_kind (z16_at - z16_place) + 4 * z16_goalN + 160).toNat from (rmW (by omega))) | exact (show ((0 + ks_428) + ks_498) ≤ (45 * (z16_n - z16_place) - TKV z16_kind (z16_at - z16_place) + 16 * z16_goalN + 700).toNat from (rmW (by omega)))) dX16_end_62 (fun H locs hP hD hS => ?_)
    obtain ⟨Pw_549, ePw_549⟩ : ∃ q9 : PO, q9 = Pw_527.rw9 1 xb (Pw_527.bf xb) := ⟨_, rfl⟩
    have eU : (([(h0, .inr (14, [.ref q_t, .int (zI (z16_n)), .int (zI (z0_482)), .int (zI (z1_483)), .int (zI (z2_484)), .int (zI (z3_485)), .int (zI (z4_486)), .ref q5_487, v16_8, v16_9, v16_10, .ref qn0_489, .ref qn1_492, .int (zI (z6_488))])), (q_t, .inl (cT, 8192, .inl (fun j : Nat => zI (a_t (j : Int))))), (qn0_489, .inl (cI, nn0_490, .inl (fun j : Nat => zI (an0_491 (j : Int))))), (qn1_492, .inl (cI, nn1_493, .inl (fun j : Nat => zI (an1_494 (j : Int)))))] : va_W) ++ va_pl Ln_495 (pE Pw_527)).set kp_548 (xb, blockE (Pw_527.bp xb) (Pw_527.br xb) (Pw_527.be xb) (Pw_527.bf xb) (Pw_527.bf xb)) = ([(h0, .inr (14, [.ref q_t, .int (zI (z16_n)), .int (zI (z0_482)), .int (zI (z1_483)), .int (zI (z2_484)), .int (zI (z3_485)), .int (zI (z4_486)), .ref q5_487, v16_8, v16_9, v16_10, .ref qn0_489, .ref qn1_492, .int (zI (z6_488))])), (q_t, .inl (cT, 8192, .inl (fun j : Nat => zI (a_t (j : Int))))), (qn0_489, .inl (cI, nn0_490, .inl (fun j : Nat => zI (an0_491 (j : Int))))), (qn1_492, .inl (cI, nn1_493, .inl (fun j : Nat => zI (an1_494 (j : Int)))))] : va_W) ++ va_pl Ln_495 (pE Pw_549) := (by rw [va_pl_set hD0 hq_537.1 gkp_548, ePw_549]; exact congrArg (fun f9 => ([(h0, .inr (14, [.ref q_t, .int (zI (z16_n)), .int (zI (z0_482)), .int (zI (z1_483)), .int (zI (z2_484)), .int (zI (z3_485)), .int (zI (z4_486)), .ref q5_487, v16_8, v16_9, v16_10, .ref qn0_489, .ref qn1_492, .int (zI (z6_488))])), (q_t, .inl (cT, 8192, .inl (fun j : Nat => zI (a_t (j : Int))))), (qn0_489, .inl (cI, nn0_490, .inl (fun j : Nat => zI (an0_491 (j : Int))))), (qn1_492, .inl (cI, nn1_493, .inl (fun j : Nat => zI (an1_494 (j : Int)))))] : va_W) ++ va_pl Ln_495 f9) (put12_1 hq_537.2))
    have hP : va_P (dC, dI) vwQ ([(h0, .inr (14, [.ref q_t, .int (zI (z16_n)), .int (zI (z0_482)), .int (zI (z1_483)), .int (zI (z2_484)), .int (zI (z3_485)), .int (zI (z4_486)), .ref q5_487, v16_8, v16_9, v16_10, .ref qn0_489, .ref qn1_492, .int (zI (z6_488))])), (q_t, .inl (cT, 8192, .inl (fun j : Nat => zI (a_t (j : Int))))), (qn0_489, .inl (cI, nn0_490, .inl (fun j : Nat => zI (an0_491 (j : Int))))), (qn1_492, .inl (cI, nn1_493, .inl (fun j : Nat => zI (an1_494 (j : Int)))))] ++ va_pl Ln_495 (pE Pw_549)) H := (by rw [← eU]; exact hP)
    have hD : va_D A ([(h0, .inr (14, [.ref q_t, .int (zI (z16_n)), .int (zI (z0_482)), .int (zI (z1_483)), .int (zI (z2_484)), .int (zI (z3_485)), .int (zI (z4_486)), .ref q5_487, v16_8, v16_9, v16_10, .ref qn0_489, .ref qn1_492, .int (zI (z6_488))])), (q_t, .inl (cT, 8192, .inl (fun j : Nat => zI (a_t (j : Int))))), (qn0_489, .inl (cI, nn0_490, .inl (fun j : Nat => zI (an0_491 (j : Int))))), (qn1_492, .inl (cI, nn1_493, .inl (fun j : Nat => zI (an1_494 (j : Int)))))] ++ va_pl Ln_495 (pE Pw_549)) := (by rw [← eU]; exact hD)
    clear eU hD0 gkp_548 hkp_548
    have wPw_549 : RW1 xb Pw_527 Pw_549 := (by rw [ePw_549]; exact RW1.put _ _ _ _)
    have hy_550 : Pw_549.kd la = 30 := (by rw [ePw_549]; exact hq_536.2)
    have hy_551 : Pw_549.kd xb = 12 := (by rw [ePw_549]; exact hq_537.2)
    have : Pw_549.bf xb = Pw_527.bf xb := (by rw [ePw_549]; exact rw9_of _ (by decide))
    have : Pw_549.bs xb = Pw_527.bf xb := (by rw [ePw_549]; exact rw9_at _ _ _ _)
    have hy_552 : Pw_549.kd pr_2 = 17 := (by rw [ePw_549]; exact hq_538.2)
    have : Pw_549.ro pr_2 = Pw_527.ro pr_2 := wPw_549.2 _ (kd_ne hq_538.2 hq_537.2 (by decide)) _
    have : Pw_549.rt pr_2 = Pw_527.rt pr_2 := wPw_549.2 _ (kd_ne hq_538.2 hq_537.2 (by decide)) _
    have : Pw_549.ra pr_2 = Pw_527.ra pr_2 := wPw_549.2 _ (kd_ne hq_538.2 hq_537.2 (by decide)) _
    have : Pw_549.rb pr_2 = Pw_527.rb pr_2 := wPw_549.2 _ (kd_ne hq_538.2 hq_537.2 (by decide)) _
    have : Pw_549.rA pr_2 = Pw_527.rA pr_2 := wPw_549.2 _ (kd_ne hq_538.2 hq_537.2 (by decide)) _
    have : Pw_549.rB pr_2 = Pw_527.rB pr_2 := wPw_549.2 _ (kd_ne hq_538.2 hq_537.2 (by decide)) _
    have : Pw_549.rg pr_2 = Pw_527.rg pr_2 := wPw_549.2 _ (kd_ne hq_538.2 hq_537.2 (by decide)) _
    have ha_553 : HID (Pw_549.be xb = pr_2) := (by rw [ePw_549]; exact ha_539.out)
    have hW_554 : RW1 xb Pw_527 Pw_549 := wPw_549
    have hak_556 : GLR Ln_495 Pw_549 cO cI cZ sx_ed := hak_534.goal hW_554 hq_537.2 (by omega)
    have hke_555 : KEG [] Ln_495 Pw_527 Ln_495 Pw_549 := hW_554.kegR _ hq_536.2 (by have q9 := hq_537.2; omega)
    have hq_558 : HID (la ∈ Ln_495 ∧ Pw_549.kd la = 30) := hke_555.mem hq_536.1 hq_536.2 (by decide)
    have hq_559 : HID (xb ∈ Ln_495 ∧ Pw_549.kd xb = 12) := hke_555.mem hq_537.1 hq_537.2 (by decide)
    have hq_560 : HID (pr_2 ∈ Ln_495 ∧ Pw_549.kd pr_2 = 17) := hke_555.mem hq_538.1 hq_538.2 (by decide)
    have ha_561 : HID (Pw_549.be xb = pr_2) := hke_555.be hq_537.1 hq_537.2 ha_539.out
    have hA_562 : KEG [] L P Ln_495 Pw_549 := hA_540.trans hke_555
    have : Pw_549.cap la = Pw_527.cap la := hW_554.cap la
    have hek_563 : HID (Pw_549.ek la = 12) := (by rw [hke_555.ek hq_536.1 hq_536.2 (by decide)]; exact hek_541.out)
    have how_564 : HID (Pw_549.ow la = la) := ((hke_555.1 la hq_536.1 (by rw [hq_536.2]; decide)).2.2.2.1 hq_536.2 how_542.out).1
    have hcz := (((hke_555.1 la hq_536.1 (by rw [hq_536.2]; decide)).2.2.2.1 hq_536.2 how_542.out).2 (by simp)).1
    have hE_565 : HID (Pw_549.ek pr_2 = 1) := (by rw [hke_555.ek hq_538.1 hq_538.2 (by decide)]; exact hE_543.out)
    have hX_tx := hX_tx.rw1R hW_554 (Or.inr hq_537.2)
    have hcx_566 : CHG (fun z => z = xb ∨ z = P.be xb) L P Ln_495 Pw_549 := hcx_544.trans (hW_554.chg _) (fun z m q => Or.inl q)
    have hsm_567 := (hW_554.chg Ln_495 pr_2 hq_560.1 (fun e9 => absurd e9 (kd_ne hq_560.2 hq_559.2 (by decide)))).2
    have : Pw_549.ro pr_2 = Pw_527.ro pr_2 := hsm_567.1 0
    have : Pw_549.rt pr_2 = Pw_527.rt pr_2 := hsm_567.1 1
    have : Pw_549.ra pr_2 = Pw_527.ra pr_2 := hsm_567.1 2
    have : Pw_549.rb pr_2 = Pw_527.rb pr_2 := hsm_567.1 3
    have : Pw_549.rA pr_2 = Pw_527.rA pr_2 := hsm_567.1 4
    have : Pw_549.rB pr_2 = Pw_527.rB pr_2 := hsm_567.1 5
    have : Pw_549.rg pr_2 = Pw_527.rg pr_2 := hsm_567.1 6
    have : Pw_549.ek pr_2 = Pw_527.ek pr_2 := hsm_567.2.1 8
    have hnx_568 : NTX L P Ln_495 Pw_549 := hnx_546.trans (NTX.put9 hW_554)
    refine lv_goto (tgt := 145) hx hb dX16_end_65 (by decide) ?_
    subst hQ
    have hK := hK.sub (tys' := [(cT, .byte), (cI, .int), (cO, .object "java/lang/Object"), (cZ, .boolean)]) [2, 3, 0, 1] rfl
    refine W_knowS (fun hrm9 => ?_)
    have hnx9 := TKV.nn (k := z1_483) (d := z0_482 - z2_484) (by omega)
    have hgw9 : (nn1_493 : Int) - ng ≤ z16_goalN := (by rcases hgn1.2.2.2.2.2.2.2 with q9 | q9; (rw [q9]; omega); (rw [q9.1, q9.2]; omega))
    refine W.widen (k := ((8 * (z16_n - z16_place) - TKW z16_kind (z16_at - z16_place) + 4 * z16_goalN + 160).toNat)) (n := ((45 * (z16_n - z16_place) - TKV z16_kind (z16_at - z16_place) + 16 * z16_goalN + 700).toNat)) (rmW (RKE.cel (a := z0_482) hri_525.out.2 hnx9.2.2.2 (by omega) (by omega) hgw9 (by omega) (by omega))) (rmW (RKE.slo (a := z0_482) hri_525.out.1 hnx9.2.2.1 (by omega) (by omega) hgw9 (by omega) (by omega))) ?_
    refine vx_ret ?_
    exact W.vret hx hb hr (fun t ht hW => ⟨⟨(), rfl, trivial, z0_482, z1_483, z2_484, z3_485, z4_486, q5_487, z6_488, qn0_489, nn0_490, an0_491, qn1_492, nn1_493, an1_494, Ln_495, Pw_549, ((0 + kc_427) + kc_497), ((0 + ks_428) + ks_498), ⟨⟨(by rw [ht, ← hp10]; exact hrm9), (RKE.pst hri_525.out (by omega) (by omega))⟩, ⟨(by omega), (by omega), (by omega), (by omega), (by omega), (by omega), rk_505, rk_506, ⟨hA_562, hak_556, ⟨⟨(hkd_512.mono (by omega)).ms (by omega) (by omega) (by omega), by omega⟩, hnx_568⟩, hcx_566, ⟨by omega, by omega, by omega, by omega, by omega, by omega, by omega, (by unfold GRW; omega)⟩, hgo1.2.1, (GIN.mk (k := z16_goalN) (by omega) (by omega) (hgo1.2.2.1.trans (by omega))), (GIN.mk (k := z16_goalN) (by omega) (by omega) (hgo1.2.2.1.trans (by omega))), (by rw [← epr_2]; exact ⟨by omega, by omega, (by first | exact OPQ.z (by omega) | exact hoa9.to (by omega) (by omega))⟩), ⟨⟨by omega, by omega, by omega⟩, htk_507⟩, hkd_512.mono (by omega), hX_tx⟩⟩⟩, by rw [ht]; exact hP, va_K.moved hW.alike hK, hD⟩, hS.F ht⟩) hS.2.2 dX16_end_145
