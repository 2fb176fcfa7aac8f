def o_X16_rowR : List Cond := [.methodLink RX16 132 yX16_is, .instanceMethod yX16_is, .selects RX16 yX16_is yX16_is, .initialized RX16, .methodLink RX16 152 yX16_want_, .instanceMethod yX16_want_, .selects RX16 yX16_want_ yX16_want_, .fieldLink RX16 227 "SsaForgeModel$Row" "t" "I", .methodLink RX16 173 yX16_want, .instanceMethod yX16_want, .selects RX16 yX16_want yX16_want, .methodLink RX16 223 yX16_operand, .instanceMethod yX16_operand, .selects RX16 yX16_operand yX16_operand, .fieldLink RX16 38 "SsaForgeModel$Reader" "kind" "I", .fieldLink RX16 220 "SsaForgeModel$Row" "op" "I", .methodLink RX16 35 yX16_next, .instanceMethod yX16_next, .selects RX16 yX16_next yX16_next, .fieldLink RX16 11 "SsaForgeModel$Reader" "text" "Ljava/lang/String;", .initialized RX19, .static yX19_operation]
def v_X16_rowR : List Cond := .code yX16_row cX16_row 2 none :: (o_X16_rowR ++ (v_X16_isKK ++ (v_X16_wantIK ++ (wsX170 ++ (v_X16_wantSK ++ (v_X16_opAR ++ (wsX160 ++ (v_X16_nextK ++ (v_X16_opBR ++ (v_X19_operation ++ []))))))))))
theorem mow_X16_rowR : ∀ w ∈ o_X16_rowR, w ∈ v_X16_rowR := fun _ h => List.mem_cons_of_mem _ (List.mem_append_left _ h)
theorem mem_X16_rowR_0 : ∀ w ∈ v_X16_isKK, w ∈ v_X16_rowR := fun _ h => List.mem_cons_of_mem _ (List.mem_append_right _ (List.mem_append_left _ h))
theorem mem_X16_rowR_1 : ∀ w ∈ v_X16_wantIK, w ∈ v_X16_rowR := fun _ h => List.mem_cons_of_mem _ (List.mem_append_right _ (List.mem_append_right _ (List.mem_append_left _ h)))
theorem mem_X16_rowR_2 : ∀ w ∈ wsX170, w ∈ v_X16_rowR := fun _ h => List.mem_cons_of_mem _ (List.mem_append_right _ (List.mem_append_right _ (List.mem_append_right _ (List.mem_append_left _ h))))
theorem mem_X16_rowR_3 : ∀ w ∈ v_X16_wantSK, w ∈ v_X16_rowR := fun _ h => List.mem_cons_of_mem _ (List.mem_append_right _ (List.mem_append_right _ (List.mem_append_right _ (List.mem_append_right _ (List.mem_append_left _ h)))))
theorem mem_X16_rowR_4 : ∀ w ∈ v_X16_opAR, w ∈ v_X16_rowR := fun _ h => List.mem_cons_of_mem _ (List.mem_append_right _ (List.mem_append_right _ (List.mem_append_right _ (List.mem_append_right _ (List.mem_append_right _ (List.mem_append_left _ h))))))
theorem mem_X16_rowR_5 : ∀ w ∈ wsX160, w ∈ v_X16_rowR := fun _ h => List.mem_cons_of_mem _ (List.mem_append_right _ (List.mem_append_right _ (List.mem_append_right _ (List.mem_append_right _ (List.mem_append_right _ (List.mem_append_right _ (List.mem_append_left _ h)))))))
theorem mem_X16_rowR_6 : ∀ w ∈ v_X16_nextK, w ∈ v_X16_rowR := fun _ h => List.mem_cons_of_mem _ (List.mem_append_right _ (List.mem_append_right _ (List.mem_append_right _ (List.mem_append_right _ (List.mem_append_right _ (List.mem_append_right _ (List.mem_append_right _ (List.mem_append_left _ h))))))))
theorem mem_X16_rowR_7 : ∀ w ∈ v_X16_opBR, w ∈ v_X16_rowR := fun _ h => List.mem_cons_of_mem _ (List.mem_append_right _ (List.mem_append_right _ (List.mem_append_right _ (List.mem_append_right _ (List.mem_append_right _ (List.mem_append_right _ (List.mem_append_right _ (List.mem_append_right _ (List.mem_append_left _ h)))))))))
theorem mem_X16_rowR_8 : ∀ w ∈ v_X19_operation, w ∈ v_X16_rowR := fun _ h => List.mem_cons_of_mem _ (List.mem_append_right _ (List.mem_append_right _ (List.mem_append_right _ (List.mem_append_right _ (List.mem_append_right _ (List.mem_append_right _ (List.mem_append_right _ (List.mem_append_right _ (List.mem_append_right _ (List.mem_append_left _ h))))))))))
set_option maxRecDepth 20000 in
theorem gw_X16_rowR : v_X16_rowR.all goodWord = true := by decide +kernel
set_option maxRecDepth 20000 in
theorem g_X16_rowR_X16_isKK : GoodIn v_X16_rowR (wsV RX16 132 RX16 yX16_is v_X16_isKK) := goodIn_app (goodIn_sub (fun w h => mow_X16_rowR w (by revert w h; decide +kernel)) (by decide +kernel)) (goodIn_sub mem_X16_rowR_0 gw_X16_isKK)
set_option maxRecDepth 20000 in
theorem g_X16_rowR_X16_wantIK : GoodIn v_X16_rowR (wsV RX16 152 RX16 yX16_want_ v_X16_wantIK) := goodIn_app (goodIn_sub (fun w h => mow_X16_rowR w (by revert w h; decide +kernel)) (by decide +kernel)) (goodIn_sub mem_X16_rowR_1 gw_X16_wantIK)
set_option maxRecDepth 20000 in
theorem g_X16_rowR_X16_wantSK : GoodIn v_X16_rowR (wsV RX16 173 RX16 yX16_want v_X16_wantSK) := goodIn_app (goodIn_sub (fun w h => mow_X16_rowR w (by revert w h; decide +kernel)) (by decide +kernel)) (goodIn_sub mem_X16_rowR_3 gw_X16_wantSK)
set_option maxRecDepth 20000 in
theorem g_X16_rowR_X16_opAR : GoodIn v_X16_rowR (wsV RX16 223 RX16 yX16_operand v_X16_opAR) := goodIn_app (goodIn_sub (fun w h => mow_X16_rowR w (by revert w h; decide +kernel)) (by decide +kernel)) (goodIn_sub mem_X16_rowR_4 gw_X16_opAR)
set_option maxRecDepth 20000 in
theorem g_X16_rowR_X16_nextK : GoodIn v_X16_rowR (wsV RX16 35 RX16 yX16_next v_X16_nextK) := goodIn_app (goodIn_sub (fun w h => mow_X16_rowR w (by revert w h; decide +kernel)) (by decide +kernel)) (goodIn_sub mem_X16_rowR_6 gw_X16_nextK)
set_option maxRecDepth 20000 in
theorem g_X16_rowR_X16_opBR : GoodIn v_X16_rowR (wsV RX16 223 RX16 yX16_operand v_X16_opBR) := goodIn_app (goodIn_sub (fun w h => mow_X16_rowR w (by revert w h; decide +kernel)) (by decide +kernel)) (goodIn_sub mem_X16_rowR_7 gw_X16_opBR)
set_option maxHeartbeats 40000000 in
set_option maxRecDepth 100000 in
theorem c_X16_rowR (l : Launch) (dC : Nat → ClassId) (dI : Nat → Nat → Nat) (cI : ClassId) (cZ : ClassId) (h0 : Nat) (z16_n : Int) (z16_at : Int) (z16_kind : Int) (z16_place : Int) (z16_value : Int) (z16_before : Int) (v16_8 : Value) (v16_9 : Value) (v16_10 : Value) (v16_11 : Value) (v16_12 : Value) (v16_13 : Value) (q_t : Nat) (cT : ClassId) (a_t : Int → Int) (tx9 : Nat) (L : List Nat) (P : PO) (sa_RX16_9 : Nat) (cO : ClassId) (la : Nat) (sx_ed : Nat) (xr : Nat) (hNz16_n : 0 ≤ z16_n ∧ z16_n ≤ 8192) (hNz16_at : 0 ≤ z16_at ∧ z16_at ≤ 8192) (hNz16_kind : 0 ≤ z16_kind ∧ z16_kind ≤ 6) (hNz16_place : 0 ≤ z16_place ∧ z16_place ≤ 8192) (hNz16_value : -2147483648 ≤ z16_value ∧ z16_value ≤ 2147483647) (hNz16_before : 0 ≤ z16_before ∧ z16_before ≤ 6) (hR_a_t : ∀ j : Int, -128 ≤ a_t j ∧ a_t j ≤ 127) (hX_g : GLR L P cO cI cZ sx_ed) (hX_la : la ∈ L ∧ P.kd la = 30 ∧ P.ek la = 12 ∧ P.ow la = la) (hX_x : xr ∈ L) (hX_k : P.kd xr = 17) (hX_e : P.ek xr ≠ 1) (hX_tx : TXT L P cT sa_RX16_9 tx9) (hNd : z16_at ≤ z16_n ∧ z16_place ≤ z16_at) (hX_kv : KV9 z16_kind z16_value) (hX_tn : TKQ z16_kind z16_place z16_at) (hNr : P.rA xr = 0 ∧ P.rB xr = 0 ∧ P.rt xr ≤ 1001) (sz : Nat) (sa_RX16_179 : Nat) (sv_RX16_179 : Nat) (sv_RX16_9 : Nat) (sa_RX16_119 : Nat) (sv_RX16_119 : Nat) (sa_RX16_100 : Nat) (sv_RX16_100 : Nat) (sa_RX16_117 : Nat) (sv_RX16_117 : Nat) (sa_RX16_98 : Nat) (sv_RX16_98 : Nat) (HU : Heap) (sa_RX16_229 : Nat) (sv_RX16_229 : Nat) (sa_RX16_231 : Nat) (sv_RX16_231 : Nat) (sa_RX19_3 : Nat) (sa_RX19_11 : Nat) (sv_RX19_11 : Nat) (sv_RX19_3 : Nat) (sx_fm : Nat) : vx_Met l yX16_row v_X16_rowR ({ frames := 9, cells := ((8 * (z16_n - z16_place) + 120).toNat), slots := ((40 * (z16_n - z16_place) + 500).toNat), locals := 239 }) (va_Pc [.ref h0, .ref xr] (fun U => U.heap.size = sz ∧ va_P (dC, dI) vwQ ([(h0, .inr (14, [.ref q_t, .int (zI (z16_n)), .int (zI (z16_at)), .int (zI (z16_kind)), .int (zI (z16_place)), .int (zI (z16_value)), .int (zI (z16_before)), .ref tx9, v16_8, v16_9, v16_10, v16_11, v16_12, v16_13])), (q_t, .inl (cT, 8192, .inl (fun j : Nat => zI (a_t (j : Int)))))] ++ va_pl L (pE P)) U.heap ∧ va_K (dC, dI) vwQ [(cT, .byte), (cO, .object "java/lang/Object"), (cI, .int), (cZ, .boolean)] U ∧ va_D (fun _ => True) ([(h0, .inr (14, [.ref q_t, .int (zI (z16_n)), .int (zI (z16_at)), .int (zI (z16_kind)), .int (zI (z16_place)), .int (zI (z16_value)), .int (zI (z16_before)), .ref tx9, v16_8, v16_9, v16_10, v16_11, v16_12, v16_13])), (q_t, .inl (cT, 8192, .inl (fun j : Nat => zI (a_t (j : Int)))))] ++ va_pl L (pE P)) ∧ vk_R RX16 179 "show" sa_RX16_179 U ∧ vs_S sa_RX16_179 sv_RX16_179 4 (fun j : Nat => ([115, 104, 111, 119] : List Int32).getD j 0) (va_A ([(h0, .inr (14, [.ref q_t, .int (zI (z16_n)), .int (zI (z16_at)), .int (zI (z16_kind)), .int (zI (z16_place)), .int (zI (z16_value)), .int (zI (z16_before)), .ref tx9, v16_8, v16_9, v16_10, v16_11, v16_12, v16_13])), (q_t, .inl (cT, 8192, .inl (fun j : Nat => zI (a_t (j : Int)))))] ++ va_pl L (pE P)) sz) U U.heap ∧ vs_S sa_RX16_9 sv_RX16_9 0 (fun j : Nat => ([] : List Int32).getD j 0) (va_A ([(h0, .inr (14, [.ref q_t, .int (zI (z16_n)), .int (zI (z16_at)), .int (zI (z16_kind)), .int (zI (z16_place)), .int (zI (z16_value)), .int (zI (z16_before)), .ref tx9, v16_8, v16_9, v16_10, v16_11, v16_12, v16_13])), (q_t, .inl (cT, 8192, .inl (fun j : Nat => zI (a_t (j : Int)))))] ++ va_pl L (pE P)) sz) U U.heap ∧ va_Z "java/lang/String" "COMPACT_STRINGS" "Z" (.int 1) (va_A ([(h0, .inr (14, [.ref q_t, .int (zI (z16_n)), .int (zI (z16_at)), .int (zI (z16_kind)), .int (zI (z16_place)), .int (zI (z16_value)), .int (zI (z16_before)), .ref tx9, v16_8, v16_9, v16_10, v16_11, v16_12, v16_13])), (q_t, .inl (cT, 8192, .inl (fun j : Nat => zI (a_t (j : Int)))))] ++ va_pl L (pE P)) sz) U U.heap ∧ vk_R RX16 9 "" sa_RX16_9 U ∧ va_Nw (.castable "[B" "java/lang/Cloneable") U ∧ vk_R RX16 119 "+-*/%&|^<(),:=" sa_RX16_119 U ∧ vs_S sa_RX16_119 sv_RX16_119 14 (fun j : Nat => ([43, 45, 42, 47, 37, 38, 124, 94, 60, 40, 41, 44, 58, 61] : List Int32).getD j 0) (va_A ([(h0, .inr (14, [.ref q_t, .int (zI (z16_n)), .int (zI (z16_at)), .int (zI (z16_kind)), .int (zI (z16_place)), .int (zI (z16_value)), .int (zI (z16_before)), .ref tx9, v16_8, v16_9, v16_10, v16_11, v16_12, v16_13])), (q_t, .inl (cT, 8192, .inl (fun j : Nat => zI (a_t (j : Int)))))] ++ va_pl L (pE P)) sz) U U.heap ∧ vs_S sa_RX16_100 sv_RX16_100 1 (fun j : Nat => ([32] : List Int32).getD j 0) (va_A ([(h0, .inr (14, [.ref q_t, .int (zI (z16_n)), .int (zI (z16_at)), .int (zI (z16_kind)), .int (zI (z16_place)), .int (zI (z16_value)), .int (zI (z16_before)), .ref tx9, v16_8, v16_9, v16_10, v16_11, v16_12, v16_13])), (q_t, .inl (cT, 8192, .inl (fun j : Nat => zI (a_t (j : Int)))))] ++ va_pl L (pE P)) sz) U U.heap ∧ vk_R RX16 117 " << >> <= == != " sa_RX16_117 U ∧ vk_R RX16 100 " " sa_RX16_100 U ∧ vs_S sa_RX16_117 sv_RX16_117 16 (fun j : Nat => ([32, 60, 60, 32, 62, 62, 32, 60, 61, 32, 61, 61, 32, 33, 61, 32] : List Int32).getD j 0) (va_A ([(h0, .inr (14, [.ref q_t, .int (zI (z16_n)), .int (zI (z16_at)), .int (zI (z16_kind)), .int (zI (z16_place)), .int (zI (z16_value)), .int (zI (z16_before)), .ref tx9, v16_8, v16_9, v16_10, v16_11, v16_12, v16_13])), (q_t, .inl (cT, 8192, .inl (fun j : Nat => zI (a_t (j : Int)))))] ++ va_pl L (pE P)) sz) U U.heap ∧ vk_R RX16 98 " in show if jump ret phi " sa_RX16_98 U ∧ vs_S sa_RX16_98 sv_RX16_98 25 (fun j : Nat => ([32, 105, 110, 32, 115, 104, 111, 119, 32, 105, 102, 32, 106, 117, 109, 112, 32, 114, 101, 116, 32, 112, 104, 105, 32] : List Int32).getD j 0) (va_A ([(h0, .inr (14, [.ref q_t, .int (zI (z16_n)), .int (zI (z16_at)), .int (zI (z16_kind)), .int (zI (z16_place)), .int (zI (z16_value)), .int (zI (z16_before)), .ref tx9, v16_8, v16_9, v16_10, v16_11, v16_12, v16_13])), (q_t, .inl (cT, 8192, .inl (fun j : Nat => zI (a_t (j : Int)))))] ++ va_pl L (pE P)) sz) U U.heap ∧ vx_Zq Bundle.tN "UNASSIGNED_STACK" Bundle.steD (va_A ([(h0, .inr (14, [.ref q_t, .int (zI (z16_n)), .int (zI (z16_at)), .int (zI (z16_kind)), .int (zI (z16_place)), .int (zI (z16_value)), .int (zI (z16_before)), .ref tx9, v16_8, v16_9, v16_10, v16_11, v16_12, v16_13])), (q_t, .inl (cT, 8192, .inl (fun j : Nat => zI (a_t (j : Int)))))] ++ va_pl L (pE P)) sz) U U.heap ∧ vx_Zq Bundle.tN "SUPPRESSED_SENTINEL" Bundle.listD (va_A ([(h0, .inr (14, [.ref q_t, .int (zI (z16_n)), .int (zI (z16_at)), .int (zI (z16_kind)), .int (zI (z16_place)), .int (zI (z16_value)), .int (zI (z16_before)), .ref tx9, v16_8, v16_9, v16_10, v16_11, v16_12, v16_13])), (q_t, .inl (cT, 8192, .inl (fun j : Nat => zI (a_t (j : Int)))))] ++ va_pl L (pE P)) sz) U U.heap ∧ U.heap = HU ∧ vk_R RX16 229 "=" sa_RX16_229 U ∧ vs_S sa_RX16_229 sv_RX16_229 1 (fun j : Nat => ([61] : List Int32).getD j 0) (va_A ([(h0, .inr (14, [.ref q_t, .int (zI (z16_n)), .int (zI (z16_at)), .int (zI (z16_kind)), .int (zI (z16_place)), .int (zI (z16_value)), .int (zI (z16_before)), .ref tx9, v16_8, v16_9, v16_10, v16_11, v16_12, v16_13])), (q_t, .inl (cT, 8192, .inl (fun j : Nat => zI (a_t (j : Int)))))] ++ va_pl L (pE P)) sz) U U.heap ∧ vk_R RX16 231 "in" sa_RX16_231 U ∧ vs_S sa_RX16_231 sv_RX16_231 2 (fun j : Nat => ([105, 110] : List Int32).getD j 0) (va_A ([(h0, .inr (14, [.ref q_t, .int (zI (z16_n)), .int (zI (z16_at)), .int (zI (z16_kind)), .int (zI (z16_place)), .int (zI (z16_value)), .int (zI (z16_before)), .ref tx9, v16_8, v16_9, v16_10, v16_11, v16_12, v16_13])), (q_t, .inl (cT, 8192, .inl (fun j : Nat => zI (a_t (j : Int)))))] ++ va_pl L (pE P)) sz) U U.heap ∧ vk_R RX19 3 " + - * / % & | ^ << >> < <= == != " sa_RX19_3 U ∧ vk_R RX19 11 " " sa_RX19_11 U ∧ vs_S sa_RX19_11 sv_RX19_11 1 (fun j : Nat => ([32] : List Int32).getD j 0) (va_A ([(h0, .inr (14, [.ref q_t, .int (zI (z16_n)), .int (zI (z16_at)), .int (zI (z16_kind)), .int (zI (z16_place)), .int (zI (z16_value)), .int (zI (z16_before)), .ref tx9, v16_8, v16_9, v16_10, v16_11, v16_12, v16_13])), (q_t, .inl (cT, 8192, .inl (fun j : Nat => zI (a_t (j : Int)))))] ++ va_pl L (pE P)) sz) U U.heap ∧ vs_S sa_RX19_3 sv_RX19_3 34 (fun j : Nat => ([32, 43, 32, 45, 32, 42, 32, 47, 32, 37, 32, 38, 32, 124, 32, 94, 32, 60, 60, 32, 62, 62, 32, 60, 32, 60, 61, 32, 61, 61, 32, 33, 61, 32] : List Int32).getD j 0) (va_A ([(h0, .inr (14, [.ref q_t, .int (zI (z16_n)), .int (zI (z16_at)), .int (zI (z16_kind)), .int (zI (z16_place)), .int (zI (z16_value)), .int (zI (z16_before)), .ref tx9, v16_8, v16_9, v16_10, v16_11, v16_12, v16_13])), (q_t, .inl (cT, 8192, .inl (fun j : Nat => zI (a_t (j : Int)))))] ++ va_pl L (pE P)) sz) U U.heap ∧ va_Z "jdk/internal/util/Preconditions" "SIOOBE_FORMATTER" "Ljava/util/function/BiFunction;" (.ref sx_fm) (va_A ([(h0, .inr (14, [.ref q_t, .int (zI (z16_n)), .int (zI (z16_at)), .int (zI (z16_kind)), .int (zI (z16_place)), .int (zI (z16_value)), .int (zI (z16_before)), .ref tx9, v16_8, v16_9, v16_10, v16_11, v16_12, v16_13])), (q_t, .inl (cT, 8192, .inl (fun j : Nat => zI (a_t (j : Int)))))] ++ va_pl L (pE P)) sz) U U.heap ∧ va_Nw (.methodLinkNest RX16 233 yX19_operation "SsaForgeModel") U)) (va_Qv (fun _ : Unit => True) (fun (_ : Unit) (t : State) => ∃ (z0_9 : Int) (z1_9 : Int) (z2_9 : Int) (z3_9 : Int) (z4_9 : Int) (q5_9 : Nat) (Ln_9 : List Nat) (Pn_9 : PO) (kc_9 : Nat) (ks_9 : Nat), ((RM HU t.heap kc_9 ks_9 ∧ ((ks_9 : Int) ≤ 40 * (z2_9 - z16_place) - TKV z16_kind (z16_at - z16_place) + TKV (z1_9) (z0_9 - z2_9) ∧ (kc_9 : Int) ≤ 8 * (z2_9 - z16_place) - TKW z16_kind (z16_at - z16_place) + TKW (z1_9) (z0_9 - z2_9))) ∧ ((0 ≤ z0_9 ∧ z0_9 ≤ 8192) ∧ (0 ≤ z1_9 ∧ z1_9 ≤ 6) ∧ (0 ≤ z2_9 ∧ z2_9 ≤ 8192) ∧ (-2147483648 ≤ z3_9 ∧ z3_9 ≤ 2147483647) ∧ (0 ≤ z4_9 ∧ z4_9 ≤ 6) ∧ (KEG [] L P Ln_9 Pn_9 ∧ GLR Ln_9 Pn_9 cO cI cZ sx_ed ∧ ((7 * (z16_n - z0_9) + z1_9 < 7 * (z16_n - z16_at) + z16_kind ∧ z16_at + 1 ≤ z0_9) ∧ STW Pn_9 xr) ∧ CHG (fun z => z = xr) L P Ln_9 Pn_9 ∧ ((z16_at ≤ z2_9 ∧ z2_9 ≤ z0_9 ∧ z0_9 ≤ z16_n) ∧ TKQ (z1_9) (z2_9) (z0_9)) ∧ KDN (z1_9) (z0_9) (z3_9) z16_n z16_at ∧ TXT Ln_9 Pn_9 cT sa_RX16_9 q5_9))) ∧ va_P (dC, dI) vwQ ([(h0, .inr (14, [.ref q_t, .int (zI (z16_n)), .int (zI (z0_9)), .int (zI (z1_9)), .int (zI (z2_9)), .int (zI (z3_9)), .int (zI (z4_9)), .ref q5_9, v16_8, v16_9, v16_10, v16_11, v16_12, v16_13])), (q_t, .inl (cT, 8192, .inl (fun j : Nat => zI (a_t (j : Int)))))] ++ va_pl Ln_9 (pE Pn_9)) t.heap ∧ va_K (dC, dI) vwQ [(cT, .byte), (cO, .object "java/lang/Object"), (cI, .int), (cZ, .boolean)] t ∧ va_D (va_A ([(h0, .inr (14, [.ref q_t, .int (zI (z16_n)), .int (zI (z16_at)), .int (zI (z16_kind)), .int (zI (z16_place)), .int (zI (z16_value)), .int (zI (z16_before)), .ref tx9, v16_8, v16_9, v16_10, v16_11, v16_12, v16_13])), (q_t, .inl (cT, 8192, .inl (fun j : Nat => zI (a_t (j : Int)))))] ++ va_pl L (pE P)) sz) ([(h0, .inr (14, [.ref q_t, .int (zI (z16_n)), .int (zI (z0_9)), .int (zI (z1_9)), .int (zI (z2_9)), .int (zI (z3_9)), .int (zI (z4_9)), .ref q5_9, v16_8, v16_9, v16_10, v16_11, v16_12, v16_13])), (q_t, .inl (cT, 8192, .inl (fun j : Nat => zI (a_t (j : Int)))))] ++ va_pl Ln_9 (pE Pn_9))) (va_A ([(h0, .inr (14, [.ref q_t, .int (zI (z16_n)), .int (zI (z16_at)), .int (zI (z16_kind)), .int (zI (z16_place)), .int (zI (z16_value)), .int (zI (z16_before)), .ref tx9, v16_8, v16_9, v16_10, v16_11, v16_12, v16_13])), (q_t, .inl (cT, 8192, .inl (fun j : Nat => zI (a_t (j : Int)))))] ++ va_pl L (pE P)) sz)) (vx_X (fun _ : Unit => True) (fun E (q9 : Addr) (_ : Unit) (t9 : State) => (E = RX18 ∧ ∃ (zp_9 : Int) (Ln_9 : List Nat) (Pn_9 : PO) (kc_9 : Nat) (ks_9 : Nat), ((RM HU t9.heap kc_9 ks_9 ∧ ((ks_9 : Int) ≤ 40 * (z16_n - z16_place) + 300 ∧ (kc_9 : Int) ≤ 8 * (z16_n - z16_place) + 60)) ∧ ((0 ≤ zp_9 ∧ zp_9 ≤ 8192) ∧ (KEG [] L P Ln_9 Pn_9 ∧ GLR Ln_9 Pn_9 cO cI cZ sx_ed ∧ CPA L P Pn_9))) ∧ va_P (dC, dI) vwQ ([(q_t, .inl (cT, 8192, .inl (fun j : Nat => zI (a_t (j : Int))))), (q9, .inr (15, [.null, .null, .null, .null, .null, .int 0, .int (zI (zp_9))]))] ++ va_pl Ln_9 (pE Pn_9)) t9.heap ∧ va_D (va_A ([(h0, .inr (14, [.ref q_t, .int (zI (z16_n)), .int (zI (z16_at)), .int (zI (z16_kind)), .int (zI (z16_place)), .int (zI (z16_value)), .int (zI (z16_before)), .ref tx9, v16_8, v16_9, v16_10, v16_11, v16_12, v16_13])), (q_t, .inl (cT, 8192, .inl (fun j : Nat => zI (a_t (j : Int)))))] ++ va_pl L (pE P)) sz) ([(q_t, .inl (cT, 8192, .inl (fun j : Nat => zI (a_t (j : Int))))), (q9, .inr (15, [.null, .null, .null, .null, .null, .int 0, .int (zI (zp_9))]))] ++ va_pl Ln_9 (pE Pn_9)))) (va_A ([(h0, .inr (14, [.ref q_t, .int (zI (z16_n)), .int (zI (z16_at)), .int (zI (z16_kind)), .int (zI (z16_place)), .int (zI (z16_value)), .int (zI (z16_before)), .ref tx9, v16_8, v16_9, v16_10, v16_11, v16_12, v16_13])), (q_t, .inl (cT, 8192, .inl (fun j : Nat => zI (a_t (j : Int)))))] ++ va_pl L (pE P)) sz)) ((8 * (z16_n - z16_place) + 120).toNat) ((40 * (z16_n - z16_place) + 500).toNat) (va_A ([(h0, .inr (14, [.ref q_t, .int (zI (z16_n)), .int (zI (z16_at)), .int (zI (z16_kind)), .int (zI (z16_place)), .int (zI (z16_value)), .int (zI (z16_before)), .ref tx9, v16_8, v16_9, v16_10, v16_11, v16_12, v16_13])), (q_t, .inl (cT, 8192, .inl (fun j : Nat => zI (a_t (j : Int)))))] ++ va_pl L (pE P)) sz) := by
  refine vx_ofW (cc := cX16_row) (maxL := 2) (ret := none) (by decide) rfl ?_
  intro p e s m args below meth c s₁ B hml hnt hv
  obtain ⟨rfl, hsz, hP, hK, hD0, hp0, hp1, hp2, hp3, hp4, hp5, hp6, hp7, hp8, hp9, hp10, hp11, hp12, hp13, hp14, hp15, hp16, hp17, hp18, hp19, hp20, hp21, hp22, hp23, hp24, hp25, hp26⟩ := hv
  have hx := B.exec
  have hb := B.bytes
  have hr := B.returns
  have hts := atoms_spec (ws := v_X16_rowR) B.pre
  have hown : s.vm.findClass RX16 = some m.cls := findClass_of_methodNamed B.named
  have hlocks := B.notSynchronized
  have ow : ∀ {k : Nat} {w : Cond}, o_X16_rowR[k]? = some w → w.before ([.ref h0, .ref xr] : List Value).toArray s = true := fun h => hts _ (mow_X16_rowR _ (List.mem_of_getElem? h))
  subst hsz
  have hD := hD0.self (sz := s.heap.size)
  generalize hAe : va_A ([(h0, .inr (14, [.ref q_t, .int (zI (z16_n)), .int (zI (z16_at)), .int (zI (z16_kind)), .int (zI (z16_place)), .int (zI (z16_value)), .int (zI (z16_before)), .ref tx9, v16_8, v16_9, v16_10, v16_11, v16_12, v16_13])), (q_t, .inl (cT, 8192, .inl (fun j : Nat => zI (a_t (j : Int)))))] ++ va_pl L (pE P)) s.heap.size = A at hD hp1 hp2 hp3 hp7 hp8 hp11 hp13 hp14 hp15 hp18 hp20 hp23 hp24 hp25 ⊢
  have hA : ∀ q : Nat, s.heap.size ≤ q → A q := fun q h => by rw [← hAe]; exact Or.inr h
  have hS : va_S A s.heap s.heap [] := va_S.rf
  have hP : va_P (dC, dI) vwQ ([(h0, .inr (14, [.ref q_t, .int (zI (z16_n)), .int (zI (z16_at)), .int (zI (z16_kind)), .int (zI (z16_place)), .int (zI (z16_value)), .int (zI (z16_before)), .ref tx9, v16_8, v16_9, v16_10, v16_11, v16_12, v16_13])), (q_t, .inl (cT, 8192, .inl (fun j : Nat => zI (a_t (j : Int)))))] ++ va_pl L (pE P)) s.heap := hP
  have hl := lv_entry ([.ref h0, .ref xr]) (n := 2) (Nat.le_of_ble_eq_true rfl)
  rw [lg_entry_eq]
  generalize (lg_sl ([.ref h0, .ref xr]) ++ List.replicate (2 - (lg_sl ([.ref h0, .ref xr])).length) Slot.unset).toArray = ls at hl ⊢
  have hl : lv_has ls 2 [(0, .ref h0), (1, .ref xr)] := hl
  obtain ⟨H, hH⟩ : ∃ H, H = s.heap := ⟨_, rfl⟩
  rw [← hH] at hP
  have hS : va_S A s.heap H [] := by rw [hH]; exact hS
  rw [← hH]
  refine zW_cap (fun Q hQ => ?_)
  have hX_g9 := hX_g
  have hX_tn9 := hX_tn
  have hX_tg9 := hX_tn.1
  have hnn9 := TKV.nn (k := z16_kind) (d := z16_at - z16_place) (by omega)
  have hC_la := hX_la
  have hg00 := hX_g
  have hk00 := hX_k
  have hcx0 : CHG (fun z => z = xr) L P L P := CHG.refl _ _ _
  refine lv_aload_n hx hb dX16_row_0 rfl (lv_at hl 0 rfl) ?_
  refine va_ldcS hx hb hown hp0 dX16_row_1 ?_
  have hPc := hP.part (X := [(h0, .inr (14, [.ref q_t, .int (zI (z16_n)), .int (zI (z16_at)), .int (zI (z16_kind)), .int (zI (z16_place)), .int (zI (z16_value)), .int (zI (z16_before)), .ref tx9, v16_8, v16_9, v16_10, v16_11, v16_12, v16_13])), (q_t, .inl (cT, 8192, .inl (fun j : Nat => zI (a_t (j : Int)))))]) (cx := [(h0, .inr (14, [.ref q_t, .int (zI (z16_n)), .int (zI (z16_at)), .int (zI (z16_kind)), .int (zI (z16_place)), .int (zI (z16_value)), .int (zI (z16_before)), .ref tx9, v16_8, v16_9, v16_10, v16_11, v16_12, v16_13])), (q_t, .inl (cT, 8192, .inl (fun j : Nat => zI (a_t (j : Int)))))]) (pl := va_pl L (pE P)) [0, 1] rfl
  have hDc := hD.part (X := [(h0, .inr (14, [.ref q_t, .int (zI (z16_n)), .int (zI (z16_at)), .int (zI (z16_kind)), .int (zI (z16_place)), .int (zI (z16_value)), .int (zI (z16_before)), .ref tx9, v16_8, v16_9, v16_10, v16_11, v16_12, v16_13])), (q_t, .inl (cT, 8192, .inl (fun j : Nat => zI (a_t (j : Int)))))]) (cx := [(h0, .inr (14, [.ref q_t, .int (zI (z16_n)), .int (zI (z16_at)), .int (zI (z16_kind)), .int (zI (z16_place)), .int (zI (z16_value)), .int (zI (z16_before)), .ref tx9, v16_8, v16_9, v16_10, v16_11, v16_12, v16_13])), (q_t, .inl (cT, 8192, .inl (fun j : Nat => zI (a_t (j : Int)))))]) (pl := va_pl L (pE P)) [0, 1] (by decide) rfl
  have hKc := hK.sub (tys' := [(cT, .byte)]) [0] rfl
  have hFc := va_freeP (X := [(h0, .inr (14, [.ref q_t, .int (zI (z16_n)), .int (zI (z16_at)), .int (zI (z16_kind)), .int (zI (z16_place)), .int (zI (z16_value)), .int (zI (z16_before)), .ref tx9, v16_8, v16_9, v16_10, v16_11, v16_12, v16_13])), (q_t, .inl (cT, 8192, .inl (fun j : Nat => zI (a_t (j : Int)))))]) (cx := [(h0, .inr (14, [.ref q_t, .int (zI (z16_n)), .int (zI (z16_at)), .int (zI (z16_kind)), .int (zI (z16_place)), .int (zI (z16_value)), .int (zI (z16_before)), .ref tx9, v16_8, v16_9, v16_10, v16_11, v16_12, v16_13])), (q_t, .inl (cT, 8192, .inl (fun j : Nat => zI (a_t (j : Int)))))]) (pl := va_pl L (pE P)) hD hS hA [0, 1] rfl
  refine va_calli (va_runV (As := [.ref sa_RX16_179]) (rest := []) ⟨hx, hb, hml, hown, hts⟩ (c_X16_isKK l dC dI h0 (.int (zI (z16_n))) (.int (zI (z16_at))) z16_kind (.int (zI (z16_place))) (.int (zI (z16_value))) (.int (zI (z16_before))) v16_8 v16_9 v16_10 v16_11 v16_12 v16_13 q_t cT a_t tx9 L P sa_RX16_9 sa_RX16_179 sv_RX16_179 4 ((fun j : Nat => ([115, 104, 111, 119] : List Int32).getD j 0)) (by omega) hR_a_t hX_tx (by omega) H.size sv_RX16_9) (cwV 1 hts g_X16_rowR_X16_isKK rfl rfl rfl (by decide +kernel) ⟨(Nat.le_of_ble_eq_true rfl), (Nat.le_of_ble_eq_true rfl)⟩) ⟨fun a U g mk q => by obtain ⟨q0, q1, qP, qK, qD, e0, e1, e2⟩ := q; exact ⟨q0, q1, qP, va_K.moved (u := U) (U := U.calling g mk a) (Vm.Alike.refl U.vm) qK, qD, vs_S.moved (u := U) (U := U.calling g mk a) (Vm.Alike.refl U.vm) e0, vs_S.moved (u := U) (U := U.calling g mk a) (Vm.Alike.refl U.vm) e1, va_Z.moved (u := U) (U := U.calling g mk a) (Vm.Alike.refl U.vm) e2⟩, va_recv hKc hPc (ci := 14) (q0 := 0) rfl rfl, fun U hU hW => ⟨rfl, by rw [hU], by rw [hU]; exact hPc, va_K.moved hW.alike hKc, hDc.weaken (fun _ _ _ _ => trivial), vs_S.go hp2 hS hFc hU hW.alike, vs_S.go hp1 hS hFc hU hW.alike, va_Z.go hp3 hS hFc hU hW.alike⟩⟩ rfl rfl hl.1 rfl (lv_room (Nat.le_of_ble_eq_true rfl)) dX16_row_3 ⟨(Nat.zero_le _), (Nat.zero_le _)⟩) hS (fun q _ h => hFc q h) hFc (fun r_1 u t H1 locs ht hvm hw hB hz1 hk1 hS => ?_)
  obtain ⟨hP1, hK1, hD1⟩ := hB
  rw [ht] at hP1
  have hK1 := va_K.moved hvm.symm hK1
  obtain ⟨hP, hD⟩ := va_joinP (X := [(h0, .inr (14, [.ref q_t, .int (zI (z16_n)), .int (zI (z16_at)), .int (zI (z16_kind)), .int (zI (z16_place)), .int (zI (z16_value)), .int (zI (z16_before)), .ref tx9, v16_8, v16_9, v16_10, v16_11, v16_12, v16_13])), (q_t, .inl (cT, 8192, .inl (fun j : Nat => zI (a_t (j : Int)))))]) (cx := [(h0, .inr (14, [.ref q_t, .int (zI (z16_n)), .int (zI (z16_at)), .int (zI (z16_kind)), .int (zI (z16_place)), .int (zI (z16_value)), .int (zI (z16_before)), .ref tx9, v16_8, v16_9, v16_10, v16_11, v16_12, v16_13])), (q_t, .inl (cT, 8192, .inl (fun j : Nat => zI (a_t (j : Int)))))]) (wr := []) (rx := [(h0, .inr (14, [.ref q_t, .int (zI (z16_n)), .int (zI (z16_at)), .int (zI (z16_kind)), .int (zI (z16_place)), .int (zI (z16_value)), .int (zI (z16_before)), .ref tx9, v16_8, v16_9, v16_10, v16_11, v16_12, v16_13])), (q_t, .inl (cT, 8192, .inl (fun j : Nat => zI (a_t (j : Int)))))]) (pl := va_pl L (pE P)) (pl1 := va_pl L (pE P)) hP hD [0, 1] [] rfl rfl (by decide) (by decide) hk1 hFc hP1 hD1
  have hK := (hK.sub (tys' := [(cO, .object "java/lang/Object"), (cI, .int), (cZ, .boolean)]) [1, 2, 3] rfl).app hK1
  generalize H1 = H at hP hS ⊢
  have hP : va_P (dC, dI) vwQ ([(h0, .inr (14, [.ref q_t, .int (zI (z16_n)), .int (zI (z16_at)), .int (zI (z16_kind)), .int (zI (z16_place)), .int (zI (z16_value)), .int (zI (z16_before)), .ref tx9, v16_8, v16_9, v16_10, v16_11, v16_12, v16_13])), (q_t, .inl (cT, 8192, .inl (fun j : Nat => zI (a_t (j : Int)))))] ++ va_pl L (pE P)) H := hP
  have hD : va_D A ([(h0, .inr (14, [.ref q_t, .int (zI (z16_n)), .int (zI (z16_at)), .int (zI (z16_kind)), .int (zI (z16_place)), .int (zI (z16_value)), .int (zI (z16_before)), .ref tx9, v16_8, v16_9, v16_10, v16_11, v16_12, v16_13])), (q_t, .inl (cT, 8192, .inl (fun j : Nat => zI (a_t (j : Int)))))] ++ va_pl L (pE P)) := hD
  have hK : va_K (dC, dI) vwQ [(cO, .object "java/lang/Object"), (cI, .int), (cZ, .boolean), (cT, .byte)] s := hK
  refine W.widen (k := 0) (n := 0) (Nat.le_of_ble_eq_true rfl) (Nat.le_of_ble_eq_true rfl) ?_
  have hw_2 := hw
  obtain ⟨z_3, rfl, hzz_3⟩ := hw_2
  skip
  refine lv_if_eq (tgt := 26) hx hb dX16_row_6 (by decide) (fun b6 => ?_) (fun b6 => ?_)
  · have yb6 : (z_3 : Int) = (0 : Int) := (zI_eq (a := z_3) (b := 0) (by omega) (by omega) (by omega) (by omega)).mp b6
    refine lv_aload_n hx hb dX16_row_26 rfl (lv_at hl 1 rfl) ?_
    refine lv_aload_n hx hb dX16_row_27 rfl (lv_at hl 0 rfl) ?_
    refine lv_iconst (v := 2) hx hb dX16_row_28 (by decide) ?_
    have hX_tn := hX_tn
    have hPc := hP.part (X := [(h0, .inr (14, [.ref q_t, .int (zI (z16_n)), .int (zI (z16_at)), .int (zI (z16_kind)), .int (zI (z16_place)), .int (zI (z16_value)), .int (zI (z16_before)), .ref tx9, v16_8, v16_9, v16_10, v16_11, v16_12, v16_13])), (q_t, .inl (cT, 8192, .inl (fun j : Nat => zI (a_t (j : Int)))))]) (cx := [(h0, .inr (14, [.ref q_t, .int (zI (z16_n)), .int (zI (z16_at)), .int (zI (z16_kind)), .int (zI (z16_place)), .int (zI (z16_value)), .int (zI (z16_before)), .ref tx9, v16_8, v16_9, v16_10, v16_11, v16_12, v16_13])), (q_t, .inl (cT, 8192, .inl (fun j : Nat => zI (a_t (j : Int)))))]) (pl := va_pl L (pE P)) [0, 1] rfl
    have hDc := hD.part (X := [(h0, .inr (14, [.ref q_t, .int (zI (z16_n)), .int (zI (z16_at)), .int (zI (z16_kind)), .int (zI (z16_place)), .int (zI (z16_value)), .int (zI (z16_before)), .ref tx9, v16_8, v16_9, v16_10, v16_11, v16_12, v16_13])), (q_t, .inl (cT, 8192, .inl (fun j : Nat => zI (a_t (j : Int)))))]) (cx := [(h0, .inr (14, [.ref q_t, .int (zI (z16_n)), .int (zI (z16_at)), .int (zI (z16_kind)), .int (zI (z16_place)), .int (zI (z16_value)), .int (zI (z16_before)), .ref tx9, v16_8, v16_9, v16_10, v16_11, v16_12, v16_13])), (q_t, .inl (cT, 8192, .inl (fun j : Nat => zI (a_t (j : Int)))))]) (pl := va_pl L (pE P)) [0, 1] (by decide) rfl
    have hKc := hK.sub (tys' := [(cT, .byte)]) [3] rfl
    have hFc := va_freeP (X := [(h0, .inr (14, [.ref q_t, .int (zI (z16_n)), .int (zI (z16_at)), .int (zI (z16_kind)), .int (zI (z16_place)), .int (zI (z16_value)), .int (zI (z16_before)), .ref tx9, v16_8, v16_9, v16_10, v16_11, v16_12, v16_13])), (q_t, .inl (cT, 8192, .inl (fun j : Nat => zI (a_t (j : Int)))))]) (cx := [(h0, .inr (14, [.ref q_t, .int (zI (z16_n)), .int (zI (z16_at)), .int (zI (z16_kind)), .int (zI (z16_place)), .int (zI (z16_value)), .int (zI (z16_before)), .ref tx9, v16_8, v16_9, v16_10, v16_11, v16_12, v16_13])), (q_t, .inl (cT, 8192, .inl (fun j : Nat => zI (a_t (j : Int)))))]) (pl := va_pl L (pE P)) hD hS hA [0, 1] rfl
    refine W_knowS (fun hrmA => ?_)
    refine vx_calli (vx_runV (As := [.int 2]) (rest := [.ref xr]) ⟨hx, hb, hml, hown, hts⟩ (c_X16_wantIK l dC dI h0 z16_n z16_at z16_kind z16_place z16_value z16_before v16_8 v16_9 v16_10 v16_11 v16_12 v16_13 q_t cT a_t tx9 L P sa_RX16_9 2 (by omega) (by omega) (by omega) (by omega) (by omega) (by omega) hR_a_t hX_tx (by omega) hX_kv hX_tn (by omega) H.size sv_RX16_9 sa_RX16_119 sv_RX16_119 sa_RX16_100 sv_RX16_100 sa_RX16_117 sv_RX16_117 sa_RX16_98 sv_RX16_98 H) (cwV 1 hts g_X16_rowR_X16_wantIK rfl rfl rfl (by decide +kernel) ⟨(Nat.le_of_ble_eq_true rfl), (Nat.le_of_ble_eq_true rfl)⟩) ⟨fun a U g mk q => by obtain ⟨q0, q1, qP, qK, qD, e0, e1, e2, e3, e4, e5, e6, e7, e8, e9, e10, e11, e12, e13, e14⟩ := q; exact ⟨q0, q1, qP, va_K.moved (u := U) (U := U.calling g mk a) (Vm.Alike.refl U.vm) qK, qD, vk_R.same (u := U) (U := U.calling g mk a) rfl e0, va_Z.moved (u := U) (U := U.calling g mk a) (Vm.Alike.refl U.vm) e1, vs_S.moved (u := U) (U := U.calling g mk a) (Vm.Alike.refl U.vm) e2, va_Nw.same rfl (u := U) (U := U.calling g mk a) rfl e3, vk_R.same (u := U) (U := U.calling g mk a) rfl e4, vs_S.moved (u := U) (U := U.calling g mk a) (Vm.Alike.refl U.vm) e5, vs_S.moved (u := U) (U := U.calling g mk a) (Vm.Alike.refl U.vm) e6, vk_R.same (u := U) (U := U.calling g mk a) rfl e7, vk_R.same (u := U) (U := U.calling g mk a) rfl e8, vs_S.moved (u := U) (U := U.calling g mk a) (Vm.Alike.refl U.vm) e9, vk_R.same (u := U) (U := U.calling g mk a) rfl e10, vs_S.moved (u := U) (U := U.calling g mk a) (Vm.Alike.refl U.vm) e11, e12, vx_Zq.moved (u := U) (U := U.calling g mk a) (Vm.Alike.refl U.vm) e13, vx_Zq.moved (u := U) (U := U.calling g mk a) (Vm.Alike.refl U.vm) e14⟩, va_recv hKc hPc (ci := 14) (q0 := 0) rfl rfl, fun U hU hW => ⟨rfl, by rw [hU], by rw [hU]; exact hPc, va_K.moved hW.alike hKc, hDc.weaken (fun _ _ _ _ => trivial), vk_R.warm hW hp4, va_Z.go hp3 hS hFc hU hW.alike, vs_S.go hp2 hS hFc hU hW.alike, va_Nw.warmC hW hp5, vk_R.warm hW hp6, vs_S.go hp7 hS hFc hU hW.alike, vs_S.go hp8 hS hFc hU hW.alike, vk_R.warm hW hp9, vk_R.warm hW hp10, vs_S.go hp11 hS hFc hU hW.alike, vk_R.warm hW hp12, vs_S.go hp13 hS hFc hU hW.alike, hU, vx_Zq.go hp14 hS hFc hU hW.alike, vx_Zq.go hp15 hS hFc hU hW.alike⟩⟩ rfl rfl hl.1 rfl (lv_room (Nat.le_of_ble_eq_true rfl)) dX16_row_29 ⟨(show 0 + ((z16_n - z16_at + 20).toNat) ≤ (8 * (z16_n - z16_place) + 120).toNat from (rmT (by omega) (by omega))), (show 0 + ((10 * (z16_n - z16_at) + 120).toNat) ≤ (40 * (z16_n - z16_place) + 500).toNat from (rmT (by omega) (by omega)))⟩) hS (fun q _ h => hFc q h) hFc (fun q _ h => hFc q h) (fun E ce q9 u t H1 locs ht hvm _ hB hz1 hk1 hS hce hcv hcl => ?_) (fun r_4 u t H1 locs ht hvm hw hB hz1 hk1 hS => ?_)
    · obtain ⟨rfl, zp_5, Ln_6, Pn_7, kc_8, ks_9, hxt_10, hP1, hD1⟩ := hB
      rw [ht] at hP1
      obtain ⟨hP, hD⟩ := va_joinP (X := [(h0, .inr (14, [.ref q_t, .int (zI (z16_n)), .int (zI (z16_at)), .int (zI (z16_kind)), .int (zI (z16_place)), .int (zI (z16_value)), .int (zI (z16_before)), .ref tx9, v16_8, v16_9, v16_10, v16_11, v16_12, v16_13])), (q_t, .inl (cT, 8192, .inl (fun j : Nat => zI (a_t (j : Int)))))]) (cx := [(h0, .inr (14, [.ref q_t, .int (zI (z16_n)), .int (zI (z16_at)), .int (zI (z16_kind)), .int (zI (z16_place)), .int (zI (z16_value)), .int (zI (z16_before)), .ref tx9, v16_8, v16_9, v16_10, v16_11, v16_12, v16_13])), (q_t, .inl (cT, 8192, .inl (fun j : Nat => zI (a_t (j : Int)))))]) (wr := []) (rx := [(q_t, .inl (cT, 8192, .inl (fun j : Nat => zI (a_t (j : Int))))), (q9, .inr (15, [.null, .null, .null, .null, .null, .int 0, .int (zI (zp_5))]))]) (pl := va_pl L (pE P)) (pl1 := va_pl Ln_6 (pE Pn_7)) hP hD [0, 1] [] rfl rfl (by decide) (by decide) hk1 hFc hP1 hD1
      have hrmC := hxt_10.1.1
      rw [ht] at hrmC
      refine vx_tightS (hrmA.trans hrmC) ?_
      have hrb := hxt_10.1.2
      generalize H1 = H at hP hS hce ⊢
      have hP : va_P (dC, dI) vwQ ([(q_t, .inl (cT, 8192, .inl (fun j : Nat => zI (a_t (j : Int))))), (q9, .inr (15, [.null, .null, .null, .null, .null, .int 0, .int (zI (zp_5))]))] ++ va_pl Ln_6 (pE Pn_7)) H := hP
      have hD : va_D A ([(q_t, .inl (cT, 8192, .inl (fun j : Nat => zI (a_t (j : Int))))), (q9, .inr (15, [.null, .null, .null, .null, .null, .int 0, .int (zI (zp_5))]))] ++ va_pl Ln_6 (pE Pn_7)) := hD
      have hzp : 0 ≤ zp_5 ∧ zp_5 ≤ 8192 := hxt_10.2.1
      subst hQ
      refine vx_knowS (fun hrm9 => ?_)
      refine vx_widen (k := ((8 * (z16_n - z16_place) + 120).toNat)) (n := ((40 * (z16_n - z16_place) + 500).toNat)) (rmW (by omega)) (rmW (by omega)) ?_
      exact vx_out (fun x9 h9 => (hnt x9 h9).elim) hlocks hce hcv hcl (fun t ht hvm => ⟨(), trivial, ⟨rfl, zp_5, Ln_6, Pn_7, (0 + kc_8), (0 + ks_9), ⟨⟨(by rw [ht, ← hp16]; exact hrm9), (by omega)⟩, ⟨(by omega), ⟨(KEG.refl [] L P).trans (hxt_10.2.2.1.kegR hX_g9), hX_g9.txt hxt_10.2.2.1 hxt_10.2.2.2, (hcx0.cpa hg00.owa (fun z _ q => by rw [show z = xr from q, hk00]; decide)).trans (KEG.refl [] L P) (hxt_10.2.2.1.cpa hX_g9.owa)⟩⟩⟩, by rw [ht]; exact hP, hD⟩, hS.F ht⟩) hS.2.2 (Nat.le_refl _) (Nat.le_refl _)
    obtain ⟨z0_11, z1_12, z2_13, z3_14, z4_15, q5_16, Ln_17, Pn_18, kc_19, ks_20, hxt_20, hP1, hK1, hD1⟩ := hB
    rw [ht] at hP1
    have hK1 := va_K.moved hvm.symm hK1
    obtain ⟨hP, hD⟩ := va_joinP (X := [(h0, .inr (14, [.ref q_t, .int (zI (z16_n)), .int (zI (z16_at)), .int (zI (z16_kind)), .int (zI (z16_place)), .int (zI (z16_value)), .int (zI (z16_before)), .ref tx9, v16_8, v16_9, v16_10, v16_11, v16_12, v16_13])), (q_t, .inl (cT, 8192, .inl (fun j : Nat => zI (a_t (j : Int)))))]) (cx := [(h0, .inr (14, [.ref q_t, .int (zI (z16_n)), .int (zI (z16_at)), .int (zI (z16_kind)), .int (zI (z16_place)), .int (zI (z16_value)), .int (zI (z16_before)), .ref tx9, v16_8, v16_9, v16_10, v16_11, v16_12, v16_13])), (q_t, .inl (cT, 8192, .inl (fun j : Nat => zI (a_t (j : Int)))))]) (wr := []) (rx := [(h0, .inr (14, [.ref q_t, .int (zI (z16_n)), .int (zI (z0_11)), .int (zI (z1_12)), .int (zI (z2_13)), .int (zI (z3_14)), .int (zI (z4_15)), .ref q5_16, v16_8, v16_9, v16_10, v16_11, v16_12, v16_13])), (q_t, .inl (cT, 8192, .inl (fun j : Nat => zI (a_t (j : Int)))))]) (pl := va_pl L (pE P)) (pl1 := va_pl Ln_17 (pE Pn_18)) hP hD [0, 1] [] rfl rfl (by decide) (by decide) hk1 hFc hP1 hD1
    have hK := (hK.sub (tys' := [(cO, .object "java/lang/Object"), (cI, .int), (cZ, .boolean)]) [0, 1, 2] rfl).app hK1
    have hrmC := hxt_20.1.1
    rw [ht] at hrmC
    refine W_tightS (hrmA.trans hrmC) ?_
    have hrb := hxt_20.1.2
    generalize H1 = H at hP hS ⊢
    have hP : va_P (dC, dI) vwQ ([(h0, .inr (14, [.ref q_t, .int (zI (z16_n)), .int (zI (z0_11)), .int (zI (z1_12)), .int (zI (z2_13)), .int (zI (z3_14)), .int (zI (z4_15)), .ref q5_16, v16_8, v16_9, v16_10, v16_11, v16_12, v16_13])), (q_t, .inl (cT, 8192, .inl (fun j : Nat => zI (a_t (j : Int)))))] ++ va_pl Ln_17 (pE Pn_18)) H := hP
    have hD : va_D A ([(h0, .inr (14, [.ref q_t, .int (zI (z16_n)), .int (zI (z0_11)), .int (zI (z1_12)), .int (zI (z2_13)), .int (zI (z3_14)), .int (zI (z4_15)), .ref q5_16, v16_8, v16_9, v16_10, v16_11, v16_12, v16_13])), (q_t, .inl (cT, 8192, .inl (fun j : Nat => zI (a_t (j : Int)))))] ++ va_pl Ln_17 (pE Pn_18)) := hD
    have hK : va_K (dC, dI) vwQ [(cO, .object "java/lang/Object"), (cI, .int), (cZ, .boolean), (cT, .byte)] s := hK
    refine W.widen (k := (0 + kc_19)) (n := (0 + ks_20)) (by omega) (by omega) ?_
    have hw_21 := hw
    obtain ⟨rk_22, rk_23, rk_24, rk_25, rk_26, hu_26⟩ := hxt_20.2
    obtain ⟨z_27, rfl, hzz_27⟩ := hw_21
    have htk_28 := hu_26.1.2
    have hrg_28 := hu_26.1.1
    have htq_28 := htk_28.1
    have hkd_33 := hu_26.2.1
    have hX_kv := hkd_33.2
    have hu_29 := hu_26.2.2
    have hex_30 : EXT9 L P Ln_17 Pn_18 := hu_29.1
    have hke_31 : KEG [] L P Ln_17 Pn_18 := hex_30.kegR hX_g9
    have hak_32 : GLR Ln_17 Pn_18 cO cI cZ sx_ed := hX_g9.txt hex_30 hu_29.2.1
    have hsm_34 := (hex_30 xr hX_x).2
    have : Pn_18.ro xr = P.ro xr := hsm_34.1 0
    have : Pn_18.rt xr = P.rt xr := hsm_34.1 1
    have : Pn_18.ra xr = P.ra xr := hsm_34.1 2
    have : Pn_18.rb xr = P.rb xr := hsm_34.1 3
    have : Pn_18.rA xr = P.rA xr := hsm_34.1 4
    have : Pn_18.rB xr = P.rB xr := hsm_34.1 5
    have : Pn_18.rg xr = P.rg xr := hsm_34.1 6
    have : Pn_18.ek xr = P.ek xr := hsm_34.2.1 8
    have hq_35 : HID (la ∈ Ln_17 ∧ Pn_18.kd la = 30) := hke_31.mem hC_la.1 hC_la.2.1 (by decide)
    have hq_36 : HID (xr ∈ Ln_17 ∧ Pn_18.kd xr = 17) := hke_31.mem hX_x hX_k (by decide)
    have hE_37 : HID (Pn_18.ek xr ≠ 1) := (by rw [hke_31.ek hX_x hX_k (by decide)]; exact hX_e)
    have hA_38 : KEG [] L P Ln_17 Pn_18 := (KEG.refl [] L P).trans hke_31
    have : Pn_18.lz la = P.lz la := (hex_30 la hC_la.1).2.1 0
    have hek_39 : HID (Pn_18.ek la = 12) := (by rw [hke_31.ek hC_la.1 hC_la.2.1 (by decide)]; exact hC_la.2.2.1)
    have how_40 : HID (Pn_18.ow la = la) := ((hke_31.1 la hC_la.1 (by rw [hC_la.2.1]; decide)).2.2.2.1 hC_la.2.1 hC_la.2.2.2).1
    have hcz := (((hke_31.1 la hC_la.1 (by rw [hC_la.2.1]; decide)).2.2.2.1 hC_la.2.1 hC_la.2.2.2).2 (by simp)).1
    have hX_tx := hu_29.2.2
    have hcx_41 : CHG (fun z => z = xr) L P Ln_17 Pn_18 := hcx0.trans hex_30.chg (fun z m q => q.elim)
    have hnn_28 := TKV.nn (k := z1_12) (d := z0_11 - z2_13) (by omega)
    have hzr9 := hzz_27.1.reg rfl
    have hnt9 := TKQ.reg hX_tn9 (by omega)
    have hri_42 : (((0 + ks_20) : Nat) : Int) ≤ 40 * (z2_13 - z16_place) - TKV z16_kind (z16_at - z16_place) + TKV (z1_12) (z0_11 - z2_13) - 80 ∧ (((0 + kc_19) : Nat) : Int) ≤ 8 * (z2_13 - z16_place) - TKW z16_kind (z16_at - z16_place) + TKW (z1_12) (z0_11 - z2_13) - 16 := (by omega)
    clear hrb
    skip
    have hr7 := (hak_32.rokR hq_36.1 hq_36.2).n7
    obtain ⟨kp_43, gkp_43⟩ := va_pl_get (X := [(h0, .inr (14, [.ref q_t, .int (zI (z16_n)), .int (zI (z0_11)), .int (zI (z1_12)), .int (zI (z2_13)), .int (zI (z3_14)), .int (zI (z4_15)), .ref q5_16, v16_8, v16_9, v16_10, v16_11, v16_12, v16_13])), (q_t, .inl (cT, 8192, .inl (fun j : Nat => zI (a_t (j : Int)))))]) (f := pE Pn_18) hq_36.1
    have hkp_43 := gkp_43
    rw [pE_row hq_36.2] at hkp_43
    have hD0 := hD
    refine va_put (D := (dC, dI)) (ci := 21) (v := .int (zI (z_27))) (ty := .int) (C := RX17) (T := TX17) (N := 7) hx hb hts mem_X16_rowR_2 tyX17 tyX17_ok nmX17 hown hK hP hD hS kp_43 hkp_43 rfl 1 (by decide) (ow (k := 7) rfl) (fun _ h9 => h9) rfl (by decide +kernel) rfl rfl (by first | exact Nat.le_of_ble_eq_true rfl | exact (show (0 + kc_19) ≤ (8 * (z16_n - z16_place) + 120).toNat from (rmW (by omega))) | exact (show (0 + ks_20) ≤ (40 * (z16_n - z16_place) + 500).toNat from (rmW (by omega)))) dX16_row_32 (fun H locs hP hD hS => ?_)
    obtain ⟨Pw_44, ePw_44⟩ : ∃ q9 : PO, q9 = Pn_18.rw9 1 xr (z_27) := ⟨_, rfl⟩
    have eU : (([(h0, .inr (14, [.ref q_t, .int (zI (z16_n)), .int (zI (z0_11)), .int (zI (z1_12)), .int (zI (z2_13)), .int (zI (z3_14)), .int (zI (z4_15)), .ref q5_16, v16_8, v16_9, v16_10, v16_11, v16_12, v16_13])), (q_t, .inl (cT, 8192, .inl (fun j : Nat => zI (a_t (j : Int)))))] : va_W) ++ va_pl Ln_17 (pE Pn_18)).set kp_43 (xr, rowE (Pn_18.ro xr) (z_27) (Pn_18.ra xr) (Pn_18.rb xr) (Pn_18.rA xr) (Pn_18.rB xr) (Pn_18.rg xr)) = ([(h0, .inr (14, [.ref q_t, .int (zI (z16_n)), .int (zI (z0_11)), .int (zI (z1_12)), .int (zI (z2_13)), .int (zI (z3_14)), .int (zI (z4_15)), .ref q5_16, v16_8, v16_9, v16_10, v16_11, v16_12, v16_13])), (q_t, .inl (cT, 8192, .inl (fun j : Nat => zI (a_t (j : Int)))))] : va_W) ++ va_pl Ln_17 (pE Pw_44) := (by rw [va_pl_set hD0 hq_36.1 gkp_43, ePw_44]; exact congrArg (fun f9 => ([(h0, .inr (14, [.ref q_t, .int (zI (z16_n)), .int (zI (z0_11)), .int (zI (z1_12)), .int (zI (z2_13)), .int (zI (z3_14)), .int (zI (z4_15)), .ref q5_16, v16_8, v16_9, v16_10, v16_11, v16_12, v16_13])), (q_t, .inl (cT, 8192, .inl (fun j : Nat => zI (a_t (j : Int)))))] : va_W) ++ va_pl Ln_17 f9) (put17_1 hq_36.2))
    have hP : va_P (dC, dI) vwQ ([(h0, .inr (14, [.ref q_t, .int (zI (z16_n)), .int (zI (z0_11)), .int (zI (z1_12)), .int (zI (z2_13)), .int (zI (z3_14)), .int (zI (z4_15)), .ref q5_16, v16_8, v16_9, v16_10, v16_11, v16_12, v16_13])), (q_t, .inl (cT, 8192, .inl (fun j : Nat => zI (a_t (j : Int)))))] ++ va_pl Ln_17 (pE Pw_44)) H := (by rw [← eU]; exact hP)
    have hD : va_D A ([(h0, .inr (14, [.ref q_t, .int (zI (z16_n)), .int (zI (z0_11)), .int (zI (z1_12)), .int (zI (z2_13)), .int (zI (z3_14)), .int (zI (z4_15)), .ref q5_16, v16_8, v16_9, v16_10, v16_11, v16_12, v16_13])), (q_t, .inl (cT, 8192, .inl (fun j : Nat => zI (a_t (j : Int)))))] ++ va_pl Ln_17 (pE Pw_44)) := (by rw [← eU]; exact hD)
    clear eU hD0 gkp_43 hkp_43
    have wPw_44 : RW1 xr Pn_18 Pw_44 := (by rw [ePw_44]; exact RW1.put _ _ _ _)
    have hy_45 : Pw_44.kd la = 30 := (by rw [ePw_44]; exact hq_35.2)
    have hy_46 : Pw_44.kd xr = 17 := (by rw [ePw_44]; exact hq_36.2)
    have : Pw_44.ro xr = Pn_18.ro xr := (by rw [ePw_44]; exact rw9_of _ (by decide))
    have : Pw_44.rt xr = z_27 := (by rw [ePw_44]; exact rw9_at _ _ _ _)
    have : Pw_44.ra xr = Pn_18.ra xr := (by rw [ePw_44]; exact rw9_of _ (by decide))
    have : Pw_44.rb xr = Pn_18.rb xr := (by rw [ePw_44]; exact rw9_of _ (by decide))
    have : Pw_44.rA xr = Pn_18.rA xr := (by rw [ePw_44]; exact rw9_of _ (by decide))
    have : Pw_44.rB xr = Pn_18.rB xr := (by rw [ePw_44]; exact rw9_of _ (by decide))
    have : Pw_44.rg xr = Pn_18.rg xr := (by rw [ePw_44]; exact rw9_of _ (by decide))
    have : Pw_44.ek xr = Pn_18.ek xr := (by rw [ePw_44]; rfl)
    have hW_47 : RW1 xr Pn_18 Pw_44 := wPw_44
    have hrw_50 : RWD Pn_18 Pw_44 := hW_47.rwd (Or.inl hq_36.2)
    have hak_49 : GLR Ln_17 Pw_44 cO cI cZ sx_ed := hak_32.row hW_47 hq_36.2 (ROKR.of (by omega) (by omega) (by omega) (by omega) (by omega) (by omega) (by omega) (uaZR (by omega)) (ubZR (by omega))) (fun e9 => by have q9 := hak_32.op21 hq_36.1 hq_36.2 e9; omega)
    have hke_48 : KEG [] Ln_17 Pn_18 Ln_17 Pw_44 := hrw_50.kegR _ hq_35.2
    have hq_51 : HID (la ∈ Ln_17 ∧ Pw_44.kd la = 30) := hke_48.mem hq_35.1 hq_35.2 (by decide)
    have hq_52 : HID (xr ∈ Ln_17 ∧ Pw_44.kd xr = 17) := hke_48.mem hq_36.1 hq_36.2 (by decide)
    have hE_53 : HID (Pw_44.ek xr ≠ 1) := (by rw [hke_48.ek hq_36.1 hq_36.2 (by decide)]; exact hE_37.out)
    have hA_54 : KEG [] L P Ln_17 Pw_44 := hA_38.trans hke_48
    have : Pw_44.lz la = Pn_18.lz la := hrw_50.lz hq_35.2
    have : Pw_44.cap la = Pn_18.cap la := hW_47.cap la
    have hek_55 : HID (Pw_44.ek la = 12) := (by rw [hke_48.ek hq_35.1 hq_35.2 (by decide)]; exact hek_39.out)
    have how_56 : HID (Pw_44.ow la = la) := ((hke_48.1 la hq_35.1 (by rw [hq_35.2]; decide)).2.2.2.1 hq_35.2 how_40.out).1
    have hcz := (((hke_48.1 la hq_35.1 (by rw [hq_35.2]; decide)).2.2.2.1 hq_35.2 how_40.out).2 (by simp)).1
    have hX_tx := hX_tx.rw1R hW_47 (Or.inl hq_36.2)
    have hcx_57 : CHG (fun z => z = xr) L P Ln_17 Pw_44 := hcx_41.trans (hW_47.chg _) (fun z m q => q)
    refine lv_aload_n hx hb dX16_row_35 rfl (lv_at hl 0 rfl) ?_
    refine va_ldcS hx hb hown hp17 dX16_row_36 ?_
    have hX_tn := htk_28
    have hPc := hP.part (X := [(h0, .inr (14, [.ref q_t, .int (zI (z16_n)), .int (zI (z0_11)), .int (zI (z1_12)), .int (zI (z2_13)), .int (zI (z3_14)), .int (zI (z4_15)), .ref q5_16, v16_8, v16_9, v16_10, v16_11, v16_12, v16_13])), (q_t, .inl (cT, 8192, .inl (fun j : Nat => zI (a_t (j : Int)))))]) (cx := [(h0, .inr (14, [.ref q_t, .int (zI (z16_n)), .int (zI (z0_11)), .int (zI (z1_12)), .int (zI (z2_13)), .int (zI (z3_14)), .int (zI (z4_15)), .ref q5_16, v16_8, v16_9, v16_10, v16_11, v16_12, v16_13])), (q_t, .inl (cT, 8192, .inl (fun j : Nat => zI (a_t (j : Int)))))]) (pl := va_pl Ln_17 (pE Pw_44)) [0, 1] rfl
    have hDc := hD.part (X := [(h0, .inr (14, [.ref q_t, .int (zI (z16_n)), .int (zI (z0_11)), .int (zI (z1_12)), .int (zI (z2_13)), .int (zI (z3_14)), .int (zI (z4_15)), .ref q5_16, v16_8, v16_9, v16_10, v16_11, v16_12, v16_13])), (q_t, .inl (cT, 8192, .inl (fun j : Nat => zI (a_t (j : Int)))))]) (cx := [(h0, .inr (14, [.ref q_t, .int (zI (z16_n)), .int (zI (z0_11)), .int (zI (z1_12)), .int (zI (z2_13)), .int (zI (z3_14)), .int (zI (z4_15)), .ref q5_16, v16_8, v16_9, v16_10, v16_11, v16_12, v16_13])), (q_t, .inl (cT, 8192, .inl (fun j : Nat => zI (a_t (j : Int)))))]) (pl := va_pl Ln_17 (pE Pw_44)) [0, 1] (by decide) rfl
    have hKc := hK.sub (tys' := [(cT, .byte)]) [3] rfl
    have hFc := va_freeP (X := [(h0, .inr (14, [.ref q_t, .int (zI (z16_n)), .int (zI (z0_11)), .int (zI (z1_12)), .int (zI (z2_13)), .int (zI (z3_14)), .int (zI (z4_15)), .ref q5_16, v16_8, v16_9, v16_10, v16_11, v16_12, v16_13])), (q_t, .inl (cT, 8192, .inl (fun j : Nat => zI (a_t (j : Int)))))]) (cx := [(h0, .inr (14, [.ref q_t, .int (zI (z16_n)), .int (zI (z0_11)), .int (zI (z1_12)), .int (zI (z2_13)), .int (zI (z3_14)), .int (zI (z4_15)), .ref q5_16, v16_8, v16_9, v16_10, v16_11, v16_12, v16_13])), (q_t, .inl (cT, 8192, .inl (fun j : Nat => zI (a_t (j : Int)))))]) (pl := va_pl Ln_17 (pE Pw_44)) hD hS hA [0, 1] rfl
    refine W_knowS (fun hrmA => ?_)
    refine vx_callv (vx_runV (As := [.ref sa_RX16_229]) (rest := []) ⟨hx, hb, hml, hown, hts⟩ (c_X16_wantSK l dC dI h0 z16_n z0_11 z1_12 z2_13 z3_14 z4_15 v16_8 v16_9 v16_10 v16_11 v16_12 v16_13 q_t cT a_t q5_16 Ln_17 Pw_44 sa_RX16_9 sa_RX16_229 sv_RX16_229 1 ((fun j : Nat => ([61] : List Int32).getD j 0)) (by omega) (by omega) (by omega) (by omega) (by omega) (by omega) hR_a_t hX_tx (by omega) hX_tn (by omega) H.size sv_RX16_9 sa_RX16_119 sv_RX16_119 sa_RX16_100 sv_RX16_100 sa_RX16_117 sv_RX16_117 sa_RX16_98 sv_RX16_98 H) (cwV 1 hts g_X16_rowR_X16_wantSK rfl rfl rfl (by decide +kernel) ⟨(Nat.le_of_ble_eq_true rfl), (Nat.le_of_ble_eq_true rfl)⟩) ⟨fun a U g mk q => by obtain ⟨q0, q1, qP, qK, qD, e0, e1, e2, e3, e4, e5, e6, e7, e8, e9, e10, e11, e12, e13, e14, e15⟩ := q; exact ⟨q0, q1, qP, va_K.moved (u := U) (U := U.calling g mk a) (Vm.Alike.refl U.vm) qK, qD, vs_S.moved (u := U) (U := U.calling g mk a) (Vm.Alike.refl U.vm) e0, vs_S.moved (u := U) (U := U.calling g mk a) (Vm.Alike.refl U.vm) e1, va_Z.moved (u := U) (U := U.calling g mk a) (Vm.Alike.refl U.vm) e2, vk_R.same (u := U) (U := U.calling g mk a) rfl e3, va_Nw.same rfl (u := U) (U := U.calling g mk a) rfl e4, vk_R.same (u := U) (U := U.calling g mk a) rfl e5, vs_S.moved (u := U) (U := U.calling g mk a) (Vm.Alike.refl U.vm) e6, vs_S.moved (u := U) (U := U.calling g mk a) (Vm.Alike.refl U.vm) e7, vk_R.same (u := U) (U := U.calling g mk a) rfl e8, vk_R.same (u := U) (U := U.calling g mk a) rfl e9, vs_S.moved (u := U) (U := U.calling g mk a) (Vm.Alike.refl U.vm) e10, vk_R.same (u := U) (U := U.calling g mk a) rfl e11, vs_S.moved (u := U) (U := U.calling g mk a) (Vm.Alike.refl U.vm) e12, e13, vx_Zq.moved (u := U) (U := U.calling g mk a) (Vm.Alike.refl U.vm) e14, vx_Zq.moved (u := U) (U := U.calling g mk a) (Vm.Alike.refl U.vm) e15⟩, va_recv hKc hPc (ci := 14) (q0 := 0) rfl rfl, fun U hU hW => ⟨rfl, by rw [hU], by rw [hU]; exact hPc, va_K.moved hW.alike hKc, hDc.weaken (fun _ _ _ _ => trivial), vs_S.go hp18 hS hFc hU hW.alike, vs_S.go hp2 hS hFc hU hW.alike, va_Z.go hp3 hS hFc hU hW.alike, vk_R.warm hW hp4, va_Nw.warmC hW hp5, vk_R.warm hW hp6, vs_S.go hp7 hS hFc hU hW.alike, vs_S.go hp8 hS hFc hU hW.alike, vk_R.warm hW hp9, vk_R.warm hW hp10, vs_S.go hp11 hS hFc hU hW.alike, vk_R.warm hW hp12, vs_S.go hp13 hS hFc hU hW.alike, hU, vx_Zq.go hp14 hS hFc hU hW.alike, vx_Zq.go hp15 hS hFc hU hW.alike⟩⟩ rfl rfl hl.1 rfl (lv_room (Nat.le_of_ble_eq_true rfl)) dX16_row_38 ⟨(show (0 + kc_19) + ((z16_n - z0_11 + 20).toNat) ≤ (8 * (z16_n - z16_place) + 120).toNat from (rmT (by omega) (by omega))), (show (0 + ks_20) + ((10 * (z16_n - z0_11) + 120).toNat) ≤ (40 * (z16_n - z16_place) + 500).toNat from (rmT (by omega) (by omega)))⟩) hS (fun q _ h => hFc q h) hFc (fun q _ h => hFc q h) (fun E ce q9 u t H1 locs ht hvm _ hB hz1 hk1 hS hce hcv hcl => ?_) (fun  u t H1 locs ht hvm hw hB hz1 hk1 hS => ?_)
    · obtain ⟨rfl, zp_58, Ln_59, Pn_60, kc_61, ks_62, hxt_63, hP1, hD1⟩ := hB
      rw [ht] at hP1
      obtain ⟨hP, hD⟩ := va_joinP (X := [(h0, .inr (14, [.ref q_t, .int (zI (z16_n)), .int (zI (z0_11)), .int (zI (z1_12)), .int (zI (z2_13)), .int (zI (z3_14)), .int (zI (z4_15)), .ref q5_16, v16_8, v16_9, v16_10, v16_11, v16_12, v16_13])), (q_t, .inl (cT, 8192, .inl (fun j : Nat => zI (a_t (j : Int)))))]) (cx := [(h0, .inr (14, [.ref q_t, .int (zI (z16_n)), .int (zI (z0_11)), .int (zI (z1_12)), .int (zI (z2_13)), .int (zI (z3_14)), .int (zI (z4_15)), .ref q5_16, v16_8, v16_9, v16_10, v16_11, v16_12, v16_13])), (q_t, .inl (cT, 8192, .inl (fun j : Nat => zI (a_t (j : Int)))))]) (wr := []) (rx := [(q_t, .inl (cT, 8192, .inl (fun j : Nat => zI (a_t (j : Int))))), (q9, .inr (15, [.null, .null, .null, .null, .null, .int 0, .int (zI (zp_58))]))]) (pl := va_pl Ln_17 (pE Pw_44)) (pl1 := va_pl Ln_59 (pE Pn_60)) hP hD [0, 1] [] rfl rfl (by decide) (by decide) hk1 hFc hP1 hD1
      have hrmC := hxt_63.1.1
      rw [ht] at hrmC
      refine vx_tightS (hrmA.trans hrmC) ?_
      have hrb := hxt_63.1.2
      generalize H1 = H at hP hS hce ⊢
      have hP : va_P (dC, dI) vwQ ([(q_t, .inl (cT, 8192, .inl (fun j : Nat => zI (a_t (j : Int))))), (q9, .inr (15, [.null, .null, .null, .null, .null, .int 0, .int (zI (zp_58))]))] ++ va_pl Ln_59 (pE Pn_60)) H := hP
      have hD : va_D A ([(q_t, .inl (cT, 8192, .inl (fun j : Nat => zI (a_t (j : Int))))), (q9, .inr (15, [.null, .null, .null, .null, .null, .int 0, .int (zI (zp_58))]))] ++ va_pl Ln_59 (pE Pn_60)) := hD
      have hzp : 0 ≤ zp_58 ∧ zp_58 ≤ 8192 := hxt_63.2.1
      subst hQ
      refine vx_knowS (fun hrm9 => ?_)
      refine vx_widen (k := ((8 * (z16_n - z16_place) + 120).toNat)) (n := ((40 * (z16_n - z16_place) + 500).toNat)) (rmW (by omega)) (rmW (by omega)) ?_
      exact vx_out (fun x9 h9 => (hnt x9 h9).elim) hlocks hce hcv hcl (fun t ht hvm => ⟨(), trivial, ⟨rfl, zp_58, Ln_59, Pn_60, ((0 + kc_19) + kc_61), ((0 + ks_20) + ks_62), ⟨⟨(by rw [ht, ← hp16]; exact hrm9), (by omega)⟩, ⟨(by omega), ⟨hA_54.trans (hxt_63.2.2.1.kegR hak_49), hak_49.txt hxt_63.2.2.1 hxt_63.2.2.2, (hcx_57.cpa hg00.owa (fun z _ q => by rw [show z = xr from q, hk00]; decide)).trans hA_54 (hxt_63.2.2.1.cpa hak_49.owa)⟩⟩⟩, by rw [ht]; exact hP, hD⟩, hS.F ht⟩) hS.2.2 (Nat.le_refl _) (Nat.le_refl _)
    obtain ⟨z0_64, z1_65, z2_66, z3_67, z4_68, q5_69, Ln_70, Pn_71, kc_72, ks_73, hxt_73, hP1, hK1, hD1⟩ := hB
    rw [ht] at hP1
    have hK1 := va_K.moved hvm.symm hK1
    obtain ⟨hP, hD⟩ := va_joinP (X := [(h0, .inr (14, [.ref q_t, .int (zI (z16_n)), .int (zI (z0_11)), .int (zI (z1_12)), .int (zI (z2_13)), .int (zI (z3_14)), .int (zI (z4_15)), .ref q5_16, v16_8, v16_9, v16_10, v16_11, v16_12, v16_13])), (q_t, .inl (cT, 8192, .inl (fun j : Nat => zI (a_t (j : Int)))))]) (cx := [(h0, .inr (14, [.ref q_t, .int (zI (z16_n)), .int (zI (z0_11)), .int (zI (z1_12)), .int (zI (z2_13)), .int (zI (z3_14)), .int (zI (z4_15)), .ref q5_16, v16_8, v16_9, v16_10, v16_11, v16_12, v16_13])), (q_t, .inl (cT, 8192, .inl (fun j : Nat => zI (a_t (j : Int)))))]) (wr := []) (rx := [(h0, .inr (14, [.ref q_t, .int (zI (z16_n)), .int (zI (z0_64)), .int (zI (z1_65)), .int (zI (z2_66)), .int (zI (z3_67)), .int (zI (z4_68)), .ref q5_69, v16_8, v16_9, v16_10, v16_11, v16_12, v16_13])), (q_t, .inl (cT, 8192, .inl (fun j : Nat => zI (a_t (j : Int)))))]) (pl := va_pl Ln_17 (pE Pw_44)) (pl1 := va_pl Ln_70 (pE Pn_71)) hP hD [0, 1] [] rfl rfl (by decide) (by decide) hk1 hFc hP1 hD1
    have hK := (hK.sub (tys' := [(cO, .object "java/lang/Object"), (cI, .int), (cZ, .boolean)]) [0, 1, 2] rfl).app hK1
    have hrmC := hxt_73.1.1
    rw [ht] at hrmC
    refine W_tightS (hrmA.trans hrmC) ?_
    have hrb := hxt_73.1.2
    generalize H1 = H at hP hS ⊢
    have hP : va_P (dC, dI) vwQ ([(h0, .inr (14, [.ref q_t, .int (zI (z16_n)), .int (zI (z0_64)), .int (zI (z1_65)), .int (zI (z2_66)), .int (zI (z3_67)), .int (zI (z4_68)), .ref q5_69, v16_8, v16_9, v16_10, v16_11, v16_12, v16_13])), (q_t, .inl (cT, 8192, .inl (fun j : Nat => zI (a_t (j : Int)))))] ++ va_pl Ln_70 (pE Pn_71)) H := hP
    have hD : va_D A ([(h0, .inr (14, [.ref q_t, .int (zI (z16_n)), .int (zI (z0_64)), .int (zI (z1_65)), .int (zI (z2_66)), .int (zI (z3_67)), .int (zI (z4_68)), .ref q5_69, v16_8, v16_9, v16_10, v16_11, v16_12, v16_13])), (q_t, .inl (cT, 8192, .inl (fun j : Nat => zI (a_t (j : Int)))))] ++ va_pl Ln_70 (pE Pn_71)) := hD
    have hK : va_K (dC, dI) vwQ [(cO, .object "java/lang/Object"), (cI, .int), (cZ, .boolean), (cT, .byte)] s := hK
    refine W.widen (k := ((0 + kc_19) + kc_72)) (n := ((0 + ks_20) + ks_73)) (by omega) (by omega) ?_
    obtain ⟨rk_74, rk_75, rk_76, rk_77, rk_78, hu_78⟩ := hxt_73.2
    have htk_79 := hu_78.1.2.1
    have hnt_79 := hu_78.1.2.2
    have hrg_79 := hu_78.1.1
    have htq_79 := htk_79.1
    have hgo9 := hkd_33.go (by omega)
    have hkd_84 := hu_78.2.1
    have hX_kv := hkd_84.2
    have hu_80 := hu_78.2.2
    have hex_81 : EXT9 Ln_17 Pw_44 Ln_70 Pn_71 := hu_80.1
    have hke_82 : KEG [] Ln_17 Pw_44 Ln_70 Pn_71 := hex_81.kegR hak_49
    have hak_83 : GLR Ln_70 Pn_71 cO cI cZ sx_ed := hak_49.txt hex_81 hu_80.2.1
    have hsm_85 := (hex_81 xr hq_52.1).2
    have : Pn_71.ro xr = Pw_44.ro xr := hsm_85.1 0
    have : Pn_71.rt xr = Pw_44.rt xr := hsm_85.1 1
    have : Pn_71.ra xr = Pw_44.ra xr := hsm_85.1 2
    have : Pn_71.rb xr = Pw_44.rb xr := hsm_85.1 3
    have : Pn_71.rA xr = Pw_44.rA xr := hsm_85.1 4
    have : Pn_71.rB xr = Pw_44.rB xr := hsm_85.1 5
    have : Pn_71.rg xr = Pw_44.rg xr := hsm_85.1 6
    have : Pn_71.ek xr = Pw_44.ek xr := hsm_85.2.1 8
    have hq_86 : HID (la ∈ Ln_70 ∧ Pn_71.kd la = 30) := hke_82.mem hq_51.1 hq_51.2 (by decide)
    have hq_87 : HID (xr ∈ Ln_70 ∧ Pn_71.kd xr = 17) := hke_82.mem hq_52.1 hq_52.2 (by decide)
    have hE_88 : HID (Pn_71.ek xr ≠ 1) := (by rw [hke_82.ek hq_52.1 hq_52.2 (by decide)]; exact hE_53.out)
    have hA_89 : KEG [] L P Ln_70 Pn_71 := hA_54.trans hke_82
    have : Pn_71.lz la = Pw_44.lz la := (hex_81 la hq_51.1).2.1 0
    have hek_90 : HID (Pn_71.ek la = 12) := (by rw [hke_82.ek hq_51.1 hq_51.2 (by decide)]; exact hek_55.out)
    have how_91 : HID (Pn_71.ow la = la) := ((hke_82.1 la hq_51.1 (by rw [hq_51.2]; decide)).2.2.2.1 hq_51.2 how_56.out).1
    have hcz := (((hke_82.1 la hq_51.1 (by rw [hq_51.2]; decide)).2.2.2.1 hq_51.2 how_56.out).2 (by simp)).1
    have hX_tx := hu_80.2.2
    have hcx_92 : CHG (fun z => z = xr) L P Ln_70 Pn_71 := hcx_57.trans hex_81.chg (fun z m q => q.elim)
    have hnn_79 := TKV.nn (k := z1_65) (d := z0_64 - z2_66) (by omega)
    have hri_93 : ((((0 + ks_20) + ks_73) : Nat) : Int) ≤ 40 * (z2_66 - z16_place) - TKV z16_kind (z16_at - z16_place) + TKV (z1_65) (z0_64 - z2_66) - 40 ∧ ((((0 + kc_19) + kc_72) : Nat) : Int) ≤ 8 * (z2_66 - z16_place) - TKW z16_kind (z16_at - z16_place) + TKW (z1_65) (z0_64 - z2_66) - 11 := (by omega)
    clear hrb hri_42
    skip
    refine lv_aload_n hx hb dX16_row_41 rfl (lv_at hl 0 rfl) ?_
    refine va_ldcS hx hb hown hp19 dX16_row_42 ?_
    have hPc := hP.part (X := [(h0, .inr (14, [.ref q_t, .int (zI (z16_n)), .int (zI (z0_64)), .int (zI (z1_65)), .int (zI (z2_66)), .int (zI (z3_67)), .int (zI (z4_68)), .ref q5_69, v16_8, v16_9, v16_10, v16_11, v16_12, v16_13])), (q_t, .inl (cT, 8192, .inl (fun j : Nat => zI (a_t (j : Int)))))]) (cx := [(h0, .inr (14, [.ref q_t, .int (zI (z16_n)), .int (zI (z0_64)), .int (zI (z1_65)), .int (zI (z2_66)), .int (zI (z3_67)), .int (zI (z4_68)), .ref q5_69, v16_8, v16_9, v16_10, v16_11, v16_12, v16_13])), (q_t, .inl (cT, 8192, .inl (fun j : Nat => zI (a_t (j : Int)))))]) (pl := va_pl Ln_70 (pE Pn_71)) [0, 1] rfl
    have hDc := hD.part (X := [(h0, .inr (14, [.ref q_t, .int (zI (z16_n)), .int (zI (z0_64)), .int (zI (z1_65)), .int (zI (z2_66)), .int (zI (z3_67)), .int (zI (z4_68)), .ref q5_69, v16_8, v16_9, v16_10, v16_11, v16_12, v16_13])), (q_t, .inl (cT, 8192, .inl (fun j : Nat => zI (a_t (j : Int)))))]) (cx := [(h0, .inr (14, [.ref q_t, .int (zI (z16_n)), .int (zI (z0_64)), .int (zI (z1_65)), .int (zI (z2_66)), .int (zI (z3_67)), .int (zI (z4_68)), .ref q5_69, v16_8, v16_9, v16_10, v16_11, v16_12, v16_13])), (q_t, .inl (cT, 8192, .inl (fun j : Nat => zI (a_t (j : Int)))))]) (pl := va_pl Ln_70 (pE Pn_71)) [0, 1] (by decide) rfl
    have hKc := hK.sub (tys' := [(cT, .byte)]) [3] rfl
    have hFc := va_freeP (X := [(h0, .inr (14, [.ref q_t, .int (zI (z16_n)), .int (zI (z0_64)), .int (zI (z1_65)), .int (zI (z2_66)), .int (zI (z3_67)), .int (zI (z4_68)), .ref q5_69, v16_8, v16_9, v16_10, v16_11, v16_12, v16_13])), (q_t, .inl (cT, 8192, .inl (fun j : Nat => zI (a_t (j : Int)))))]) (cx := [(h0, .inr (14, [.ref q_t, .int (zI (z16_n)), .int (zI (z0_64)), .int (zI (z1_65)), .int (zI (z2_66)), .int (zI (z3_67)), .int (zI (z4_68)), .ref q5_69, v16_8, v16_9, v16_10, v16_11, v16_12, v16_13])), (q_t, .inl (cT, 8192, .inl (fun j : Nat => zI (a_t (j : Int)))))]) (pl := va_pl Ln_70 (pE Pn_71)) hD hS hA [0, 1] rfl
    refine va_calli (va_runV (As := [.ref sa_RX16_231]) (rest := []) ⟨hx, hb, hml, hown, hts⟩ (c_X16_isKK l dC dI h0 (.int (zI (z16_n))) (.int (zI (z0_64))) z1_65 (.int (zI (z2_66))) (.int (zI (z3_67))) (.int (zI (z4_68))) v16_8 v16_9 v16_10 v16_11 v16_12 v16_13 q_t cT a_t q5_69 Ln_70 Pn_71 sa_RX16_9 sa_RX16_231 sv_RX16_231 2 ((fun j : Nat => ([105, 110] : List Int32).getD j 0)) (by omega) hR_a_t hX_tx (by omega) H.size sv_RX16_9) (cwV 1 hts g_X16_rowR_X16_isKK rfl rfl rfl (by decide +kernel) ⟨(Nat.le_of_ble_eq_true rfl), (Nat.le_of_ble_eq_true rfl)⟩) ⟨fun a U g mk q => by obtain ⟨q0, q1, qP, qK, qD, e0, e1, e2⟩ := q; exact ⟨q0, q1, qP, va_K.moved (u := U) (U := U.calling g mk a) (Vm.Alike.refl U.vm) qK, qD, vs_S.moved (u := U) (U := U.calling g mk a) (Vm.Alike.refl U.vm) e0, vs_S.moved (u := U) (U := U.calling g mk a) (Vm.Alike.refl U.vm) e1, va_Z.moved (u := U) (U := U.calling g mk a) (Vm.Alike.refl U.vm) e2⟩, va_recv hKc hPc (ci := 14) (q0 := 0) rfl rfl, fun U hU hW => ⟨rfl, by rw [hU], by rw [hU]; exact hPc, va_K.moved hW.alike hKc, hDc.weaken (fun _ _ _ _ => trivial), vs_S.go hp2 hS hFc hU hW.alike, vs_S.go hp20 hS hFc hU hW.alike, va_Z.go hp3 hS hFc hU hW.alike⟩⟩ rfl rfl hl.1 rfl (lv_room (Nat.le_of_ble_eq_true rfl)) dX16_row_44 ⟨(show ((0 + kc_19) + kc_72) + 0 ≤ (8 * (z16_n - z16_place) + 120).toNat from (rmW (by omega))), (show ((0 + ks_20) + ks_73) + 0 ≤ (40 * (z16_n - z16_place) + 500).toNat from (rmW (by omega)))⟩) hS (fun q _ h => hFc q h) hFc (fun r_94 u t H1 locs ht hvm hw hB hz1 hk1 hS => ?_)
    obtain ⟨hP1, hK1, hD1⟩ := hB
    rw [ht] at hP1
    have hK1 := va_K.moved hvm.symm hK1
    obtain ⟨hP, hD⟩ := va_joinP (X := [(h0, .inr (14, [.ref q_t, .int (zI (z16_n)), .int (zI (z0_64)), .int (zI (z1_65)), .int (zI (z2_66)), .int (zI (z3_67)), .int (zI (z4_68)), .ref q5_69, v16_8, v16_9, v16_10, v16_11, v16_12, v16_13])), (q_t, .inl (cT, 8192, .inl (fun j : Nat => zI (a_t (j : Int)))))]) (cx := [(h0, .inr (14, [.ref q_t, .int (zI (z16_n)), .int (zI (z0_64)), .int (zI (z1_65)), .int (zI (z2_66)), .int (zI (z3_67)), .int (zI (z4_68)), .ref q5_69, v16_8, v16_9, v16_10, v16_11, v16_12, v16_13])), (q_t, .inl (cT, 8192, .inl (fun j : Nat => zI (a_t (j : Int)))))]) (wr := []) (rx := [(h0, .inr (14, [.ref q_t, .int (zI (z16_n)), .int (zI (z0_64)), .int (zI (z1_65)), .int (zI (z2_66)), .int (zI (z3_67)), .int (zI (z4_68)), .ref q5_69, v16_8, v16_9, v16_10, v16_11, v16_12, v16_13])), (q_t, .inl (cT, 8192, .inl (fun j : Nat => zI (a_t (j : Int)))))]) (pl := va_pl Ln_70 (pE Pn_71)) (pl1 := va_pl Ln_70 (pE Pn_71)) hP hD [0, 1] [] rfl rfl (by decide) (by decide) hk1 hFc hP1 hD1
    have hK := (hK.sub (tys' := [(cO, .object "java/lang/Object"), (cI, .int), (cZ, .boolean)]) [0, 1, 2] rfl).app hK1
    generalize H1 = H at hP hS ⊢
    have hP : va_P (dC, dI) vwQ ([(h0, .inr (14, [.ref q_t, .int (zI (z16_n)), .int (zI (z0_64)), .int (zI (z1_65)), .int (zI (z2_66)), .int (zI (z3_67)), .int (zI (z4_68)), .ref q5_69, v16_8, v16_9, v16_10, v16_11, v16_12, v16_13])), (q_t, .inl (cT, 8192, .inl (fun j : Nat => zI (a_t (j : Int)))))] ++ va_pl Ln_70 (pE Pn_71)) H := hP
    have hD : va_D A ([(h0, .inr (14, [.ref q_t, .int (zI (z16_n)), .int (zI (z0_64)), .int (zI (z1_65)), .int (zI (z2_66)), .int (zI (z3_67)), .int (zI (z4_68)), .ref q5_69, v16_8, v16_9, v16_10, v16_11, v16_12, v16_13])), (q_t, .inl (cT, 8192, .inl (fun j : Nat => zI (a_t (j : Int)))))] ++ va_pl Ln_70 (pE Pn_71)) := hD
    have hK : va_K (dC, dI) vwQ [(cO, .object "java/lang/Object"), (cI, .int), (cZ, .boolean), (cT, .byte)] s := hK
    refine W.widen (k := ((0 + kc_19) + kc_72)) (n := ((0 + ks_20) + ks_73)) (by omega) (by omega) ?_
    have hw_95 := hw
    obtain ⟨z_96, rfl, hzz_96⟩ := hw_95
    skip
    refine lv_if_eq (tgt := 61) hx hb dX16_row_47 (by decide) (fun b47 => ?_) (fun b47 => ?_)
    · have yb47 : (z_96 : Int) = (0 : Int) := (zI_eq (a := z_96) (b := 0) (by omega) (by omega) (by omega) (by omega)).mp b47
      refine lv_aload_n hx hb dX16_row_61 rfl (lv_at hl 0 rfl) ?_
      refine lv_aload_n hx hb dX16_row_62 rfl (lv_at hl 1 rfl) ?_
      refine lv_iconst (v := 0) hx hb dX16_row_63 (by decide) ?_
      have hX_tn := htk_79
      have hX_g := hak_83
      have hX_x := hq_87.1
      have hX_k := hq_87.2
      have hX_la := (show la ∈ Ln_70 ∧ Pn_71.kd la = 30 ∧ Pn_71.ek la = 12 ∧ Pn_71.ow la = la from ⟨hq_86.1, hq_86.2, hek_90.out, how_91.out⟩)
      have hPc := hP.part (X := [(h0, .inr (14, [.ref q_t, .int (zI (z16_n)), .int (zI (z0_64)), .int (zI (z1_65)), .int (zI (z2_66)), .int (zI (z3_67)), .int (zI (z4_68)), .ref q5_69, v16_8, v16_9, v16_10, v16_11, v16_12, v16_13])), (q_t, .inl (cT, 8192, .inl (fun j : Nat => zI (a_t (j : Int)))))]) (cx := [(h0, .inr (14, [.ref q_t, .int (zI (z16_n)), .int (zI (z0_64)), .int (zI (z1_65)), .int (zI (z2_66)), .int (zI (z3_67)), .int (zI (z4_68)), .ref q5_69, v16_8, v16_9, v16_10, v16_11, v16_12, v16_13])), (q_t, .inl (cT, 8192, .inl (fun j : Nat => zI (a_t (j : Int)))))]) (pl := va_pl Ln_70 (pE Pn_71)) [0, 1] rfl
      have hDc := hD.part (X := [(h0, .inr (14, [.ref q_t, .int (zI (z16_n)), .int (zI (z0_64)), .int (zI (z1_65)), .int (zI (z2_66)), .int (zI (z3_67)), .int (zI (z4_68)), .ref q5_69, v16_8, v16_9, v16_10, v16_11, v16_12, v16_13])), (q_t, .inl (cT, 8192, .inl (fun j : Nat => zI (a_t (j : Int)))))]) (cx := [(h0, .inr (14, [.ref q_t, .int (zI (z16_n)), .int (zI (z0_64)), .int (zI (z1_65)), .int (zI (z2_66)), .int (zI (z3_67)), .int (zI (z4_68)), .ref q5_69, v16_8, v16_9, v16_10, v16_11, v16_12, v16_13])), (q_t, .inl (cT, 8192, .inl (fun j : Nat => zI (a_t (j : Int)))))]) (pl := va_pl Ln_70 (pE Pn_71)) [0, 1] (by decide) rfl
      have hKc := hK.sub (tys' := [(cT, .byte), (cO, .object "java/lang/Object"), (cI, .int), (cZ, .boolean)]) [3, 0, 1, 2] rfl
      have hFc := va_freeP (X := [(h0, .inr (14, [.ref q_t, .int (zI (z16_n)), .int (zI (z0_64)), .int (zI (z1_65)), .int (zI (z2_66)), .int (zI (z3_67)), .int (zI (z4_68)), .ref q5_69, v16_8, v16_9, v16_10, v16_11, v16_12, v16_13])), (q_t, .inl (cT, 8192, .inl (fun j : Nat => zI (a_t (j : Int)))))]) (cx := [(h0, .inr (14, [.ref q_t, .int (zI (z16_n)), .int (zI (z0_64)), .int (zI (z1_65)), .int (zI (z2_66)), .int (zI (z3_67)), .int (zI (z4_68)), .ref q5_69, v16_8, v16_9, v16_10, v16_11, v16_12, v16_13])), (q_t, .inl (cT, 8192, .inl (fun j : Nat => zI (a_t (j : Int)))))]) (pl := va_pl Ln_70 (pE Pn_71)) hD hS hA [0, 1] rfl
      refine W_knowS (fun hrmA => ?_)
      refine vx_callv (vx_runV (As := [.ref xr, .int 0]) (rest := []) ⟨hx, hb, hml, hown, hts⟩ (c_X16_opAR l dC dI cI cZ h0 z16_n z0_64 z1_65 z2_66 z3_67 z4_68 v16_8 v16_9 v16_10 v16_11 v16_12 v16_13 q_t cT a_t q5_69 Ln_70 Pn_71 sa_RX16_9 cO la sx_ed xr (by omega) (by omega) (by omega) (by omega) (by omega) (by omega) hR_a_t hX_g hX_la hX_x hX_k (by omega) hX_kv hX_tn H.size sv_RX16_9 sa_RX16_119 sv_RX16_119 sa_RX16_100 sv_RX16_100 sa_RX16_117 sv_RX16_117 sa_RX16_98 sv_RX16_98 H) (cwV 2 hts g_X16_rowR_X16_opAR rfl rfl rfl (by decide +kernel) ⟨(Nat.le_of_ble_eq_true rfl), (Nat.le_of_ble_eq_true rfl)⟩) ⟨fun a U g mk q => by obtain ⟨q0, q1, qP, qK, qD, e0, e1, e2, e3, e4, e5, e6, e7, e8, e9, e10, e11, e12, e13, e14⟩ := q; exact ⟨q0, q1, qP, va_K.moved (u := U) (U := U.calling g mk a) (Vm.Alike.refl U.vm) qK, qD, vk_R.same (u := U) (U := U.calling g mk a) rfl e0, va_Z.moved (u := U) (U := U.calling g mk a) (Vm.Alike.refl U.vm) e1, vs_S.moved (u := U) (U := U.calling g mk a) (Vm.Alike.refl U.vm) e2, va_Nw.same rfl (u := U) (U := U.calling g mk a) rfl e3, vk_R.same (u := U) (U := U.calling g mk a) rfl e4, vs_S.moved (u := U) (U := U.calling g mk a) (Vm.Alike.refl U.vm) e5, vs_S.moved (u := U) (U := U.calling g mk a) (Vm.Alike.refl U.vm) e6, vk_R.same (u := U) (U := U.calling g mk a) rfl e7, vk_R.same (u := U) (U := U.calling g mk a) rfl e8, vs_S.moved (u := U) (U := U.calling g mk a) (Vm.Alike.refl U.vm) e9, vk_R.same (u := U) (U := U.calling g mk a) rfl e10, vs_S.moved (u := U) (U := U.calling g mk a) (Vm.Alike.refl U.vm) e11, e12, vx_Zq.moved (u := U) (U := U.calling g mk a) (Vm.Alike.refl U.vm) e13, vx_Zq.moved (u := U) (U := U.calling g mk a) (Vm.Alike.refl U.vm) e14⟩, va_recv hKc hPc (ci := 14) (q0 := 0) rfl rfl, fun U hU hW => ⟨rfl, by rw [hU], by rw [hU]; exact hPc, va_K.moved hW.alike hKc, hDc.weaken (fun _ _ _ _ => trivial), vk_R.warm hW hp4, va_Z.go hp3 hS hFc hU hW.alike, vs_S.go hp2 hS hFc hU hW.alike, va_Nw.warmC hW hp5, vk_R.warm hW hp6, vs_S.go hp7 hS hFc hU hW.alike, vs_S.go hp8 hS hFc hU hW.alike, vk_R.warm hW hp9, vk_R.warm hW hp10, vs_S.go hp11 hS hFc hU hW.alike, vk_R.warm hW hp12, vs_S.go hp13 hS hFc hU hW.alike, hU, vx_Zq.go hp14 hS hFc hU hW.alike, vx_Zq.go hp15 hS hFc hU hW.alike⟩⟩ rfl rfl hl.1 rfl (lv_room (Nat.le_of_ble_eq_true rfl)) dX16_row_64 ⟨(show ((0 + kc_19) + kc_72) + ((z16_n - z0_64 + 20).toNat) ≤ (8 * (z16_n - z16_place) + 120).toNat from (rmT (by omega) (by omega))), (show ((0 + ks_20) + ks_73) + ((10 * (z16_n - z0_64) + 120).toNat) ≤ (40 * (z16_n - z16_place) + 500).toNat from (rmT (by omega) (by omega)))⟩) hS (fun q _ h => hFc q h) hFc (fun q _ h => hFc q h) (fun E ce q9 u t H1 locs ht hvm _ hB hz1 hk1 hS hce hcv hcl => ?_) (fun  u t H1 locs ht hvm hw hB hz1 hk1 hS => ?_)
      · obtain ⟨rfl, zp_97, Ln_98, Pn_99, kc_100, ks_101, hxt_102, hP1, hD1⟩ := hB
        rw [ht] at hP1
        obtain ⟨hP, hD⟩ := va_joinP (X := [(h0, .inr (14, [.ref q_t, .int (zI (z16_n)), .int (zI (z0_64)), .int (zI (z1_65)), .int (zI (z2_66)), .int (zI (z3_67)), .int (zI (z4_68)), .ref q5_69, v16_8, v16_9, v16_10, v16_11, v16_12, v16_13])), (q_t, .inl (cT, 8192, .inl (fun j : Nat => zI (a_t (j : Int)))))]) (cx := [(h0, .inr (14, [.ref q_t, .int (zI (z16_n)), .int (zI (z0_64)), .int (zI (z1_65)), .int (zI (z2_66)), .int (zI (z3_67)), .int (zI (z4_68)), .ref q5_69, v16_8, v16_9, v16_10, v16_11, v16_12, v16_13])), (q_t, .inl (cT, 8192, .inl (fun j : Nat => zI (a_t (j : Int)))))]) (wr := []) (rx := [(q_t, .inl (cT, 8192, .inl (fun j : Nat => zI (a_t (j : Int))))), (q9, .inr (15, [.null, .null, .null, .null, .null, .int 0, .int (zI (zp_97))]))]) (pl := va_pl Ln_70 (pE Pn_71)) (pl1 := va_pl Ln_98 (pE Pn_99)) hP hD [0, 1] [] rfl rfl (by decide) (by decide) hk1 hFc hP1 hD1
        have hrmC := hxt_102.1.1
        rw [ht] at hrmC
        refine vx_tightS (hrmA.trans hrmC) ?_
        have hrb := hxt_102.1.2
        generalize H1 = H at hP hS hce ⊢
        have hP : va_P (dC, dI) vwQ ([(q_t, .inl (cT, 8192, .inl (fun j : Nat => zI (a_t (j : Int))))), (q9, .inr (15, [.null, .null, .null, .null, .null, .int 0, .int (zI (zp_97))]))] ++ va_pl Ln_98 (pE Pn_99)) H := hP
        have hD : va_D A ([(q_t, .inl (cT, 8192, .inl (fun j : Nat => zI (a_t (j : Int))))), (q9, .inr (15, [.null, .null, .null, .null, .null, .int 0, .int (zI (zp_97))]))] ++ va_pl Ln_98 (pE Pn_99)) := hD
        have hzp : 0 ≤ zp_97 ∧ zp_97 ≤ 8192 := hxt_102.2.1
        subst hQ
        refine vx_knowS (fun hrm9 => ?_)
        refine vx_widen (k := ((8 * (z16_n - z16_place) + 120).toNat)) (n := ((40 * (z16_n - z16_place) + 500).toNat)) (rmW (by omega)) (rmW (by omega)) ?_
        exact vx_out (fun x9 h9 => (hnt x9 h9).elim) hlocks hce hcv hcl (fun t ht hvm => ⟨(), trivial, ⟨rfl, zp_97, Ln_98, Pn_99, (((0 + kc_19) + kc_72) + kc_100), (((0 + ks_20) + ks_73) + ks_101), ⟨⟨(by rw [ht, ← hp16]; exact hrm9), (by omega)⟩, ⟨(by omega), ⟨hA_89.trans hxt_102.2.2.1, hxt_102.2.2.2.1, (hcx_92.cpa hg00.owa (fun z _ q => by rw [show z = xr from q, hk00]; decide)).trans hA_89 hxt_102.2.2.2.2⟩⟩⟩, by rw [ht]; exact hP, hD⟩, hS.F ht⟩) hS.2.2 (Nat.le_refl _) (Nat.le_refl _)
      obtain ⟨z0_103, z1_104, z2_105, z3_106, z4_107, q5_108, Ln_109, Pn_110, kc_111, ks_112, hxt_112, hP1, hK1, hD1⟩ := hB
      rw [ht] at hP1
      have hK1 := va_K.moved hvm.symm hK1
      obtain ⟨hP, hD⟩ := va_joinP (X := [(h0, .inr (14, [.ref q_t, .int (zI (z16_n)), .int (zI (z0_64)), .int (zI (z1_65)), .int (zI (z2_66)), .int (zI (z3_67)), .int (zI (z4_68)), .ref q5_69, v16_8, v16_9, v16_10, v16_11, v16_12, v16_13])), (q_t, .inl (cT, 8192, .inl (fun j : Nat => zI (a_t (j : Int)))))]) (cx := [(h0, .inr (14, [.ref q_t, .int (zI (z16_n)), .int (zI (z0_64)), .int (zI (z1_65)), .int (zI (z2_66)), .int (zI (z3_67)), .int (zI (z4_68)), .ref q5_69, v16_8, v16_9, v16_10, v16_11, v16_12, v16_13])), (q_t, .inl (cT, 8192, .inl (fun j : Nat => zI (a_t (j : Int)))))]) (wr := []) (rx := [(h0, .inr (14, [.ref q_t, .int (zI (z16_n)), .int (zI (z0_103)), .int (zI (z1_104)), .int (zI (z2_105)), .int (zI (z3_106)), .int (zI (z4_107)), .ref q5_108, v16_8, v16_9, v16_10, v16_11, v16_12, v16_13])), (q_t, .inl (cT, 8192, .inl (fun j : Nat => zI (a_t (j : Int)))))]) (pl := va_pl Ln_70 (pE Pn_71)) (pl1 := va_pl Ln_109 (pE Pn_110)) hP hD [0, 1] [] rfl rfl (by decide) (by decide) hk1 hFc hP1 hD1
      have hK := (hK.sub (tys' := []) [] rfl).app hK1
      have hrmC := hxt_112.1.1
      rw [ht] at hrmC
      refine W_tightS (hrmA.trans hrmC) ?_
      have hrb := hxt_112.1.2
      generalize H1 = H at hP hS ⊢
      have hP : va_P (dC, dI) vwQ ([(h0, .inr (14, [.ref q_t, .int (zI (z16_n)), .int (zI (z0_103)), .int (zI (z1_104)), .int (zI (z2_105)), .int (zI (z3_106)), .int (zI (z4_107)), .ref q5_108, v16_8, v16_9, v16_10, v16_11, v16_12, v16_13])), (q_t, .inl (cT, 8192, .inl (fun j : Nat => zI (a_t (j : Int)))))] ++ va_pl Ln_109 (pE Pn_110)) H := hP
      have hD : va_D A ([(h0, .inr (14, [.ref q_t, .int (zI (z16_n)), .int (zI (z0_103)), .int (zI (z1_104)), .int (zI (z2_105)), .int (zI (z3_106)), .int (zI (z4_107)), .ref q5_108, v16_8, v16_9, v16_10, v16_11, v16_12, v16_13])), (q_t, .inl (cT, 8192, .inl (fun j : Nat => zI (a_t (j : Int)))))] ++ va_pl Ln_109 (pE Pn_110)) := hD
      have hK : va_K (dC, dI) vwQ [(cT, .byte), (cO, .object "java/lang/Object"), (cI, .int), (cZ, .boolean)] s := hK
      refine W.widen (k := (((0 + kc_19) + kc_72) + kc_111)) (n := (((0 + ks_20) + ks_73) + ks_112)) (by omega) (by omega) ?_
      obtain ⟨rk_113, rk_114, rk_115, rk_116, rk_117, hu_117⟩ := hxt_112.2
      have htk_118 := hu_117.2.2.2.2.1.2
      have hrg_118 := hu_117.2.2.2.2.1.1
      have htq_118 := htk_118.1
      have hu_119 := HID.mk (hu_117)
      replace hu_117 := HID.mk hu_117
      replace hxt_112 := HID.mk hxt_112
      have hoc9 := hu_119.2.2.1.2
      have hoq9 : OPQ (Pn_110.rA xr) (Pn_110.ra xr) := hu_119.2.2.1.1
      have hgo9 := hkd_84.go (by omega)
      have hkd_120 := hu_119.2.2.2.2.2.1
      have hX_kv := hkd_120.2
      have hq_121 : HID (la ∈ Ln_109 ∧ Pn_110.kd la = 30) := hu_119.1.mem hq_86.1 hq_86.2 (by decide)
      have hq_122 : HID (xr ∈ Ln_109 ∧ Pn_110.kd xr = 17) := hu_119.1.mem hq_87.1 hq_87.2 (by decide)
      have hE_123 : HID (Pn_110.ek xr ≠ 1) := (by rw [hu_119.1.ek hq_87.1 hq_87.2 (by decide)]; exact hE_88.out)
      have hA_124 : KEG [] L P Ln_109 Pn_110 := hA_89.trans hu_119.1
      have : Pn_110.lz la = Pn_71.lz la := (hu_119.2.2.2.1 la hq_86.1 (fun e9 => absurd e9 (kd_ne hq_86.2 hq_87.2 (by decide)))).2.1 0
      have hek_125 : HID (Pn_110.ek la = 12) := (by rw [hu_119.1.ek hq_86.1 hq_86.2 (by decide)]; exact hek_90.out)
      have how_126 : HID (Pn_110.ow la = la) := ((hu_119.1.1 la hq_86.1 (by rw [hq_86.2]; decide)).2.2.2.1 hq_86.2 how_91.out).1
      have hcz := (((hu_119.1.1 la hq_86.1 (by rw [hq_86.2]; decide)).2.2.2.1 hq_86.2 how_91.out).2 (by simp)).1
      have hX_tx := hu_119.2.2.2.2.2.2.1
      have hxk9 := hu_119.2.2.2.2.2.2.2
      have hcx_127 : CHG (fun z => z = xr) L P Ln_109 Pn_110 := hcx_92.trans hu_119.2.2.2.1 (fun z m q => q)
      have hnn_118 := TKV.nn (k := z1_104) (d := z0_103 - z2_105) (by omega)
      have hri_128 : (((((0 + ks_20) + ks_73) + ks_112) : Nat) : Int) ≤ 40 * (z2_105 - z16_place) - TKV z16_kind (z16_at - z16_place) + TKV (z1_104) (z0_103 - z2_105) - 80 ∧ (((((0 + kc_19) + kc_72) + kc_111) : Nat) : Int) ≤ 8 * (z2_105 - z16_place) - TKW z16_kind (z16_at - z16_place) + TKW (z1_104) (z0_103 - z2_105) - 19 := (by omega)
      clear hrb hri_93
      skip
      have hoa9 := hoq9
      refine lv_aload_n hx hb dX16_row_67 rfl (lv_at hl 1 rfl) ?_
      refine lv_aload_n hx hb dX16_row_68 rfl (lv_at hl 0 rfl) ?_
      refine va_get (D := (dC, dI)) (ci := 14) (v := .int (zI (z1_104))) (C := RX16) (T := TX16) (N := 14) hx hb hts mem_X16_rowR_5 hown hK hP 0 rfl rfl 3 (by decide) (ow (k := 14) rfl) (fun _ h9 => h9) rfl dX16_row_69 ?_
      refine lv_iconst (v := 5) hx hb dX16_row_72 (by decide) ?_
      refine lv_icmp_ne (tgt := 86) hx hb dX16_row_73 (by decide) (fun b73 => ?_) (fun b73 => ?_)
      · have yb73 : ¬ (z1_104 : Int) = (5 : Int) := fun q => b73 ((zI_eq (a := z1_104) (b := 5) (by omega) (by omega) (by omega) (by omega)).mpr q)
        refine lv_iconst (v := 0) hx hb dX16_row_86 (by decide) ?_
        have hr7 := (hu_119.2.1.rokR hq_122.1 hq_122.2).n7
        refine lv_topi (fun z ez => ?_)
        obtain rfl : z = zI (0) := ez
        obtain ⟨kp_129, gkp_129⟩ := va_pl_get (X := [(h0, .inr (14, [.ref q_t, .int (zI (z16_n)), .int (zI (z0_103)), .int (zI (z1_104)), .int (zI (z2_105)), .int (zI (z3_106)), .int (zI (z4_107)), .ref q5_108, v16_8, v16_9, v16_10, v16_11, v16_12, v16_13])), (q_t, .inl (cT, 8192, .inl (fun j : Nat => zI (a_t (j : Int)))))]) (f := pE Pn_110) hq_122.1
        have hkp_129 := gkp_129
        rw [pE_row hq_122.2] at hkp_129
        have hD0 := hD
        refine va_put (D := (dC, dI)) (ci := 21) (v := .int (zI (0))) (ty := .int) (C := RX17) (T := TX17) (N := 7) hx hb hts mem_X16_rowR_2 tyX17 tyX17_ok nmX17 hown hK hP hD hS kp_129 hkp_129 rfl 0 (by decide) (ow (k := 15) rfl) (fun _ h9 => h9) rfl (by decide +kernel) rfl rfl (by first | exact Nat.le_of_ble_eq_true rfl | exact (show (((0 + kc_19) + kc_72) + kc_111) ≤ (8 * (z16_n - z16_place) + 120).toNat from (rmW (by omega))) | exact (show (((0 + ks_20) + ks_73) + ks_112) ≤ (40 * (z16_n - z16_place) + 500).toNat from (rmW (by omega)))) dX16_row_87 (fun H locs hP hD hS => ?_)
        obtain ⟨Pw_130, ePw_130⟩ : ∃ q9 : PO, q9 = Pn_110.rw9 0 xr (0) := ⟨_, rfl⟩
        have eU : (([(h0, .inr (14, [.ref q_t, .int (zI (z16_n)), .int (zI (z0_103)), .int (zI (z1_104)), .int (zI (z2_105)), .int (zI (z3_106)), .int (zI (z4_107)), .ref q5_108, v16_8, v16_9, v16_10, v16_11, v16_12, v16_13])), (q_t, .inl (cT, 8192, .inl (fun j : Nat => zI (a_t (j : Int)))))] : va_W) ++ va_pl Ln_109 (pE Pn_110)).set kp_129 (xr, rowE (0) (Pn_110.rt xr) (Pn_110.ra xr) (Pn_110.rb xr) (Pn_110.rA xr) (Pn_110.rB xr) (Pn_110.rg xr)) = ([(h0, .inr (14, [.ref q_t, .int (zI (z16_n)), .int (zI (z0_103)), .int (zI (z1_104)), .int (zI (z2_105)), .int (zI (z3_106)), .int (zI (z4_107)), .ref q5_108, v16_8, v16_9, v16_10, v16_11, v16_12, v16_13])), (q_t, .inl (cT, 8192, .inl (fun j : Nat => zI (a_t (j : Int)))))] : va_W) ++ va_pl Ln_109 (pE Pw_130) := (by rw [va_pl_set hD0 hq_122.1 gkp_129, ePw_130]; exact congrArg (fun f9 => ([(h0, .inr (14, [.ref q_t, .int (zI (z16_n)), .int (zI (z0_103)), .int (zI (z1_104)), .int (zI (z2_105)), .int (zI (z3_106)), .int (zI (z4_107)), .ref q5_108, v16_8, v16_9, v16_10, v16_11, v16_12, v16_13])), (q_t, .inl (cT, 8192, .inl (fun j : Nat => zI (a_t (j : Int)))))] : va_W) ++ va_pl Ln_109 f9) (put17_0 hq_122.2))
        have hP : va_P (dC, dI) vwQ ([(h0, .inr (14, [.ref q_t, .int (zI (z16_n)), .int (zI (z0_103)), .int (zI (z1_104)), .int (zI (z2_105)), .int (zI (z3_106)), .int (zI (z4_107)), .ref q5_108, v16_8, v16_9, v16_10, v16_11, v16_12, v16_13])), (q_t, .inl (cT, 8192, .inl (fun j : Nat => zI (a_t (j : Int)))))] ++ va_pl Ln_109 (pE Pw_130)) H := (by rw [← eU]; exact hP)
        have hD : va_D A ([(h0, .inr (14, [.ref q_t, .int (zI (z16_n)), .int (zI (z0_103)), .int (zI (z1_104)), .int (zI (z2_105)), .int (zI (z3_106)), .int (zI (z4_107)), .ref q5_108, v16_8, v16_9, v16_10, v16_11, v16_12, v16_13])), (q_t, .inl (cT, 8192, .inl (fun j : Nat => zI (a_t (j : Int)))))] ++ va_pl Ln_109 (pE Pw_130)) := (by rw [← eU]; exact hD)
        clear eU hD0 gkp_129 hkp_129
        have wPw_130 : RW1 xr Pn_110 Pw_130 := (by rw [ePw_130]; exact RW1.put _ _ _ _)
        have hy_131 : Pw_130.kd la = 30 := (by rw [ePw_130]; exact hq_121.2)
        have hy_132 : Pw_130.kd xr = 17 := (by rw [ePw_130]; exact hq_122.2)
        have : Pw_130.ro xr = 0 := (by rw [ePw_130]; exact rw9_at _ _ _ _)
        have : Pw_130.rt xr = Pn_110.rt xr := (by rw [ePw_130]; exact rw9_of _ (by decide))
        have : Pw_130.ra xr = Pn_110.ra xr := (by rw [ePw_130]; exact rw9_of _ (by decide))
        have : Pw_130.rb xr = Pn_110.rb xr := (by rw [ePw_130]; exact rw9_of _ (by decide))
        have : Pw_130.rA xr = Pn_110.rA xr := (by rw [ePw_130]; exact rw9_of _ (by decide))
        have : Pw_130.rB xr = Pn_110.rB xr := (by rw [ePw_130]; exact rw9_of _ (by decide))
        have : Pw_130.rg xr = Pn_110.rg xr := (by rw [ePw_130]; exact rw9_of _ (by decide))
        have : Pw_130.ek xr = Pn_110.ek xr := (by rw [ePw_130]; rfl)
        have hW_133 : RW1 xr Pn_110 Pw_130 := wPw_130
        have hrw_136 : RWD Pn_110 Pw_130 := hW_133.rwd (Or.inl hq_122.2)
        have hak_135 : GLR Ln_109 Pw_130 cO cI cZ sx_ed := hu_119.2.1.row hW_133 hq_122.2 (ROKR.of (by omega) (by omega) (by omega) (by omega) (by omega) (by omega) (by omega) (OPQ.uaR (hoq9.to (by omega) (by omega))) (ubZR (by omega))) (fun e9 => by have q9 := hu_119.2.1.op21 hq_122.1 hq_122.2 e9; omega)
        have hke_134 : KEG [] Ln_109 Pn_110 Ln_109 Pw_130 := hrw_136.kegR _ hq_121.2
        have hq_137 : HID (la ∈ Ln_109 ∧ Pw_130.kd la = 30) := hke_134.mem hq_121.1 hq_121.2 (by decide)
        have hq_138 : HID (xr ∈ Ln_109 ∧ Pw_130.kd xr = 17) := hke_134.mem hq_122.1 hq_122.2 (by decide)
        have hE_139 : HID (Pw_130.ek xr ≠ 1) := (by rw [hke_134.ek hq_122.1 hq_122.2 (by decide)]; exact hE_123.out)
        have hA_140 : KEG [] L P Ln_109 Pw_130 := hA_124.trans hke_134
        have : Pw_130.lz la = Pn_110.lz la := hrw_136.lz hq_121.2
        have : Pw_130.cap la = Pn_110.cap la := hW_133.cap la
        have hek_141 : HID (Pw_130.ek la = 12) := (by rw [hke_134.ek hq_121.1 hq_121.2 (by decide)]; exact hek_125.out)
        have how_142 : HID (Pw_130.ow la = la) := ((hke_134.1 la hq_121.1 (by rw [hq_121.2]; decide)).2.2.2.1 hq_121.2 how_126.out).1
        have hcz := (((hke_134.1 la hq_121.1 (by rw [hq_121.2]; decide)).2.2.2.1 hq_121.2 how_126.out).2 (by simp)).1
        have hX_tx := hX_tx.rw1R hW_133 (Or.inl hq_122.2)
        have hcx_143 : CHG (fun z => z = xr) L P Ln_109 Pw_130 := hcx_127.trans (hW_133.chg _) (fun z m q => q)
        refine lv_aload_n hx hb dX16_row_90 rfl (lv_at hl 1 rfl) ?_
        have hr7 := (hak_135.rokR hq_138.1 hq_138.2).n7
        obtain ⟨kp_144, hkp_144⟩ := va_pl_get (X := [(h0, .inr (14, [.ref q_t, .int (zI (z16_n)), .int (zI (z0_103)), .int (zI (z1_104)), .int (zI (z2_105)), .int (zI (z3_106)), .int (zI (z4_107)), .ref q5_108, v16_8, v16_9, v16_10, v16_11, v16_12, v16_13])), (q_t, .inl (cT, 8192, .inl (fun j : Nat => zI (a_t (j : Int)))))]) (f := pE Pw_130) hq_138.1
        rw [pE_row hq_138.2] at hkp_144
        refine va_get (D := (dC, dI)) (ci := 21) (v := .int (zI (Pw_130.ro xr))) (C := RX17) (T := TX17) (N := 7) hx hb hts mem_X16_rowR_2 hown hK hP kp_144 hkp_144 rfl 0 (by decide) (ow (k := 15) rfl) (fun _ h9 => h9) rfl dX16_row_91 ?_
        refine lv_if_ne (tgt := 98) hx hb dX16_row_94 (by decide) (fun b94 => ?_) (fun b94 => ?_)
        · have yb94 : ¬ (Pw_130.ro xr : Int) = (0 : Int) := fun q => b94 ((zI_eq (a := Pw_130.ro xr) (b := 0) (by omega) (by omega) (by omega) (by omega)).mpr q)
          have hno9 := TKQ.is htk_118 (Or.inl (by omega))
          refine lv_aload_n hx hb dX16_row_98 rfl (lv_at hl 0 rfl) ?_
          have hPc := hP.part (X := [(h0, .inr (14, [.ref q_t, .int (zI (z16_n)), .int (zI (z0_103)), .int (zI (z1_104)), .int (zI (z2_105)), .int (zI (z3_106)), .int (zI (z4_107)), .ref q5_108, v16_8, v16_9, v16_10, v16_11, v16_12, v16_13])), (q_t, .inl (cT, 8192, .inl (fun j : Nat => zI (a_t (j : Int)))))]) (cx := [(h0, .inr (14, [.ref q_t, .int (zI (z16_n)), .int (zI (z0_103)), .int (zI (z1_104)), .int (zI (z2_105)), .int (zI (z3_106)), .int (zI (z4_107)), .ref q5_108, v16_8, v16_9, v16_10, v16_11, v16_12, v16_13])), (q_t, .inl (cT, 8192, .inl (fun j : Nat => zI (a_t (j : Int)))))]) (pl := va_pl Ln_109 (pE Pw_130)) [0, 1] rfl
          have hDc := hD.part (X := [(h0, .inr (14, [.ref q_t, .int (zI (z16_n)), .int (zI (z0_103)), .int (zI (z1_104)), .int (zI (z2_105)), .int (zI (z3_106)), .int (zI (z4_107)), .ref q5_108, v16_8, v16_9, v16_10, v16_11, v16_12, v16_13])), (q_t, .inl (cT, 8192, .inl (fun j : Nat => zI (a_t (j : Int)))))]) (cx := [(h0, .inr (14, [.ref q_t, .int (zI (z16_n)), .int (zI (z0_103)), .int (zI (z1_104)), .int (zI (z2_105)), .int (zI (z3_106)), .int (zI (z4_107)), .ref q5_108, v16_8, v16_9, v16_10, v16_11, v16_12, v16_13])), (q_t, .inl (cT, 8192, .inl (fun j : Nat => zI (a_t (j : Int)))))]) (pl := va_pl Ln_109 (pE Pw_130)) [0, 1] (by decide) rfl
          have hKc := hK.sub (tys' := [(cT, .byte)]) [0] rfl
          have hFc := va_freeP (X := [(h0, .inr (14, [.ref q_t, .int (zI (z16_n)), .int (zI (z0_103)), .int (zI (z1_104)), .int (zI (z2_105)), .int (zI (z3_106)), .int (zI (z4_107)), .ref q5_108, v16_8, v16_9, v16_10, v16_11, v16_12, v16_13])), (q_t, .inl (cT, 8192, .inl (fun j : Nat => zI (a_t (j : Int)))))]) (cx := [(h0, .inr (14, [.ref q_t, .int (zI (z16_n)), .int (zI (z0_103)), .int (zI (z1_104)), .int (zI (z2_105)), .int (zI (z3_106)), .int (zI (z4_107)), .ref q5_108, v16_8, v16_9, v16_10, v16_11, v16_12, v16_13])), (q_t, .inl (cT, 8192, .inl (fun j : Nat => zI (a_t (j : Int)))))]) (pl := va_pl Ln_109 (pE Pw_130)) hD hS hA [0, 1] rfl
          refine W_knowS (fun hrmA => ?_)
          refine va_callv (va_runV (As := []) (rest := []) ⟨hx, hb, hml, hown, hts⟩ (c_X16_nextK l dC dI h0 z16_n z0_103 z1_104 z2_105 z3_106 z4_107 (.ref q5_108) v16_8 v16_9 v16_10 v16_11 v16_12 v16_13 q_t cT a_t Ln_109 Pw_130 sa_RX16_9 (by omega) (by omega) (by omega) (by omega) (by omega) (by omega) hR_a_t (by omega) H.size sa_RX16_9 H sv_RX16_9 sa_RX16_119 sv_RX16_119 sa_RX16_100 sv_RX16_100 sa_RX16_117 sa_RX16_100 sv_RX16_117 sa_RX16_98 sv_RX16_98) (cwV 0 hts g_X16_rowR_X16_nextK rfl rfl rfl (by decide +kernel) ⟨(Nat.le_of_ble_eq_true rfl), (Nat.le_of_ble_eq_true rfl)⟩) ⟨fun a U g mk q => by obtain ⟨q0, q1, qP, qK, qD, e0, e1, e2, e3, e4, e5, e6, e7, e8, e9, e10, e11, e12⟩ := q; exact ⟨q0, q1, qP, va_K.moved (u := U) (U := U.calling g mk a) (Vm.Alike.refl U.vm) qK, qD, vk_R.same (u := U) (U := U.calling g mk a) rfl e0, e1, va_Z.moved (u := U) (U := U.calling g mk a) (Vm.Alike.refl U.vm) e2, vs_S.moved (u := U) (U := U.calling g mk a) (Vm.Alike.refl U.vm) e3, va_Nw.same rfl (u := U) (U := U.calling g mk a) rfl e4, vk_R.same (u := U) (U := U.calling g mk a) rfl e5, vs_S.moved (u := U) (U := U.calling g mk a) (Vm.Alike.refl U.vm) e6, vs_S.moved (u := U) (U := U.calling g mk a) (Vm.Alike.refl U.vm) e7, vk_R.same (u := U) (U := U.calling g mk a) rfl e8, vk_R.same (u := U) (U := U.calling g mk a) rfl e9, vs_S.moved (u := U) (U := U.calling g mk a) (Vm.Alike.refl U.vm) e10, vk_R.same (u := U) (U := U.calling g mk a) rfl e11, vs_S.moved (u := U) (U := U.calling g mk a) (Vm.Alike.refl U.vm) e12⟩, va_recv hKc hPc (ci := 14) (q0 := 0) rfl rfl, fun U hU hW => ⟨rfl, by rw [hU], by rw [hU]; exact hPc, va_K.moved hW.alike hKc, hDc.weaken (fun _ _ _ _ => trivial), vk_R.warm hW hp4, hU, va_Z.go hp3 hS hFc hU hW.alike, vs_S.go hp2 hS hFc hU hW.alike, va_Nw.warmC hW hp5, vk_R.warm hW hp6, vs_S.go hp7 hS hFc hU hW.alike, vs_S.go hp8 hS hFc hU hW.alike, vk_R.warm hW hp9, vk_R.warm hW hp10, vs_S.go hp11 hS hFc hU hW.alike, vk_R.warm hW hp12, vs_S.go hp13 hS hFc hU hW.alike⟩⟩ rfl rfl hl.1 rfl (lv_room (Nat.le_of_ble_eq_true rfl)) dX16_row_99 ⟨(show (((0 + kc_19) + kc_72) + kc_111) + ((z16_n - z0_103 + 20).toNat) ≤ (8 * (z16_n - z16_place) + 120).toNat from (rmT (by omega) (by omega))), (show (((0 + ks_20) + ks_73) + ks_112) + ((10 * (z16_n - z0_103) + 120).toNat) ≤ (40 * (z16_n - z16_place) + 500).toNat from (rmT (by omega) (by omega)))⟩) hS (fun q _ h => hFc q h) hFc (fun  u t H1 locs ht hvm hw hB hz1 hk1 hS => ?_)
          obtain ⟨z0_145, z1_146, z2_147, z3_148, z4_149, q5_150, Ln_151, Pn_152, kc_153, ks_154, hxt_154, hP1, hK1, hD1⟩ := hB
          rw [ht] at hP1
          have hK1 := va_K.moved hvm.symm hK1
          obtain ⟨hP, hD⟩ := va_joinP (X := [(h0, .inr (14, [.ref q_t, .int (zI (z16_n)), .int (zI (z0_103)), .int (zI (z1_104)), .int (zI (z2_105)), .int (zI (z3_106)), .int (zI (z4_107)), .ref q5_108, v16_8, v16_9, v16_10, v16_11, v16_12, v16_13])), (q_t, .inl (cT, 8192, .inl (fun j : Nat => zI (a_t (j : Int)))))]) (cx := [(h0, .inr (14, [.ref q_t, .int (zI (z16_n)), .int (zI (z0_103)), .int (zI (z1_104)), .int (zI (z2_105)), .int (zI (z3_106)), .int (zI (z4_107)), .ref q5_108, v16_8, v16_9, v16_10, v16_11, v16_12, v16_13])), (q_t, .inl (cT, 8192, .inl (fun j : Nat => zI (a_t (j : Int)))))]) (wr := []) (rx := [(h0, .inr (14, [.ref q_t, .int (zI (z16_n)), .int (zI (z0_145)), .int (zI (z1_146)), .int (zI (z2_147)), .int (zI (z3_148)), .int (zI (z4_149)), .ref q5_150, v16_8, v16_9, v16_10, v16_11, v16_12, v16_13])), (q_t, .inl (cT, 8192, .inl (fun j : Nat => zI (a_t (j : Int)))))]) (pl := va_pl Ln_109 (pE Pw_130)) (pl1 := va_pl Ln_151 (pE Pn_152)) hP hD [0, 1] [] rfl rfl (by decide) (by decide) hk1 hFc hP1 hD1
          have hK := (hK.sub (tys' := [(cO, .object "java/lang/Object"), (cI, .int), (cZ, .boolean)]) [1, 2, 3] rfl).app hK1
          have hrmC := hxt_154.1.1
          rw [ht] at hrmC
          refine W_tightS (hrmA.trans hrmC) ?_
          have hrb := hxt_154.1.2
          generalize H1 = H at hP hS ⊢
          have hP : va_P (dC, dI) vwQ ([(h0, .inr (14, [.ref q_t, .int (zI (z16_n)), .int (zI (z0_145)), .int (zI (z1_146)), .int (zI (z2_147)), .int (zI (z3_148)), .int (zI (z4_149)), .ref q5_150, v16_8, v16_9, v16_10, v16_11, v16_12, v16_13])), (q_t, .inl (cT, 8192, .inl (fun j : Nat => zI (a_t (j : Int)))))] ++ va_pl Ln_151 (pE Pn_152)) H := hP
          have hD : va_D A ([(h0, .inr (14, [.ref q_t, .int (zI (z16_n)), .int (zI (z0_145)), .int (zI (z1_146)), .int (zI (z2_147)), .int (zI (z3_148)), .int (zI (z4_149)), .ref q5_150, v16_8, v16_9, v16_10, v16_11, v16_12, v16_13])), (q_t, .inl (cT, 8192, .inl (fun j : Nat => zI (a_t (j : Int)))))] ++ va_pl Ln_151 (pE Pn_152)) := hD
          have hK : va_K (dC, dI) vwQ [(cO, .object "java/lang/Object"), (cI, .int), (cZ, .boolean), (cT, .byte)] s := hK
          refine W.widen (k := ((((0 + kc_19) + kc_72) + kc_111) + kc_153)) (n := ((((0 + ks_20) + ks_73) + ks_112) + ks_154)) (by omega) (by omega) ?_
          obtain ⟨rk_155, rk_156, rk_157, rk_158, rk_159, hu_159⟩ := hxt_154.2
          have htk_160 := hu_159.1.2
          have hrg_160 := hu_159.1.1
          have htq_160 := htk_160.1
          have hgo9 := hkd_120.go (by omega)
          have hkd_165 := hu_159.2.1
          have hX_kv := hkd_165.2
          have hu_161 := hu_159.2.2
          have hex_162 : EXT9 Ln_109 Pw_130 Ln_151 Pn_152 := hu_161.1
          have hke_163 : KEG [] Ln_109 Pw_130 Ln_151 Pn_152 := hex_162.kegR hak_135
          have hak_164 : GLR Ln_151 Pn_152 cO cI cZ sx_ed := hak_135.txt hex_162 hu_161.2.1
          have hsm_166 := (hex_162 xr hq_138.1).2
          have : Pn_152.ro xr = Pw_130.ro xr := hsm_166.1 0
          have : Pn_152.rt xr = Pw_130.rt xr := hsm_166.1 1
          have : Pn_152.ra xr = Pw_130.ra xr := hsm_166.1 2
          have : Pn_152.rb xr = Pw_130.rb xr := hsm_166.1 3
          have : Pn_152.rA xr = Pw_130.rA xr := hsm_166.1 4
          have : Pn_152.rB xr = Pw_130.rB xr := hsm_166.1 5
          have : Pn_152.rg xr = Pw_130.rg xr := hsm_166.1 6
          have : Pn_152.ek xr = Pw_130.ek xr := hsm_166.2.1 8
          have hq_167 : HID (la ∈ Ln_151 ∧ Pn_152.kd la = 30) := hke_163.mem hq_137.1 hq_137.2 (by decide)
          have hq_168 : HID (xr ∈ Ln_151 ∧ Pn_152.kd xr = 17) := hke_163.mem hq_138.1 hq_138.2 (by decide)
          have hE_169 : HID (Pn_152.ek xr ≠ 1) := (by rw [hke_163.ek hq_138.1 hq_138.2 (by decide)]; exact hE_139.out)
          have hA_170 : KEG [] L P Ln_151 Pn_152 := hA_140.trans hke_163
          have : Pn_152.lz la = Pw_130.lz la := (hex_162 la hq_137.1).2.1 0
          have hek_171 : HID (Pn_152.ek la = 12) := (by rw [hke_163.ek hq_137.1 hq_137.2 (by decide)]; exact hek_141.out)
          have how_172 : HID (Pn_152.ow la = la) := ((hke_163.1 la hq_137.1 (by rw [hq_137.2]; decide)).2.2.2.1 hq_137.2 how_142.out).1
          have hcz := (((hke_163.1 la hq_137.1 (by rw [hq_137.2]; decide)).2.2.2.1 hq_137.2 how_142.out).2 (by simp)).1
          have hX_tx := hu_161.2.2.1
          have hxk9 := hu_161.2.2.2
          have hcx_173 : CHG (fun z => z = xr) L P Ln_151 Pn_152 := hcx_143.trans hex_162.chg (fun z m q => q.elim)
          have hnn_160 := TKV.nn (k := z1_146) (d := z0_145 - z2_147) (by omega)
          have hri_174 : ((((((0 + ks_20) + ks_73) + ks_112) + ks_154) : Nat) : Int) ≤ 40 * (z2_147 - z16_place) - TKV z16_kind (z16_at - z16_place) + TKV (z1_146) (z0_145 - z2_147) + 10 ∧ ((((((0 + kc_19) + kc_72) + kc_111) + kc_153) : Nat) : Int) ≤ 8 * (z2_147 - z16_place) - TKW z16_kind (z16_at - z16_place) + TKW (z1_146) (z0_145 - z2_147) - 9 := (by omega)
          clear hrb hri_128
          skip
          refine lv_aload_n hx hb dX16_row_102 rfl (lv_at hl 0 rfl) ?_
          refine lv_aload_n hx hb dX16_row_103 rfl (lv_at hl 1 rfl) ?_
          refine lv_iconst (v := 1) hx hb dX16_row_104 (by decide) ?_
          have hX_tn := htk_160
          have hX_g := hak_164
          have hX_x := hq_168.1
          have hX_k := hq_168.2
          have hX_la := (show la ∈ Ln_151 ∧ Pn_152.kd la = 30 ∧ Pn_152.ek la = 12 ∧ Pn_152.ow la = la from ⟨hq_167.1, hq_167.2, hek_171.out, how_172.out⟩)
          have hPc := hP.part (X := [(h0, .inr (14, [.ref q_t, .int (zI (z16_n)), .int (zI (z0_145)), .int (zI (z1_146)), .int (zI (z2_147)), .int (zI (z3_148)), .int (zI (z4_149)), .ref q5_150, v16_8, v16_9, v16_10, v16_11, v16_12, v16_13])), (q_t, .inl (cT, 8192, .inl (fun j : Nat => zI (a_t (j : Int)))))]) (cx := [(h0, .inr (14, [.ref q_t, .int (zI (z16_n)), .int (zI (z0_145)), .int (zI (z1_146)), .int (zI (z2_147)), .int (zI (z3_148)), .int (zI (z4_149)), .ref q5_150, v16_8, v16_9, v16_10, v16_11, v16_12, v16_13])), (q_t, .inl (cT, 8192, .inl (fun j : Nat => zI (a_t (j : Int)))))]) (pl := va_pl Ln_151 (pE Pn_152)) [0, 1] rfl
          have hDc := hD.part (X := [(h0, .inr (14, [.ref q_t, .int (zI (z16_n)), .int (zI (z0_145)), .int (zI (z1_146)), .int (zI (z2_147)), .int (zI (z3_148)), .int (zI (z4_149)), .ref q5_150, v16_8, v16_9, v16_10, v16_11, v16_12, v16_13])), (q_t, .inl (cT, 8192, .inl (fun j : Nat => zI (a_t (j : Int)))))]) (cx := [(h0, .inr (14, [.ref q_t, .int (zI (z16_n)), .int (zI (z0_145)), .int (zI (z1_146)), .int (zI (z2_147)), .int (zI (z3_148)), .int (zI (z4_149)), .ref q5_150, v16_8, v16_9, v16_10, v16_11, v16_12, v16_13])), (q_t, .inl (cT, 8192, .inl (fun j : Nat => zI (a_t (j : Int)))))]) (pl := va_pl Ln_151 (pE Pn_152)) [0, 1] (by decide) rfl
          have hKc := hK.sub (tys' := [(cT, .byte), (cO, .object "java/lang/Object"), (cI, .int), (cZ, .boolean)]) [3, 0, 1, 2] rfl
          have hFc := va_freeP (X := [(h0, .inr (14, [.ref q_t, .int (zI (z16_n)), .int (zI (z0_145)), .int (zI (z1_146)), .int (zI (z2_147)), .int (zI (z3_148)), .int (zI (z4_149)), .ref q5_150, v16_8, v16_9, v16_10, v16_11, v16_12, v16_13])), (q_t, .inl (cT, 8192, .inl (fun j : Nat => zI (a_t (j : Int)))))]) (cx := [(h0, .inr (14, [.ref q_t, .int (zI (z16_n)), .int (zI (z0_145)), .int (zI (z1_146)), .int (zI (z2_147)), .int (zI (z3_148)), .int (zI (z4_149)), .ref q5_150, v16_8, v16_9, v16_10, v16_11, v16_12, v16_13])), (q_t, .inl (cT, 8192, .inl (fun j : Nat => zI (a_t (j : Int)))))]) (pl := va_pl Ln_151 (pE Pn_152)) hD hS hA [0, 1] rfl
          refine W_knowS (fun hrmA => ?_)
          refine vx_callv (vx_runV (As := [.ref xr, .int 1]) (rest := []) ⟨hx, hb, hml, hown, hts⟩ (c_X16_opBR l dC dI cI cZ h0 z16_n z0_145 z1_146 z2_147 z3_148 z4_149 v16_8 v16_9 v16_10 v16_11 v16_12 v16_13 q_t cT a_t q5_150 Ln_151 Pn_152 sa_RX16_9 cO la sx_ed xr (by omega) (by omega) (by omega) (by omega) (by omega) (by omega) hR_a_t hX_g hX_la hX_x hX_k (by omega) hX_kv hX_tn H.size sv_RX16_9 sa_RX16_119 sv_RX16_119 sa_RX16_100 sv_RX16_100 sa_RX16_117 sv_RX16_117 sa_RX16_98 sv_RX16_98 H) (cwV 2 hts g_X16_rowR_X16_opBR rfl rfl rfl (by decide +kernel) ⟨(Nat.le_of_ble_eq_true rfl), (Nat.le_of_ble_eq_true rfl)⟩) ⟨fun a U g mk q => by obtain ⟨q0, q1, qP, qK, qD, e0, e1, e2, e3, e4, e5, e6, e7, e8, e9, e10, e11, e12, e13, e14⟩ := q; exact ⟨q0, q1, qP, va_K.moved (u := U) (U := U.calling g mk a) (Vm.Alike.refl U.vm) qK, qD, vk_R.same (u := U) (U := U.calling g mk a) rfl e0, va_Z.moved (u := U) (U := U.calling g mk a) (Vm.Alike.refl U.vm) e1, vs_S.moved (u := U) (U := U.calling g mk a) (Vm.Alike.refl U.vm) e2, va_Nw.same rfl (u := U) (U := U.calling g mk a) rfl e3, vk_R.same (u := U) (U := U.calling g mk a) rfl e4, vs_S.moved (u := U) (U := U.calling g mk a) (Vm.Alike.refl U.vm) e5, vs_S.moved (u := U) (U := U.calling g mk a) (Vm.Alike.refl U.vm) e6, vk_R.same (u := U) (U := U.calling g mk a) rfl e7, vk_R.same (u := U) (U := U.calling g mk a) rfl e8, vs_S.moved (u := U) (U := U.calling g mk a) (Vm.Alike.refl U.vm) e9, vk_R.same (u := U) (U := U.calling g mk a) rfl e10, vs_S.moved (u := U) (U := U.calling g mk a) (Vm.Alike.refl U.vm) e11, e12, vx_Zq.moved (u := U) (U := U.calling g mk a) (Vm.Alike.refl U.vm) e13, vx_Zq.moved (u := U) (U := U.calling g mk a) (Vm.Alike.refl U.vm) e14⟩, va_recv hKc hPc (ci := 14) (q0 := 0) rfl rfl, fun U hU hW => ⟨rfl, by rw [hU], by rw [hU]; exact hPc, va_K.moved hW.alike hKc, hDc.weaken (fun _ _ _ _ => trivial), vk_R.warm hW hp4, va_Z.go hp3 hS hFc hU hW.alike, vs_S.go hp2 hS hFc hU hW.alike, va_Nw.warmC hW hp5, vk_R.warm hW hp6, vs_S.go hp7 hS hFc hU hW.alike, vs_S.go hp8 hS hFc hU hW.alike, vk_R.warm hW hp9, vk_R.warm hW hp10, vs_S.go hp11 hS hFc hU hW.alike, vk_R.warm hW hp12, vs_S.go hp13 hS hFc hU hW.alike, hU, vx_Zq.go hp14 hS hFc hU hW.alike, vx_Zq.go hp15 hS hFc hU hW.alike⟩⟩ rfl rfl hl.1 rfl (lv_room (Nat.le_of_ble_eq_true rfl)) dX16_row_105 ⟨(show ((((0 + kc_19) + kc_72) + kc_111) + kc_153) + ((z16_n - z0_145 + 20).toNat) ≤ (8 * (z16_n - z16_place) + 120).toNat from (rmT (by omega) (by omega))), (show ((((0 + ks_20) + ks_73) + ks_112) + ks_154) + ((10 * (z16_n - z0_145) + 120).toNat) ≤ (40 * (z16_n - z16_place) + 500).toNat from (rmT (by omega) (by omega)))⟩) hS (fun q _ h => hFc q h) hFc (fun q _ h => hFc q h) (fun E ce q9 u t H1 locs ht hvm _ hB hz1 hk1 hS hce hcv hcl => ?_) (fun  u t H1 locs ht hvm hw hB hz1 hk1 hS => ?_)
          · obtain ⟨rfl, zp_175, Ln_176, Pn_177, kc_178, ks_179, hxt_180, hP1, hD1⟩ := hB
            rw [ht] at hP1
            obtain ⟨hP, hD⟩ := va_joinP (X := [(h0, .inr (14, [.ref q_t, .int (zI (z16_n)), .int (zI (z0_145)), .int (zI (z1_146)), .int (zI (z2_147)), .int (zI (z3_148)), .int (zI (z4_149)), .ref q5_150, v16_8, v16_9, v16_10, v16_11, v16_12, v16_13])), (q_t, .inl (cT, 8192, .inl (fun j : Nat => zI (a_t (j : Int)))))]) (cx := [(h0, .inr (14, [.ref q_t, .int (zI (z16_n)), .int (zI (z0_145)), .int (zI (z1_146)), .int (zI (z2_147)), .int (zI (z3_148)), .int (zI (z4_149)), .ref q5_150, v16_8, v16_9, v16_10, v16_11, v16_12, v16_13])), (q_t, .inl (cT, 8192, .inl (fun j : Nat => zI (a_t (j : Int)))))]) (wr := []) (rx := [(q_t, .inl (cT, 8192, .inl (fun j : Nat => zI (a_t (j : Int))))), (q9, .inr (15, [.null, .null, .null, .null, .null, .int 0, .int (zI (zp_175))]))]) (pl := va_pl Ln_151 (pE Pn_152)) (pl1 := va_pl Ln_176 (pE Pn_177)) hP hD [0, 1] [] rfl rfl (by decide) (by decide) hk1 hFc hP1 hD1
            have hrmC := hxt_180.1.1
            rw [ht] at hrmC
            refine vx_tightS (hrmA.trans hrmC) ?_
            have hrb := hxt_180.1.2
            generalize H1 = H at hP hS hce ⊢
            have hP : va_P (dC, dI) vwQ ([(q_t, .inl (cT, 8192, .inl (fun j : Nat => zI (a_t (j : Int))))), (q9, .inr (15, [.null, .null, .null, .null, .null, .int 0, .int (zI (zp_175))]))] ++ va_pl Ln_176 (pE Pn_177)) H := hP
            have hD : va_D A ([(q_t, .inl (cT, 8192, .inl (fun j : Nat => zI (a_t (j : Int))))), (q9, .inr (15, [.null, .null, .null, .null, .null, .int 0, .int (zI (zp_175))]))] ++ va_pl Ln_176 (pE Pn_177)) := hD
            have hzp : 0 ≤ zp_175 ∧ zp_175 ≤ 8192 := hxt_180.2.1
            subst hQ
            refine vx_knowS (fun hrm9 => ?_)
            refine vx_widen (k := ((8 * (z16_n - z16_place) + 120).toNat)) (n := ((40 * (z16_n - z16_place) + 500).toNat)) (rmW (by omega)) (rmW (by omega)) ?_
            exact vx_out (fun x9 h9 => (hnt x9 h9).elim) hlocks hce hcv hcl (fun t ht hvm => ⟨(), trivial, ⟨rfl, zp_175, Ln_176, Pn_177, (((((0 + kc_19) + kc_72) + kc_111) + kc_153) + kc_178), (((((0 + ks_20) + ks_73) + ks_112) + ks_154) + ks_179), ⟨⟨(by rw [ht, ← hp16]; exact hrm9), (by omega)⟩, ⟨(by omega), ⟨hA_170.trans hxt_180.2.2.1, hxt_180.2.2.2.1, (hcx_173.cpa hg00.owa (fun z _ q => by rw [show z = xr from q, hk00]; decide)).trans hA_170 hxt_180.2.2.2.2⟩⟩⟩, by rw [ht]; exact hP, hD⟩, hS.F ht⟩) hS.2.2 (Nat.le_refl _) (Nat.le_refl _)
          obtain ⟨z0_181, z1_182, z2_183, z3_184, z4_185, q5_186, Ln_187, Pn_188, kc_189, ks_190, hxt_190, hP1, hK1, hD1⟩ := hB
          rw [ht] at hP1
          have hK1 := va_K.moved hvm.symm hK1
          obtain ⟨hP, hD⟩ := va_joinP (X := [(h0, .inr (14, [.ref q_t, .int (zI (z16_n)), .int (zI (z0_145)), .int (zI (z1_146)), .int (zI (z2_147)), .int (zI (z3_148)), .int (zI (z4_149)), .ref q5_150, v16_8, v16_9, v16_10, v16_11, v16_12, v16_13])), (q_t, .inl (cT, 8192, .inl (fun j : Nat => zI (a_t (j : Int)))))]) (cx := [(h0, .inr (14, [.ref q_t, .int (zI (z16_n)), .int (zI (z0_145)), .int (zI (z1_146)), .int (zI (z2_147)), .int (zI (z3_148)), .int (zI (z4_149)), .ref q5_150, v16_8, v16_9, v16_10, v16_11, v16_12, v16_13])), (q_t, .inl (cT, 8192, .inl (fun j : Nat => zI (a_t (j : Int)))))]) (wr := []) (rx := [(h0, .inr (14, [.ref q_t, .int (zI (z16_n)), .int (zI (z0_181)), .int (zI (z1_182)), .int (zI (z2_183)), .int (zI (z3_184)), .int (zI (z4_185)), .ref q5_186, v16_8, v16_9, v16_10, v16_11, v16_12, v16_13])), (q_t, .inl (cT, 8192, .inl (fun j : Nat => zI (a_t (j : Int)))))]) (pl := va_pl Ln_151 (pE Pn_152)) (pl1 := va_pl Ln_187 (pE Pn_188)) hP hD [0, 1] [] rfl rfl (by decide) (by decide) hk1 hFc hP1 hD1
          have hK := (hK.sub (tys' := []) [] rfl).app hK1
          have hrmC := hxt_190.1.1
          rw [ht] at hrmC
          refine W_tightS (hrmA.trans hrmC) ?_
          have hrb := hxt_190.1.2
          generalize H1 = H at hP hS ⊢
          have hP : va_P (dC, dI) vwQ ([(h0, .inr (14, [.ref q_t, .int (zI (z16_n)), .int (zI (z0_181)), .int (zI (z1_182)), .int (zI (z2_183)), .int (zI (z3_184)), .int (zI (z4_185)), .ref q5_186, v16_8, v16_9, v16_10, v16_11, v16_12, v16_13])), (q_t, .inl (cT, 8192, .inl (fun j : Nat => zI (a_t (j : Int)))))] ++ va_pl Ln_187 (pE Pn_188)) H := hP
          have hD : va_D A ([(h0, .inr (14, [.ref q_t, .int (zI (z16_n)), .int (zI (z0_181)), .int (zI (z1_182)), .int (zI (z2_183)), .int (zI (z3_184)), .int (zI (z4_185)), .ref q5_186, v16_8, v16_9, v16_10, v16_11, v16_12, v16_13])), (q_t, .inl (cT, 8192, .inl (fun j : Nat => zI (a_t (j : Int)))))] ++ va_pl Ln_187 (pE Pn_188)) := hD
          have hK : va_K (dC, dI) vwQ [(cT, .byte), (cO, .object "java/lang/Object"), (cI, .int), (cZ, .boolean)] s := hK
          refine W.widen (k := (((((0 + kc_19) + kc_72) + kc_111) + kc_153) + kc_189)) (n := (((((0 + ks_20) + ks_73) + ks_112) + ks_154) + ks_190)) (by omega) (by omega) ?_
          obtain ⟨rk_191, rk_192, rk_193, rk_194, rk_195, hu_195⟩ := hxt_190.2
          have htk_196 := hu_195.2.2.2.2.1.2
          have hrg_196 := hu_195.2.2.2.2.1.1
          have htq_196 := htk_196.1
          have hu_197 := HID.mk (hu_195)
          replace hu_195 := HID.mk hu_195
          replace hxt_190 := HID.mk hxt_190
          have hoc9 := hu_197.2.2.1.2
          have hoq9 : OPQ (Pn_188.rB xr) (Pn_188.rb xr) := hu_197.2.2.1.1
          have hgo9 := hkd_165.go (by omega)
          have hkd_198 := hu_197.2.2.2.2.2.1
          have hX_kv := hkd_198.2
          have hq_199 : HID (la ∈ Ln_187 ∧ Pn_188.kd la = 30) := hu_197.1.mem hq_167.1 hq_167.2 (by decide)
          have hq_200 : HID (xr ∈ Ln_187 ∧ Pn_188.kd xr = 17) := hu_197.1.mem hq_168.1 hq_168.2 (by decide)
          have hE_201 : HID (Pn_188.ek xr ≠ 1) := (by rw [hu_197.1.ek hq_168.1 hq_168.2 (by decide)]; exact hE_169.out)
          have hA_202 : KEG [] L P Ln_187 Pn_188 := hA_170.trans hu_197.1
          have : Pn_188.lz la = Pn_152.lz la := (hu_197.2.2.2.1 la hq_167.1 (fun e9 => absurd e9 (kd_ne hq_167.2 hq_168.2 (by decide)))).2.1 0
          have hek_203 : HID (Pn_188.ek la = 12) := (by rw [hu_197.1.ek hq_167.1 hq_167.2 (by decide)]; exact hek_171.out)
          have how_204 : HID (Pn_188.ow la = la) := ((hu_197.1.1 la hq_167.1 (by rw [hq_167.2]; decide)).2.2.2.1 hq_167.2 how_172.out).1
          have hcz := (((hu_197.1.1 la hq_167.1 (by rw [hq_167.2]; decide)).2.2.2.1 hq_167.2 how_172.out).2 (by simp)).1
          have hX_tx := hu_197.2.2.2.2.2.2.1
          have hxk9 := hu_197.2.2.2.2.2.2.2
          have hcx_205 : CHG (fun z => z = xr) L P Ln_187 Pn_188 := hcx_173.trans hu_197.2.2.2.1 (fun z m q => q)
          have hnn_196 := TKV.nn (k := z1_182) (d := z0_181 - z2_183) (by omega)
          have hri_206 : (((((((0 + ks_20) + ks_73) + ks_112) + ks_154) + ks_190) : Nat) : Int) ≤ 40 * (z2_183 - z16_place) - TKV z16_kind (z16_at - z16_place) + TKV (z1_182) (z0_181 - z2_183) - 30 ∧ (((((((0 + kc_19) + kc_72) + kc_111) + kc_153) + kc_189) : Nat) : Int) ≤ 8 * (z2_183 - z16_place) - TKW z16_kind (z16_at - z16_place) + TKW (z1_182) (z0_181 - z2_183) - 17 := (by omega)
          clear hrb hri_174
          skip
          have hob9 := hoq9
          subst hQ
          refine W_knowS (fun hrm9 => ?_)
          refine W.widen (k := ((8 * (z16_n - z16_place) + 120).toNat)) (n := ((40 * (z16_n - z16_place) + 500).toNat)) (rmW (by omega)) (rmW (by omega)) ?_
          refine vx_ret ?_
          exact W.vret hx hb hr (fun t ht hW => ⟨⟨(), rfl, trivial, z0_181, z1_182, z2_183, z3_184, z4_185, q5_186, Ln_187, Pn_188, (((((0 + kc_19) + kc_72) + kc_111) + kc_153) + kc_189), (((((0 + ks_20) + ks_73) + ks_112) + ks_154) + ks_190), ⟨⟨(by rw [ht, ← hp16]; exact hrm9), (by omega)⟩, ⟨(by omega), (by omega), (by omega), (by omega), (by omega), ⟨hA_202, hu_197.2.1, ⟨⟨(hkd_198.mono (by omega)).ms (by omega) (by omega) (by omega), by omega⟩, ⟨by omega, (by first | exact OPQ.z (by omega) | exact hoa9.to (by omega) (by omega)), (by first | exact OPQ.z (by omega) | exact hob9.to (by omega) (by omega))⟩⟩, hcx_205, ⟨⟨by omega, by omega, by omega⟩, htk_196⟩, hkd_198.mono (by omega), hX_tx⟩⟩⟩, by rw [ht]; exact hP, va_K.moved hW.alike hK, hD⟩, hS.F ht⟩) hS.2.2 dX16_row_108
        · have yb94 : (Pw_130.ro xr : Int) = (0 : Int) := (zI_eq (a := Pw_130.ro xr) (b := 0) (by omega) (by omega) (by omega) (by omega)).mp b94
          subst hQ
          refine W_knowS (fun hrm9 => ?_)
          refine W.widen (k := ((8 * (z16_n - z16_place) + 120).toNat)) (n := ((40 * (z16_n - z16_place) + 500).toNat)) (rmW (by omega)) (rmW (by omega)) ?_
          refine vx_ret ?_
          exact W.vret hx hb hr (fun t ht hW => ⟨⟨(), rfl, trivial, z0_103, z1_104, z2_105, z3_106, z4_107, q5_108, Ln_109, Pw_130, (((0 + kc_19) + kc_72) + kc_111), (((0 + ks_20) + ks_73) + ks_112), ⟨⟨(by rw [ht, ← hp16]; exact hrm9), (by omega)⟩, ⟨(by omega), (by omega), (by omega), (by omega), (by omega), ⟨hA_140, hak_135, ⟨⟨(hkd_120.mono (by omega)).ms (by omega) (by omega) (by omega), by omega⟩, ⟨by omega, (by first | exact OPQ.z (by omega) | exact hoa9.to (by omega) (by omega)), (by first | exact OPQ.z (by omega) | exact hob9.to (by omega) (by omega))⟩⟩, hcx_143, ⟨⟨by omega, by omega, by omega⟩, htk_118⟩, hkd_120.mono (by omega), hX_tx⟩⟩⟩, by rw [ht]; exact hP, va_K.moved hW.alike hK, hD⟩, hS.F ht⟩) hS.2.2 dX16_row_97
      · have yb73 : (z1_104 : Int) = (5 : Int) := (zI_eq (a := z1_104) (b := 5) (by omega) (by omega) (by omega) (by omega)).mp b73
        by_cases hxs : q5_108 = sa_RX16_9
        · skip
          rw [hxs] at hP hD
          have hP : va_P (dC, dI) vwQ ([(h0, .inr (14, [.ref q_t, .int (zI (z16_n)), .int (zI (z0_103)), .int (zI (z1_104)), .int (zI (z2_105)), .int (zI (z3_106)), .int (zI (z4_107)), .ref sa_RX16_9, v16_8, v16_9, v16_10, v16_11, v16_12, v16_13])), (q_t, .inl (cT, 8192, .inl (fun j : Nat => zI (a_t (j : Int)))))] ++ va_pl Ln_109 (pE Pn_110)) H := hP
          have hD : va_D A ([(h0, .inr (14, [.ref q_t, .int (zI (z16_n)), .int (zI (z0_103)), .int (zI (z1_104)), .int (zI (z2_105)), .int (zI (z3_106)), .int (zI (z4_107)), .ref sa_RX16_9, v16_8, v16_9, v16_10, v16_11, v16_12, v16_13])), (q_t, .inl (cT, 8192, .inl (fun j : Nat => zI (a_t (j : Int)))))] ++ va_pl Ln_109 (pE Pn_110)) := hD
          refine lv_aload_n hx hb dX16_row_76 rfl (lv_at hl 0 rfl) ?_
          refine va_get (D := (dC, dI)) (ci := 14) (v := .ref sa_RX16_9) (C := RX16) (T := TX16) (N := 14) hx hb hts mem_X16_rowR_5 hown hK hP 0 rfl rfl 7 (by decide) (ow (k := 19) rfl) (fun _ h9 => h9) rfl dX16_row_77 ?_
          have hX_tf : sb_Fit (fun j : Nat => ([] : List Int32).getD j 0) := fitL (by decide)
          have hPc := hP.sub (ws' := []) [] rfl
          have hDc := hD.sub (ws' := []) [] (by decide) rfl
          have hKc := hK.sub (tys' := []) [] rfl
          have hFc := va_free (wc := []) hD hS hA [] rfl
          refine va_calli (va_runSN (As := [.ref sa_RX16_9]) (rest := [.ref xr]) ⟨hx, hb, hml, hown, hts⟩ (c_X19_operation l dC dI sa_RX16_9 sv_RX16_9 0 ((fun j : Nat => ([] : List Int32).getD j 0)) hX_tf (by omega) H.size sa_RX19_3 sa_RX19_11 sv_RX19_11 sv_RX19_3 sx_fm) ⟨va_cnB 1 hts (goodIn_sub mem_X16_rowR_8 gw_X19_operation) rfl rfl rfl hp26 (ow (k := 20) rfl) (by decide +kernel) ⟨(Nat.le_of_ble_eq_true rfl), (Nat.le_of_ble_eq_true rfl)⟩, (ow (k := 21) rfl), trivial⟩ ⟨fun a U g mk q => by obtain ⟨q0, q1, qP, qK, qD, e0, e1, e2, e3, e4, e5, e6, e7⟩ := q; exact ⟨q0, q1, qP, va_K.moved (u := U) (U := U.calling g mk a) (Vm.Alike.refl U.vm) qK, qD, vk_R.same (u := U) (U := U.calling g mk a) rfl e0, va_Z.moved (u := U) (U := U.calling g mk a) (Vm.Alike.refl U.vm) e1, vk_R.same (u := U) (U := U.calling g mk a) rfl e2, vs_S.moved (u := U) (U := U.calling g mk a) (Vm.Alike.refl U.vm) e3, vs_S.moved (u := U) (U := U.calling g mk a) (Vm.Alike.refl U.vm) e4, va_Nw.same rfl (u := U) (U := U.calling g mk a) rfl e5, vs_S.moved (u := U) (U := U.calling g mk a) (Vm.Alike.refl U.vm) e6, va_Z.moved (u := U) (U := U.calling g mk a) (Vm.Alike.refl U.vm) e7⟩, fun U hU hW => ⟨rfl, by rw [hU], by rw [hU]; exact hPc, va_K.moved hW.alike hKc, hDc.weaken (fun _ _ _ _ => trivial), vk_R.warm hW hp21, va_Z.go hp3 hS hFc hU hW.alike, vk_R.warm hW hp22, vs_S.go hp23 hS hFc hU hW.alike, vs_S.go hp2 hS hFc hU hW.alike, va_Nw.warmC hW hp5, vs_S.go hp24 hS hFc hU hW.alike, va_Z.go hp25 hS hFc hU hW.alike⟩⟩ rfl rfl hl.1 rfl (lv_room (Nat.le_of_ble_eq_true rfl)) dX16_row_80 ⟨(show (((0 + kc_19) + kc_72) + kc_111) + ((5 + ((0 : Int) + 2) / 9).toNat) ≤ (8 * (z16_n - z16_place) + 120).toNat from (rmT (by omega) (by omega))), (show (((0 + ks_20) + ks_73) + ks_112) + ((5 * (0 : Int) + 40).toNat) ≤ (40 * (z16_n - z16_place) + 500).toNat from (rmT (by omega) (by omega)))⟩) hS (fun q _ h => hFc q h) hFc (fun r_207 u t H1 locs ht hvm hw hB hz1 hk1 hS => ?_)
          obtain ⟨hP1, hK1, hD1⟩ := hB
          rw [ht] at hP1
          have hK1 := va_K.moved hvm.symm hK1
          obtain ⟨hP, hD⟩ := va_joinQ (X := [(h0, .inr (14, [.ref q_t, .int (zI (z16_n)), .int (zI (z0_103)), .int (zI (z1_104)), .int (zI (z2_105)), .int (zI (z3_106)), .int (zI (z4_107)), .ref sa_RX16_9, v16_8, v16_9, v16_10, v16_11, v16_12, v16_13])), (q_t, .inl (cT, 8192, .inl (fun j : Nat => zI (a_t (j : Int)))))]) (cx := []) (wr := [(h0, .inr (14, [.ref q_t, .int (zI (z16_n)), .int (zI (z0_103)), .int (zI (z1_104)), .int (zI (z2_105)), .int (zI (z3_106)), .int (zI (z4_107)), .ref sa_RX16_9, v16_8, v16_9, v16_10, v16_11, v16_12, v16_13])), (q_t, .inl (cT, 8192, .inl (fun j : Nat => zI (a_t (j : Int)))))]) (w1 := []) (pl := va_pl Ln_109 (pE Pn_110)) hP hD [] [0, 1] rfl rfl (by decide) (by decide) hk1 hFc hP1 hD1
          have hK := (hK.sub (tys' := [(cT, .byte), (cO, .object "java/lang/Object"), (cI, .int), (cZ, .boolean)]) [0, 1, 2, 3] rfl).app hK1
          generalize H1 = H at hP hS ⊢
          have hP : va_P (dC, dI) vwQ ([(h0, .inr (14, [.ref q_t, .int (zI (z16_n)), .int (zI (z0_103)), .int (zI (z1_104)), .int (zI (z2_105)), .int (zI (z3_106)), .int (zI (z4_107)), .ref sa_RX16_9, v16_8, v16_9, v16_10, v16_11, v16_12, v16_13])), (q_t, .inl (cT, 8192, .inl (fun j : Nat => zI (a_t (j : Int)))))] ++ va_pl Ln_109 (pE Pn_110)) H := hP
          have hD : va_D A ([(h0, .inr (14, [.ref q_t, .int (zI (z16_n)), .int (zI (z0_103)), .int (zI (z1_104)), .int (zI (z2_105)), .int (zI (z3_106)), .int (zI (z4_107)), .ref sa_RX16_9, v16_8, v16_9, v16_10, v16_11, v16_12, v16_13])), (q_t, .inl (cT, 8192, .inl (fun j : Nat => zI (a_t (j : Int)))))] ++ va_pl Ln_109 (pE Pn_110)) := hD
          have hK : va_K (dC, dI) vwQ [(cT, .byte), (cO, .object "java/lang/Object"), (cI, .int), (cZ, .boolean)] s := hK
          refine W.widen (k := ((((0 + kc_19) + kc_72) + kc_111) + ((5 + ((0 : Int) + 2) / 9).toNat))) (n := ((((0 + ks_20) + ks_73) + ks_112) + ((5 * (0 : Int) + 40).toNat))) (by omega) (by omega) ?_
          have hw_208 := hw
          obtain ⟨z_209, rfl, hzz_209⟩ := hw_208
          refine lv_goto (tgt := 87) hx hb dX16_row_83 (by decide) ?_
          have hr7 := (hu_119.2.1.rokR hq_122.1 hq_122.2).n7
          obtain ⟨kp_210, gkp_210⟩ := va_pl_get (X := [(h0, .inr (14, [.ref q_t, .int (zI (z16_n)), .int (zI (z0_103)), .int (zI (z1_104)), .int (zI (z2_105)), .int (zI (z3_106)), .int (zI (z4_107)), .ref sa_RX16_9, v16_8, v16_9, v16_10, v16_11, v16_12, v16_13])), (q_t, .inl (cT, 8192, .inl (fun j : Nat => zI (a_t (j : Int)))))]) (f := pE Pn_110) hq_122.1
          have hkp_210 := gkp_210
          rw [pE_row hq_122.2] at hkp_210
          have hD0 := hD
          refine va_put (D := (dC, dI)) (ci := 21) (v := .int (zI (z_209))) (ty := .int) (C := RX17) (T := TX17) (N := 7) hx hb hts mem_X16_rowR_2 tyX17 tyX17_ok nmX17 hown hK hP hD hS kp_210 hkp_210 rfl 0 (by decide) (ow (k := 15) rfl) (fun _ h9 => h9) rfl (by decide +kernel) rfl rfl (by first | exact Nat.le_of_ble_eq_true rfl | exact (show ((((0 + kc_19) + kc_72) + kc_111) + ((5 + ((0 : Int) + 2) / 9).toNat)) ≤ (8 * (z16_n - z16_place) + 120).toNat from (rmW (by omega))) | exact (show ((((0 + ks_20) + ks_73) + ks_112) + ((5 * (0 : Int) + 40).toNat)) ≤ (40 * (z16_n - z16_place) + 500).toNat from (rmW (by omega)))) dX16_row_87 (fun H locs hP hD hS => ?_)
          obtain ⟨Pw_211, ePw_211⟩ : ∃ q9 : PO, q9 = Pn_110.rw9 0 xr (z_209) := ⟨_, rfl⟩
          have eU : (([(h0, .inr (14, [.ref q_t, .int (zI (z16_n)), .int (zI (z0_103)), .int (zI (z1_104)), .int (zI (z2_105)), .int (zI (z3_106)), .int (zI (z4_107)), .ref sa_RX16_9, v16_8, v16_9, v16_10, v16_11, v16_12, v16_13])), (q_t, .inl (cT, 8192, .inl (fun j : Nat => zI (a_t (j : Int)))))] : va_W) ++ va_pl Ln_109 (pE Pn_110)).set kp_210 (xr, rowE (z_209) (Pn_110.rt xr) (Pn_110.ra xr) (Pn_110.rb xr) (Pn_110.rA xr) (Pn_110.rB xr) (Pn_110.rg xr)) = ([(h0, .inr (14, [.ref q_t, .int (zI (z16_n)), .int (zI (z0_103)), .int (zI (z1_104)), .int (zI (z2_105)), .int (zI (z3_106)), .int (zI (z4_107)), .ref sa_RX16_9, v16_8, v16_9, v16_10, v16_11, v16_12, v16_13])), (q_t, .inl (cT, 8192, .inl (fun j : Nat => zI (a_t (j : Int)))))] : va_W) ++ va_pl Ln_109 (pE Pw_211) := (by rw [va_pl_set hD0 hq_122.1 gkp_210, ePw_211]; exact congrArg (fun f9 => ([(h0, .inr (14, [.ref q_t, .int (zI (z16_n)), .int (zI (z0_103)), .int (zI (z1_104)), .int (zI (z2_105)), .int (zI (z3_106)), .int (zI (z4_107)), .ref sa_RX16_9, v16_8, v16_9, v16_10, v16_11, v16_12, v16_13])), (q_t, .inl (cT, 8192, .inl (fun j : Nat => zI (a_t (j : Int)))))] : va_W) ++ va_pl Ln_109 f9) (put17_0 hq_122.2))
          have hP : va_P (dC, dI) vwQ ([(h0, .inr (14, [.ref q_t, .int (zI (z16_n)), .int (zI (z0_103)), .int (zI (z1_104)), .int (zI (z2_105)), .int (zI (z3_106)), .int (zI (z4_107)), .ref sa_RX16_9, v16_8, v16_9, v16_10, v16_11, v16_12, v16_13])), (q_t, .inl (cT, 8192, .inl (fun j : Nat => zI (a_t (j : Int)))))] ++ va_pl Ln_109 (pE Pw_211)) H := (by rw [← eU]; exact hP)
          have hD : va_D A ([(h0, .inr (14, [.ref q_t, .int (zI (z16_n)), .int (zI (z0_103)), .int (zI (z1_104)), .int (zI (z2_105)), .int (zI (z3_106)), .int (zI (z4_107)), .ref sa_RX16_9, v16_8, v16_9, v16_10, v16_11, v16_12, v16_13])), (q_t, .inl (cT, 8192, .inl (fun j : Nat => zI (a_t (j : Int)))))] ++ va_pl Ln_109 (pE Pw_211)) := (by rw [← eU]; exact hD)
          clear eU hD0 gkp_210 hkp_210
          have wPw_211 : RW1 xr Pn_110 Pw_211 := (by rw [ePw_211]; exact RW1.put _ _ _ _)
          have hy_212 : Pw_211.kd la = 30 := (by rw [ePw_211]; exact hq_121.2)
          have hy_213 : Pw_211.kd xr = 17 := (by rw [ePw_211]; exact hq_122.2)
          have : Pw_211.ro xr = z_209 := (by rw [ePw_211]; exact rw9_at _ _ _ _)
          have : Pw_211.rt xr = Pn_110.rt xr := (by rw [ePw_211]; exact rw9_of _ (by decide))
          have : Pw_211.ra xr = Pn_110.ra xr := (by rw [ePw_211]; exact rw9_of _ (by decide))
          have : Pw_211.rb xr = Pn_110.rb xr := (by rw [ePw_211]; exact rw9_of _ (by decide))
          have : Pw_211.rA xr = Pn_110.rA xr := (by rw [ePw_211]; exact rw9_of _ (by decide))
          have : Pw_211.rB xr = Pn_110.rB xr := (by rw [ePw_211]; exact rw9_of _ (by decide))
          have : Pw_211.rg xr = Pn_110.rg xr := (by rw [ePw_211]; exact rw9_of _ (by decide))
          have : Pw_211.ek xr = Pn_110.ek xr := (by rw [ePw_211]; rfl)
          have hW_214 : RW1 xr Pn_110 Pw_211 := wPw_211
          have hrw_217 : RWD Pn_110 Pw_211 := hW_214.rwd (Or.inl hq_122.2)
          have hak_216 : GLR Ln_109 Pw_211 cO cI cZ sx_ed := hu_119.2.1.row hW_214 hq_122.2 (ROKR.of (by omega) (by omega) (by omega) (by omega) (by omega) (by omega) (by omega) (OPQ.uaR (hoq9.to (by omega) (by omega))) (ubZR (by omega))) (fun e9 => by have q9 := hu_119.2.1.op21 hq_122.1 hq_122.2 e9; omega)
          have hke_215 : KEG [] Ln_109 Pn_110 Ln_109 Pw_211 := hrw_217.kegR _ hq_121.2
          have hq_218 : HID (la ∈ Ln_109 ∧ Pw_211.kd la = 30) := hke_215.mem hq_121.1 hq_121.2 (by decide)
          have hq_219 : HID (xr ∈ Ln_109 ∧ Pw_211.kd xr = 17) := hke_215.mem hq_122.1 hq_122.2 (by decide)
          have hE_220 : HID (Pw_211.ek xr ≠ 1) := (by rw [hke_215.ek hq_122.1 hq_122.2 (by decide)]; exact hE_123.out)
          have hA_221 : KEG [] L P Ln_109 Pw_211 := hA_124.trans hke_215
          have : Pw_211.lz la = Pn_110.lz la := hrw_217.lz hq_121.2
          have : Pw_211.cap la = Pn_110.cap la := hW_214.cap la
          have hek_222 : HID (Pw_211.ek la = 12) := (by rw [hke_215.ek hq_121.1 hq_121.2 (by decide)]; exact hek_125.out)
          have how_223 : HID (Pw_211.ow la = la) := ((hke_215.1 la hq_121.1 (by rw [hq_121.2]; decide)).2.2.2.1 hq_121.2 how_126.out).1
          have hcz := (((hke_215.1 la hq_121.1 (by rw [hq_121.2]; decide)).2.2.2.1 hq_121.2 how_126.out).2 (by simp)).1
          have hX_tx := hX_tx.rw1R hW_214 (Or.inl hq_122.2)
          have hcx_224 : CHG (fun z => z = xr) L P Ln_109 Pw_211 := hcx_127.trans (hW_214.chg _) (fun z m q => q)
          refine lv_aload_n hx hb dX16_row_90 rfl (lv_at hl 1 rfl) ?_
          have hr7 := (hak_216.rokR hq_219.1 hq_219.2).n7
          obtain ⟨kp_225, hkp_225⟩ := va_pl_get (X := [(h0, .inr (14, [.ref q_t, .int (zI (z16_n)), .int (zI (z0_103)), .int (zI (z1_104)), .int (zI (z2_105)), .int (zI (z3_106)), .int (zI (z4_107)), .ref sa_RX16_9, v16_8, v16_9, v16_10, v16_11, v16_12, v16_13])), (q_t, .inl (cT, 8192, .inl (fun j : Nat => zI (a_t (j : Int)))))]) (f := pE Pw_211) hq_219.1
          rw [pE_row hq_219.2] at hkp_225
          refine va_get (D := (dC, dI)) (ci := 21) (v := .int (zI (Pw_211.ro xr))) (C := RX17) (T := TX17) (N := 7) hx hb hts mem_X16_rowR_2 hown hK hP kp_225 hkp_225 rfl 0 (by decide) (ow (k := 15) rfl) (fun _ h9 => h9) rfl dX16_row_91 ?_
          refine lv_if_ne (tgt := 98) hx hb dX16_row_94 (by decide) (fun b94 => ?_) (fun b94 => ?_)
          · have yb94 : ¬ (Pw_211.ro xr : Int) = (0 : Int) := fun q => b94 ((zI_eq (a := Pw_211.ro xr) (b := 0) (by omega) (by omega) (by omega) (by omega)).mpr q)
            have hno9 := TKQ.is htk_118 (Or.inl (by omega))
            refine lv_aload_n hx hb dX16_row_98 rfl (lv_at hl 0 rfl) ?_
            have hPc := hP.part (X := [(h0, .inr (14, [.ref q_t, .int (zI (z16_n)), .int (zI (z0_103)), .int (zI (z1_104)), .int (zI (z2_105)), .int (zI (z3_106)), .int (zI (z4_107)), .ref sa_RX16_9, v16_8, v16_9, v16_10, v16_11, v16_12, v16_13])), (q_t, .inl (cT, 8192, .inl (fun j : Nat => zI (a_t (j : Int)))))]) (cx := [(h0, .inr (14, [.ref q_t, .int (zI (z16_n)), .int (zI (z0_103)), .int (zI (z1_104)), .int (zI (z2_105)), .int (zI (z3_106)), .int (zI (z4_107)), .ref sa_RX16_9, v16_8, v16_9, v16_10, v16_11, v16_12, v16_13])), (q_t, .inl (cT, 8192, .inl (fun j : Nat => zI (a_t (j : Int)))))]) (pl := va_pl Ln_109 (pE Pw_211)) [0, 1] rfl
            have hDc := hD.part (X := [(h0, .inr (14, [.ref q_t, .int (zI (z16_n)), .int (zI (z0_103)), .int (zI (z1_104)), .int (zI (z2_105)), .int (zI (z3_106)), .int (zI (z4_107)), .ref sa_RX16_9, v16_8, v16_9, v16_10, v16_11, v16_12, v16_13])), (q_t, .inl (cT, 8192, .inl (fun j : Nat => zI (a_t (j : Int)))))]) (cx := [(h0, .inr (14, [.ref q_t, .int (zI (z16_n)), .int (zI (z0_103)), .int (zI (z1_104)), .int (zI (z2_105)), .int (zI (z3_106)), .int (zI (z4_107)), .ref sa_RX16_9, v16_8, v16_9, v16_10, v16_11, v16_12, v16_13])), (q_t, .inl (cT, 8192, .inl (fun j : Nat => zI (a_t (j : Int)))))]) (pl := va_pl Ln_109 (pE Pw_211)) [0, 1] (by decide) rfl
            have hKc := hK.sub (tys' := [(cT, .byte)]) [0] rfl
            have hFc := va_freeP (X := [(h0, .inr (14, [.ref q_t, .int (zI (z16_n)), .int (zI (z0_103)), .int (zI (z1_104)), .int (zI (z2_105)), .int (zI (z3_106)), .int (zI (z4_107)), .ref sa_RX16_9, v16_8, v16_9, v16_10, v16_11, v16_12, v16_13])), (q_t, .inl (cT, 8192, .inl (fun j : Nat => zI (a_t (j : Int)))))]) (cx := [(h0, .inr (14, [.ref q_t, .int (zI (z16_n)), .int (zI (z0_103)), .int (zI (z1_104)), .int (zI (z2_105)), .int (zI (z3_106)), .int (zI (z4_107)), .ref sa_RX16_9, v16_8, v16_9, v16_10, v16_11, v16_12, v16_13])), (q_t, .inl (cT, 8192, .inl (fun j : Nat => zI (a_t (j : Int)))))]) (pl := va_pl Ln_109 (pE Pw_211)) hD hS hA [0, 1] rfl
            refine W_knowS (fun hrmA => ?_)
            refine va_callv (va_runV (As := []) (rest := []) ⟨hx, hb, hml, hown, hts⟩ (c_X16_nextK l dC dI h0 z16_n z0_103 z1_104 z2_105 z3_106 z4_107 (.ref sa_RX16_9) v16_8 v16_9 v16_10 v16_11 v16_12 v16_13 q_t cT a_t Ln_109 Pw_211 sa_RX16_9 (by omega) (by omega) (by omega) (by omega) (by omega) (by omega) hR_a_t (by omega) H.size sa_RX16_9 H sv_RX16_9 sa_RX16_119 sv_RX16_119 sa_RX16_100 sv_RX16_100 sa_RX16_117 sa_RX16_100 sv_RX16_117 sa_RX16_98 sv_RX16_98) (cwV 0 hts g_X16_rowR_X16_nextK rfl rfl rfl (by decide +kernel) ⟨(Nat.le_of_ble_eq_true rfl), (Nat.le_of_ble_eq_true rfl)⟩) ⟨fun a U g mk q => by obtain ⟨q0, q1, qP, qK, qD, e0, e1, e2, e3, e4, e5, e6, e7, e8, e9, e10, e11, e12⟩ := q; exact ⟨q0, q1, qP, va_K.moved (u := U) (U := U.calling g mk a) (Vm.Alike.refl U.vm) qK, qD, vk_R.same (u := U) (U := U.calling g mk a) rfl e0, e1, va_Z.moved (u := U) (U := U.calling g mk a) (Vm.Alike.refl U.vm) e2, vs_S.moved (u := U) (U := U.calling g mk a) (Vm.Alike.refl U.vm) e3, va_Nw.same rfl (u := U) (U := U.calling g mk a) rfl e4, vk_R.same (u := U) (U := U.calling g mk a) rfl e5, vs_S.moved (u := U) (U := U.calling g mk a) (Vm.Alike.refl U.vm) e6, vs_S.moved (u := U) (U := U.calling g mk a) (Vm.Alike.refl U.vm) e7, vk_R.same (u := U) (U := U.calling g mk a) rfl e8, vk_R.same (u := U) (U := U.calling g mk a) rfl e9, vs_S.moved (u := U) (U := U.calling g mk a) (Vm.Alike.refl U.vm) e10, vk_R.same (u := U) (U := U.calling g mk a) rfl e11, vs_S.moved (u := U) (U := U.calling g mk a) (Vm.Alike.refl U.vm) e12⟩, va_recv hKc hPc (ci := 14) (q0 := 0) rfl rfl, fun U hU hW => ⟨rfl, by rw [hU], by rw [hU]; exact hPc, va_K.moved hW.alike hKc, hDc.weaken (fun _ _ _ _ => trivial), vk_R.warm hW hp4, hU, va_Z.go hp3 hS hFc hU hW.alike, vs_S.go hp2 hS hFc hU hW.alike, va_Nw.warmC hW hp5, vk_R.warm hW hp6, vs_S.go hp7 hS hFc hU hW.alike, vs_S.go hp8 hS hFc hU hW.alike, vk_R.warm hW hp9, vk_R.warm hW hp10, vs_S.go hp11 hS hFc hU hW.alike, vk_R.warm hW hp12, vs_S.go hp13 hS hFc hU hW.alike⟩⟩ rfl rfl hl.1 rfl (lv_room (Nat.le_of_ble_eq_true rfl)) dX16_row_99 ⟨(show ((((0 + kc_19) + kc_72) + kc_111) + ((5 + ((0 : Int) + 2) / 9).toNat)) + ((z16_n - z0_103 + 20).toNat) ≤ (8 * (z16_n - z16_place) + 120).toNat from (rmT (by omega) (by omega))), (show ((((0 + ks_20) + ks_73) + ks_112) + ((5 * (0 : Int) + 40).toNat)) + ((10 * (z16_n - z0_103) + 120).toNat) ≤ (40 * (z16_n - z16_place) + 500).toNat from (rmT (by omega) (by omega)))⟩) hS (fun q _ h => hFc q h) hFc (fun  u t H1 locs ht hvm hw hB hz1 hk1 hS => ?_)
            obtain ⟨z0_226, z1_227, z2_228, z3_229, z4_230, q5_231, Ln_232, Pn_233, kc_234, ks_235, hxt_235, hP1, hK1, hD1⟩ := hB
            rw [ht] at hP1
            have hK1 := va_K.moved hvm.symm hK1
            obtain ⟨hP, hD⟩ := va_joinP (X := [(h0, .inr (14, [.ref q_t, .int (zI (z16_n)), .int (zI (z0_103)), .int (zI (z1_104)), .int (zI (z2_105)), .int (zI (z3_106)), .int (zI (z4_107)), .ref sa_RX16_9, v16_8, v16_9, v16_10, v16_11, v16_12, v16_13])), (q_t, .inl (cT, 8192, .inl (fun j : Nat => zI (a_t (j : Int)))))]) (cx := [(h0, .inr (14, [.ref q_t, .int (zI (z16_n)), .int (zI (z0_103)), .int (zI (z1_104)), .int (zI (z2_105)), .int (zI (z3_106)), .int (zI (z4_107)), .ref sa_RX16_9, v16_8, v16_9, v16_10, v16_11, v16_12, v16_13])), (q_t, .inl (cT, 8192, .inl (fun j : Nat => zI (a_t (j : Int)))))]) (wr := []) (rx := [(h0, .inr (14, [.ref q_t, .int (zI (z16_n)), .int (zI (z0_226)), .int (zI (z1_227)), .int (zI (z2_228)), .int (zI (z3_229)), .int (zI (z4_230)), .ref q5_231, v16_8, v16_9, v16_10, v16_11, v16_12, v16_13])), (q_t, .inl (cT, 8192, .inl (fun j : Nat => zI (a_t (j : Int)))))]) (pl := va_pl Ln_109 (pE Pw_211)) (pl1 := va_pl Ln_232 (pE Pn_233)) hP hD [0, 1] [] rfl rfl (by decide) (by decide) hk1 hFc hP1 hD1
            have hK := (hK.sub (tys' := [(cO, .object "java/lang/Object"), (cI, .int), (cZ, .boolean)]) [1, 2, 3] rfl).app hK1
            have hrmC := hxt_235.1.1
            rw [ht] at hrmC
            refine W_tightS (hrmA.trans hrmC) ?_
            have hrb := hxt_235.1.2
            generalize H1 = H at hP hS ⊢
            have hP : va_P (dC, dI) vwQ ([(h0, .inr (14, [.ref q_t, .int (zI (z16_n)), .int (zI (z0_226)), .int (zI (z1_227)), .int (zI (z2_228)), .int (zI (z3_229)), .int (zI (z4_230)), .ref q5_231, v16_8, v16_9, v16_10, v16_11, v16_12, v16_13])), (q_t, .inl (cT, 8192, .inl (fun j : Nat => zI (a_t (j : Int)))))] ++ va_pl Ln_232 (pE Pn_233)) H := hP
            have hD : va_D A ([(h0, .inr (14, [.ref q_t, .int (zI (z16_n)), .int (zI (z0_226)), .int (zI (z1_227)), .int (zI (z2_228)), .int (zI (z3_229)), .int (zI (z4_230)), .ref q5_231, v16_8, v16_9, v16_10, v16_11, v16_12, v16_13])), (q_t, .inl (cT, 8192, .inl (fun j : Nat => zI (a_t (j : Int)))))] ++ va_pl Ln_232 (pE Pn_233)) := hD
            have hK : va_K (dC, dI) vwQ [(cO, .object "java/lang/Object"), (cI, .int), (cZ, .boolean), (cT, .byte)] s := hK
            refine W.widen (k := (((((0 + kc_19) + kc_72) + kc_111) + ((5 + ((0 : Int) + 2) / 9).toNat)) + kc_234)) (n := (((((0 + ks_20) + ks_73) + ks_112) + ((5 * (0 : Int) + 40).toNat)) + ks_235)) (by omega) (by omega) ?_
            obtain ⟨rk_236, rk_237, rk_238, rk_239, rk_240, hu_240⟩ := hxt_235.2
            have htk_241 := hu_240.1.2
            have hrg_241 := hu_240.1.1
            have htq_241 := htk_241.1
            have hgo9 := hkd_120.go (by omega)
            have hkd_246 := hu_240.2.1
            have hX_kv := hkd_246.2
            have hu_242 := hu_240.2.2
            have hex_243 : EXT9 Ln_109 Pw_211 Ln_232 Pn_233 := hu_242.1
            have hke_244 : KEG [] Ln_109 Pw_211 Ln_232 Pn_233 := hex_243.kegR hak_216
            have hak_245 : GLR Ln_232 Pn_233 cO cI cZ sx_ed := hak_216.txt hex_243 hu_242.2.1
            have hsm_247 := (hex_243 xr hq_219.1).2
            have : Pn_233.ro xr = Pw_211.ro xr := hsm_247.1 0
            have : Pn_233.rt xr = Pw_211.rt xr := hsm_247.1 1
            have : Pn_233.ra xr = Pw_211.ra xr := hsm_247.1 2
            have : Pn_233.rb xr = Pw_211.rb xr := hsm_247.1 3
            have : Pn_233.rA xr = Pw_211.rA xr := hsm_247.1 4
            have : Pn_233.rB xr = Pw_211.rB xr := hsm_247.1 5
            have : Pn_233.rg xr = Pw_211.rg xr := hsm_247.1 6
            have : Pn_233.ek xr = Pw_211.ek xr := hsm_247.2.1 8
            have hq_248 : HID (la ∈ Ln_232 ∧ Pn_233.kd la = 30) := hke_244.mem hq_218.1 hq_218.2 (by decide)
            have hq_249 : HID (xr ∈ Ln_232 ∧ Pn_233.kd xr = 17) := hke_244.mem hq_219.1 hq_219.2 (by decide)
            have hE_250 : HID (Pn_233.ek xr ≠ 1) := (by rw [hke_244.ek hq_219.1 hq_219.2 (by decide)]; exact hE_220.out)
            have hA_251 : KEG [] L P Ln_232 Pn_233 := hA_221.trans hke_244
            have : Pn_233.lz la = Pw_211.lz la := (hex_243 la hq_218.1).2.1 0
            have hek_252 : HID (Pn_233.ek la = 12) := (by rw [hke_244.ek hq_218.1 hq_218.2 (by decide)]; exact hek_222.out)
            have how_253 : HID (Pn_233.ow la = la) := ((hke_244.1 la hq_218.1 (by rw [hq_218.2]; decide)).2.2.2.1 hq_218.2 how_223.out).1
            have hcz := (((hke_244.1 la hq_218.1 (by rw [hq_218.2]; decide)).2.2.2.1 hq_218.2 how_223.out).2 (by simp)).1
            have hX_tx := hu_242.2.2.1
            have hxk9 := hu_242.2.2.2
            have hcx_254 : CHG (fun z => z = xr) L P Ln_232 Pn_233 := hcx_224.trans hex_243.chg (fun z m q => q.elim)
            have hnn_241 := TKV.nn (k := z1_227) (d := z0_226 - z2_228) (by omega)
            have hri_255 : (((((((0 + ks_20) + ks_73) + ks_112) + ((5 * (0 : Int) + 40).toNat)) + ks_235) : Nat) : Int) ≤ 40 * (z2_228 - z16_place) - TKV z16_kind (z16_at - z16_place) + TKV (z1_227) (z0_226 - z2_228) + 10 ∧ (((((((0 + kc_19) + kc_72) + kc_111) + ((5 + ((0 : Int) + 2) / 9).toNat)) + kc_234) : Nat) : Int) ≤ 8 * (z2_228 - z16_place) - TKW z16_kind (z16_at - z16_place) + TKW (z1_227) (z0_226 - z2_228) - 9 := (by omega)
            clear hrb hri_128
            skip
            refine lv_aload_n hx hb dX16_row_102 rfl (lv_at hl 0 rfl) ?_
            refine lv_aload_n hx hb dX16_row_103 rfl (lv_at hl 1 rfl) ?_
            refine lv_iconst (v := 1) hx hb dX16_row_104 (by decide) ?_
            have hX_tn := htk_241
            have hX_g := hak_245
            have hX_x := hq_249.1
            have hX_k := hq_249.2
            have hX_la := (show la ∈ Ln_232 ∧ Pn_233.kd la = 30 ∧ Pn_233.ek la = 12 ∧ Pn_233.ow la = la from ⟨hq_248.1, hq_248.2, hek_252.out, how_253.out⟩)
            have hPc := hP.part (X := [(h0, .inr (14, [.ref q_t, .int (zI (z16_n)), .int (zI (z0_226)), .int (zI (z1_227)), .int (zI (z2_228)), .int (zI (z3_229)), .int (zI (z4_230)), .ref q5_231, v16_8, v16_9, v16_10, v16_11, v16_12, v16_13])), (q_t, .inl (cT, 8192, .inl (fun j : Nat => zI (a_t (j : Int)))))]) (cx := [(h0, .inr (14, [.ref q_t, .int (zI (z16_n)), .int (zI (z0_226)), .int (zI (z1_227)), .int (zI (z2_228)), .int (zI (z3_229)), .int (zI (z4_230)), .ref q5_231, v16_8, v16_9, v16_10, v16_11, v16_12, v16_13])), (q_t, .inl (cT, 8192, .inl (fun j : Nat => zI (a_t (j : Int)))))]) (pl := va_pl Ln_232 (pE Pn_233)) [0, 1] rfl
            have hDc := hD.part (X := [(h0, .inr (14, [.ref q_t, .int (zI (z16_n)), .int (zI (z0_226)), .int (zI (z1_227)), .int (zI (z2_228)), .int (zI (z3_229)), .int (zI (z4_230)), .ref q5_231, v16_8, v16_9, v16_10, v16_11, v16_12, v16_13])), (q_t, .inl (cT, 8192, .inl (fun j : Nat => zI (a_t (j : Int)))))]) (cx := [(h0, .inr (14, [.ref q_t, .int (zI (z16_n)), .int (zI (z0_226)), .int (zI (z1_227)), .int (zI (z2_228)), .int (zI (z3_229)), .int (zI (z4_230)), .ref q5_231, v16_8, v16_9, v16_10, v16_11, v16_12, v16_13])), (q_t, .inl (cT, 8192, .inl (fun j : Nat => zI (a_t (j : Int)))))]) (pl := va_pl Ln_232 (pE Pn_233)) [0, 1] (by decide) rfl
            have hKc := hK.sub (tys' := [(cT, .byte), (cO, .object "java/lang/Object"), (cI, .int), (cZ, .boolean)]) [3, 0, 1, 2] rfl
            have hFc := va_freeP (X := [(h0, .inr (14, [.ref q_t, .int (zI (z16_n)), .int (zI (z0_226)), .int (zI (z1_227)), .int (zI (z2_228)), .int (zI (z3_229)), .int (zI (z4_230)), .ref q5_231, v16_8, v16_9, v16_10, v16_11, v16_12, v16_13])), (q_t, .inl (cT, 8192, .inl (fun j : Nat => zI (a_t (j : Int)))))]) (cx := [(h0, .inr (14, [.ref q_t, .int (zI (z16_n)), .int (zI (z0_226)), .int (zI (z1_227)), .int (zI (z2_228)), .int (zI (z3_229)), .int (zI (z4_230)), .ref q5_231, v16_8, v16_9, v16_10, v16_11, v16_12, v16_13])), (q_t, .inl (cT, 8192, .inl (fun j : Nat => zI (a_t (j : Int)))))]) (pl := va_pl Ln_232 (pE Pn_233)) hD hS hA [0, 1] rfl
            refine W_knowS (fun hrmA => ?_)
            refine vx_callv (vx_runV (As := [.ref xr, .int 1]) (rest := []) ⟨hx, hb, hml, hown, hts⟩ (c_X16_opBR l dC dI cI cZ h0 z16_n z0_226 z1_227 z2_228 z3_229 z4_230 v16_8 v16_9 v16_10 v16_11 v16_12 v16_13 q_t cT a_t q5_231 Ln_232 Pn_233 sa_RX16_9 cO la sx_ed xr (by omega) (by omega) (by omega) (by omega) (by omega) (by omega) hR_a_t hX_g hX_la hX_x hX_k (by omega) hX_kv hX_tn H.size sv_RX16_9 sa_RX16_119 sv_RX16_119 sa_RX16_100 sv_RX16_100 sa_RX16_117 sv_RX16_117 sa_RX16_98 sv_RX16_98 H) (cwV 2 hts g_X16_rowR_X16_opBR rfl rfl rfl (by decide +kernel) ⟨(Nat.le_of_ble_eq_true rfl), (Nat.le_of_ble_eq_true rfl)⟩) ⟨fun a U g mk q => by obtain ⟨q0, q1, qP, qK, qD, e0, e1, e2, e3, e4, e5, e6, e7, e8, e9, e10, e11, e12, e13, e14⟩ := q; exact ⟨q0, q1, qP, va_K.moved (u := U) (U := U.calling g mk a) (Vm.Alike.refl U.vm) qK, qD, vk_R.same (u := U) (U := U.calling g mk a) rfl e0, va_Z.moved (u := U) (U := U.calling g mk a) (Vm.Alike.refl U.vm) e1, vs_S.moved (u := U) (U := U.calling g mk a) (Vm.Alike.refl U.vm) e2, va_Nw.same rfl (u := U) (U := U.calling g mk a) rfl e3, vk_R.same (u := U) (U := U.calling g mk a) rfl e4, vs_S.moved (u := U) (U := U.calling g mk a) (Vm.Alike.refl U.vm) e5, vs_S.moved (u := U) (U := U.calling g mk a) (Vm.Alike.refl U.vm) e6, vk_R.same (u := U) (U := U.calling g mk a) rfl e7, vk_R.same (u := U) (U := U.calling g mk a) rfl e8, vs_S.moved (u := U) (U := U.calling g mk a) (Vm.Alike.refl U.vm) e9, vk_R.same (u := U) (U := U.calling g mk a) rfl e10, vs_S.moved (u := U) (U := U.calling g mk a) (Vm.Alike.refl U.vm) e11, e12, vx_Zq.moved (u := U) (U := U.calling g mk a) (Vm.Alike.refl U.vm) e13, vx_Zq.moved (u := U) (U := U.calling g mk a) (Vm.Alike.refl U.vm) e14⟩, va_recv hKc hPc (ci := 14) (q0 := 0) rfl rfl, fun U hU hW => ⟨rfl, by rw [hU], by rw [hU]; exact hPc, va_K.moved hW.alike hKc, hDc.weaken (fun _ _ _ _ => trivial), vk_R.warm hW hp4, va_Z.go hp3 hS hFc hU hW.alike, vs_S.go hp2 hS hFc hU hW.alike, va_Nw.warmC hW hp5, vk_R.warm hW hp6, vs_S.go hp7 hS hFc hU hW.alike, vs_S.go hp8 hS hFc hU hW.alike, vk_R.warm hW hp9, vk_R.warm hW hp10, vs_S.go hp11 hS hFc hU hW.alike, vk_R.warm hW hp12, vs_S.go hp13 hS hFc hU hW.alike, hU, vx_Zq.go hp14 hS hFc hU hW.alike, vx_Zq.go hp15 hS hFc hU hW.alike⟩⟩ rfl rfl hl.1 rfl (lv_room (Nat.le_of_ble_eq_true rfl)) dX16_row_105 ⟨(show (((((0 + kc_19) + kc_72) + kc_111) + ((5 + ((0 : Int) + 2) / 9).toNat)) + kc_234) + ((z16_n - z0_226 + 20).toNat) ≤ (8 * (z16_n - z16_place) + 120).toNat from (rmT (by omega) (by omega))), (show (((((0 + ks_20) + ks_73) + ks_112) + ((5 * (0 : Int) + 40).toNat)) + ks_235) + ((10 * (z16_n - z0_226) + 120).toNat) ≤ (40 * (z16_n - z16_place) + 500).toNat from (rmT (by omega) (by omega)))⟩) hS (fun q _ h => hFc q h) hFc (fun q _ h => hFc q h) (fun E ce q9 u t H1 locs ht hvm _ hB hz1 hk1 hS hce hcv hcl => ?_) (fun  u t H1 locs ht hvm hw hB hz1 hk1 hS => ?_)
            · obtain ⟨rfl, zp_256, Ln_257, Pn_258, kc_259, ks_260, hxt_261, hP1, hD1⟩ := hB
              rw [ht] at hP1
              obtain ⟨hP, hD⟩ := va_joinP (X := [(h0, .inr (14, [.ref q_t, .int (zI (z16_n)), .int (zI (z0_226)), .int (zI (z1_227)), .int (zI (z2_228)), .int (zI (z3_229)), .int (zI (z4_230)), .ref q5_231, v16_8, v16_9, v16_10, v16_11, v16_12, v16_13])), (q_t, .inl (cT, 8192, .inl (fun j : Nat => zI (a_t (j : Int)))))]) (cx := [(h0, .inr (14, [.ref q_t, .int (zI (z16_n)), .int (zI (z0_226)), .int (zI (z1_227)), .int (zI (z2_228)), .int (zI (z3_229)), .int (zI (z4_230)), .ref q5_231, v16_8, v16_9, v16_10, v16_11, v16_12, v16_13])), (q_t, .inl (cT, 8192, .inl (fun j : Nat => zI (a_t (j : Int)))))]) (wr := []) (rx := [(q_t, .inl (cT, 8192, .inl (fun j : Nat => zI (a_t (j : Int))))), (q9, .inr (15, [.null, .null, .null, .null, .null, .int 0, .int (zI (zp_256))]))]) (pl := va_pl Ln_232 (pE Pn_233)) (pl1 := va_pl Ln_257 (pE Pn_258)) hP hD [0, 1] [] rfl rfl (by decide) (by decide) hk1 hFc hP1 hD1
              have hrmC := hxt_261.1.1
              rw [ht] at hrmC
              refine vx_tightS (hrmA.trans hrmC) ?_
              have hrb := hxt_261.1.2
              generalize H1 = H at hP hS hce ⊢
              have hP : va_P (dC, dI) vwQ ([(q_t, .inl (cT, 8192, .inl (fun j : Nat => zI (a_t (j : Int))))), (q9, .inr (15, [.null, .null, .null, .null, .null, .int 0, .int (zI (zp_256))]))] ++ va_pl Ln_257 (pE Pn_258)) H := hP
              have hD : va_D A ([(q_t, .inl (cT, 8192, .inl (fun j : Nat => zI (a_t (j : Int))))), (q9, .inr (15, [.null, .null, .null, .null, .null, .int 0, .int (zI (zp_256))]))] ++ va_pl Ln_257 (pE Pn_258)) := hD
              have hzp : 0 ≤ zp_256 ∧ zp_256 ≤ 8192 := hxt_261.2.1
              subst hQ
              refine vx_knowS (fun hrm9 => ?_)
              refine vx_widen (k := ((8 * (z16_n - z16_place) + 120).toNat)) (n := ((40 * (z16_n - z16_place) + 500).toNat)) (rmW (by omega)) (rmW (by omega)) ?_
              exact vx_out (fun x9 h9 => (hnt x9 h9).elim) hlocks hce hcv hcl (fun t ht hvm => ⟨(), trivial, ⟨rfl, zp_256, Ln_257, Pn_258, ((((((0 + kc_19) + kc_72) + kc_111) + ((5 + ((0 : Int) + 2) / 9).toNat)) + kc_234) + kc_259), ((((((0 + ks_20) + ks_73) + ks_112) + ((5 * (0 : Int) + 40).toNat)) + ks_235) + ks_260), ⟨⟨(by rw [ht, ← hp16]; exact hrm9), (by omega)⟩, ⟨(by omega), ⟨hA_251.trans hxt_261.2.2.1, hxt_261.2.2.2.1, (hcx_254.cpa hg00.owa (fun z _ q => by rw [show z = xr from q, hk00]; decide)).trans hA_251 hxt_261.2.2.2.2⟩⟩⟩, by rw [ht]; exact hP, hD⟩, hS.F ht⟩) hS.2.2 (Nat.le_refl _) (Nat.le_refl _)
            obtain ⟨z0_262, z1_263, z2_264, z3_265, z4_266, q5_267, Ln_268, Pn_269, kc_270, ks_271, hxt_271, hP1, hK1, hD1⟩ := hB
            rw [ht] at hP1
            have hK1 := va_K.moved hvm.symm hK1
            obtain ⟨hP, hD⟩ := va_joinP (X := [(h0, .inr (14, [.ref q_t, .int (zI (z16_n)), .int (zI (z0_226)), .int (zI (z1_227)), .int (zI (z2_228)), .int (zI (z3_229)), .int (zI (z4_230)), .ref q5_231, v16_8, v16_9, v16_10, v16_11, v16_12, v16_13])), (q_t, .inl (cT, 8192, .inl (fun j : Nat => zI (a_t (j : Int)))))]) (cx := [(h0, .inr (14, [.ref q_t, .int (zI (z16_n)), .int (zI (z0_226)), .int (zI (z1_227)), .int (zI (z2_228)), .int (zI (z3_229)), .int (zI (z4_230)), .ref q5_231, v16_8, v16_9, v16_10, v16_11, v16_12, v16_13])), (q_t, .inl (cT, 8192, .inl (fun j : Nat => zI (a_t (j : Int)))))]) (wr := []) (rx := [(h0, .inr (14, [.ref q_t, .int (zI (z16_n)), .int (zI (z0_262)), .int (zI (z1_263)), .int (zI (z2_264)), .int (zI (z3_265)), .int (zI (z4_266)), .ref q5_267, v16_8, v16_9, v16_10, v16_11, v16_12, v16_13])), (q_t, .inl (cT, 8192, .inl (fun j : Nat => zI (a_t (j : Int)))))]) (pl := va_pl Ln_232 (pE Pn_233)) (pl1 := va_pl Ln_268 (pE Pn_269)) hP hD [0, 1] [] rfl rfl (by decide) (by decide) hk1 hFc hP1 hD1
            have hK := (hK.sub (tys' := []) [] rfl).app hK1
            have hrmC := hxt_271.1.1
            rw [ht] at hrmC
            refine W_tightS (hrmA.trans hrmC) ?_
            have hrb := hxt_271.1.2
            generalize H1 = H at hP hS ⊢
            have hP : va_P (dC, dI) vwQ ([(h0, .inr (14, [.ref q_t, .int (zI (z16_n)), .int (zI (z0_262)), .int (zI (z1_263)), .int (zI (z2_264)), .int (zI (z3_265)), .int (zI (z4_266)), .ref q5_267, v16_8, v16_9, v16_10, v16_11, v16_12, v16_13])), (q_t, .inl (cT, 8192, .inl (fun j : Nat => zI (a_t (j : Int)))))] ++ va_pl Ln_268 (pE Pn_269)) H := hP
            have hD : va_D A ([(h0, .inr (14, [.ref q_t, .int (zI (z16_n)), .int (zI (z0_262)), .int (zI (z1_263)), .int (zI (z2_264)), .int (zI (z3_265)), .int (zI (z4_266)), .ref q5_267, v16_8, v16_9, v16_10, v16_11, v16_12, v16_13])), (q_t, .inl (cT, 8192, .inl (fun j : Nat => zI (a_t (j : Int)))))] ++ va_pl Ln_268 (pE Pn_269)) := hD
            have hK : va_K (dC, dI) vwQ [(cT, .byte), (cO, .object "java/lang/Object"), (cI, .int), (cZ, .boolean)] s := hK
            refine W.widen (k := ((((((0 + kc_19) + kc_72) + kc_111) + ((5 + ((0 : Int) + 2) / 9).toNat)) + kc_234) + kc_270)) (n := ((((((0 + ks_20) + ks_73) + ks_112) + ((5 * (0 : Int) + 40).toNat)) + ks_235) + ks_271)) (by omega) (by omega) ?_
            obtain ⟨rk_272, rk_273, rk_274, rk_275, rk_276, hu_276⟩ := hxt_271.2
            have htk_277 := hu_276.2.2.2.2.1.2
            have hrg_277 := hu_276.2.2.2.2.1.1
            have htq_277 := htk_277.1
            have hu_278 := HID.mk (hu_276)
            replace hu_276 := HID.mk hu_276
            replace hxt_271 := HID.mk hxt_271
            have hoc9 := hu_278.2.2.1.2
            have hoq9 : OPQ (Pn_269.rB xr) (Pn_269.rb xr) := hu_278.2.2.1.1
            have hgo9 := hkd_246.go (by omega)
            have hkd_279 := hu_278.2.2.2.2.2.1
            have hX_kv := hkd_279.2
            have hq_280 : HID (la ∈ Ln_268 ∧ Pn_269.kd la = 30) := hu_278.1.mem hq_248.1 hq_248.2 (by decide)
            have hq_281 : HID (xr ∈ Ln_268 ∧ Pn_269.kd xr = 17) := hu_278.1.mem hq_249.1 hq_249.2 (by decide)
            have hE_282 : HID (Pn_269.ek xr ≠ 1) := (by rw [hu_278.1.ek hq_249.1 hq_249.2 (by decide)]; exact hE_250.out)
            have hA_283 : KEG [] L P Ln_268 Pn_269 := hA_251.trans hu_278.1
            have : Pn_269.lz la = Pn_233.lz la := (hu_278.2.2.2.1 la hq_248.1 (fun e9 => absurd e9 (kd_ne hq_248.2 hq_249.2 (by decide)))).2.1 0
            have hek_284 : HID (Pn_269.ek la = 12) := (by rw [hu_278.1.ek hq_248.1 hq_248.2 (by decide)]; exact hek_252.out)
            have how_285 : HID (Pn_269.ow la = la) := ((hu_278.1.1 la hq_248.1 (by rw [hq_248.2]; decide)).2.2.2.1 hq_248.2 how_253.out).1
            have hcz := (((hu_278.1.1 la hq_248.1 (by rw [hq_248.2]; decide)).2.2.2.1 hq_248.2 how_253.out).2 (by simp)).1
            have hX_tx := hu_278.2.2.2.2.2.2.1
            have hxk9 := hu_278.2.2.2.2.2.2.2
            have hcx_286 : CHG (fun z => z = xr) L P Ln_268 Pn_269 := hcx_254.trans hu_278.2.2.2.1 (fun z m q => q)
            have hnn_277 := TKV.nn (k := z1_263) (d := z0_262 - z2_264) (by omega)
            have hri_287 : ((((((((0 + ks_20) + ks_73) + ks_112) + ((5 * (0 : Int) + 40).toNat)) + ks_235) + ks_271) : Nat) : Int) ≤ 40 * (z2_264 - z16_place) - TKV z16_kind (z16_at - z16_place) + TKV (z1_263) (z0_262 - z2_264) - 30 ∧ ((((((((0 + kc_19) + kc_72) + kc_111) + ((5 + ((0 : Int) + 2) / 9).toNat)) + kc_234) + kc_270) : Nat) : Int) ≤ 8 * (z2_264 - z16_place) - TKW z16_kind (z16_at - z16_place) + TKW (z1_263) (z0_262 - z2_264) - 17 := (by omega)
            clear hrb hri_255
            skip
            have hob9 := hoq9
            subst hQ
            refine W_knowS (fun hrm9 => ?_)
            refine W.widen (k := ((8 * (z16_n - z16_place) + 120).toNat)) (n := ((40 * (z16_n - z16_place) + 500).toNat)) (rmW (by omega)) (rmW (by omega)) ?_
            refine vx_ret ?_
            exact W.vret hx hb hr (fun t ht hW => ⟨⟨(), rfl, trivial, z0_262, z1_263, z2_264, z3_265, z4_266, q5_267, Ln_268, Pn_269, ((((((0 + kc_19) + kc_72) + kc_111) + ((5 + ((0 : Int) + 2) / 9).toNat)) + kc_234) + kc_270), ((((((0 + ks_20) + ks_73) + ks_112) + ((5 * (0 : Int) + 40).toNat)) + ks_235) + ks_271), ⟨⟨(by rw [ht, ← hp16]; exact hrm9), (by omega)⟩, ⟨(by omega), (by omega), (by omega), (by omega), (by omega), ⟨hA_283, hu_278.2.1, ⟨⟨(hkd_279.mono (by omega)).ms (by omega) (by omega) (by omega), by omega⟩, ⟨by omega, (by first | exact OPQ.z (by omega) | exact hoa9.to (by omega) (by omega)), (by first | exact OPQ.z (by omega) | exact hob9.to (by omega) (by omega))⟩⟩, hcx_286, ⟨⟨by omega, by omega, by omega⟩, htk_277⟩, hkd_279.mono (by omega), hX_tx⟩⟩⟩, by rw [ht]; exact hP, va_K.moved hW.alike hK, hD⟩, hS.F ht⟩) hS.2.2 dX16_row_108
          · have yb94 : (Pw_211.ro xr : Int) = (0 : Int) := (zI_eq (a := Pw_211.ro xr) (b := 0) (by omega) (by omega) (by omega) (by omega)).mp b94
            subst hQ
            refine W_knowS (fun hrm9 => ?_)
            refine W.widen (k := ((8 * (z16_n - z16_place) + 120).toNat)) (n := ((40 * (z16_n - z16_place) + 500).toNat)) (rmW (by omega)) (rmW (by omega)) ?_
            refine vx_ret ?_
            exact W.vret hx hb hr (fun t ht hW => ⟨⟨(), rfl, trivial, z0_103, z1_104, z2_105, z3_106, z4_107, sa_RX16_9, Ln_109, Pw_211, ((((0 + kc_19) + kc_72) + kc_111) + ((5 + ((0 : Int) + 2) / 9).toNat)), ((((0 + ks_20) + ks_73) + ks_112) + ((5 * (0 : Int) + 40).toNat)), ⟨⟨(by rw [ht, ← hp16]; exact hrm9), (by omega)⟩, ⟨(by omega), (by omega), (by omega), (by omega), (by omega), ⟨hA_221, hak_216, ⟨⟨(hkd_120.mono (by omega)).ms (by omega) (by omega) (by omega), by omega⟩, ⟨by omega, (by first | exact OPQ.z (by omega) | exact hoa9.to (by omega) (by omega)), (by first | exact OPQ.z (by omega) | exact hob9.to (by omega) (by omega))⟩⟩, hcx_224, ⟨⟨by omega, by omega, by omega⟩, htk_118⟩, hkd_120.mono (by omega), (Or.inl rfl)⟩⟩⟩, by rw [ht]; exact hP, va_K.moved hW.alike hK, hD⟩, hS.F ht⟩) hS.2.2 dX16_row_97
        · skip
          have hX_ts := hX_tx.resolve_left hxs
          have htn9 := hX_ts.2.2.2.2.2.1
          have hxk8 := hxk9 (by omega)
          have hX_tf : sb_Fit (fun j : Nat => zI (Pn_110.ia (Pn_110.le q5_108) (j : Int))) := az_fit hX_ts.2.2.2.2.2.2
          refine lv_aload_n hx hb dX16_row_76 rfl (lv_at hl 0 rfl) ?_
          refine va_get (D := (dC, dI)) (ci := 14) (v := .ref q5_108) (C := RX16) (T := TX16) (N := 14) hx hb hts mem_X16_rowR_5 hown hK hP 0 rfl rfl 7 (by decide) (ow (k := 19) rfl) (fun _ h9 => h9) rfl dX16_row_77 ?_
          have hPc := hP.sub (ws' := []) [] rfl
          have hDc := hD.sub (ws' := []) [] (by decide) rfl
          have hKc := hK.sub (tys' := []) [] rfl
          have hFc := va_free (wc := []) hD hS hA [] rfl
          refine va_calli (va_runSN (As := [.ref q5_108]) (rest := [.ref xr]) ⟨hx, hb, hml, hown, hts⟩ (c_X19_operation l dC dI q5_108 (Pn_110.le q5_108) (Pn_110.an (Pn_110.le q5_108)) ((fun j : Nat => zI (Pn_110.ia (Pn_110.le q5_108) (j : Int)))) hX_tf (by omega) H.size sa_RX19_3 sa_RX19_11 sv_RX19_11 sv_RX19_3 sx_fm) ⟨va_cnB 1 hts (goodIn_sub mem_X16_rowR_8 gw_X19_operation) rfl rfl rfl hp26 (ow (k := 20) rfl) (by decide +kernel) ⟨(Nat.le_of_ble_eq_true rfl), (Nat.le_of_ble_eq_true rfl)⟩, (ow (k := 21) rfl), trivial⟩ ⟨fun a U g mk q => by obtain ⟨q0, q1, qP, qK, qD, e0, e1, e2, e3, e4, e5, e6, e7⟩ := q; exact ⟨q0, q1, qP, va_K.moved (u := U) (U := U.calling g mk a) (Vm.Alike.refl U.vm) qK, qD, vk_R.same (u := U) (U := U.calling g mk a) rfl e0, va_Z.moved (u := U) (U := U.calling g mk a) (Vm.Alike.refl U.vm) e1, vk_R.same (u := U) (U := U.calling g mk a) rfl e2, vs_S.moved (u := U) (U := U.calling g mk a) (Vm.Alike.refl U.vm) e3, vs_S.moved (u := U) (U := U.calling g mk a) (Vm.Alike.refl U.vm) e4, va_Nw.same rfl (u := U) (U := U.calling g mk a) rfl e5, vs_S.moved (u := U) (U := U.calling g mk a) (Vm.Alike.refl U.vm) e6, va_Z.moved (u := U) (U := U.calling g mk a) (Vm.Alike.refl U.vm) e7⟩, fun U hU hW => ⟨rfl, by rw [hU], by rw [hU]; exact hPc, va_K.moved hW.alike hKc, hDc.weaken (fun _ _ _ _ => trivial), vk_R.warm hW hp21, va_Z.go hp3 hS hFc hU hW.alike, vk_R.warm hW hp22, vs_S.go hp23 hS hFc hU hW.alike, (by rw [hU]; exact vs_S.moved hW.alike (vs_ofP (ti := 0) hp1 hK hP hD rfl hX_ts rfl [] rfl (show ∀ i ∈ ([] : List Nat), i < 2 from by decide))), va_Nw.warmC hW hp5, vs_S.go hp24 hS hFc hU hW.alike, va_Z.go hp25 hS hFc hU hW.alike⟩⟩ rfl rfl hl.1 rfl (lv_room (Nat.le_of_ble_eq_true rfl)) dX16_row_80 ⟨(show (((0 + kc_19) + kc_72) + kc_111) + ((5 + ((Pn_110.an (Pn_110.le q5_108) : Int) + 2) / 9).toNat) ≤ (8 * (z16_n - z16_place) + 120).toNat from (rmT (by omega) (by omega))), (show (((0 + ks_20) + ks_73) + ks_112) + ((5 * (Pn_110.an (Pn_110.le q5_108) : Int) + 40).toNat) ≤ (40 * (z16_n - z16_place) + 500).toNat from (rmT (by omega) (by omega)))⟩) hS (fun q _ h => hFc q h) hFc (fun r_288 u t H1 locs ht hvm hw hB hz1 hk1 hS => ?_)
          obtain ⟨hP1, hK1, hD1⟩ := hB
          rw [ht] at hP1
          have hK1 := va_K.moved hvm.symm hK1
          obtain ⟨hP, hD⟩ := va_joinQ (X := [(h0, .inr (14, [.ref q_t, .int (zI (z16_n)), .int (zI (z0_103)), .int (zI (z1_104)), .int (zI (z2_105)), .int (zI (z3_106)), .int (zI (z4_107)), .ref q5_108, v16_8, v16_9, v16_10, v16_11, v16_12, v16_13])), (q_t, .inl (cT, 8192, .inl (fun j : Nat => zI (a_t (j : Int)))))]) (cx := []) (wr := [(h0, .inr (14, [.ref q_t, .int (zI (z16_n)), .int (zI (z0_103)), .int (zI (z1_104)), .int (zI (z2_105)), .int (zI (z3_106)), .int (zI (z4_107)), .ref q5_108, v16_8, v16_9, v16_10, v16_11, v16_12, v16_13])), (q_t, .inl (cT, 8192, .inl (fun j : Nat => zI (a_t (j : Int)))))]) (w1 := []) (pl := va_pl Ln_109 (pE Pn_110)) hP hD [] [0, 1] rfl rfl (by decide) (by decide) hk1 hFc hP1 hD1
          have hK := (hK.sub (tys' := [(cT, .byte), (cO, .object "java/lang/Object"), (cI, .int), (cZ, .boolean)]) [0, 1, 2, 3] rfl).app hK1
          generalize H1 = H at hP hS ⊢
          have hP : va_P (dC, dI) vwQ ([(h0, .inr (14, [.ref q_t, .int (zI (z16_n)), .int (zI (z0_103)), .int (zI (z1_104)), .int (zI (z2_105)), .int (zI (z3_106)), .int (zI (z4_107)), .ref q5_108, v16_8, v16_9, v16_10, v16_11, v16_12, v16_13])), (q_t, .inl (cT, 8192, .inl (fun j : Nat => zI (a_t (j : Int)))))] ++ va_pl Ln_109 (pE Pn_110)) H := hP
          have hD : va_D A ([(h0, .inr (14, [.ref q_t, .int (zI (z16_n)), .int (zI (z0_103)), .int (zI (z1_104)), .int (zI (z2_105)), .int (zI (z3_106)), .int (zI (z4_107)), .ref q5_108, v16_8, v16_9, v16_10, v16_11, v16_12, v16_13])), (q_t, .inl (cT, 8192, .inl (fun j : Nat => zI (a_t (j : Int)))))] ++ va_pl Ln_109 (pE Pn_110)) := hD
          have hK : va_K (dC, dI) vwQ [(cT, .byte), (cO, .object "java/lang/Object"), (cI, .int), (cZ, .boolean)] s := hK
          refine W.widen (k := ((((0 + kc_19) + kc_72) + kc_111) + ((5 + ((Pn_110.an (Pn_110.le q5_108) : Int) + 2) / 9).toNat))) (n := ((((0 + ks_20) + ks_73) + ks_112) + ((5 * (Pn_110.an (Pn_110.le q5_108) : Int) + 40).toNat))) (by omega) (by omega) ?_
          have hw_289 := hw
          obtain ⟨z_290, rfl, hzz_290⟩ := hw_289
          refine lv_goto (tgt := 87) hx hb dX16_row_83 (by decide) ?_
          have hr7 := (hu_119.2.1.rokR hq_122.1 hq_122.2).n7
          obtain ⟨kp_291, gkp_291⟩ := va_pl_get (X := [(h0, .inr (14, [.ref q_t, .int (zI (z16_n)), .int (zI (z0_103)), .int (zI (z1_104)), .int (zI (z2_105)), .int (zI (z3_106)), .int (zI (z4_107)), .ref q5_108, v16_8, v16_9, v16_10, v16_11, v16_12, v16_13])), (q_t, .inl (cT, 8192, .inl (fun j : Nat => zI (a_t (j : Int)))))]) (f := pE Pn_110) hq_122.1
          have hkp_291 := gkp_291
          rw [pE_row hq_122.2] at hkp_291
          have hD0 := hD
          refine va_put (D := (dC, dI)) (ci := 21) (v := .int (zI (z_290))) (ty := .int) (C := RX17) (T := TX17) (N := 7) hx hb hts mem_X16_rowR_2 tyX17 tyX17_ok nmX17 hown hK hP hD hS kp_291 hkp_291 rfl 0 (by decide) (ow (k := 15) rfl) (fun _ h9 => h9) rfl (by decide +kernel) rfl rfl (by first | exact Nat.le_of_ble_eq_true rfl | exact (show ((((0 + kc_19) + kc_72) + kc_111) + ((5 + ((Pn_110.an (Pn_110.le q5_108) : Int) + 2) / 9).toNat)) ≤ (8 * (z16_n - z16_place) + 120).toNat from (rmW (by omega))) | exact (show ((((0 + ks_20) + ks_73) + ks_112) + ((5 * (Pn_110.an (Pn_110.le q5_108) : Int) + 40).toNat)) ≤ (40 * (z16_n - z16_place) + 500).toNat from (rmW (by omega)))) dX16_row_87 (fun H locs hP hD hS => ?_)
          obtain ⟨Pw_292, ePw_292⟩ : ∃ q9 : PO, q9 = Pn_110.rw9 0 xr (z_290) := ⟨_, rfl⟩
          have eU : (([(h0, .inr (14, [.ref q_t, .int (zI (z16_n)), .int (zI (z0_103)), .int (zI (z1_104)), .int (zI (z2_105)), .int (zI (z3_106)), .int (zI (z4_107)), .ref q5_108, v16_8, v16_9, v16_10, v16_11, v16_12, v16_13])), (q_t, .inl (cT, 8192, .inl (fun j : Nat => zI (a_t (j : Int)))))] : va_W) ++ va_pl Ln_109 (pE Pn_110)).set kp_291 (xr, rowE (z_290) (Pn_110.rt xr) (Pn_110.ra xr) (Pn_110.rb xr) (Pn_110.rA xr) (Pn_110.rB xr) (Pn_110.rg xr)) = ([(h0, .inr (14, [.ref q_t, .int (zI (z16_n)), .int (zI (z0_103)), .int (zI (z1_104)), .int (zI (z2_105)), .int (zI (z3_106)), .int (zI (z4_107)), .ref q5_108, v16_8, v16_9, v16_10, v16_11, v16_12, v16_13])), (q_t, .inl (cT, 8192, .inl (fun j : Nat => zI (a_t (j : Int)))))] : va_W) ++ va_pl Ln_109 (pE Pw_292) := (by rw [va_pl_set hD0 hq_122.1 gkp_291, ePw_292]; exact congrArg (fun f9 => ([(h0, .inr (14, [.ref q_t, .int (zI (z16_n)), .int (zI (z0_103)), .int (zI (z1_104)), .int (zI (z2_105)), .int (zI (z3_106)), .int (zI (z4_107)), .ref q5_108, v16_8, v16_9, v16_10, v16_11, v16_12, v16_13])), (q_t, .inl (cT, 8192, .inl (fun j : Nat => zI (a_t (j : Int)))))] : va_W) ++ va_pl Ln_109 f9) (put17_0 hq_122.2))
          have hP : va_P (dC, dI) vwQ ([(h0, .inr (14, [.ref q_t, .int (zI (z16_n)), .int (zI (z0_103)), .int (zI (z1_104)), .int (zI (z2_105)), .int (zI (z3_106)), .int (zI (z4_107)), .ref q5_108, v16_8, v16_9, v16_10, v16_11, v16_12, v16_13])), (q_t, .inl (cT, 8192, .inl (fun j : Nat => zI (a_t (j : Int)))))] ++ va_pl Ln_109 (pE Pw_292)) H := (by rw [← eU]; exact hP)
          have hD : va_D A ([(h0, .inr (14, [.ref q_t, .int (zI (z16_n)), .int (zI (z0_103)), .int (zI (z1_104)), .int (zI (z2_105)), .int (zI (z3_106)), .int (zI (z4_107)), .ref q5_108, v16_8, v16_9, v16_10, v16_11, v16_12, v16_13])), (q_t, .inl (cT, 8192, .inl (fun j : Nat => zI (a_t (j : Int)))))] ++ va_pl Ln_109 (pE Pw_292)) := (by rw [← eU]; exact hD)
          clear eU hD0 gkp_291 hkp_291
          have wPw_292 : RW1 xr Pn_110 Pw_292 := (by rw [ePw_292]; exact RW1.put _ _ _ _)
          have hy_293 : Pw_292.kd la = 30 := (by rw [ePw_292]; exact hq_121.2)
          have hy_294 : Pw_292.kd xr = 17 := (by rw [ePw_292]; exact hq_122.2)
          have : Pw_292.ro xr = z_290 := (by rw [ePw_292]; exact rw9_at _ _ _ _)
          have : Pw_292.rt xr = Pn_110.rt xr := (by rw [ePw_292]; exact rw9_of _ (by decide))
          have : Pw_292.ra xr = Pn_110.ra xr := (by rw [ePw_292]; exact rw9_of _ (by decide))
          have : Pw_292.rb xr = Pn_110.rb xr := (by rw [ePw_292]; exact rw9_of _ (by decide))
          have : Pw_292.rA xr = Pn_110.rA xr := (by rw [ePw_292]; exact rw9_of _ (by decide))
          have : Pw_292.rB xr = Pn_110.rB xr := (by rw [ePw_292]; exact rw9_of _ (by decide))
          have : Pw_292.rg xr = Pn_110.rg xr := (by rw [ePw_292]; exact rw9_of _ (by decide))
          have : Pw_292.ek xr = Pn_110.ek xr := (by rw [ePw_292]; rfl)
          have hW_295 : RW1 xr Pn_110 Pw_292 := wPw_292
          have hrw_298 : RWD Pn_110 Pw_292 := hW_295.rwd (Or.inl hq_122.2)
          have hak_297 : GLR Ln_109 Pw_292 cO cI cZ sx_ed := hu_119.2.1.row hW_295 hq_122.2 (ROKR.of (by omega) (by omega) (by omega) (by omega) (by omega) (by omega) (by omega) (OPQ.uaR (hoq9.to (by omega) (by omega))) (ubZR (by omega))) (fun e9 => by have q9 := hu_119.2.1.op21 hq_122.1 hq_122.2 e9; omega)
          have hke_296 : KEG [] Ln_109 Pn_110 Ln_109 Pw_292 := hrw_298.kegR _ hq_121.2
          have hq_299 : HID (la ∈ Ln_109 ∧ Pw_292.kd la = 30) := hke_296.mem hq_121.1 hq_121.2 (by decide)
          have hq_300 : HID (xr ∈ Ln_109 ∧ Pw_292.kd xr = 17) := hke_296.mem hq_122.1 hq_122.2 (by decide)
          have hE_301 : HID (Pw_292.ek xr ≠ 1) := (by rw [hke_296.ek hq_122.1 hq_122.2 (by decide)]; exact hE_123.out)
          have hA_302 : KEG [] L P Ln_109 Pw_292 := hA_124.trans hke_296
          have : Pw_292.lz la = Pn_110.lz la := hrw_298.lz hq_121.2
          have : Pw_292.cap la = Pn_110.cap la := hW_295.cap la
          have hek_303 : HID (Pw_292.ek la = 12) := (by rw [hke_296.ek hq_121.1 hq_121.2 (by decide)]; exact hek_125.out)
          have how_304 : HID (Pw_292.ow la = la) := ((hke_296.1 la hq_121.1 (by rw [hq_121.2]; decide)).2.2.2.1 hq_121.2 how_126.out).1
          have hcz := (((hke_296.1 la hq_121.1 (by rw [hq_121.2]; decide)).2.2.2.1 hq_121.2 how_126.out).2 (by simp)).1
          have hX_tx := hX_tx.rw1R hW_295 (Or.inl hq_122.2)
          have hcx_305 : CHG (fun z => z = xr) L P Ln_109 Pw_292 := hcx_127.trans (hW_295.chg _) (fun z m q => q)
          refine lv_aload_n hx hb dX16_row_90 rfl (lv_at hl 1 rfl) ?_
          have hr7 := (hak_297.rokR hq_300.1 hq_300.2).n7
          obtain ⟨kp_306, hkp_306⟩ := va_pl_get (X := [(h0, .inr (14, [.ref q_t, .int (zI (z16_n)), .int (zI (z0_103)), .int (zI (z1_104)), .int (zI (z2_105)), .int (zI (z3_106)), .int (zI (z4_107)), .ref q5_108, v16_8, v16_9, v16_10, v16_11, v16_12, v16_13])), (q_t, .inl (cT, 8192, .inl (fun j : Nat => zI (a_t (j : Int)))))]) (f := pE Pw_292) hq_300.1
          rw [pE_row hq_300.2] at hkp_306
          refine va_get (D := (dC, dI)) (ci := 21) (v := .int (zI (Pw_292.ro xr))) (C := RX17) (T := TX17) (N := 7) hx hb hts mem_X16_rowR_2 hown hK hP kp_306 hkp_306 rfl 0 (by decide) (ow (k := 15) rfl) (fun _ h9 => h9) rfl dX16_row_91 ?_
          refine lv_if_ne (tgt := 98) hx hb dX16_row_94 (by decide) (fun b94 => ?_) (fun b94 => ?_)
          · have yb94 : ¬ (Pw_292.ro xr : Int) = (0 : Int) := fun q => b94 ((zI_eq (a := Pw_292.ro xr) (b := 0) (by omega) (by omega) (by omega) (by omega)).mpr q)
            have hno9 := TKQ.is htk_118 (Or.inl (by omega))
            refine lv_aload_n hx hb dX16_row_98 rfl (lv_at hl 0 rfl) ?_
            have hPc := hP.part (X := [(h0, .inr (14, [.ref q_t, .int (zI (z16_n)), .int (zI (z0_103)), .int (zI (z1_104)), .int (zI (z2_105)), .int (zI (z3_106)), .int (zI (z4_107)), .ref q5_108, v16_8, v16_9, v16_10, v16_11, v16_12, v16_13])), (q_t, .inl (cT, 8192, .inl (fun j : Nat => zI (a_t (j : Int)))))]) (cx := [(h0, .inr (14, [.ref q_t, .int (zI (z16_n)), .int (zI (z0_103)), .int (zI (z1_104)), .int (zI (z2_105)), .int (zI (z3_106)), .int (zI (z4_107)), .ref q5_108, v16_8, v16_9, v16_10, v16_11, v16_12, v16_13])), (q_t, .inl (cT, 8192, .inl (fun j : Nat => zI (a_t (j : Int)))))]) (pl := va_pl Ln_109 (pE Pw_292)) [0, 1] rfl
            have hDc := hD.part (X := [(h0, .inr (14, [.ref q_t, .int (zI (z16_n)), .int (zI (z0_103)), .int (zI (z1_104)), .int (zI (z2_105)), .int (zI (z3_106)), .int (zI (z4_107)), .ref q5_108, v16_8, v16_9, v16_10, v16_11, v16_12, v16_13])), (q_t, .inl (cT, 8192, .inl (fun j : Nat => zI (a_t (j : Int)))))]) (cx := [(h0, .inr (14, [.ref q_t, .int (zI (z16_n)), .int (zI (z0_103)), .int (zI (z1_104)), .int (zI (z2_105)), .int (zI (z3_106)), .int (zI (z4_107)), .ref q5_108, v16_8, v16_9, v16_10, v16_11, v16_12, v16_13])), (q_t, .inl (cT, 8192, .inl (fun j : Nat => zI (a_t (j : Int)))))]) (pl := va_pl Ln_109 (pE Pw_292)) [0, 1] (by decide) rfl
            have hKc := hK.sub (tys' := [(cT, .byte)]) [0] rfl
            have hFc := va_freeP (X := [(h0, .inr (14, [.ref q_t, .int (zI (z16_n)), .int (zI (z0_103)), .int (zI (z1_104)), .int (zI (z2_105)), .int (zI (z3_106)), .int (zI (z4_107)), .ref q5_108, v16_8, v16_9, v16_10, v16_11, v16_12, v16_13])), (q_t, .inl (cT, 8192, .inl (fun j : Nat => zI (a_t (j : Int)))))]) (cx := [(h0, .inr (14, [.ref q_t, .int (zI (z16_n)), .int (zI (z0_103)), .int (zI (z1_104)), .int (zI (z2_105)), .int (zI (z3_106)), .int (zI (z4_107)), .ref q5_108, v16_8, v16_9, v16_10, v16_11, v16_12, v16_13])), (q_t, .inl (cT, 8192, .inl (fun j : Nat => zI (a_t (j : Int)))))]) (pl := va_pl Ln_109 (pE Pw_292)) hD hS hA [0, 1] rfl
            refine W_knowS (fun hrmA => ?_)
            refine va_callv (va_runV (As := []) (rest := []) ⟨hx, hb, hml, hown, hts⟩ (c_X16_nextK l dC dI h0 z16_n z0_103 z1_104 z2_105 z3_106 z4_107 (.ref q5_108) v16_8 v16_9 v16_10 v16_11 v16_12 v16_13 q_t cT a_t Ln_109 Pw_292 sa_RX16_9 (by omega) (by omega) (by omega) (by omega) (by omega) (by omega) hR_a_t (by omega) H.size sa_RX16_9 H sv_RX16_9 sa_RX16_119 sv_RX16_119 sa_RX16_100 sv_RX16_100 sa_RX16_117 sa_RX16_100 sv_RX16_117 sa_RX16_98 sv_RX16_98) (cwV 0 hts g_X16_rowR_X16_nextK rfl rfl rfl (by decide +kernel) ⟨(Nat.le_of_ble_eq_true rfl), (Nat.le_of_ble_eq_true rfl)⟩) ⟨fun a U g mk q => by obtain ⟨q0, q1, qP, qK, qD, e0, e1, e2, e3, e4, e5, e6, e7, e8, e9, e10, e11, e12⟩ := q; exact ⟨q0, q1, qP, va_K.moved (u := U) (U := U.calling g mk a) (Vm.Alike.refl U.vm) qK, qD, vk_R.same (u := U) (U := U.calling g mk a) rfl e0, e1, va_Z.moved (u := U) (U := U.calling g mk a) (Vm.Alike.refl U.vm) e2, vs_S.moved (u := U) (U := U.calling g mk a) (Vm.Alike.refl U.vm) e3, va_Nw.same rfl (u := U) (U := U.calling g mk a) rfl e4, vk_R.same (u := U) (U := U.calling g mk a) rfl e5, vs_S.moved (u := U) (U := U.calling g mk a) (Vm.Alike.refl U.vm) e6, vs_S.moved (u := U) (U := U.calling g mk a) (Vm.Alike.refl U.vm) e7, vk_R.same (u := U) (U := U.calling g mk a) rfl e8, vk_R.same (u := U) (U := U.calling g mk a) rfl e9, vs_S.moved (u := U) (U := U.calling g mk a) (Vm.Alike.refl U.vm) e10, vk_R.same (u := U) (U := U.calling g mk a) rfl e11, vs_S.moved (u := U) (U := U.calling g mk a) (Vm.Alike.refl U.vm) e12⟩, va_recv hKc hPc (ci := 14) (q0 := 0) rfl rfl, fun U hU hW => ⟨rfl, by rw [hU], by rw [hU]; exact hPc, va_K.moved hW.alike hKc, hDc.weaken (fun _ _ _ _ => trivial), vk_R.warm hW hp4, hU, va_Z.go hp3 hS hFc hU hW.alike, vs_S.go hp2 hS hFc hU hW.alike, va_Nw.warmC hW hp5, vk_R.warm hW hp6, vs_S.go hp7 hS hFc hU hW.alike, vs_S.go hp8 hS hFc hU hW.alike, vk_R.warm hW hp9, vk_R.warm hW hp10, vs_S.go hp11 hS hFc hU hW.alike, vk_R.warm hW hp12, vs_S.go hp13 hS hFc hU hW.alike⟩⟩ rfl rfl hl.1 rfl (lv_room (Nat.le_of_ble_eq_true rfl)) dX16_row_99 ⟨(show ((((0 + kc_19) + kc_72) + kc_111) + ((5 + ((Pn_110.an (Pn_110.le q5_108) : Int) + 2) / 9).toNat)) + ((z16_n - z0_103 + 20).toNat) ≤ (8 * (z16_n - z16_place) + 120).toNat from (rmT (by omega) (by omega))), (show ((((0 + ks_20) + ks_73) + ks_112) + ((5 * (Pn_110.an (Pn_110.le q5_108) : Int) + 40).toNat)) + ((10 * (z16_n - z0_103) + 120).toNat) ≤ (40 * (z16_n - z16_place) + 500).toNat from (rmT (by omega) (by omega)))⟩) hS (fun q _ h => hFc q h) hFc (fun  u t H1 locs ht hvm hw hB hz1 hk1 hS => ?_)
            obtain ⟨z0_307, z1_308, z2_309, z3_310, z4_311, q5_312, Ln_313, Pn_314, kc_315, ks_316, hxt_316, hP1, hK1, hD1⟩ := hB
            rw [ht] at hP1
            have hK1 := va_K.moved hvm.symm hK1
            obtain ⟨hP, hD⟩ := va_joinP (X := [(h0, .inr (14, [.ref q_t, .int (zI (z16_n)), .int (zI (z0_103)), .int (zI (z1_104)), .int (zI (z2_105)), .int (zI (z3_106)), .int (zI (z4_107)), .ref q5_108, v16_8, v16_9, v16_10, v16_11, v16_12, v16_13])), (q_t, .inl (cT, 8192, .inl (fun j : Nat => zI (a_t (j : Int)))))]) (cx := [(h0, .inr (14, [.ref q_t, .int (zI (z16_n)), .int (zI (z0_103)), .int (zI (z1_104)), .int (zI (z2_105)), .int (zI (z3_106)), .int (zI (z4_107)), .ref q5_108, v16_8, v16_9, v16_10, v16_11, v16_12, v16_13])), (q_t, .inl (cT, 8192, .inl (fun j : Nat => zI (a_t (j : Int)))))]) (wr := []) (rx := [(h0, .inr (14, [.ref q_t, .int (zI (z16_n)), .int (zI (z0_307)), .int (zI (z1_308)), .int (zI (z2_309)), .int (zI (z3_310)), .int (zI (z4_311)), .ref q5_312, v16_8, v16_9, v16_10, v16_11, v16_12, v16_13])), (q_t, .inl (cT, 8192, .inl (fun j : Nat => zI (a_t (j : Int)))))]) (pl := va_pl Ln_109 (pE Pw_292)) (pl1 := va_pl Ln_313 (pE Pn_314)) hP hD [0, 1] [] rfl rfl (by decide) (by decide) hk1 hFc hP1 hD1
            have hK := (hK.sub (tys' := [(cO, .object "java/lang/Object"), (cI, .int), (cZ, .boolean)]) [1, 2, 3] rfl).app hK1
            have hrmC := hxt_316.1.1
            rw [ht] at hrmC
            refine W_tightS (hrmA.trans hrmC) ?_
            have hrb := hxt_316.1.2
            generalize H1 = H at hP hS ⊢
            have hP : va_P (dC, dI) vwQ ([(h0, .inr (14, [.ref q_t, .int (zI (z16_n)), .int (zI (z0_307)), .int (zI (z1_308)), .int (zI (z2_309)), .int (zI (z3_310)), .int (zI (z4_311)), .ref q5_312, v16_8, v16_9, v16_10, v16_11, v16_12, v16_13])), (q_t, .inl (cT, 8192, .inl (fun j : Nat => zI (a_t (j : Int)))))] ++ va_pl Ln_313 (pE Pn_314)) H := hP
            have hD : va_D A ([(h0, .inr (14, [.ref q_t, .int (zI (z16_n)), .int (zI (z0_307)), .int (zI (z1_308)), .int (zI (z2_309)), .int (zI (z3_310)), .int (zI (z4_311)), .ref q5_312, v16_8, v16_9, v16_10, v16_11, v16_12, v16_13])), (q_t, .inl (cT, 8192, .inl (fun j : Nat => zI (a_t (j : Int)))))] ++ va_pl Ln_313 (pE Pn_314)) := hD
            have hK : va_K (dC, dI) vwQ [(cO, .object "java/lang/Object"), (cI, .int), (cZ, .boolean), (cT, .byte)] s := hK
            refine W.widen (k := (((((0 + kc_19) + kc_72) + kc_111) + ((5 + ((Pn_110.an (Pn_110.le q5_108) : Int) + 2) / 9).toNat)) + kc_315)) (n := (((((0 + ks_20) + ks_73) + ks_112) + ((5 * (Pn_110.an (Pn_110.le q5_108) : Int) + 40).toNat)) + ks_316)) (by omega) (by omega) ?_
            obtain ⟨rk_317, rk_318, rk_319, rk_320, rk_321, hu_321⟩ := hxt_316.2
            have htk_322 := hu_321.1.2
            have hrg_322 := hu_321.1.1
            have htq_322 := htk_322.1
            have hgo9 := hkd_120.go (by omega)
            have hkd_327 := hu_321.2.1
            have hX_kv := hkd_327.2
            have hu_323 := hu_321.2.2
            have hex_324 : EXT9 Ln_109 Pw_292 Ln_313 Pn_314 := hu_323.1
            have hke_325 : KEG [] Ln_109 Pw_292 Ln_313 Pn_314 := hex_324.kegR hak_297
            have hak_326 : GLR Ln_313 Pn_314 cO cI cZ sx_ed := hak_297.txt hex_324 hu_323.2.1
            have hsm_328 := (hex_324 xr hq_300.1).2
            have : Pn_314.ro xr = Pw_292.ro xr := hsm_328.1 0
            have : Pn_314.rt xr = Pw_292.rt xr := hsm_328.1 1
            have : Pn_314.ra xr = Pw_292.ra xr := hsm_328.1 2
            have : Pn_314.rb xr = Pw_292.rb xr := hsm_328.1 3
            have : Pn_314.rA xr = Pw_292.rA xr := hsm_328.1 4
            have : Pn_314.rB xr = Pw_292.rB xr := hsm_328.1 5
            have : Pn_314.rg xr = Pw_292.rg xr := hsm_328.1 6
            have : Pn_314.ek xr = Pw_292.ek xr := hsm_328.2.1 8
            have hq_329 : HID (la ∈ Ln_313 ∧ Pn_314.kd la = 30) := hke_325.mem hq_299.1 hq_299.2 (by decide)
            have hq_330 : HID (xr ∈ Ln_313 ∧ Pn_314.kd xr = 17) := hke_325.mem hq_300.1 hq_300.2 (by decide)
            have hE_331 : HID (Pn_314.ek xr ≠ 1) := (by rw [hke_325.ek hq_300.1 hq_300.2 (by decide)]; exact hE_301.out)
            have hA_332 : KEG [] L P Ln_313 Pn_314 := hA_302.trans hke_325
            have : Pn_314.lz la = Pw_292.lz la := (hex_324 la hq_299.1).2.1 0
            have hek_333 : HID (Pn_314.ek la = 12) := (by rw [hke_325.ek hq_299.1 hq_299.2 (by decide)]; exact hek_303.out)
            have how_334 : HID (Pn_314.ow la = la) := ((hke_325.1 la hq_299.1 (by rw [hq_299.2]; decide)).2.2.2.1 hq_299.2 how_304.out).1
            have hcz := (((hke_325.1 la hq_299.1 (by rw [hq_299.2]; decide)).2.2.2.1 hq_299.2 how_304.out).2 (by simp)).1
            have hX_tx := hu_323.2.2.1
            have hxk9 := hu_323.2.2.2
            have hcx_335 : CHG (fun z => z = xr) L P Ln_313 Pn_314 := hcx_305.trans hex_324.chg (fun z m q => q.elim)
            have hnn_322 := TKV.nn (k := z1_308) (d := z0_307 - z2_309) (by omega)
            have hri_336 : (((((((0 + ks_20) + ks_73) + ks_112) + ((5 * (Pn_110.an (Pn_110.le q5_108) : Int) + 40).toNat)) + ks_316) : Nat) : Int) ≤ 40 * (z2_309 - z16_place) - TKV z16_kind (z16_at - z16_place) + TKV (z1_308) (z0_307 - z2_309) + 10 ∧ (((((((0 + kc_19) + kc_72) + kc_111) + ((5 + ((Pn_110.an (Pn_110.le q5_108) : Int) + 2) / 9).toNat)) + kc_315) : Nat) : Int) ≤ 8 * (z2_309 - z16_place) - TKW z16_kind (z16_at - z16_place) + TKW (z1_308) (z0_307 - z2_309) - 9 := (by omega)
            clear hrb hri_128
            skip
            refine lv_aload_n hx hb dX16_row_102 rfl (lv_at hl 0 rfl) ?_
            refine lv_aload_n hx hb dX16_row_103 rfl (lv_at hl 1 rfl) ?_
            refine lv_iconst (v := 1) hx hb dX16_row_104 (by decide) ?_
            have hX_tn := htk_322
            have hX_g := hak_326
            have hX_x := hq_330.1
            have hX_k := hq_330.2
            have hX_la := (show la ∈ Ln_313 ∧ Pn_314.kd la = 30 ∧ Pn_314.ek la = 12 ∧ Pn_314.ow la = la from ⟨hq_329.1, hq_329.2, hek_333.out, how_334.out⟩)
            have hPc := hP.part (X := [(h0, .inr (14, [.ref q_t, .int (zI (z16_n)), .int (zI (z0_307)), .int (zI (z1_308)), .int (zI (z2_309)), .int (zI (z3_310)), .int (zI (z4_311)), .ref q5_312, v16_8, v16_9, v16_10, v16_11, v16_12, v16_13])), (q_t, .inl (cT, 8192, .inl (fun j : Nat => zI (a_t (j : Int)))))]) (cx := [(h0, .inr (14, [.ref q_t, .int (zI (z16_n)), .int (zI (z0_307)), .int (zI (z1_308)), .int (zI (z2_309)), .int (zI (z3_310)), .int (zI (z4_311)), .ref q5_312, v16_8, v16_9, v16_10, v16_11, v16_12, v16_13])), (q_t, .inl (cT, 8192, .inl (fun j : Nat => zI (a_t (j : Int)))))]) (pl := va_pl Ln_313 (pE Pn_314)) [0, 1] rfl
            have hDc := hD.part (X := [(h0, .inr (14, [.ref q_t, .int (zI (z16_n)), .int (zI (z0_307)), .int (zI (z1_308)), .int (zI (z2_309)), .int (zI (z3_310)), .int (zI (z4_311)), .ref q5_312, v16_8, v16_9, v16_10, v16_11, v16_12, v16_13])), (q_t, .inl (cT, 8192, .inl (fun j : Nat => zI (a_t (j : Int)))))]) (cx := [(h0, .inr (14, [.ref q_t, .int (zI (z16_n)), .int (zI (z0_307)), .int (zI (z1_308)), .int (zI (z2_309)), .int (zI (z3_310)), .int (zI (z4_311)), .ref q5_312, v16_8, v16_9, v16_10, v16_11, v16_12, v16_13])), (q_t, .inl (cT, 8192, .inl (fun j : Nat => zI (a_t (j : Int)))))]) (pl := va_pl Ln_313 (pE Pn_314)) [0, 1] (by decide) rfl
            have hKc := hK.sub (tys' := [(cT, .byte), (cO, .object "java/lang/Object"), (cI, .int), (cZ, .boolean)]) [3, 0, 1, 2] rfl
            have hFc := va_freeP (X := [(h0, .inr (14, [.ref q_t, .int (zI (z16_n)), .int (zI (z0_307)), .int (zI (z1_308)), .int (zI (z2_309)), .int (zI (z3_310)), .int (zI (z4_311)), .ref q5_312, v16_8, v16_9, v16_10, v16_11, v16_12, v16_13])), (q_t, .inl (cT, 8192, .inl (fun j : Nat => zI (a_t (j : Int)))))]) (cx := [(h0, .inr (14, [.ref q_t, .int (zI (z16_n)), .int (zI (z0_307)), .int (zI (z1_308)), .int (zI (z2_309)), .int (zI (z3_310)), .int (zI (z4_311)), .ref q5_312, v16_8, v16_9, v16_10, v16_11, v16_12, v16_13])), (q_t, .inl (cT, 8192, .inl (fun j : Nat => zI (a_t (j : Int)))))]) (pl := va_pl Ln_313 (pE Pn_314)) hD hS hA [0, 1] rfl
            refine W_knowS (fun hrmA => ?_)
            refine vx_callv (vx_runV (As := [.ref xr, .int 1]) (rest := []) ⟨hx, hb, hml, hown, hts⟩ (c_X16_opBR l dC dI cI cZ h0 z16_n z0_307 z1_308 z2_309 z3_310 z4_311 v16_8 v16_9 v16_10 v16_11 v16_12 v16_13 q_t cT a_t q5_312 Ln_313 Pn_314 sa_RX16_9 cO la sx_ed xr (by omega) (by omega) (by omega) (by omega) (by omega) (by omega) hR_a_t hX_g hX_la hX_x hX_k (by omega) hX_kv hX_tn H.size sv_RX16_9 sa_RX16_119 sv_RX16_119 sa_RX16_100 sv_RX16_100 sa_RX16_117 sv_RX16_117 sa_RX16_98 sv_RX16_98 H) (cwV 2 hts g_X16_rowR_X16_opBR rfl rfl rfl (by decide +kernel) ⟨(Nat.le_of_ble_eq_true rfl), (Nat.le_of_ble_eq_true rfl)⟩) ⟨fun a U g mk q => by obtain ⟨q0, q1, qP, qK, qD, e0, e1, e2, e3, e4, e5, e6, e7, e8, e9, e10, e11, e12, e13, e14⟩ := q; exact ⟨q0, q1, qP, va_K.moved (u := U) (U := U.calling g mk a) (Vm.Alike.refl U.vm) qK, qD, vk_R.same (u := U) (U := U.calling g mk a) rfl e0, va_Z.moved (u := U) (U := U.calling g mk a) (Vm.Alike.refl U.vm) e1, vs_S.moved (u := U) (U := U.calling g mk a) (Vm.Alike.refl U.vm) e2, va_Nw.same rfl (u := U) (U := U.calling g mk a) rfl e3, vk_R.same (u := U) (U := U.calling g mk a) rfl e4, vs_S.moved (u := U) (U := U.calling g mk a) (Vm.Alike.refl U.vm) e5, vs_S.moved (u := U) (U := U.calling g mk a) (Vm.Alike.refl U.vm) e6, vk_R.same (u := U) (U := U.calling g mk a) rfl e7, vk_R.same (u := U) (U := U.calling g mk a) rfl e8, vs_S.moved (u := U) (U := U.calling g mk a) (Vm.Alike.refl U.vm) e9, vk_R.same (u := U) (U := U.calling g mk a) rfl e10, vs_S.moved (u := U) (U := U.calling g mk a) (Vm.Alike.refl U.vm) e11, e12, vx_Zq.moved (u := U) (U := U.calling g mk a) (Vm.Alike.refl U.vm) e13, vx_Zq.moved (u := U) (U := U.calling g mk a) (Vm.Alike.refl U.vm) e14⟩, va_recv hKc hPc (ci := 14) (q0 := 0) rfl rfl, fun U hU hW => ⟨rfl, by rw [hU], by rw [hU]; exact hPc, va_K.moved hW.alike hKc, hDc.weaken (fun _ _ _ _ => trivial), vk_R.warm hW hp4, va_Z.go hp3 hS hFc hU hW.alike, vs_S.go hp2 hS hFc hU hW.alike, va_Nw.warmC hW hp5, vk_R.warm hW hp6, vs_S.go hp7 hS hFc hU hW.alike, vs_S.go hp8 hS hFc hU hW.alike, vk_R.warm hW hp9, vk_R.warm hW hp10, vs_S.go hp11 hS hFc hU hW.alike, vk_R.warm hW hp12, vs_S.go hp13 hS hFc hU hW.alike, hU, vx_Zq.go hp14 hS hFc hU hW.alike, vx_Zq.go hp15 hS hFc hU hW.alike⟩⟩ rfl rfl hl.1 rfl (lv_room (Nat.le_of_ble_eq_true rfl)) dX16_row_105 ⟨(show (((((0 + kc_19) + kc_72) + kc_111) + ((5 + ((Pn_110.an (Pn_110.le q5_108) : Int) + 2) / 9).toNat)) + kc_315) + ((z16_n - z0_307 + 20).toNat) ≤ (8 * (z16_n - z16_place) + 120).toNat from (rmT (by omega) (by omega))), (show (((((0 + ks_20) + ks_73) + ks_112) + ((5 * (Pn_110.an (Pn_110.le q5_108) : Int) + 40).toNat)) + ks_316) + ((10 * (z16_n - z0_307) + 120).toNat) ≤ (40 * (z16_n - z16_place) + 500).toNat from (rmT (by omega) (by omega)))⟩) hS (fun q _ h => hFc q h) hFc (fun q _ h => hFc q h) (fun E ce q9 u t H1 locs ht hvm _ hB hz1 hk1 hS hce hcv hcl => ?_) (fun  u t H1 locs ht hvm hw hB hz1 hk1 hS => ?_)
            · obtain ⟨rfl, zp_337, Ln_338, Pn_339, kc_340, ks_341, hxt_342, hP1, hD1⟩ := hB
              rw [ht] at hP1
              obtain ⟨hP, hD⟩ := va_joinP (X := [(h0, .inr (14, [.ref q_t, .int (zI (z16_n)), .int (zI (z0_307)), .int (zI (z1_308)), .int (zI (z2_309)), .int (zI (z3_310)), .int (zI (z4_311)), .ref q5_312, v16_8, v16_9, v16_10, v16_11, v16_12, v16_13])), (q_t, .inl (cT, 8192, .inl (fun j : Nat => zI (a_t (j : Int)))))]) (cx := [(h0, .inr (14, [.ref q_t, .int (zI (z16_n)), .int (zI (z0_307)), .int (zI (z1_308)), .int (zI (z2_309)), .int (zI (z3_310)), .int (zI (z4_311)), .ref q5_312, v16_8, v16_9, v16_10, v16_11, v16_12, v16_13])), (q_t, .inl (cT, 8192, .inl (fun j : Nat => zI (a_t (j : Int)))))]) (wr := []) (rx := [(q_t, .inl (cT, 8192, .inl (fun j : Nat => zI (a_t (j : Int))))), (q9, .inr (15, [.null, .null, .null, .null, .null, .int 0, .int (zI (zp_337))]))]) (pl := va_pl Ln_313 (pE Pn_314)) (pl1 := va_pl Ln_338 (pE Pn_339)) hP hD [0, 1] [] rfl rfl (by decide) (by decide) hk1 hFc hP1 hD1
              have hrmC := hxt_342.1.1
              rw [ht] at hrmC
              refine vx_tightS (hrmA.trans hrmC) ?_
              have hrb := hxt_342.1.2
              generalize H1 = H at hP hS hce ⊢
              have hP : va_P (dC, dI) vwQ ([(q_t, .inl (cT, 8192, .inl (fun j : Nat => zI (a_t (j : Int))))), (q9, .inr (15, [.null, .null, .null, .null, .null, .int 0, .int (zI (zp_337))]))] ++ va_pl Ln_338 (pE Pn_339)) H := hP
              have hD : va_D A ([(q_t, .inl (cT, 8192, .inl (fun j : Nat => zI (a_t (j : Int))))), (q9, .inr (15, [.null, .null, .null, .null, .null, .int 0, .int (zI (zp_337))]))] ++ va_pl Ln_338 (pE Pn_339)) := hD
              have hzp : 0 ≤ zp_337 ∧ zp_337 ≤ 8192 := hxt_342.2.1
              subst hQ
              refine vx_knowS (fun hrm9 => ?_)
              refine vx_widen (k := ((8 * (z16_n - z16_place) + 120).toNat)) (n := ((40 * (z16_n - z16_place) + 500).toNat)) (rmW (by omega)) (rmW (by omega)) ?_
              exact vx_out (fun x9 h9 => (hnt x9 h9).elim) hlocks hce hcv hcl (fun t ht hvm => ⟨(), trivial, ⟨rfl, zp_337, Ln_338, Pn_339, ((((((0 + kc_19) + kc_72) + kc_111) + ((5 + ((Pn_110.an (Pn_110.le q5_108) : Int) + 2) / 9).toNat)) + kc_315) + kc_340), ((((((0 + ks_20) + ks_73) + ks_112) + ((5 * (Pn_110.an (Pn_110.le q5_108) : Int) + 40).toNat)) + ks_316) + ks_341), ⟨⟨(by rw [ht, ← hp16]; exact hrm9), (by omega)⟩, ⟨(by omega), ⟨hA_332.trans hxt_342.2.2.1, hxt_342.2.2.2.1, (hcx_335.cpa hg00.owa (fun z _ q => by rw [show z = xr from q, hk00]; decide)).trans hA_332 hxt_342.2.2.2.2⟩⟩⟩, by rw [ht]; exact hP, hD⟩, hS.F ht⟩) hS.2.2 (Nat.le_refl _) (Nat.le_refl _)
            obtain ⟨z0_343, z1_344, z2_345, z3_346, z4_347, q5_348, Ln_349, Pn_350, kc_351, ks_352, hxt_352, hP1, hK1, hD1⟩ := hB
            rw [ht] at hP1
            have hK1 := va_K.moved hvm.symm hK1
            obtain ⟨hP, hD⟩ := va_joinP (X := [(h0, .inr (14, [.ref q_t, .int (zI (z16_n)), .int (zI (z0_307)), .int (zI (z1_308)), .int (zI (z2_309)), .int (zI (z3_310)), .int (zI (z4_311)), .ref q5_312, v16_8, v16_9, v16_10, v16_11, v16_12, v16_13])), (q_t, .inl (cT, 8192, .inl (fun j : Nat => zI (a_t (j : Int)))))]) (cx := [(h0, .inr (14, [.ref q_t, .int (zI (z16_n)), .int (zI (z0_307)), .int (zI (z1_308)), .int (zI (z2_309)), .int (zI (z3_310)), .int (zI (z4_311)), .ref q5_312, v16_8, v16_9, v16_10, v16_11, v16_12, v16_13])), (q_t, .inl (cT, 8192, .inl (fun j : Nat => zI (a_t (j : Int)))))]) (wr := []) (rx := [(h0, .inr (14, [.ref q_t, .int (zI (z16_n)), .int (zI (z0_343)), .int (zI (z1_344)), .int (zI (z2_345)), .int (zI (z3_346)), .int (zI (z4_347)), .ref q5_348, v16_8, v16_9, v16_10, v16_11, v16_12, v16_13])), (q_t, .inl (cT, 8192, .inl (fun j : Nat => zI (a_t (j : Int)))))]) (pl := va_pl Ln_313 (pE Pn_314)) (pl1 := va_pl Ln_349 (pE Pn_350)) hP hD [0, 1] [] rfl rfl (by decide) (by decide) hk1 hFc hP1 hD1
            have hK := (hK.sub (tys' := []) [] rfl).app hK1
            have hrmC := hxt_352.1.1
            rw [ht] at hrmC
            refine W_tightS (hrmA.trans hrmC) ?_
            have hrb := hxt_352.1.2
            generalize H1 = H at hP hS ⊢
            have hP : va_P (dC, dI) vwQ ([(h0, .inr (14, [.ref q_t, .int (zI (z16_n)), .int (zI (z0_343)), .int (zI (z1_344)), .int (zI (z2_345)), .int (zI (z3_346)), .int (zI (z4_347)), .ref q5_348, v16_8, v16_9, v16_10, v16_11, v16_12, v16_13])), (q_t, .inl (cT, 8192, .inl (fun j : Nat => zI (a_t (j : Int)))))] ++ va_pl Ln_349 (pE Pn_350)) H := hP
            have hD : va_D A ([(h0, .inr (14, [.ref q_t, .int (zI (z16_n)), .int (zI (z0_343)), .int (zI (z1_344)), .int (zI (z2_345)), .int (zI (z3_346)), .int (zI (z4_347)), .ref q5_348, v16_8, v16_9, v16_10, v16_11, v16_12, v16_13])), (q_t, .inl (cT, 8192, .inl (fun j : Nat => zI (a_t (j : Int)))))] ++ va_pl Ln_349 (pE Pn_350)) := hD
            have hK : va_K (dC, dI) vwQ [(cT, .byte), (cO, .object "java/lang/Object"), (cI, .int), (cZ, .boolean)] s := hK
            refine W.widen (k := ((((((0 + kc_19) + kc_72) + kc_111) + ((5 + ((Pn_110.an (Pn_110.le q5_108) : Int) + 2) / 9).toNat)) + kc_315) + kc_351)) (n := ((((((0 + ks_20) + ks_73) + ks_112) + ((5 * (Pn_110.an (Pn_110.le q5_108) : Int) + 40).toNat)) + ks_316) + ks_352)) (by omega) (by omega) ?_
            obtain ⟨rk_353, rk_354, rk_355, rk_356, rk_357, hu_357⟩ := hxt_352.2
            have htk_358 := hu_357.2.2.2.2.1.2
            have hrg_358 := hu_357.2.2.2.2.1.1
            have htq_358 := htk_358.1
            have hu_359 := HID.mk (hu_357)
            replace hu_357 := HID.mk hu_357
            replace hxt_352 := HID.mk hxt_352
            have hoc9 := hu_359.2.2.1.2
            have hoq9 : OPQ (Pn_350.rB xr) (Pn_350.rb xr) := hu_359.2.2.1.1
            have hgo9 := hkd_327.go (by omega)
            have hkd_360 := hu_359.2.2.2.2.2.1
            have hX_kv := hkd_360.2
            have hq_361 : HID (la ∈ Ln_349 ∧ Pn_350.kd la = 30) := hu_359.1.mem hq_329.1 hq_329.2 (by decide)
            have hq_362 : HID (xr ∈ Ln_349 ∧ Pn_350.kd xr = 17) := hu_359.1.mem hq_330.1 hq_330.2 (by decide)
            have hE_363 : HID (Pn_350.ek xr ≠ 1) := (by rw [hu_359.1.ek hq_330.1 hq_330.2 (by decide)]; exact hE_331.out)
            have hA_364 : KEG [] L P Ln_349 Pn_350 := hA_332.trans hu_359.1
            have : Pn_350.lz la = Pn_314.lz la := (hu_359.2.2.2.1 la hq_329.1 (fun e9 => absurd e9 (kd_ne hq_329.2 hq_330.2 (by decide)))).2.1 0
            have hek_365 : HID (Pn_350.ek la = 12) := (by rw [hu_359.1.ek hq_329.1 hq_329.2 (by decide)]; exact hek_333.out)
            have how_366 : HID (Pn_350.ow la = la) := ((hu_359.1.1 la hq_329.1 (by rw [hq_329.2]; decide)).2.2.2.1 hq_329.2 how_334.out).1
            have hcz := (((hu_359.1.1 la hq_329.1 (by rw [hq_329.2]; decide)).2.2.2.1 hq_329.2 how_334.out).2 (by simp)).1
            have hX_tx := hu_359.2.2.2.2.2.2.1
            have hxk9 := hu_359.2.2.2.2.2.2.2
            have hcx_367 : CHG (fun z => z = xr) L P Ln_349 Pn_350 := hcx_335.trans hu_359.2.2.2.1 (fun z m q => q)
            have hnn_358 := TKV.nn (k := z1_344) (d := z0_343 - z2_345) (by omega)
            have hri_368 : ((((((((0 + ks_20) + ks_73) + ks_112) + ((5 * (Pn_110.an (Pn_110.le q5_108) : Int) + 40).toNat)) + ks_316) + ks_352) : Nat) : Int) ≤ 40 * (z2_345 - z16_place) - TKV z16_kind (z16_at - z16_place) + TKV (z1_344) (z0_343 - z2_345) - 30 ∧ ((((((((0 + kc_19) + kc_72) + kc_111) + ((5 + ((Pn_110.an (Pn_110.le q5_108) : Int) + 2) / 9).toNat)) + kc_315) + kc_351) : Nat) : Int) ≤ 8 * (z2_345 - z16_place) - TKW z16_kind (z16_at - z16_place) + TKW (z1_344) (z0_343 - z2_345) - 17 := (by omega)
            clear hrb hri_336
            skip
            have hob9 := hoq9
            subst hQ
            refine W_knowS (fun hrm9 => ?_)
            refine W.widen (k := ((8 * (z16_n - z16_place) + 120).toNat)) (n := ((40 * (z16_n - z16_place) + 500).toNat)) (rmW (by omega)) (rmW (by omega)) ?_
            refine vx_ret ?_
            exact W.vret hx hb hr (fun t ht hW => ⟨⟨(), rfl, trivial, z0_343, z1_344, z2_345, z3_346, z4_347, q5_348, Ln_349, Pn_350, ((((((0 + kc_19) + kc_72) + kc_111) + ((5 + ((Pn_110.an (Pn_110.le q5_108) : Int) + 2) / 9).toNat)) + kc_315) + kc_351), ((((((0 + ks_20) + ks_73) + ks_112) + ((5 * (Pn_110.an (Pn_110.le q5_108) : Int) + 40).toNat)) + ks_316) + ks_352), ⟨⟨(by rw [ht, ← hp16]; exact hrm9), (by omega)⟩, ⟨(by omega), (by omega), (by omega), (by omega), (by omega), ⟨hA_364, hu_359.2.1, ⟨⟨(hkd_360.mono (by omega)).ms (by omega) (by omega) (by omega), by omega⟩, ⟨by omega, (by first | exact OPQ.z (by omega) | exact hoa9.to (by omega) (by omega)), (by first | exact OPQ.z (by omega) | exact hob9.to (by omega) (by omega))⟩⟩, hcx_367, ⟨⟨by omega, by omega, by omega⟩, htk_358⟩, hkd_360.mono (by omega), hX_tx⟩⟩⟩, by rw [ht]; exact hP, va_K.moved hW.alike hK, hD⟩, hS.F ht⟩) hS.2.2 dX16_row_108
          · have yb94 : (Pw_292.ro xr : Int) = (0 : Int) := (zI_eq (a := Pw_292.ro xr) (b := 0) (by omega) (by omega) (by omega) (by omega)).mp b94
            subst hQ
            refine W_knowS (fun hrm9 => ?_)
            refine W.widen (k := ((8 * (z16_n - z16_place) + 120).toNat)) (n := ((40 * (z16_n - z16_place) + 500).toNat)) (rmW (by omega)) (rmW (by omega)) ?_
            refine vx_ret ?_
            exact W.vret hx hb hr (fun t ht hW => ⟨⟨(), rfl, trivial, z0_103, z1_104, z2_105, z3_106, z4_107, q5_108, Ln_109, Pw_292, ((((0 + kc_19) + kc_72) + kc_111) + ((5 + ((Pn_110.an (Pn_110.le q5_108) : Int) + 2) / 9).toNat)), ((((0 + ks_20) + ks_73) + ks_112) + ((5 * (Pn_110.an (Pn_110.le q5_108) : Int) + 40).toNat)), ⟨⟨(by rw [ht, ← hp16]; exact hrm9), (by omega)⟩, ⟨(by omega), (by omega), (by omega), (by omega), (by omega), ⟨hA_302, hak_297, ⟨⟨(hkd_120.mono (by omega)).ms (by omega) (by omega) (by omega), by omega⟩, ⟨by omega, (by first | exact OPQ.z (by omega) | exact hoa9.to (by omega) (by omega)), (by first | exact OPQ.z (by omega) | exact hob9.to (by omega) (by omega))⟩⟩, hcx_305, ⟨⟨by omega, by omega, by omega⟩, htk_118⟩, hkd_120.mono (by omega), hX_tx⟩⟩⟩, by rw [ht]; exact hP, va_K.moved hW.alike hK, hD⟩, hS.F ht⟩) hS.2.2 dX16_row_97
    · have yb47 : ¬ (z_96 : Int) = (0 : Int) := fun q => b47 ((zI_eq (a := z_96) (b := 0) (by omega) (by omega) (by omega) (by omega)).mpr q)
      have hni9 := TKQ.is htk_79 (hzz_96.2.2.2 (by omega))
      refine lv_aload_n hx hb dX16_row_50 rfl (lv_at hl 0 rfl) ?_
      have hPc := hP.part (X := [(h0, .inr (14, [.ref q_t, .int (zI (z16_n)), .int (zI (z0_64)), .int (zI (z1_65)), .int (zI (z2_66)), .int (zI (z3_67)), .int (zI (z4_68)), .ref q5_69, v16_8, v16_9, v16_10, v16_11, v16_12, v16_13])), (q_t, .inl (cT, 8192, .inl (fun j : Nat => zI (a_t (j : Int)))))]) (cx := [(h0, .inr (14, [.ref q_t, .int (zI (z16_n)), .int (zI (z0_64)), .int (zI (z1_65)), .int (zI (z2_66)), .int (zI (z3_67)), .int (zI (z4_68)), .ref q5_69, v16_8, v16_9, v16_10, v16_11, v16_12, v16_13])), (q_t, .inl (cT, 8192, .inl (fun j : Nat => zI (a_t (j : Int)))))]) (pl := va_pl Ln_70 (pE Pn_71)) [0, 1] rfl
      have hDc := hD.part (X := [(h0, .inr (14, [.ref q_t, .int (zI (z16_n)), .int (zI (z0_64)), .int (zI (z1_65)), .int (zI (z2_66)), .int (zI (z3_67)), .int (zI (z4_68)), .ref q5_69, v16_8, v16_9, v16_10, v16_11, v16_12, v16_13])), (q_t, .inl (cT, 8192, .inl (fun j : Nat => zI (a_t (j : Int)))))]) (cx := [(h0, .inr (14, [.ref q_t, .int (zI (z16_n)), .int (zI (z0_64)), .int (zI (z1_65)), .int (zI (z2_66)), .int (zI (z3_67)), .int (zI (z4_68)), .ref q5_69, v16_8, v16_9, v16_10, v16_11, v16_12, v16_13])), (q_t, .inl (cT, 8192, .inl (fun j : Nat => zI (a_t (j : Int)))))]) (pl := va_pl Ln_70 (pE Pn_71)) [0, 1] (by decide) rfl
      have hKc := hK.sub (tys' := [(cT, .byte)]) [3] rfl
      have hFc := va_freeP (X := [(h0, .inr (14, [.ref q_t, .int (zI (z16_n)), .int (zI (z0_64)), .int (zI (z1_65)), .int (zI (z2_66)), .int (zI (z3_67)), .int (zI (z4_68)), .ref q5_69, v16_8, v16_9, v16_10, v16_11, v16_12, v16_13])), (q_t, .inl (cT, 8192, .inl (fun j : Nat => zI (a_t (j : Int)))))]) (cx := [(h0, .inr (14, [.ref q_t, .int (zI (z16_n)), .int (zI (z0_64)), .int (zI (z1_65)), .int (zI (z2_66)), .int (zI (z3_67)), .int (zI (z4_68)), .ref q5_69, v16_8, v16_9, v16_10, v16_11, v16_12, v16_13])), (q_t, .inl (cT, 8192, .inl (fun j : Nat => zI (a_t (j : Int)))))]) (pl := va_pl Ln_70 (pE Pn_71)) hD hS hA [0, 1] rfl
      refine W_knowS (fun hrmA => ?_)
      refine va_callv (va_runV (As := []) (rest := []) ⟨hx, hb, hml, hown, hts⟩ (c_X16_nextK l dC dI h0 z16_n z0_64 z1_65 z2_66 z3_67 z4_68 (.ref q5_69) v16_8 v16_9 v16_10 v16_11 v16_12 v16_13 q_t cT a_t Ln_70 Pn_71 sa_RX16_9 (by omega) (by omega) (by omega) (by omega) (by omega) (by omega) hR_a_t (by omega) H.size sa_RX16_9 H sv_RX16_9 sa_RX16_119 sv_RX16_119 sa_RX16_100 sv_RX16_100 sa_RX16_117 sa_RX16_100 sv_RX16_117 sa_RX16_98 sv_RX16_98) (cwV 0 hts g_X16_rowR_X16_nextK rfl rfl rfl (by decide +kernel) ⟨(Nat.le_of_ble_eq_true rfl), (Nat.le_of_ble_eq_true rfl)⟩) ⟨fun a U g mk q => by obtain ⟨q0, q1, qP, qK, qD, e0, e1, e2, e3, e4, e5, e6, e7, e8, e9, e10, e11, e12⟩ := q; exact ⟨q0, q1, qP, va_K.moved (u := U) (U := U.calling g mk a) (Vm.Alike.refl U.vm) qK, qD, vk_R.same (u := U) (U := U.calling g mk a) rfl e0, e1, va_Z.moved (u := U) (U := U.calling g mk a) (Vm.Alike.refl U.vm) e2, vs_S.moved (u := U) (U := U.calling g mk a) (Vm.Alike.refl U.vm) e3, va_Nw.same rfl (u := U) (U := U.calling g mk a) rfl e4, vk_R.same (u := U) (U := U.calling g mk a) rfl e5, vs_S.moved (u := U) (U := U.calling g mk a) (Vm.Alike.refl U.vm) e6, vs_S.moved (u := U) (U := U.calling g mk a) (Vm.Alike.refl U.vm) e7, vk_R.same (u := U) (U := U.calling g mk a) rfl e8, vk_R.same (u := U) (U := U.calling g mk a) rfl e9, vs_S.moved (u := U) (U := U.calling g mk a) (Vm.Alike.refl U.vm) e10, vk_R.same (u := U) (U := U.calling g mk a) rfl e11, vs_S.moved (u := U) (U := U.calling g mk a) (Vm.Alike.refl U.vm) e12⟩, va_recv hKc hPc (ci := 14) (q0 := 0) rfl rfl, fun U hU hW => ⟨rfl, by rw [hU], by rw [hU]; exact hPc, va_K.moved hW.alike hKc, hDc.weaken (fun _ _ _ _ => trivial), vk_R.warm hW hp4, hU, va_Z.go hp3 hS hFc hU hW.alike, vs_S.go hp2 hS hFc hU hW.alike, va_Nw.warmC hW hp5, vk_R.warm hW hp6, vs_S.go hp7 hS hFc hU hW.alike, vs_S.go hp8 hS hFc hU hW.alike, vk_R.warm hW hp9, vk_R.warm hW hp10, vs_S.go hp11 hS hFc hU hW.alike, vk_R.warm hW hp12, vs_S.go hp13 hS hFc hU hW.alike⟩⟩ rfl rfl hl.1 rfl (lv_room (Nat.le_of_ble_eq_true rfl)) dX16_row_51 ⟨(show ((0 + kc_19) + kc_72) + ((z16_n - z0_64 + 20).toNat) ≤ (8 * (z16_n - z16_place) + 120).toNat from (rmT (by omega) (by omega))), (show ((0 + ks_20) + ks_73) + ((10 * (z16_n - z0_64) + 120).toNat) ≤ (40 * (z16_n - z16_place) + 500).toNat from (rmT (by omega) (by omega)))⟩) hS (fun q _ h => hFc q h) hFc (fun  u t H1 locs ht hvm hw hB hz1 hk1 hS => ?_)
      obtain ⟨z0_369, z1_370, z2_371, z3_372, z4_373, q5_374, Ln_375, Pn_376, kc_377, ks_378, hxt_378, hP1, hK1, hD1⟩ := hB
      rw [ht] at hP1
      have hK1 := va_K.moved hvm.symm hK1
      obtain ⟨hP, hD⟩ := va_joinP (X := [(h0, .inr (14, [.ref q_t, .int (zI (z16_n)), .int (zI (z0_64)), .int (zI (z1_65)), .int (zI (z2_66)), .int (zI (z3_67)), .int (zI (z4_68)), .ref q5_69, v16_8, v16_9, v16_10, v16_11, v16_12, v16_13])), (q_t, .inl (cT, 8192, .inl (fun j : Nat => zI (a_t (j : Int)))))]) (cx := [(h0, .inr (14, [.ref q_t, .int (zI (z16_n)), .int (zI (z0_64)), .int (zI (z1_65)), .int (zI (z2_66)), .int (zI (z3_67)), .int (zI (z4_68)), .ref q5_69, v16_8, v16_9, v16_10, v16_11, v16_12, v16_13])), (q_t, .inl (cT, 8192, .inl (fun j : Nat => zI (a_t (j : Int)))))]) (wr := []) (rx := [(h0, .inr (14, [.ref q_t, .int (zI (z16_n)), .int (zI (z0_369)), .int (zI (z1_370)), .int (zI (z2_371)), .int (zI (z3_372)), .int (zI (z4_373)), .ref q5_374, v16_8, v16_9, v16_10, v16_11, v16_12, v16_13])), (q_t, .inl (cT, 8192, .inl (fun j : Nat => zI (a_t (j : Int)))))]) (pl := va_pl Ln_70 (pE Pn_71)) (pl1 := va_pl Ln_375 (pE Pn_376)) hP hD [0, 1] [] rfl rfl (by decide) (by decide) hk1 hFc hP1 hD1
      have hK := (hK.sub (tys' := [(cO, .object "java/lang/Object"), (cI, .int), (cZ, .boolean)]) [0, 1, 2] rfl).app hK1
      have hrmC := hxt_378.1.1
      rw [ht] at hrmC
      refine W_tightS (hrmA.trans hrmC) ?_
      have hrb := hxt_378.1.2
      generalize H1 = H at hP hS ⊢
      have hP : va_P (dC, dI) vwQ ([(h0, .inr (14, [.ref q_t, .int (zI (z16_n)), .int (zI (z0_369)), .int (zI (z1_370)), .int (zI (z2_371)), .int (zI (z3_372)), .int (zI (z4_373)), .ref q5_374, v16_8, v16_9, v16_10, v16_11, v16_12, v16_13])), (q_t, .inl (cT, 8192, .inl (fun j : Nat => zI (a_t (j : Int)))))] ++ va_pl Ln_375 (pE Pn_376)) H := hP
      have hD : va_D A ([(h0, .inr (14, [.ref q_t, .int (zI (z16_n)), .int (zI (z0_369)), .int (zI (z1_370)), .int (zI (z2_371)), .int (zI (z3_372)), .int (zI (z4_373)), .ref q5_374, v16_8, v16_9, v16_10, v16_11, v16_12, v16_13])), (q_t, .inl (cT, 8192, .inl (fun j : Nat => zI (a_t (j : Int)))))] ++ va_pl Ln_375 (pE Pn_376)) := hD
      have hK : va_K (dC, dI) vwQ [(cO, .object "java/lang/Object"), (cI, .int), (cZ, .boolean), (cT, .byte)] s := hK
      refine W.widen (k := (((0 + kc_19) + kc_72) + kc_377)) (n := (((0 + ks_20) + ks_73) + ks_378)) (by omega) (by omega) ?_
      obtain ⟨rk_379, rk_380, rk_381, rk_382, rk_383, hu_383⟩ := hxt_378.2
      have htk_384 := hu_383.1.2
      have hrg_384 := hu_383.1.1
      have htq_384 := htk_384.1
      have hgo9 := hkd_84.go (by omega)
      have hkd_389 := hu_383.2.1
      have hX_kv := hkd_389.2
      have hu_385 := hu_383.2.2
      have hex_386 : EXT9 Ln_70 Pn_71 Ln_375 Pn_376 := hu_385.1
      have hke_387 : KEG [] Ln_70 Pn_71 Ln_375 Pn_376 := hex_386.kegR hak_83
      have hak_388 : GLR Ln_375 Pn_376 cO cI cZ sx_ed := hak_83.txt hex_386 hu_385.2.1
      have hsm_390 := (hex_386 xr hq_87.1).2
      have : Pn_376.ro xr = Pn_71.ro xr := hsm_390.1 0
      have : Pn_376.rt xr = Pn_71.rt xr := hsm_390.1 1
      have : Pn_376.ra xr = Pn_71.ra xr := hsm_390.1 2
      have : Pn_376.rb xr = Pn_71.rb xr := hsm_390.1 3
      have : Pn_376.rA xr = Pn_71.rA xr := hsm_390.1 4
      have : Pn_376.rB xr = Pn_71.rB xr := hsm_390.1 5
      have : Pn_376.rg xr = Pn_71.rg xr := hsm_390.1 6
      have : Pn_376.ek xr = Pn_71.ek xr := hsm_390.2.1 8
      have hq_391 : HID (la ∈ Ln_375 ∧ Pn_376.kd la = 30) := hke_387.mem hq_86.1 hq_86.2 (by decide)
      have hq_392 : HID (xr ∈ Ln_375 ∧ Pn_376.kd xr = 17) := hke_387.mem hq_87.1 hq_87.2 (by decide)
      have hE_393 : HID (Pn_376.ek xr ≠ 1) := (by rw [hke_387.ek hq_87.1 hq_87.2 (by decide)]; exact hE_88.out)
      have hA_394 : KEG [] L P Ln_375 Pn_376 := hA_89.trans hke_387
      have : Pn_376.lz la = Pn_71.lz la := (hex_386 la hq_86.1).2.1 0
      have hek_395 : HID (Pn_376.ek la = 12) := (by rw [hke_387.ek hq_86.1 hq_86.2 (by decide)]; exact hek_90.out)
      have how_396 : HID (Pn_376.ow la = la) := ((hke_387.1 la hq_86.1 (by rw [hq_86.2]; decide)).2.2.2.1 hq_86.2 how_91.out).1
      have hcz := (((hke_387.1 la hq_86.1 (by rw [hq_86.2]; decide)).2.2.2.1 hq_86.2 how_91.out).2 (by simp)).1
      have hX_tx := hu_385.2.2.1
      have hxk9 := hu_385.2.2.2
      have hcx_397 : CHG (fun z => z = xr) L P Ln_375 Pn_376 := hcx_92.trans hex_386.chg (fun z m q => q.elim)
      have hnn_384 := TKV.nn (k := z1_370) (d := z0_369 - z2_371) (by omega)
      have hri_398 : (((((0 + ks_20) + ks_73) + ks_378) : Nat) : Int) ≤ 40 * (z2_371 - z16_place) - TKV z16_kind (z16_at - z16_place) + TKV (z1_370) (z0_369 - z2_371) ∧ (((((0 + kc_19) + kc_72) + kc_377) : Nat) : Int) ≤ 8 * (z2_371 - z16_place) - TKW z16_kind (z16_at - z16_place) + TKW (z1_370) (z0_369 - z2_371) - 6 := (by omega)
      clear hrb hri_93
      skip
      refine lv_aload_n hx hb dX16_row_54 rfl (lv_at hl 1 rfl) ?_
      refine lv_bipush (v := 20) hx hb dX16_row_55 (by decide) ?_
      have hr7 := (hak_388.rokR hq_392.1 hq_392.2).n7
      refine lv_topi (fun z ez => ?_)
      obtain rfl : z = zI (20) := ez
      obtain ⟨kp_399, gkp_399⟩ := va_pl_get (X := [(h0, .inr (14, [.ref q_t, .int (zI (z16_n)), .int (zI (z0_369)), .int (zI (z1_370)), .int (zI (z2_371)), .int (zI (z3_372)), .int (zI (z4_373)), .ref q5_374, v16_8, v16_9, v16_10, v16_11, v16_12, v16_13])), (q_t, .inl (cT, 8192, .inl (fun j : Nat => zI (a_t (j : Int)))))]) (f := pE Pn_376) hq_392.1
      have hkp_399 := gkp_399
      rw [pE_row hq_392.2] at hkp_399
      have hD0 := hD
      refine va_put (D := (dC, dI)) (ci := 21) (v := .int (zI (20))) (ty := .int) (C := RX17) (T := TX17) (N := 7) hx hb hts mem_X16_rowR_2 tyX17 tyX17_ok nmX17 hown hK hP hD hS kp_399 hkp_399 rfl 0 (by decide) (ow (k := 15) rfl) (fun _ h9 => h9) rfl (by decide +kernel) rfl rfl (by first | exact Nat.le_of_ble_eq_true rfl | exact (show (((0 + kc_19) + kc_72) + kc_377) ≤ (8 * (z16_n - z16_place) + 120).toNat from (rmW (by omega))) | exact (show (((0 + ks_20) + ks_73) + ks_378) ≤ (40 * (z16_n - z16_place) + 500).toNat from (rmW (by omega)))) dX16_row_57 (fun H locs hP hD hS => ?_)
      obtain ⟨Pw_400, ePw_400⟩ : ∃ q9 : PO, q9 = Pn_376.rw9 0 xr (20) := ⟨_, rfl⟩
      have eU : (([(h0, .inr (14, [.ref q_t, .int (zI (z16_n)), .int (zI (z0_369)), .int (zI (z1_370)), .int (zI (z2_371)), .int (zI (z3_372)), .int (zI (z4_373)), .ref q5_374, v16_8, v16_9, v16_10, v16_11, v16_12, v16_13])), (q_t, .inl (cT, 8192, .inl (fun j : Nat => zI (a_t (j : Int)))))] : va_W) ++ va_pl Ln_375 (pE Pn_376)).set kp_399 (xr, rowE (20) (Pn_376.rt xr) (Pn_376.ra xr) (Pn_376.rb xr) (Pn_376.rA xr) (Pn_376.rB xr) (Pn_376.rg xr)) = ([(h0, .inr (14, [.ref q_t, .int (zI (z16_n)), .int (zI (z0_369)), .int (zI (z1_370)), .int (zI (z2_371)), .int (zI (z3_372)), .int (zI (z4_373)), .ref q5_374, v16_8, v16_9, v16_10, v16_11, v16_12, v16_13])), (q_t, .inl (cT, 8192, .inl (fun j : Nat => zI (a_t (j : Int)))))] : va_W) ++ va_pl Ln_375 (pE Pw_400) := (by rw [va_pl_set hD0 hq_392.1 gkp_399, ePw_400]; exact congrArg (fun f9 => ([(h0, .inr (14, [.ref q_t, .int (zI (z16_n)), .int (zI (z0_369)), .int (zI (z1_370)), .int (zI (z2_371)), .int (zI (z3_372)), .int (zI (z4_373)), .ref q5_374, v16_8, v16_9, v16_10, v16_11, v16_12, v16_13])), (q_t, .inl (cT, 8192, .inl (fun j : Nat => zI (a_t (j : Int)))))] : va_W) ++ va_pl Ln_375 f9) (put17_0 hq_392.2))
      have hP : va_P (dC, dI) vwQ ([(h0, .inr (14, [.ref q_t, .int (zI (z16_n)), .int (zI (z0_369)), .int (zI (z1_370)), .int (zI (z2_371)), .int (zI (z3_372)), .int (zI (z4_373)), .ref q5_374, v16_8, v16_9, v16_10, v16_11, v16_12, v16_13])), (q_t, .inl (cT, 8192, .inl (fun j : Nat => zI (a_t (j : Int)))))] ++ va_pl Ln_375 (pE Pw_400)) H := (by rw [← eU]; exact hP)
      have hD : va_D A ([(h0, .inr (14, [.ref q_t, .int (zI (z16_n)), .int (zI (z0_369)), .int (zI (z1_370)), .int (zI (z2_371)), .int (zI (z3_372)), .int (zI (z4_373)), .ref q5_374, v16_8, v16_9, v16_10, v16_11, v16_12, v16_13])), (q_t, .inl (cT, 8192, .inl (fun j : Nat => zI (a_t (j : Int)))))] ++ va_pl Ln_375 (pE Pw_400)) := (by rw [← eU]; exact hD)
      clear eU hD0 gkp_399 hkp_399
      have wPw_400 : RW1 xr Pn_376 Pw_400 := (by rw [ePw_400]; exact RW1.put _ _ _ _)
      have hy_401 : Pw_400.kd la = 30 := (by rw [ePw_400]; exact hq_391.2)
      have hy_402 : Pw_400.kd xr = 17 := (by rw [ePw_400]; exact hq_392.2)
      have : Pw_400.ro xr = 20 := (by rw [ePw_400]; exact rw9_at _ _ _ _)
      have : Pw_400.rt xr = Pn_376.rt xr := (by rw [ePw_400]; exact rw9_of _ (by decide))
      have : Pw_400.ra xr = Pn_376.ra xr := (by rw [ePw_400]; exact rw9_of _ (by decide))
      have : Pw_400.rb xr = Pn_376.rb xr := (by rw [ePw_400]; exact rw9_of _ (by decide))
      have : Pw_400.rA xr = Pn_376.rA xr := (by rw [ePw_400]; exact rw9_of _ (by decide))
      have : Pw_400.rB xr = Pn_376.rB xr := (by rw [ePw_400]; exact rw9_of _ (by decide))
      have : Pw_400.rg xr = Pn_376.rg xr := (by rw [ePw_400]; exact rw9_of _ (by decide))
      have : Pw_400.ek xr = Pn_376.ek xr := (by rw [ePw_400]; rfl)
      have hW_403 : RW1 xr Pn_376 Pw_400 := wPw_400
      have hrw_406 : RWD Pn_376 Pw_400 := hW_403.rwd (Or.inl hq_392.2)
      have hak_405 : GLR Ln_375 Pw_400 cO cI cZ sx_ed := hak_388.row hW_403 hq_392.2 (ROKR.of (by omega) (by omega) (by omega) (by omega) (by omega) (by omega) (by omega) (uaZR (by omega)) (ubZR (by omega))) (fun e9 => by have q9 := hak_388.op21 hq_392.1 hq_392.2 e9; omega)
      have hke_404 : KEG [] Ln_375 Pn_376 Ln_375 Pw_400 := hrw_406.kegR _ hq_391.2
      have hq_407 : HID (la ∈ Ln_375 ∧ Pw_400.kd la = 30) := hke_404.mem hq_391.1 hq_391.2 (by decide)
      have hq_408 : HID (xr ∈ Ln_375 ∧ Pw_400.kd xr = 17) := hke_404.mem hq_392.1 hq_392.2 (by decide)
      have hE_409 : HID (Pw_400.ek xr ≠ 1) := (by rw [hke_404.ek hq_392.1 hq_392.2 (by decide)]; exact hE_393.out)
      have hA_410 : KEG [] L P Ln_375 Pw_400 := hA_394.trans hke_404
      have : Pw_400.lz la = Pn_376.lz la := hrw_406.lz hq_391.2
      have : Pw_400.cap la = Pn_376.cap la := hW_403.cap la
      have hek_411 : HID (Pw_400.ek la = 12) := (by rw [hke_404.ek hq_391.1 hq_391.2 (by decide)]; exact hek_395.out)
      have how_412 : HID (Pw_400.ow la = la) := ((hke_404.1 la hq_391.1 (by rw [hq_391.2]; decide)).2.2.2.1 hq_391.2 how_396.out).1
      have hcz := (((hke_404.1 la hq_391.1 (by rw [hq_391.2]; decide)).2.2.2.1 hq_391.2 how_396.out).2 (by simp)).1
      have hX_tx := hX_tx.rw1R hW_403 (Or.inl hq_392.2)
      have hcx_413 : CHG (fun z => z = xr) L P Ln_375 Pw_400 := hcx_397.trans (hW_403.chg _) (fun z m q => q)
      subst hQ
      have hK := hK.sub (tys' := [(cT, .byte), (cO, .object "java/lang/Object"), (cI, .int), (cZ, .boolean)]) [3, 0, 1, 2] rfl
      refine W_knowS (fun hrm9 => ?_)
      refine W.widen (k := ((8 * (z16_n - z16_place) + 120).toNat)) (n := ((40 * (z16_n - z16_place) + 500).toNat)) (rmW (by omega)) (rmW (by omega)) ?_
      refine vx_ret ?_
      exact W.vret hx hb hr (fun t ht hW => ⟨⟨(), rfl, trivial, z0_369, z1_370, z2_371, z3_372, z4_373, q5_374, Ln_375, Pw_400, (((0 + kc_19) + kc_72) + kc_377), (((0 + ks_20) + ks_73) + ks_378), ⟨⟨(by rw [ht, ← hp16]; exact hrm9), (by omega)⟩, ⟨(by omega), (by omega), (by omega), (by omega), (by omega), ⟨hA_410, hak_405, ⟨⟨(hkd_389.mono (by omega)).ms (by omega) (by omega) (by omega), by omega⟩, ⟨by omega, (by first | exact OPQ.z (by omega) | exact hoa9.to (by omega) (by omega)), (by first | exact OPQ.z (by omega) | exact hob9.to (by omega) (by omega))⟩⟩, hcx_413, ⟨⟨by omega, by omega, by omega⟩, htk_384⟩, hkd_389.mono (by omega), hX_tx⟩⟩⟩, by rw [ht]; exact hP, va_K.moved hW.alike hK, hD⟩, hS.F ht⟩) hS.2.2 dX16_row_60
  · have yb6 : ¬ (z_3 : Int) = (0 : Int) := fun q => b6 ((zI_eq (a := z_3) (b := 0) (by omega) (by omega) (by omega) (by omega)).mpr q)
    have hni9 := TKQ.is hX_tn (hzz_3.2.2.2 (by omega))
    refine lv_aload_n hx hb dX16_row_9 rfl (lv_at hl 0 rfl) ?_
    have hPc := hP.part (X := [(h0, .inr (14, [.ref q_t, .int (zI (z16_n)), .int (zI (z16_at)), .int (zI (z16_kind)), .int (zI (z16_place)), .int (zI (z16_value)), .int (zI (z16_before)), .ref tx9, v16_8, v16_9, v16_10, v16_11, v16_12, v16_13])), (q_t, .inl (cT, 8192, .inl (fun j : Nat => zI (a_t (j : Int)))))]) (cx := [(h0, .inr (14, [.ref q_t, .int (zI (z16_n)), .int (zI (z16_at)), .int (zI (z16_kind)), .int (zI (z16_place)), .int (zI (z16_value)), .int (zI (z16_before)), .ref tx9, v16_8, v16_9, v16_10, v16_11, v16_12, v16_13])), (q_t, .inl (cT, 8192, .inl (fun j : Nat => zI (a_t (j : Int)))))]) (pl := va_pl L (pE P)) [0, 1] rfl
    have hDc := hD.part (X := [(h0, .inr (14, [.ref q_t, .int (zI (z16_n)), .int (zI (z16_at)), .int (zI (z16_kind)), .int (zI (z16_place)), .int (zI (z16_value)), .int (zI (z16_before)), .ref tx9, v16_8, v16_9, v16_10, v16_11, v16_12, v16_13])), (q_t, .inl (cT, 8192, .inl (fun j : Nat => zI (a_t (j : Int)))))]) (cx := [(h0, .inr (14, [.ref q_t, .int (zI (z16_n)), .int (zI (z16_at)), .int (zI (z16_kind)), .int (zI (z16_place)), .int (zI (z16_value)), .int (zI (z16_before)), .ref tx9, v16_8, v16_9, v16_10, v16_11, v16_12, v16_13])), (q_t, .inl (cT, 8192, .inl (fun j : Nat => zI (a_t (j : Int)))))]) (pl := va_pl L (pE P)) [0, 1] (by decide) rfl
    have hKc := hK.sub (tys' := [(cT, .byte)]) [3] rfl
    have hFc := va_freeP (X := [(h0, .inr (14, [.ref q_t, .int (zI (z16_n)), .int (zI (z16_at)), .int (zI (z16_kind)), .int (zI (z16_place)), .int (zI (z16_value)), .int (zI (z16_before)), .ref tx9, v16_8, v16_9, v16_10, v16_11, v16_12, v16_13])), (q_t, .inl (cT, 8192, .inl (fun j : Nat => zI (a_t (j : Int)))))]) (cx := [(h0, .inr (14, [.ref q_t, .int (zI (z16_n)), .int (zI (z16_at)), .int (zI (z16_kind)), .int (zI (z16_place)), .int (zI (z16_value)), .int (zI (z16_before)), .ref tx9, v16_8, v16_9, v16_10, v16_11, v16_12, v16_13])), (q_t, .inl (cT, 8192, .inl (fun j : Nat => zI (a_t (j : Int)))))]) (pl := va_pl L (pE P)) hD hS hA [0, 1] rfl
    refine W_knowS (fun hrmA => ?_)
    refine va_callv (va_runV (As := []) (rest := []) ⟨hx, hb, hml, hown, hts⟩ (c_X16_nextK l dC dI h0 z16_n z16_at z16_kind z16_place z16_value z16_before (.ref tx9) v16_8 v16_9 v16_10 v16_11 v16_12 v16_13 q_t cT a_t L P sa_RX16_9 (by omega) (by omega) (by omega) (by omega) (by omega) (by omega) hR_a_t (by omega) H.size sa_RX16_9 H sv_RX16_9 sa_RX16_119 sv_RX16_119 sa_RX16_100 sv_RX16_100 sa_RX16_117 sa_RX16_100 sv_RX16_117 sa_RX16_98 sv_RX16_98) (cwV 0 hts g_X16_rowR_X16_nextK rfl rfl rfl (by decide +kernel) ⟨(Nat.le_of_ble_eq_true rfl), (Nat.le_of_ble_eq_true rfl)⟩) ⟨fun a U g mk q => by obtain ⟨q0, q1, qP, qK, qD, e0, e1, e2, e3, e4, e5, e6, e7, e8, e9, e10, e11, e12⟩ := q; exact ⟨q0, q1, qP, va_K.moved (u := U) (U := U.calling g mk a) (Vm.Alike.refl U.vm) qK, qD, vk_R.same (u := U) (U := U.calling g mk a) rfl e0, e1, va_Z.moved (u := U) (U := U.calling g mk a) (Vm.Alike.refl U.vm) e2, vs_S.moved (u := U) (U := U.calling g mk a) (Vm.Alike.refl U.vm) e3, va_Nw.same rfl (u := U) (U := U.calling g mk a) rfl e4, vk_R.same (u := U) (U := U.calling g mk a) rfl e5, vs_S.moved (u := U) (U := U.calling g mk a) (Vm.Alike.refl U.vm) e6, vs_S.moved (u := U) (U := U.calling g mk a) (Vm.Alike.refl U.vm) e7, vk_R.same (u := U) (U := U.calling g mk a) rfl e8, vk_R.same (u := U) (U := U.calling g mk a) rfl e9, vs_S.moved (u := U) (U := U.calling g mk a) (Vm.Alike.refl U.vm) e10, vk_R.same (u := U) (U := U.calling g mk a) rfl e11, vs_S.moved (u := U) (U := U.calling g mk a) (Vm.Alike.refl U.vm) e12⟩, va_recv hKc hPc (ci := 14) (q0 := 0) rfl rfl, fun U hU hW => ⟨rfl, by rw [hU], by rw [hU]; exact hPc, va_K.moved hW.alike hKc, hDc.weaken (fun _ _ _ _ => trivial), vk_R.warm hW hp4, hU, va_Z.go hp3 hS hFc hU hW.alike, vs_S.go hp2 hS hFc hU hW.alike, va_Nw.warmC hW hp5, vk_R.warm hW hp6, vs_S.go hp7 hS hFc hU hW.alike, vs_S.go hp8 hS hFc hU hW.alike, vk_R.warm hW hp9, vk_R.warm hW hp10, vs_S.go hp11 hS hFc hU hW.alike, vk_R.warm hW hp12, vs_S.go hp13 hS hFc hU hW.alike⟩⟩ rfl rfl hl.1 rfl (lv_room (Nat.le_of_ble_eq_true rfl)) dX16_row_10 ⟨(show 0 + ((z16_n - z16_at + 20).toNat) ≤ (8 * (z16_n - z16_place) + 120).toNat from (rmT (by omega) (by omega))), (show 0 + ((10 * (z16_n - z16_at) + 120).toNat) ≤ (40 * (z16_n - z16_place) + 500).toNat from (rmT (by omega) (by omega)))⟩) hS (fun q _ h => hFc q h) hFc (fun  u t H1 locs ht hvm hw hB hz1 hk1 hS => ?_)
    obtain ⟨z0_414, z1_415, z2_416, z3_417, z4_418, q5_419, Ln_420, Pn_421, kc_422, ks_423, hxt_423, hP1, hK1, hD1⟩ := hB
    rw [ht] at hP1
    have hK1 := va_K.moved hvm.symm hK1
    obtain ⟨hP, hD⟩ := va_joinP (X := [(h0, .inr (14, [.ref q_t, .int (zI (z16_n)), .int (zI (z16_at)), .int (zI (z16_kind)), .int (zI (z16_place)), .int (zI (z16_value)), .int (zI (z16_before)), .ref tx9, v16_8, v16_9, v16_10, v16_11, v16_12, v16_13])), (q_t, .inl (cT, 8192, .inl (fun j : Nat => zI (a_t (j : Int)))))]) (cx := [(h0, .inr (14, [.ref q_t, .int (zI (z16_n)), .int (zI (z16_at)), .int (zI (z16_kind)), .int (zI (z16_place)), .int (zI (z16_value)), .int (zI (z16_before)), .ref tx9, v16_8, v16_9, v16_10, v16_11, v16_12, v16_13])), (q_t, .inl (cT, 8192, .inl (fun j : Nat => zI (a_t (j : Int)))))]) (wr := []) (rx := [(h0, .inr (14, [.ref q_t, .int (zI (z16_n)), .int (zI (z0_414)), .int (zI (z1_415)), .int (zI (z2_416)), .int (zI (z3_417)), .int (zI (z4_418)), .ref q5_419, v16_8, v16_9, v16_10, v16_11, v16_12, v16_13])), (q_t, .inl (cT, 8192, .inl (fun j : Nat => zI (a_t (j : Int)))))]) (pl := va_pl L (pE P)) (pl1 := va_pl Ln_420 (pE Pn_421)) hP hD [0, 1] [] rfl rfl (by decide) (by decide) hk1 hFc hP1 hD1
    have hK := (hK.sub (tys' := [(cO, .object "java/lang/Object"), (cI, .int), (cZ, .boolean)]) [0, 1, 2] rfl).app hK1
    have hrmC := hxt_423.1.1
    rw [ht] at hrmC
    refine W_tightS (hrmA.trans hrmC) ?_
    have hrb := hxt_423.1.2
    generalize H1 = H at hP hS ⊢
    have hP : va_P (dC, dI) vwQ ([(h0, .inr (14, [.ref q_t, .int (zI (z16_n)), .int (zI (z0_414)), .int (zI (z1_415)), .int (zI (z2_416)), .int (zI (z3_417)), .int (zI (z4_418)), .ref q5_419, v16_8, v16_9, v16_10, v16_11, v16_12, v16_13])), (q_t, .inl (cT, 8192, .inl (fun j : Nat => zI (a_t (j : Int)))))] ++ va_pl Ln_420 (pE Pn_421)) H := hP
    have hD : va_D A ([(h0, .inr (14, [.ref q_t, .int (zI (z16_n)), .int (zI (z0_414)), .int (zI (z1_415)), .int (zI (z2_416)), .int (zI (z3_417)), .int (zI (z4_418)), .ref q5_419, v16_8, v16_9, v16_10, v16_11, v16_12, v16_13])), (q_t, .inl (cT, 8192, .inl (fun j : Nat => zI (a_t (j : Int)))))] ++ va_pl Ln_420 (pE Pn_421)) := hD
    have hK : va_K (dC, dI) vwQ [(cO, .object "java/lang/Object"), (cI, .int), (cZ, .boolean), (cT, .byte)] s := hK
    refine W.widen (k := (0 + kc_422)) (n := (0 + ks_423)) (by omega) (by omega) ?_
    obtain ⟨rk_424, rk_425, rk_426, rk_427, rk_428, hu_428⟩ := hxt_423.2
    have htk_429 := hu_428.1.2
    have hrg_429 := hu_428.1.1
    have htq_429 := htk_429.1
    have hkd_434 := hu_428.2.1
    have hX_kv := hkd_434.2
    have hu_430 := hu_428.2.2
    have hex_431 : EXT9 L P Ln_420 Pn_421 := hu_430.1
    have hke_432 : KEG [] L P Ln_420 Pn_421 := hex_431.kegR hX_g9
    have hak_433 : GLR Ln_420 Pn_421 cO cI cZ sx_ed := hX_g9.txt hex_431 hu_430.2.1
    have hsm_435 := (hex_431 xr hX_x).2
    have : Pn_421.ro xr = P.ro xr := hsm_435.1 0
    have : Pn_421.rt xr = P.rt xr := hsm_435.1 1
    have : Pn_421.ra xr = P.ra xr := hsm_435.1 2
    have : Pn_421.rb xr = P.rb xr := hsm_435.1 3
    have : Pn_421.rA xr = P.rA xr := hsm_435.1 4
    have : Pn_421.rB xr = P.rB xr := hsm_435.1 5
    have : Pn_421.rg xr = P.rg xr := hsm_435.1 6
    have : Pn_421.ek xr = P.ek xr := hsm_435.2.1 8
    have hq_436 : HID (la ∈ Ln_420 ∧ Pn_421.kd la = 30) := hke_432.mem hC_la.1 hC_la.2.1 (by decide)
    have hq_437 : HID (xr ∈ Ln_420 ∧ Pn_421.kd xr = 17) := hke_432.mem hX_x hX_k (by decide)
    have hE_438 : HID (Pn_421.ek xr ≠ 1) := (by rw [hke_432.ek hX_x hX_k (by decide)]; exact hX_e)
    have hA_439 : KEG [] L P Ln_420 Pn_421 := (KEG.refl [] L P).trans hke_432
    have : Pn_421.lz la = P.lz la := (hex_431 la hC_la.1).2.1 0
    have hek_440 : HID (Pn_421.ek la = 12) := (by rw [hke_432.ek hC_la.1 hC_la.2.1 (by decide)]; exact hC_la.2.2.1)
    have how_441 : HID (Pn_421.ow la = la) := ((hke_432.1 la hC_la.1 (by rw [hC_la.2.1]; decide)).2.2.2.1 hC_la.2.1 hC_la.2.2.2).1
    have hcz := (((hke_432.1 la hC_la.1 (by rw [hC_la.2.1]; decide)).2.2.2.1 hC_la.2.1 hC_la.2.2.2).2 (by simp)).1
    have hX_tx := hu_430.2.2.1
    have hxk9 := hu_430.2.2.2
    have hcx_442 : CHG (fun z => z = xr) L P Ln_420 Pn_421 := hcx0.trans hex_431.chg (fun z m q => q.elim)
    have hnn_429 := TKV.nn (k := z1_415) (d := z0_414 - z2_416) (by omega)
    have hri_443 : (((0 + ks_423) : Nat) : Int) ≤ 40 * (z2_416 - z16_place) - TKV z16_kind (z16_at - z16_place) + TKV (z1_415) (z0_414 - z2_416) + 40 ∧ (((0 + kc_422) : Nat) : Int) ≤ 8 * (z2_416 - z16_place) - TKW z16_kind (z16_at - z16_place) + TKW (z1_415) (z0_414 - z2_416) + 5 := (by omega)
    clear hrb
    skip
    refine lv_aload_n hx hb dX16_row_13 rfl (lv_at hl 1 rfl) ?_
    refine lv_bipush (v := 21) hx hb dX16_row_14 (by decide) ?_
    have hr7 := (hak_433.rokR hq_437.1 hq_437.2).n7
    refine lv_topi (fun z ez => ?_)
    obtain rfl : z = zI (21) := ez
    obtain ⟨kp_444, gkp_444⟩ := va_pl_get (X := [(h0, .inr (14, [.ref q_t, .int (zI (z16_n)), .int (zI (z0_414)), .int (zI (z1_415)), .int (zI (z2_416)), .int (zI (z3_417)), .int (zI (z4_418)), .ref q5_419, v16_8, v16_9, v16_10, v16_11, v16_12, v16_13])), (q_t, .inl (cT, 8192, .inl (fun j : Nat => zI (a_t (j : Int)))))]) (f := pE Pn_421) hq_437.1
    have hkp_444 := gkp_444
    rw [pE_row hq_437.2] at hkp_444
    have hD0 := hD
    refine va_put (D := (dC, dI)) (ci := 21) (v := .int (zI (21))) (ty := .int) (C := RX17) (T := TX17) (N := 7) hx hb hts mem_X16_rowR_2 tyX17 tyX17_ok nmX17 hown hK hP hD hS kp_444 hkp_444 rfl 0 (by decide) (ow (k := 15) rfl) (fun _ h9 => h9) rfl (by decide +kernel) rfl rfl (by first | exact Nat.le_of_ble_eq_true rfl | exact (show (0 + kc_422) ≤ (8 * (z16_n - z16_place) + 120).toNat from (rmW (by omega))) | exact (show (0 + ks_423) ≤ (40 * (z16_n - z16_place) + 500).toNat from (rmW (by omega)))) dX16_row_16 (fun H locs hP hD hS => ?_)
    obtain ⟨Pw_445, ePw_445⟩ : ∃ q9 : PO, q9 = Pn_421.rw9 0 xr (21) := ⟨_, rfl⟩
    have eU : (([(h0, .inr (14, [.ref q_t, .int (zI (z16_n)), .int (zI (z0_414)), .int (zI (z1_415)), .int (zI (z2_416)), .int (zI (z3_417)), .int (zI (z4_418)), .ref q5_419, v16_8, v16_9, v16_10, v16_11, v16_12, v16_13])), (q_t, .inl (cT, 8192, .inl (fun j : Nat => zI (a_t (j : Int)))))] : va_W) ++ va_pl Ln_420 (pE Pn_421)).set kp_444 (xr, rowE (21) (Pn_421.rt xr) (Pn_421.ra xr) (Pn_421.rb xr) (Pn_421.rA xr) (Pn_421.rB xr) (Pn_421.rg xr)) = ([(h0, .inr (14, [.ref q_t, .int (zI (z16_n)), .int (zI (z0_414)), .int (zI (z1_415)), .int (zI (z2_416)), .int (zI (z3_417)), .int (zI (z4_418)), .ref q5_419, v16_8, v16_9, v16_10, v16_11, v16_12, v16_13])), (q_t, .inl (cT, 8192, .inl (fun j : Nat => zI (a_t (j : Int)))))] : va_W) ++ va_pl Ln_420 (pE Pw_445) := (by rw [va_pl_set hD0 hq_437.1 gkp_444, ePw_445]; exact congrArg (fun f9 => ([(h0, .inr (14, [.ref q_t, .int (zI (z16_n)), .int (zI (z0_414)), .int (zI (z1_415)), .int (zI (z2_416)), .int (zI (z3_417)), .int (zI (z4_418)), .ref q5_419, v16_8, v16_9, v16_10, v16_11, v16_12, v16_13])), (q_t, .inl (cT, 8192, .inl (fun j : Nat => zI (a_t (j : Int)))))] : va_W) ++ va_pl Ln_420 f9) (put17_0 hq_437.2))
    have hP : va_P (dC, dI) vwQ ([(h0, .inr (14, [.ref q_t, .int (zI (z16_n)), .int (zI (z0_414)), .int (zI (z1_415)), .int (zI (z2_416)), .int (zI (z3_417)), .int (zI (z4_418)), .ref q5_419, v16_8, v16_9, v16_10, v16_11, v16_12, v16_13])), (q_t, .inl (cT, 8192, .inl (fun j : Nat => zI (a_t (j : Int)))))] ++ va_pl Ln_420 (pE Pw_445)) H := (by rw [← eU]; exact hP)
    have hD : va_D A ([(h0, .inr (14, [.ref q_t, .int (zI (z16_n)), .int (zI (z0_414)), .int (zI (z1_415)), .int (zI (z2_416)), .int (zI (z3_417)), .int (zI (z4_418)), .ref q5_419, v16_8, v16_9, v16_10, v16_11, v16_12, v16_13])), (q_t, .inl (cT, 8192, .inl (fun j : Nat => zI (a_t (j : Int)))))] ++ va_pl Ln_420 (pE Pw_445)) := (by rw [← eU]; exact hD)
    clear eU hD0 gkp_444 hkp_444
    have wPw_445 : RW1 xr Pn_421 Pw_445 := (by rw [ePw_445]; exact RW1.put _ _ _ _)
    have hy_446 : Pw_445.kd la = 30 := (by rw [ePw_445]; exact hq_436.2)
    have hy_447 : Pw_445.kd xr = 17 := (by rw [ePw_445]; exact hq_437.2)
    have : Pw_445.ro xr = 21 := (by rw [ePw_445]; exact rw9_at _ _ _ _)
    have : Pw_445.rt xr = Pn_421.rt xr := (by rw [ePw_445]; exact rw9_of _ (by decide))
    have : Pw_445.ra xr = Pn_421.ra xr := (by rw [ePw_445]; exact rw9_of _ (by decide))
    have : Pw_445.rb xr = Pn_421.rb xr := (by rw [ePw_445]; exact rw9_of _ (by decide))
    have : Pw_445.rA xr = Pn_421.rA xr := (by rw [ePw_445]; exact rw9_of _ (by decide))
    have : Pw_445.rB xr = Pn_421.rB xr := (by rw [ePw_445]; exact rw9_of _ (by decide))
    have : Pw_445.rg xr = Pn_421.rg xr := (by rw [ePw_445]; exact rw9_of _ (by decide))
    have : Pw_445.ek xr = Pn_421.ek xr := (by rw [ePw_445]; rfl)
    have hW_448 : RW1 xr Pn_421 Pw_445 := wPw_445
    have hrw_451 : RWD Pn_421 Pw_445 := hW_448.rwd (Or.inl hq_437.2)
    have hak_450 : GLR Ln_420 Pw_445 cO cI cZ sx_ed := hak_433.row hW_448 hq_437.2 (ROKR.of (by omega) (by omega) (by omega) (by omega) (by omega) (by omega) (by omega) (uaZR (by omega)) (ubZR (by omega))) (fun e9 => by have q9 := hak_433.op21 hq_437.1 hq_437.2 e9; omega)
    have hke_449 : KEG [] Ln_420 Pn_421 Ln_420 Pw_445 := hrw_451.kegR _ hq_436.2
    have hq_452 : HID (la ∈ Ln_420 ∧ Pw_445.kd la = 30) := hke_449.mem hq_436.1 hq_436.2 (by decide)
    have hq_453 : HID (xr ∈ Ln_420 ∧ Pw_445.kd xr = 17) := hke_449.mem hq_437.1 hq_437.2 (by decide)
    have hE_454 : HID (Pw_445.ek xr ≠ 1) := (by rw [hke_449.ek hq_437.1 hq_437.2 (by decide)]; exact hE_438.out)
    have hA_455 : KEG [] L P Ln_420 Pw_445 := hA_439.trans hke_449
    have : Pw_445.lz la = Pn_421.lz la := hrw_451.lz hq_436.2
    have : Pw_445.cap la = Pn_421.cap la := hW_448.cap la
    have hek_456 : HID (Pw_445.ek la = 12) := (by rw [hke_449.ek hq_436.1 hq_436.2 (by decide)]; exact hek_440.out)
    have how_457 : HID (Pw_445.ow la = la) := ((hke_449.1 la hq_436.1 (by rw [hq_436.2]; decide)).2.2.2.1 hq_436.2 how_441.out).1
    have hcz := (((hke_449.1 la hq_436.1 (by rw [hq_436.2]; decide)).2.2.2.1 hq_436.2 how_441.out).2 (by simp)).1
    have hX_tx := hX_tx.rw1R hW_448 (Or.inl hq_437.2)
    have hcx_458 : CHG (fun z => z = xr) L P Ln_420 Pw_445 := hcx_442.trans (hW_448.chg _) (fun z m q => q)
    refine lv_aload_n hx hb dX16_row_19 rfl (lv_at hl 0 rfl) ?_
    refine lv_aload_n hx hb dX16_row_20 rfl (lv_at hl 1 rfl) ?_
    refine lv_iconst (v := 0) hx hb dX16_row_21 (by decide) ?_
    have hX_tn := htk_429
    have hX_g := hak_450
    have hX_x := hq_453.1
    have hX_k := hq_453.2
    have hX_la := (show la ∈ Ln_420 ∧ Pw_445.kd la = 30 ∧ Pw_445.ek la = 12 ∧ Pw_445.ow la = la from ⟨hq_452.1, hq_452.2, hek_456.out, how_457.out⟩)
    have hPc := hP.part (X := [(h0, .inr (14, [.ref q_t, .int (zI (z16_n)), .int (zI (z0_414)), .int (zI (z1_415)), .int (zI (z2_416)), .int (zI (z3_417)), .int (zI (z4_418)), .ref q5_419, v16_8, v16_9, v16_10, v16_11, v16_12, v16_13])), (q_t, .inl (cT, 8192, .inl (fun j : Nat => zI (a_t (j : Int)))))]) (cx := [(h0, .inr (14, [.ref q_t, .int (zI (z16_n)), .int (zI (z0_414)), .int (zI (z1_415)), .int (zI (z2_416)), .int (zI (z3_417)), .int (zI (z4_418)), .ref q5_419, v16_8, v16_9, v16_10, v16_11, v16_12, v16_13])), (q_t, .inl (cT, 8192, .inl (fun j : Nat => zI (a_t (j : Int)))))]) (pl := va_pl Ln_420 (pE Pw_445)) [0, 1] rfl
    have hDc := hD.part (X := [(h0, .inr (14, [.ref q_t, .int (zI (z16_n)), .int (zI (z0_414)), .int (zI (z1_415)), .int (zI (z2_416)), .int (zI (z3_417)), .int (zI (z4_418)), .ref q5_419, v16_8, v16_9, v16_10, v16_11, v16_12, v16_13])), (q_t, .inl (cT, 8192, .inl (fun j : Nat => zI (a_t (j : Int)))))]) (cx := [(h0, .inr (14, [.ref q_t, .int (zI (z16_n)), .int (zI (z0_414)), .int (zI (z1_415)), .int (zI (z2_416)), .int (zI (z3_417)), .int (zI (z4_418)), .ref q5_419, v16_8, v16_9, v16_10, v16_11, v16_12, v16_13])), (q_t, .inl (cT, 8192, .inl (fun j : Nat => zI (a_t (j : Int)))))]) (pl := va_pl Ln_420 (pE Pw_445)) [0, 1] (by decide) rfl
    have hKc := hK.sub (tys' := [(cT, .byte), (cO, .object "java/lang/Object"), (cI, .int), (cZ, .boolean)]) [3, 0, 1, 2] rfl
    have hFc := va_freeP (X := [(h0, .inr (14, [.ref q_t, .int (zI (z16_n)), .int (zI (z0_414)), .int (zI (z1_415)), .int (zI (z2_416)), .int (zI (z3_417)), .int (zI (z4_418)), .ref q5_419, v16_8, v16_9, v16_10, v16_11, v16_12, v16_13])), (q_t, .inl (cT, 8192, .inl (fun j : Nat => zI (a_t (j : Int)))))]) (cx := [(h0, .inr (14, [.ref q_t, .int (zI (z16_n)), .int (zI (z0_414)), .int (zI (z1_415)), .int (zI (z2_416)), .int (zI (z3_417)), .int (zI (z4_418)), .ref q5_419, v16_8, v16_9, v16_10, v16_11, v16_12, v16_13])), (q_t, .inl (cT, 8192, .inl (fun j : Nat => zI (a_t (j : Int)))))]) (pl := va_pl Ln_420 (pE Pw_445)) hD hS hA [0, 1] rfl
    refine W_knowS (fun hrmA => ?_)
    refine vx_callv (vx_runV (As := [.ref xr, .int 0]) (rest := []) ⟨hx, hb, hml, hown, hts⟩ (c_X16_opAR l dC dI cI cZ h0 z16_n z0_414 z1_415 z2_416 z3_417 z4_418 v16_8 v16_9 v16_10 v16_11 v16_12 v16_13 q_t cT a_t q5_419 Ln_420 Pw_445 sa_RX16_9 cO la sx_ed xr (by omega) (by omega) (by omega) (by omega) (by omega) (by omega) hR_a_t hX_g hX_la hX_x hX_k (by omega) hX_kv hX_tn H.size sv_RX16_9 sa_RX16_119 sv_RX16_119 sa_RX16_100 sv_RX16_100 sa_RX16_117 sv_RX16_117 sa_RX16_98 sv_RX16_98 H) (cwV 2 hts g_X16_rowR_X16_opAR rfl rfl rfl (by decide +kernel) ⟨(Nat.le_of_ble_eq_true rfl), (Nat.le_of_ble_eq_true rfl)⟩) ⟨fun a U g mk q => by obtain ⟨q0, q1, qP, qK, qD, e0, e1, e2, e3, e4, e5, e6, e7, e8, e9, e10, e11, e12, e13, e14⟩ := q; exact ⟨q0, q1, qP, va_K.moved (u := U) (U := U.calling g mk a) (Vm.Alike.refl U.vm) qK, qD, vk_R.same (u := U) (U := U.calling g mk a) rfl e0, va_Z.moved (u := U) (U := U.calling g mk a) (Vm.Alike.refl U.vm) e1, vs_S.moved (u := U) (U := U.calling g mk a) (Vm.Alike.refl U.vm) e2, va_Nw.same rfl (u := U) (U := U.calling g mk a) rfl e3, vk_R.same (u := U) (U := U.calling g mk a) rfl e4, vs_S.moved (u := U) (U := U.calling g mk a) (Vm.Alike.refl U.vm) e5, vs_S.moved (u := U) (U := U.calling g mk a) (Vm.Alike.refl U.vm) e6, vk_R.same (u := U) (U := U.calling g mk a) rfl e7, vk_R.same (u := U) (U := U.calling g mk a) rfl e8, vs_S.moved (u := U) (U := U.calling g mk a) (Vm.Alike.refl U.vm) e9, vk_R.same (u := U) (U := U.calling g mk a) rfl e10, vs_S.moved (u := U) (U := U.calling g mk a) (Vm.Alike.refl U.vm) e11, e12, vx_Zq.moved (u := U) (U := U.calling g mk a) (Vm.Alike.refl U.vm) e13, vx_Zq.moved (u := U) (U := U.calling g mk a) (Vm.Alike.refl U.vm) e14⟩, va_recv hKc hPc (ci := 14) (q0 := 0) rfl rfl, fun U hU hW => ⟨rfl, by rw [hU], by rw [hU]; exact hPc, va_K.moved hW.alike hKc, hDc.weaken (fun _ _ _ _ => trivial), vk_R.warm hW hp4, va_Z.go hp3 hS hFc hU hW.alike, vs_S.go hp2 hS hFc hU hW.alike, va_Nw.warmC hW hp5, vk_R.warm hW hp6, vs_S.go hp7 hS hFc hU hW.alike, vs_S.go hp8 hS hFc hU hW.alike, vk_R.warm hW hp9, vk_R.warm hW hp10, vs_S.go hp11 hS hFc hU hW.alike, vk_R.warm hW hp12, vs_S.go hp13 hS hFc hU hW.alike, hU, vx_Zq.go hp14 hS hFc hU hW.alike, vx_Zq.go hp15 hS hFc hU hW.alike⟩⟩ rfl rfl hl.1 rfl (lv_room (Nat.le_of_ble_eq_true rfl)) dX16_row_22 ⟨(show (0 + kc_422) + ((z16_n - z0_414 + 20).toNat) ≤ (8 * (z16_n - z16_place) + 120).toNat from (rmT (by omega) (by omega))), (show (0 + ks_423) + ((10 * (z16_n - z0_414) + 120).toNat) ≤ (40 * (z16_n - z16_place) + 500).toNat from (rmT (by omega) (by omega)))⟩) hS (fun q _ h => hFc q h) hFc (fun q _ h => hFc q h) (fun E ce q9 u t H1 locs ht hvm _ hB hz1 hk1 hS hce hcv hcl => ?_) (fun  u t H1 locs ht hvm hw hB hz1 hk1 hS => ?_)
    · obtain ⟨rfl, zp_459, Ln_460, Pn_461, kc_462, ks_463, hxt_464, hP1, hD1⟩ := hB
      rw [ht] at hP1
      obtain ⟨hP, hD⟩ := va_joinP (X := [(h0, .inr (14, [.ref q_t, .int (zI (z16_n)), .int (zI (z0_414)), .int (zI (z1_415)), .int (zI (z2_416)), .int (zI (z3_417)), .int (zI (z4_418)), .ref q5_419, v16_8, v16_9, v16_10, v16_11, v16_12, v16_13])), (q_t, .inl (cT, 8192, .inl (fun j : Nat => zI (a_t (j : Int)))))]) (cx := [(h0, .inr (14, [.ref q_t, .int (zI (z16_n)), .int (zI (z0_414)), .int (zI (z1_415)), .int (zI (z2_416)), .int (zI (z3_417)), .int (zI (z4_418)), .ref q5_419, v16_8, v16_9, v16_10, v16_11, v16_12, v16_13])), (q_t, .inl (cT, 8192, .inl (fun j : Nat => zI (a_t (j : Int)))))]) (wr := []) (rx := [(q_t, .inl (cT, 8192, .inl (fun j : Nat => zI (a_t (j : Int))))), (q9, .inr (15, [.null, .null, .null, .null, .null, .int 0, .int (zI (zp_459))]))]) (pl := va_pl Ln_420 (pE Pw_445)) (pl1 := va_pl Ln_460 (pE Pn_461)) hP hD [0, 1] [] rfl rfl (by decide) (by decide) hk1 hFc hP1 hD1
      have hrmC := hxt_464.1.1
      rw [ht] at hrmC
      refine vx_tightS (hrmA.trans hrmC) ?_
      have hrb := hxt_464.1.2
      generalize H1 = H at hP hS hce ⊢
      have hP : va_P (dC, dI) vwQ ([(q_t, .inl (cT, 8192, .inl (fun j : Nat => zI (a_t (j : Int))))), (q9, .inr (15, [.null, .null, .null, .null, .null, .int 0, .int (zI (zp_459))]))] ++ va_pl Ln_460 (pE Pn_461)) H := hP
      have hD : va_D A ([(q_t, .inl (cT, 8192, .inl (fun j : Nat => zI (a_t (j : Int))))), (q9, .inr (15, [.null, .null, .null, .null, .null, .int 0, .int (zI (zp_459))]))] ++ va_pl Ln_460 (pE Pn_461)) := hD
      have hzp : 0 ≤ zp_459 ∧ zp_459 ≤ 8192 := hxt_464.2.1
      subst hQ
      refine vx_knowS (fun hrm9 => ?_)
      refine vx_widen (k := ((8 * (z16_n - z16_place) + 120).toNat)) (n := ((40 * (z16_n - z16_place) + 500).toNat)) (rmW (by omega)) (rmW (by omega)) ?_
      exact vx_out (fun x9 h9 => (hnt x9 h9).elim) hlocks hce hcv hcl (fun t ht hvm => ⟨(), trivial, ⟨rfl, zp_459, Ln_460, Pn_461, ((0 + kc_422) + kc_462), ((0 + ks_423) + ks_463), ⟨⟨(by rw [ht, ← hp16]; exact hrm9), (by omega)⟩, ⟨(by omega), ⟨hA_455.trans hxt_464.2.2.1, hxt_464.2.2.2.1, (hcx_458.cpa hg00.owa (fun z _ q => by rw [show z = xr from q, hk00]; decide)).trans hA_455 hxt_464.2.2.2.2⟩⟩⟩, by rw [ht]; exact hP, hD⟩, hS.F ht⟩) hS.2.2 (Nat.le_refl _) (Nat.le_refl _)
    obtain ⟨z0_465, z1_466, z2_467, z3_468, z4_469, q5_470, Ln_471, Pn_472, kc_473, ks_474, hxt_474, hP1, hK1, hD1⟩ := hB
    rw [ht] at hP1
    have hK1 := va_K.moved hvm.symm hK1
    obtain ⟨hP, hD⟩ := va_joinP (X := [(h0, .inr (14, [.ref q_t, .int (zI (z16_n)), .int (zI (z0_414)), .int (zI (z1_415)), .int (zI (z2_416)), .int (zI (z3_417)), .int (zI (z4_418)), .ref q5_419, v16_8, v16_9, v16_10, v16_11, v16_12, v16_13])), (q_t, .inl (cT, 8192, .inl (fun j : Nat => zI (a_t (j : Int)))))]) (cx := [(h0, .inr (14, [.ref q_t, .int (zI (z16_n)), .int (zI (z0_414)), .int (zI (z1_415)), .int (zI (z2_416)), .int (zI (z3_417)), .int (zI (z4_418)), .ref q5_419, v16_8, v16_9, v16_10, v16_11, v16_12, v16_13])), (q_t, .inl (cT, 8192, .inl (fun j : Nat => zI (a_t (j : Int)))))]) (wr := []) (rx := [(h0, .inr (14, [.ref q_t, .int (zI (z16_n)), .int (zI (z0_465)), .int (zI (z1_466)), .int (zI (z2_467)), .int (zI (z3_468)), .int (zI (z4_469)), .ref q5_470, v16_8, v16_9, v16_10, v16_11, v16_12, v16_13])), (q_t, .inl (cT, 8192, .inl (fun j : Nat => zI (a_t (j : Int)))))]) (pl := va_pl Ln_420 (pE Pw_445)) (pl1 := va_pl Ln_471 (pE Pn_472)) hP hD [0, 1] [] rfl rfl (by decide) (by decide) hk1 hFc hP1 hD1
    have hK := (hK.sub (tys' := []) [] rfl).app hK1
    have hrmC := hxt_474.1.1
    rw [ht] at hrmC
    refine W_tightS (hrmA.trans hrmC) ?_
    have hrb := hxt_474.1.2
    generalize H1 = H at hP hS ⊢
    have hP : va_P (dC, dI) vwQ ([(h0, .inr (14, [.ref q_t, .int (zI (z16_n)), .int (zI (z0_465)), .int (zI (z1_466)), .int (zI (z2_467)), .int (zI (z3_468)), .int (zI (z4_469)), .ref q5_470, v16_8, v16_9, v16_10, v16_11, v16_12, v16_13])), (q_t, .inl (cT, 8192, .inl (fun j : Nat => zI (a_t (j : Int)))))] ++ va_pl Ln_471 (pE Pn_472)) H := hP
    have hD : va_D A ([(h0, .inr (14, [.ref q_t, .int (zI (z16_n)), .int (zI (z0_465)), .int (zI (z1_466)), .int (zI (z2_467)), .int (zI (z3_468)), .int (zI (z4_469)), .ref q5_470, v16_8, v16_9, v16_10, v16_11, v16_12, v16_13])), (q_t, .inl (cT, 8192, .inl (fun j : Nat => zI (a_t (j : Int)))))] ++ va_pl Ln_471 (pE Pn_472)) := hD
    have hK : va_K (dC, dI) vwQ [(cT, .byte), (cO, .object "java/lang/Object"), (cI, .int), (cZ, .boolean)] s := hK
    refine W.widen (k := ((0 + kc_422) + kc_473)) (n := ((0 + ks_423) + ks_474)) (by omega) (by omega) ?_
    obtain ⟨rk_475, rk_476, rk_477, rk_478, rk_479, hu_479⟩ := hxt_474.2
    have htk_480 := hu_479.2.2.2.2.1.2
    have hrg_480 := hu_479.2.2.2.2.1.1
    have htq_480 := htk_480.1
    have hu_481 := HID.mk (hu_479)
    replace hu_479 := HID.mk hu_479
    replace hxt_474 := HID.mk hxt_474
    have hoc9 := hu_481.2.2.1.2
    have hoq9 : OPQ (Pn_472.rA xr) (Pn_472.ra xr) := hu_481.2.2.1.1
    have hgo9 := hkd_434.go (by omega)
    have hkd_482 := hu_481.2.2.2.2.2.1
    have hX_kv := hkd_482.2
    have hq_483 : HID (la ∈ Ln_471 ∧ Pn_472.kd la = 30) := hu_481.1.mem hq_452.1 hq_452.2 (by decide)
    have hq_484 : HID (xr ∈ Ln_471 ∧ Pn_472.kd xr = 17) := hu_481.1.mem hq_453.1 hq_453.2 (by decide)
    have hE_485 : HID (Pn_472.ek xr ≠ 1) := (by rw [hu_481.1.ek hq_453.1 hq_453.2 (by decide)]; exact hE_454.out)
    have hA_486 : KEG [] L P Ln_471 Pn_472 := hA_455.trans hu_481.1
    have : Pn_472.lz la = Pw_445.lz la := (hu_481.2.2.2.1 la hq_452.1 (fun e9 => absurd e9 (kd_ne hq_452.2 hq_453.2 (by decide)))).2.1 0
    have hek_487 : HID (Pn_472.ek la = 12) := (by rw [hu_481.1.ek hq_452.1 hq_452.2 (by decide)]; exact hek_456.out)
    have how_488 : HID (Pn_472.ow la = la) := ((hu_481.1.1 la hq_452.1 (by rw [hq_452.2]; decide)).2.2.2.1 hq_452.2 how_457.out).1
    have hcz := (((hu_481.1.1 la hq_452.1 (by rw [hq_452.2]; decide)).2.2.2.1 hq_452.2 how_457.out).2 (by simp)).1
    have hX_tx := hu_481.2.2.2.2.2.2.1
    have hxk9 := hu_481.2.2.2.2.2.2.2
    have hcx_489 : CHG (fun z => z = xr) L P Ln_471 Pn_472 := hcx_458.trans hu_481.2.2.2.1 (fun z m q => q)
    have hnn_480 := TKV.nn (k := z1_466) (d := z0_465 - z2_467) (by omega)
    have hri_490 : ((((0 + ks_423) + ks_474) : Nat) : Int) ≤ 40 * (z2_467 - z16_place) - TKV z16_kind (z16_at - z16_place) + TKV (z1_466) (z0_465 - z2_467) ∧ ((((0 + kc_422) + kc_473) : Nat) : Int) ≤ 8 * (z2_467 - z16_place) - TKW z16_kind (z16_at - z16_place) + TKW (z1_466) (z0_465 - z2_467) - 3 := (by omega)
    clear hrb hri_443
    skip
    have hoa9 := hoq9
    subst hQ
    refine W_knowS (fun hrm9 => ?_)
    refine W.widen (k := ((8 * (z16_n - z16_place) + 120).toNat)) (n := ((40 * (z16_n - z16_place) + 500).toNat)) (rmW (by omega)) (rmW (by omega)) ?_
    refine vx_ret ?_
    exact W.vret hx hb hr (fun t ht hW => ⟨⟨(), rfl, trivial, z0_465, z1_466, z2_467, z3_468, z4_469, q5_470, Ln_471, Pn_472, ((0 + kc_422) + kc_473), ((0 + ks_423) + ks_474), ⟨⟨(by rw [ht, ← hp16]; exact hrm9), (by omega)⟩, ⟨(by omega), (by omega), (by omega), (by omega), (by omega), ⟨hA_486, hu_481.2.1, ⟨⟨(hkd_482.mono (by omega)).ms (by omega) (by omega) (by omega), by omega⟩, ⟨by omega, (by first | exact OPQ.z (by omega) | exact hoa9.to (by omega) (by omega)), (by first | exact OPQ.z (by omega) | exact hob9.to (by omega) (by omega))⟩⟩, hcx_489, ⟨⟨by omega, by omega, by omega⟩, htk_480⟩, hkd_482.mono (by omega), hX_tx⟩⟩⟩, by rw [ht]; exact hP, va_K.moved hW.alike hK, hD⟩, hS.F ht⟩) hS.2.2 dX16_row_25
