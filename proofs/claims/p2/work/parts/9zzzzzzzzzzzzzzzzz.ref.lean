def o_X16_rowR : List Cond := [.methodLink RX16 132 yX16_is, .instanceMethod yX16_is, .selects RX16 yX16_is yX16_is, .initialized RX16, .methodLink RX16 152 yX16_want_, .instanceMethod yX16_want_, .selects RX16 yX16_want_ yX16_want_, .fieldLink RX16 227 "SsaForgeModel$Row" "t" "I", .methodLink RX16 173 yX16_want, .instanceMethod yX16_want, .selects RX16 yX16_want yX16_want, .methodLink RX16 223 yX16_operand, .instanceMethod yX16_operand, .selects RX16 yX16_operand yX16_operand, .fieldLink RX16 38 "SsaForgeModel$Reader" "kind" "I", .fieldLink RX16 220 "SsaForgeModel$Row" "op" "I", .methodLink RX16 35 yX16_next, .instanceMethod yX16_next, .selects RX16 yX16_next yX16_next, .fieldLink RX16 11 "SsaForgeModel$Reader" "text" "Ljava/lang/String;", .initialized RX19, .static yX19_operation]
def v_X16_rowR : List Cond := .code yX16_row cX16_row 2 none :: (o_X16_rowR ++ (v_X16_isKK ++ (v_X16_wantIK ++ (wsX170 ++ (v_X16_wantSK ++ (v_X16_opAR ++ (wsX160 ++ (v_X16_nextK ++ (v_X16_opBR ++ (v_X19_operation ++ []))))))))))
theorem mow_X16_rowR : ∀ w ∈ o_X16_rowR, w ∈ v_X16_rowR := fun _ h => List.mem_cons_of_mem _ (List.mem_append_left _ h)
theorem mem_X16_rowR_0 : ∀ w ∈ v_X16_isKK, w ∈ v_X16_rowR := fun _ h => List.mem_cons_of_mem _ (List.mem_append_right _ (List.mem_append_left _ h))
theorem mem_X16_rowR_1 : ∀ w ∈ v_X16_wantIK, w ∈ v_X16_rowR := fun _ h => List.mem_cons_of_mem _ (List.mem_append_right _ (List.mem_append_right _ (List.mem_append_left _ h)))
theorem mem_X16_rowR_2 : ∀ w ∈ wsX170, w ∈ v_X16_rowR := fun _ h => List.mem_cons_of_mem _ (List.mem_append_right _ (List.mem_append_right _ (List.mem_append_right _ (List.mem_append_left _ h))))
theorem mem_X16_rowR_3 : ∀ w ∈ v_X16_wantSK, w ∈ v_X16_rowR := fun _ h => List.mem_cons_of_mem _ (List.mem_append_right _ (List.mem_append_right _ (List.mem_append_right _ (List.mem_append_right _ (List.mem_append_left _ h)))))
theorem mem_X16_rowR_4 : ∀ w ∈ v_X16_opAR, w ∈ v_X16_rowR := fun _ h => List.mem_cons_of_mem _ (List.mem_append_right _ (List.mem_append_right _ (List.mem_append_right _ (List.mem_append_right _ (List.mem_append_right _ (List.mem_append_left _ h))))))
theorem mem_X16_rowR_5 : ∀ w ∈ wsX160, w ∈ v_X16_rowR := fun _ h => List.mem_cons_of_mem _ (List.mem_append_right _ (List.mem_append_right _ (List.mem_append_right _ (List.mem_append_right _ (List.mem_append_right _ (List.mem_append_right _ (List.mem_append_left _ h)))))))
theorem mem_X16_rowR_6 : ∀ w ∈ v_X16_nextK, w ∈ v_X16_rowR := fun _ h => List.mem_cons_of_mem _ (List.mem_append_right _ (List.mem_append_right _ (List.mem_append_right _ (List.mem_append_right _ (List.mem_append_right _ (List.mem_append_right _ (List.mem_append_right _ (List.mem_append_left _ h))))))))
theorem mem_X16_rowR_7 : ∀ w ∈ v_X16_opBR, w ∈ v_X16_rowR := fun _ h => List.mem_cons_of_mem _ (List.mem_append_right _ (List.mem_append_right _ (List.mem_append_right _ (List.mem_append_right _ (List.mem_append_right _ (List.mem_append_right _ (List.mem_append_right _ (List.mem_append_right _ (List.mem_append_left _ h)))))))))
theorem mem_X16_rowR_8 : ∀ w ∈ v_X19_operation, w ∈ v_X16_rowR := fun _ h => List.mem_cons_of_mem _ (List.mem_append_right _ (List.mem_append_right _ (List.mem_append_right _ (List.mem_append_right _ (List.mem_append_right _ (List.mem_append_right _ (List.mem_append_right _ (List.mem_append_right _ (List.mem_append_right _ (List.mem_append_left _ h))))))))))
set_option maxRecDepth 20000 in
theorem gw_X16_rowR : v_X16_rowR.all goodWord = true := by decide +kernel
set_option maxRecDepth 20000 in
theorem g_X16_rowR_X16_isKK : GoodIn v_X16_rowR (wsV RX16 132 RX16 yX16_is v_X16_isKK) := goodIn_app (goodIn_sub (fun w h => mow_X16_rowR w (by revert w h; decide +kernel)) (by decide +kernel)) (goodIn_sub mem_X16_rowR_0 gw_X16_isKK)
set_option maxRecDepth 20000 in
theorem g_X16_rowR_X16_wantIK : GoodIn v_X16_rowR (wsV RX16 152 RX16 yX16_want_ v_X16_wantIK) := goodIn_app (goodIn_sub (fun w h => mow_X16_rowR w (by revert w h; decide +kernel)) (by decide +kernel)) (goodIn_sub mem_X16_rowR_1 gw_X16_wantIK)
set_option maxRecDepth 20000 in
theorem g_X16_rowR_X16_wantSK : GoodIn v_X16_rowR (wsV RX16 173 RX16 yX16_want v_X16_wantSK) := goodIn_app (goodIn_sub (fun w h => mow_X16_rowR w (by revert w h; decide +kernel)) (by decide +kernel)) (goodIn_sub mem_X16_rowR_3 gw_X16_wantSK)
set_option maxRecDepth 20000 in
theorem g_X16_rowR_X16_opAR : GoodIn v_X16_rowR (wsV RX16 223 RX16 yX16_operand v_X16_opAR) := goodIn_app (goodIn_sub (fun w h => mow_X16_rowR w (by revert w h; decide +kernel)) (by decide +kernel)) (goodIn_sub mem_X16_rowR_4 gw_X16_opAR)
set_option maxRecDepth 20000 in
theorem g_X16_rowR_X16_nextK : GoodIn v_X16_rowR (wsV RX16 35 RX16 yX16_next v_X16_nextK) := goodIn_app (goodIn_sub (fun w h => mow_X16_rowR w (by revert w h; decide +kernel)) (by decide +kernel)) (goodIn_sub mem_X16_rowR_6 gw_X16_nextK)
set_option maxRecDepth 20000 in
theorem g_X16_rowR_X16_opBR : GoodIn v_X16_rowR (wsV RX16 223 RX16 yX16_operand v_X16_opBR) := goodIn_app (goodIn_sub (fun w h => mow_X16_rowR w (by revert w h; decide +kernel)) (by decide +kernel)) (goodIn_sub mem_X16_rowR_7 gw_X16_opBR)
set_option maxHeartbeats 40000000 in
set_option maxRecDepth 100000 in
theorem c_X16_rowR (l : Launch) (dC : Nat → ClassId) (dI : Nat → Nat → Nat) (cI : ClassId) (cZ : ClassId) (h0 : Nat) (z16_n : Int) (z16_at : Int) (z16_kind : Int) (z16_place : Int) (z16_value : Int) (z16_before : Int) (v16_8 : Value) (v16_9 : Value) (v16_10 : Value) (v16_11 : Value) (v16_12 : Value) (v16_13 : Value) (q_t : Nat) (cT : ClassId) (a_t : Int → Int) (tx9 : Nat) (L : List Nat) (P : PO) (sa_RX16_9 : Nat) (cO : ClassId) (la : Nat) (sx_ed : Nat) (xr : Nat) (hNz16_n : 0 ≤ z16_n ∧ z16_n ≤ 8192) (hNz16_at : 0 ≤ z16_at ∧ z16_at ≤ 8192) (hNz16_kind : 0 ≤ z16_kind ∧ z16_kind ≤ 6) (hNz16_place : 0 ≤ z16_place ∧ z16_place ≤ 8192) (hNz16_value : -2147483648 ≤ z16_value ∧ z16_value ≤ 2147483647) (hNz16_before : 0 ≤ z16_before ∧ z16_before ≤ 6) (hR_a_t : ∀ j : Int, -128 ≤ a_t j ∧ a_t j ≤ 127) (hX_g : GLR L P cO cI cZ sx_ed) (hX_la : la ∈ L ∧ P.kd la = 30 ∧ P.ek la = 12 ∧ P.ow la = la) (hX_x : xr ∈ L) (hX_k : P.kd xr = 17) (hX_e : P.ek xr ≠ 1) (hX_tx : TXT L P cT sa_RX16_9 tx9) (hNd : z16_at ≤ z16_n ∧ z16_place ≤ z16_at) (hX_kv : KV9 z16_kind z16_value) (hX_tn : TKQ z16_kind z16_place z16_at) (hNr : P.rA xr = 0 ∧ P.rB xr = 0 ∧ P.rt xr ≤ 1001) (sz : Nat) (sa_RX16_179 : Nat) (sv_RX16_179 : Nat) (sv_RX16_9 : Nat) (sa_RX16_119 : Nat) (sv_RX16_119 : Nat) (sa_RX16_100 : Nat) (sv_RX16_100 : Nat) (sa_RX16_117 : Nat) (sv_RX16_117 : Nat) (sa_RX16_98 : Nat) (sv_RX16_98 : Nat) (HU : Heap) (sa_RX16_229 : Nat) (sv_RX16_229 : Nat) (sa_RX16_231 : Nat) (sv_RX16_231 : Nat) (sa_RX19_3 : Nat) (sa_RX19_11 : Nat) (sv_RX19_11 : Nat) (sv_RX19_3 : Nat) (sx_fm : Nat) : vx_Met l yX16_row v_X16_rowR ({ frames := 9, cells := ((8 * (z16_n - z16_place) - TKW z16_kind (z16_at - z16_place) + 160).toNat), slots := ((45 * (z16_n - z16_place) - TKV z16_kind (z16_at - z16_place) + 500).toNat), locals := 239 }) (va_Pc [.ref h0, .ref xr] (fun U => U.heap.size = sz ∧ va_P (dC, dI) vwQ ([(h0, .inr (14, [.ref q_t, .int (zI (z16_n)), .int (zI (z16_at)), .int (zI (z16_kind)), .int (zI (z16_place)), .int (zI (z16_value)), .int (zI (z16_before)), .ref tx9, v16_8, v16_9, v16_10, v16_11, v16_12, v16_13])), (q_t, .inl (cT, 8192, .inl (fun j : Nat => zI (a_t (j : Int)))))] ++ va_pl L (pE P)) U.heap ∧ va_K (dC, dI) vwQ [(cT, .byte), (cO, .object "java/lang/Object"), (cI, .int), (cZ, .boolean)] U ∧ va_D (fun _ => True) ([(h0, .inr (14, [.ref q_t, .int (zI (z16_n)), .int (zI (z16_at)), .int (zI (z16_kind)), .int (zI (z16_place)), .int (zI (z16_value)), .int (zI (z16_before)), .ref tx9, v16_8, v16_9, v16_10, v16_11, v16_12, v16_13])), (q_t, .inl (cT, 8192, .inl (fun j : Nat => zI (a_t (j : Int)))))] ++ va_pl L (pE P)) ∧ vk_R RX16 179 "show" sa_RX16_179 U ∧ vs_S sa_RX16_179 sv_RX16_179 4 (fun j : Nat => ([115, 104, 111, 119] : List Int32).getD j 0) (va_A ([(h0, .inr (14, [.ref q_t, .int (zI (z16_n)), .int (zI (z16_at)), .int (zI (z16_kind)), .int (zI (z16_place)), .int (zI (z16_value)), .int (zI (z16_before)), .ref tx9, v16_8, v16_9, v16_10, v16_11, v16_12, v16_13])), (q_t, .inl (cT, 8192, .inl (fun j : Nat => zI (a_t (j : Int)))))] ++ va_pl L (pE P)) sz) U U.heap ∧ vs_S sa_RX16_9 sv_RX16_9 0 (fun j : Nat => ([] : List Int32).getD j 0) (va_A ([(h0, .inr (14, [.ref q_t, .int (zI (z16_n)), .int (zI (z16_at)), .int (zI (z16_kind)), .int (zI (z16_place)), .int (zI (z16_value)), .int (zI (z16_before)), .ref tx9, v16_8, v16_9, v16_10, v16_11, v16_12, v16_13])), (q_t, .inl (cT, 8192, .inl (fun j : Nat => zI (a_t (j : Int)))))] ++ va_pl L (pE P)) sz) U U.heap ∧ va_Z "java/lang/String" "COMPACT_STRINGS" "Z" (.int 1) (va_A ([(h0, .inr (14, [.ref q_t, .int (zI (z16_n)), .int (zI (z16_at)), .int (zI (z16_kind)), .int (zI (z16_place)), .int (zI (z16_value)), .int (zI (z16_before)), .ref tx9, v16_8, v16_9, v16_10, v16_11, v16_12, v16_13])), (q_t, .inl (cT, 8192, .inl (fun j : Nat => zI (a_t (j : Int)))))] ++ va_pl L (pE P)) sz) U U.heap ∧ vk_R RX16 9 "" sa_RX16_9 U ∧ va_Nw (.castable "[B" "java/lang/Cloneable") U ∧ vk_R RX16 119 "+-*/%&|^<(),:=" sa_RX16_119 U ∧ vs_S sa_RX16_119 sv_RX16_119 14 (fun j : Nat => ([43, 45, 42, 47, 37, 38, 124, 94, 60, 40, 41, 44, 58, 61] : List Int32).getD j 0) (va_A ([(h0, .inr (14, [.ref q_t, .int (zI (z16_n)), .int (zI (z16_at)), .int (zI (z16_kind)), .int (zI (z16_place)), .int (zI (z16_value)), .int (zI (z16_before)), .ref tx9, v16_8, v16_9, v16_10, v16_11, v16_12, v16_13])), (q_t, .inl (cT, 8192, .inl (fun j : Nat => zI (a_t (j : Int)))))] ++ va_pl L (pE P)) sz) U U.heap ∧ vs_S sa_RX16_100 sv_RX16_100 1 (fun j : Nat => ([32] : List Int32).getD j 0) (va_A ([(h0, .inr (14, [.ref q_t, .int (zI (z16_n)), .int (zI (z16_at)), .int (zI (z16_kind)), .int (zI (z16_place)), .int (zI (z16_value)), .int (zI (z16_before)), .ref tx9, v16_8, v16_9, v16_10, v16_11, v16_12, v16_13])), (q_t, .inl (cT, 8192, .inl (fun j : Nat => zI (a_t (j : Int)))))] ++ va_pl L (pE P)) sz) U U.heap ∧ vk_R RX16 117 " << >> <= == != " sa_RX16_117 U ∧ vk_R RX16 100 " " sa_RX16_100 U ∧ vs_S sa_RX16_117 sv_RX16_117 16 (fun j : Nat => ([32, 60, 60, 32, 62, 62, 32, 60, 61, 32, 61, 61, 32, 33, 61, 32] : List Int32).getD j 0) (va_A ([(h0, .inr (14, [.ref q_t, .int (zI (z16_n)), .int (zI (z16_at)), .int (zI (z16_kind)), .int (zI (z16_place)), .int (zI (z16_value)), .int (zI (z16_before)), .ref tx9, v16_8, v16_9, v16_10, v16_11, v16_12, v16_13])), (q_t, .inl (cT, 8192, .inl (fun j : Nat => zI (a_t (j : Int)))))] ++ va_pl L (pE P)) sz) U U.heap ∧ vk_R RX16 98 " in show if jump ret phi " sa_RX16_98 U ∧ vs_S sa_RX16_98 sv_RX16_98 25 (fun j : Nat => ([32, 105, 110, 32, 115, 104, 111, 119, 32, 105, 102, 32, 106, 117, 109, 112, 32, 114, 101, 116, 32, 112, 104, 105, 32] : List Int32).getD j 0) (va_A ([(h0, .inr (14, [.ref q_t, .int (zI (z16_n)), .int (zI (z16_at)), .int (zI (z16_kind)), .int (zI (z16_place)), .int (zI (z16_value)), .int (zI (z16_before)), .ref tx9, v16_8, v16_9, v16_10, v16_11, v16_12, v16_13])), (q_t, .inl (cT, 8192, .inl (fun j : Nat => zI (a_t (j : Int)))))] ++ va_pl L (pE P)) sz) U U.heap ∧ vx_Zq Bundle.tN "UNASSIGNED_STACK" Bundle.steD (va_A ([(h0, .inr (14, [.ref q_t, .int (zI (z16_n)), .int (zI (z16_at)), .int (zI (z16_kind)), .int (zI (z16_place)), .int (zI (z16_value)), .int (zI (z16_before)), .ref tx9, v16_8, v16_9, v16_10, v16_11, v16_12, v16_13])), (q_t, .inl (cT, 8192, .inl (fun j : Nat => zI (a_t (j : Int)))))] ++ va_pl L (pE P)) sz) U U.heap ∧ vx_Zq Bundle.tN "SUPPRESSED_SENTINEL" Bundle.listD (va_A ([(h0, .inr (14, [.ref q_t, .int (zI (z16_n)), .int (zI (z16_at)), .int (zI (z16_kind)), .int (zI (z16_place)), .int (zI (z16_value)), .int (zI (z16_before)), .ref tx9, v16_8, v16_9, v16_10, v16_11, v16_12, v16_13])), (q_t, .inl (cT, 8192, .inl (fun j : Nat => zI (a_t (j : Int)))))] ++ va_pl L (pE P)) sz) U U.heap ∧ U.heap = HU ∧ vk_R RX16 229 "=" sa_RX16_229 U ∧ vs_S sa_RX16_229 sv_RX16_229 1 (fun j : Nat => ([61] : List Int32).getD j 0) (va_A ([(h0, .inr (14, [.ref q_t, .int (zI (z16_n)), .int (zI (z16_at)), .int (zI (z16_kind)), .int (zI (z16_place)), .int (zI (z16_value)), .int (zI (z16_before)), .ref tx9, v16_8, v16_9, v16_10, v16_11, v16_12, v16_13])), (q_t, .inl (cT, 8192, .inl (fun j : Nat => zI (a_t (j : Int)))))] ++ va_pl L (pE P)) sz) U U.heap ∧ vk_R RX16 231 "in" sa_RX16_231 U ∧ vs_S sa_RX16_231 sv_RX16_231 2 (fun j : Nat => ([105, 110] : List Int32).getD j 0) (va_A ([(h0, .inr (14, [.ref q_t, .int (zI (z16_n)), .int (zI (z16_at)), .int (zI (z16_kind)), .int (zI (z16_place)), .int (zI (z16_value)), .int (zI (z16_before)), .ref tx9, v16_8, v16_9, v16_10, v16_11, v16_12, v16_13])), (q_t, .inl (cT, 8192, .inl (fun j : Nat => zI (a_t (j : Int)))))] ++ va_pl L (pE P)) sz) U U.heap ∧ vk_R RX19 3 " + - * / % & | ^ << >> < <= == != " sa_RX19_3 U ∧ vk_R RX19 11 " " sa_RX19_11 U ∧ vs_S sa_RX19_11 sv_RX19_11 1 (fun j : Nat => ([32] : List Int32).getD j 0) (va_A ([(h0, .inr (14, [.ref q_t, .int (zI (z16_n)), .int (zI (z16_at)), .int (zI (z16_kind)), .int (zI (z16_place)), .int (zI (z16_value)), .int (zI (z16_before)), .ref tx9, v16_8, v16_9, v16_10, v16_11, v16_12, v16_13])), (q_t, .inl (cT, 8192, .inl (fun j : Nat => zI (a_t (j : Int)))))] ++ va_pl L (pE P)) sz) U U.heap ∧ vs_S sa_RX19_3 sv_RX19_3 34 (fun j : Nat => ([32, 43, 32, 45, 32, 42, 32, 47, 32, 37, 32, 38, 32, 124, 32, 94, 32, 60, 60, 32, 62, 62, 32, 60, 32, 60, 61, 32, 61, 61, 32, 33, 61, 32] : List Int32).getD j 0) (va_A ([(h0, .inr (14, [.ref q_t, .int (zI (z16_n)), .int (zI (z16_at)), .int (zI (z16_kind)), .int (zI (z16_place)), .int (zI (z16_value)), .int (zI (z16_before)), .ref tx9, v16_8, v16_9, v16_10, v16_11, v16_12, v16_13])), (q_t, .inl (cT, 8192, .inl (fun j : Nat => zI (a_t (j : Int)))))] ++ va_pl L (pE P)) sz) U U.heap ∧ va_Z "jdk/internal/util/Preconditions" "SIOOBE_FORMATTER" "Ljava/util/function/BiFunction;" (.ref sx_fm) (va_A ([(h0, .inr (14, [.ref q_t, .int (zI (z16_n)), .int (zI (z16_at)), .int (zI (z16_kind)), .int (zI (z16_place)), .int (zI (z16_value)), .int (zI (z16_before)), .ref tx9, v16_8, v16_9, v16_10, v16_11, v16_12, v16_13])), (q_t, .inl (cT, 8192, .inl (fun j : Nat => zI (a_t (j : Int)))))] ++ va_pl L (pE P)) sz) U U.heap ∧ va_Nw (.methodLinkNest RX16 233 yX19_operation "SsaForgeModel") U)) (va_Qv (fun _ : Unit => True) (fun (_ : Unit) (t : State) => ∃ (z0_9 : Int) (z1_9 : Int) (z2_9 : Int) (z3_9 : Int) (z4_9 : Int) (q5_9 : Nat) (Ln_9 : List Nat) (Pn_9 : PO) (kc_9 : Nat) (ks_9 : Nat), ((RM HU t.heap kc_9 ks_9 ∧ ((ks_9 : Int) ≤ 45 * (z2_9 - z16_place) - TKV z16_kind (z16_at - z16_place) + TKV (z1_9) (z0_9 - z2_9) - 10 ∧ (kc_9 : Int) ≤ 8 * (z2_9 - z16_place) - TKW z16_kind (z16_at - z16_place) + TKW (z1_9) (z0_9 - z2_9) - 1)) ∧ ((0 ≤ z0_9 ∧ z0_9 ≤ 8192) ∧ (0 ≤ z1_9 ∧ z1_9 ≤ 6) ∧ (0 ≤ z2_9 ∧ z2_9 ≤ 8192) ∧ (-2147483648 ≤ z3_9 ∧ z3_9 ≤ 2147483647) ∧ (0 ≤ z4_9 ∧ z4_9 ≤ 6) ∧ (KEG [] L P Ln_9 Pn_9 ∧ GLR Ln_9 Pn_9 cO cI cZ sx_ed ∧ ((7 * (z16_n - z0_9) + z1_9 < 7 * (z16_n - z16_at) + z16_kind ∧ z16_at + 1 ≤ z0_9 ∧ z16_place + 2 ≤ z2_9) ∧ STW Pn_9 xr ∧ NTX L P Ln_9 Pn_9) ∧ CHG (fun z => z = xr) L P Ln_9 Pn_9 ∧ ((z16_at ≤ z2_9 ∧ z2_9 ≤ z0_9 ∧ z0_9 ≤ z16_n) ∧ TKQ (z1_9) (z2_9) (z0_9)) ∧ KDN (z1_9) (z0_9) (z3_9) z16_n z16_at ∧ TXT Ln_9 Pn_9 cT sa_RX16_9 q5_9))) ∧ va_P (dC, dI) vwQ ([(h0, .inr (14, [.ref q_t, .int (zI (z16_n)), .int (zI (z0_9)), .int (zI (z1_9)), .int (zI (z2_9)), .int (zI (z3_9)), .int (zI (z4_9)), .ref q5_9, v16_8, v16_9, v16_10, v16_11, v16_12, v16_13])), (q_t, .inl (cT, 8192, .inl (fun j : Nat => zI (a_t (j : Int)))))] ++ va_pl Ln_9 (pE Pn_9)) t.heap ∧ va_K (dC, dI) vwQ [(cT, .byte), (cO, .object "java/lang/Object"), (cI, .int), (cZ, .boolean)] t ∧ va_D (va_A ([(h0, .inr (14, [.ref q_t, .int (zI (z16_n)), .int (zI (z16_at)), .int (zI (z16_kind)), .int (zI (z16_place)), .int (zI (z16_value)), .int (zI (z16_before)), .ref tx9, v16_8, v16_9, v16_10, v16_11, v16_12, v16_13])), (q_t, .inl (cT, 8192, .inl (fun j : Nat => zI (a_t (j : Int)))))] ++ va_pl L (pE P)) sz) ([(h0, .inr (14, [.ref q_t, .int (zI (z16_n)), .int (zI (z0_9)), .int (zI (z1_9)), .int (zI (z2_9)), .int (zI (z3_9)), .int (zI (z4_9)), .ref q5_9, v16_8, v16_9, v16_10, v16_11, v16_12, v16_13])), (q_t, .inl (cT, 8192, .inl (fun j : Nat => zI (a_t (j : Int)))))] ++ va_pl Ln_9 (pE Pn_9))) (va_A ([(h0, .inr (14, [.ref q_t, .int (zI (z16_n)), .int (zI (z16_at)), .int (zI (z16_kind)), .int (zI (z16_place)), .int (zI (z16_value)), .int (zI (z16_before)), .ref tx9, v16_8, v16_9, v16_10, v16_11, v16_12, v16_13])), (q_t, .inl (cT, 8192, .inl (fun j : Nat => zI (a_t (j : Int)))))] ++ va_pl L (pE P)) sz)) (vx_X (fun _ : Unit => True) (fun E (q9 : Addr) (_ : Unit) (t9 : State) => (E = RX18 ∧ ∃ (zp_9 : Int) (Ln_9 : List Nat) (Pn_9 : PO) (kc_9 : Nat) (ks_9 : Nat), ((RM HU t9.heap kc_9 ks_9 ∧ ((ks_9 : Int) ≤ 45 * (z16_n - z16_place) - TKV z16_kind (z16_at - z16_place) + 130 ∧ (kc_9 : Int) ≤ 8 * (z16_n - z16_place) - TKW z16_kind (z16_at - z16_place) + 60)) ∧ ((0 ≤ zp_9 ∧ zp_9 ≤ 8192) ∧ (KEG [] L P Ln_9 Pn_9 ∧ GLR Ln_9 Pn_9 cO cI cZ sx_ed ∧ CPA L P Pn_9 ∧ NTX L P Ln_9 Pn_9))) ∧ va_P (dC, dI) vwQ ([(q_t, .inl (cT, 8192, .inl (fun j : Nat => zI (a_t (j : Int))))), (q9, .inr (15, [.null, .null, .null, .null, .null, .int 0, .int (zI (zp_9))]))] ++ va_pl Ln_9 (pE Pn_9)) t9.heap ∧ va_D (va_A ([(h0, .inr (14, [.ref q_t, .int (zI (z16_n)), .int (zI (z16_at)), .int (zI (z16_kind)), .int (zI (z16_place)), .int (zI (z16_value)), .int (zI (z16_before)), .ref tx9, v16_8, v16_9, v16_10, v16_11, v16_12, v16_13])), (q_t, .inl (cT, 8192, .inl (fun j : Nat => zI (a_t (j : Int)))))] ++ va_pl L (pE P)) sz) ([(q_t, .inl (cT, 8192, .inl (fun j : Nat => zI (a_t (j : Int))))), (q9, .inr (15, [.null, .null, .null, .null, .null, .int 0, .int (zI (zp_9))]))] ++ va_pl Ln_9 (pE Pn_9)))) (va_A ([(h0, .inr (14, [.ref q_t, .int (zI (z16_n)), .int (zI (z16_at)), .int (zI (z16_kind)), .int (zI (z16_place)), .int (zI (z16_value)), .int (zI (z16_before)), .ref tx9, v16_8, v16_9, v16_10, v16_11, v16_12, v16_13])), (q_t, .inl (cT, 8192, .inl (fun j : Nat => zI (a_t (j : Int)))))] ++ va_pl L (pE P)) sz)) ((8 * (z16_n - z16_place) - TKW z16_kind (z16_at - z16_place) + 160).toNat) ((45 * (z16_n - z16_place) - TKV z16_kind (z16_at - z16_place) + 500).toNat) (va_A ([(h0, .inr (14, [.ref q_t, .int (zI (z16_n)), .int (zI (z16_at)), .int (zI (z16_kind)), .int (zI (z16_place)), .int (zI (z16_value)), .int (zI (z16_before)), .ref tx9, v16_8, v16_9, v16_10, v16_11, v16_12, v16_13])), (q_t, .inl (cT, 8192, .inl (fun j : Nat => zI (a_t (j : Int)))))] ++ va_pl L (pE P)) sz) := by
  refine vx_ofW (cc := cX16_row) (maxL := 2) (ret := none) (by decide) rfl ?_
  intro p e s m args below meth c s₁ B hml hnt hv
  obtain ⟨rfl, hsz, hP, hK, hD0, hp0, hp1, hp2, hp3, hp4, hp5, hp6, hp7, hp8, hp9, hp10, hp11, hp12, hp13, hp14, hp15, hp16, hp17, hp18, hp19, hp20, hp21, hp22, hp23, hp24, hp25, hp26⟩ := hv
  have hx := B.exec
  have hb := B.bytes
  have hr := B.returns
  have hts := atoms_spec (ws := v_X16_rowR) B.pre
  have hown : s.vm.findClass RX16 = some m.cls := findClass_of_methodNamed B.named
  have hlocks := B.notSynchronized
  have ow : ∀ {k : Nat} {w : Cond}, o_X16_rowR[k]? = some w → w.before ([.ref h0, .ref xr] : List Value).toArray s = true := fun h => hts _ (mow_X16_rowR _ (List.mem_of_getElem? h))
  subst hsz
  have hD := hD0.self (sz := s.heap.size)
  generalize hAe : va_A ([(h0, .inr (14, [.ref q_t, .int (zI (z16_n)), .int (zI (z16_at)), .int (zI (z16_kind)), .int (zI (z16_place)), .int (zI (z16_value)), .int (zI (z16_before)), .ref tx9, v16_8, v16_9, v16_10, v16_11, v16_12, v16_13])), (q_t, .inl (cT, 8192, .inl (fun j : Nat => zI (a_t (j : Int)))))] ++ va_pl L (pE P)) s.heap.size = A at hD hp1 hp2 hp3 hp7 hp8 hp11 hp13 hp14 hp15 hp18 hp20 hp23 hp24 hp25 ⊢
  have hA : ∀ q : Nat, s.heap.size ≤ q → A q := fun q h => by rw [← hAe]; exact Or.inr h
  have hS : va_S A s.heap s.heap [] := va_S.rf
  have hP : va_P (dC, dI) vwQ ([(h0, .inr (14, [.ref q_t, .int (zI (z16_n)), .int (zI (z16_at)), .int (zI (z16_kind)), .int (zI (z16_place)), .int (zI (z16_value)), .int (zI (z16_before)), .ref tx9, v16_8, v16_9, v16_10, v16_11, v16_12, v16_13])), (q_t, .inl (cT, 8192, .inl (fun j : Nat => zI (a_t (j : Int)))))] ++ va_pl L (pE P)) s.heap := hP
  have hl := lv_entry ([.ref h0, .ref xr]) (n := 2) (Nat.le_of_ble_eq_true rfl)
  rw [lg_entry_eq]
  generalize (lg_sl ([.ref h0, .ref xr]) ++ List.replicate (2 - (lg_sl ([.ref h0, .ref xr])).length) Slot.unset).toArray = ls at hl ⊢
  have hl : lv_has ls 2 [(0, .ref h0), (1, .ref xr)] := hl
  obtain ⟨H, hH⟩ : ∃ H, H = s.heap := ⟨_, rfl⟩
  rw [← hH] at hP
  have hS : va_S A s.heap H [] := by rw [hH]; exact hS
  rw [← hH]
  refine zW_cap (fun Q hQ => ?_)
  have hX_g9 := hX_g
  have hnx0 : NTX L P L P := NTX.refl _ _
  have hX_tn9 := hX_tn
  have hX_tg9 := hX_tn.1
  have hnn9 := TKV.nn (k := z16_kind) (d := z16_at - z16_place) (by omega)
  have hC_la := hX_la
  have hg00 := hX_g
  have hk00 := hX_k
  have hcx0 : CHG (fun z => z = xr) L P L P := CHG.refl _ _ _
  refine lv_aload_n hx hb dX16_row_0 rfl (lv_at hl 0 rfl) ?_
  refine va_ldcS hx hb hown hp0 dX16_row_1 ?_
  have hPc := hP.part (X := [(h0, .inr (14, [.ref q_t, .int (zI (z16_n)), .int (zI (z16_at)), .int (zI (z16_kind)), .int (zI (z16_place)), .int (zI (z16_value)), .int (zI (z16_before)), .ref tx9, v16_8, v16_9, v16_10, v16_11, v16_12, v16_13])), (q_t, .inl (cT, 8192, .inl (fun j : Nat => zI (a_t (j : Int)))))]) (cx := [(h0, .inr (14, [.ref q_t, .int (zI (z16_n)), .int (zI (z16_at)), .int (zI (z16_kind)), .int (zI (z16_place)), .int (zI (z16_value)), .int (zI (z16_before)), .ref tx9, v16_8, v16_9, v16_10, v16_11, v16_12, v16_13])), (q_t, .inl (cT, 8192, .inl (fun j : Nat => zI (a_t (j : Int)))))]) (pl := va_pl L (pE P)) [0, 1] rfl
  have hDc := hD.part (X := [(h0, .inr (14, [.ref q_t, .int (zI (z16_n)), .int (zI (z16_at)), .int (zI (z16_kind)), .int (zI (z16_place)), .int (zI (z16_value)), .int (zI (z16_before)), .ref tx9, v16_8, v16_9, v16_10, v16_11, v16_12, v16_13])), (q_t, .inl (cT, 8192, .inl (fun j : Nat => zI (a_t (j : Int)))))]) (cx := [(h0, .inr (14, [.ref q_t, .int (zI (z16_n)), .int (zI (z16_at)), .int (zI (z16_kind)), .int (zI (z16_place)), .int (zI (z16_value)), .int (zI (z16_before)), .ref tx9, v16_8, v16_9, v16_10, v16_11, v16_12, v16_13])), (q_t, .inl (cT, 8192, .inl (fun j : Nat => zI (a_t (j : Int)))))]) (pl := va_pl L (pE P)) [0, 1] (by decide) rfl
  have hKc := hK.sub (tys' := [(cT, .byte)]) [0] rfl
  have hFc := va_freeP (X := [(h0, .inr (14, [.ref q_t, .int (zI (z16_n)), .int (zI (z16_at)), .int (zI (z16_kind)), .int (zI (z16_place)), .int (zI (z16_value)), .int (zI (z16_before)), .ref tx9, v16_8, v16_9, v16_10, v16_11, v16_12, v16_13])), (q_t, .inl (cT, 8192, .inl (fun j : Nat => zI (a_t (j : Int)))))]) (cx := [(h0, .inr (14, [.ref q_t, .int (zI (z16_n)), .int (zI (z16_at)), .int (zI (z16_kind)), .int (zI (z16_place)), .int (zI (z16_value)), .int (zI (z16_before)), .ref tx9, v16_8, v16_9, v16_10, v16_11, v16_12, v16_13])), (q_t, .inl (cT, 8192, .inl (fun j : Nat => zI (a_t (j : Int)))))]) (pl := va_pl L (pE P)) hD hS hA [0, 1] rfl
  refine va_calli (va_runV (As := [.ref sa_RX16_179]) (rest := []) ⟨hx, hb, hml, hown, hts⟩ (c_X16_isKK l dC dI h0 (.int (zI (z16_n))) (.int (zI (z16_at))) z16_kind (.int (zI (z16_place))) (.int (zI (z16_value))) (.int (zI (z16_before))) v16_8 v16_9 v16_10 v16_11 v16_12 v16_13 q_t cT a_t tx9 L P sa_RX16_9 sa_RX16_179 sv_RX16_179 4 ((fun j : Nat => ([115, 104, 111, 119] : List Int32).getD j 0)) (by omega) hR_a_t hX_tx (by omega) H.size sv_RX16_9) (cwV 1 hts g_X16_rowR_X16_isKK rfl rfl rfl (by decide +kernel) ⟨(Nat.le_of_ble_eq_true rfl), (Nat.le_of_ble_eq_true rfl)⟩) ⟨fun a U g mk q => by obtain ⟨q0, q1, qP, qK, qD, e0, e1, e2⟩ := q; exact ⟨q0, q1, qP, va_K.moved (u := U) (U := U.calling g mk a) (Vm.Alike.refl U.vm) qK, qD, vs_S.moved (u := U) (U := U.calling g mk a) (Vm.Alike.refl U.vm) e0, vs_S.moved (u := U) (U := U.calling g mk a) (Vm.Alike.refl U.vm) e1, va_Z.moved (u := U) (U := U.calling g mk a) (Vm.Alike.refl U.vm) e2⟩, va_recv hKc hPc (ci := 14) (q0 := 0) rfl rfl, fun U hU hW => ⟨rfl, by rw [hU], by rw [hU]; exact hPc, va_K.moved hW.alike hKc, hDc.weaken (fun _ _ _ _ => trivial), vs_S.go hp2 hS hFc hU hW.alike, vs_S.go hp1 hS hFc hU hW.alike, va_Z.go hp3 hS hFc hU hW.alike⟩⟩ rfl rfl hl.1 rfl (lv_room (Nat.le_of_ble_eq_true rfl)) dX16_row_3 ⟨(Nat.zero_le _), (Nat.zero_le _)⟩) hS (fun q _ h => hFc q h) hFc (fun r_1 u t H1 locs ht hvm hw hB hz1 hk1 hS => ?_)
  obtain ⟨hP1, hK1, hD1⟩ := hB
  rw [ht] at hP1
  have hK1 := va_K.moved hvm.symm hK1
  obtain ⟨hP, hD⟩ := va_joinP (X := [(h0, .inr (14, [.ref q_t, .int (zI (z16_n)), .int (zI (z16_at)), .int (zI (z16_kind)), .int (zI (z16_place)), .int (zI (z16_value)), .int (zI (z16_before)), .ref tx9, v16_8, v16_9, v16_10, v16_11, v16_12, v16_13])), (q_t, .inl (cT, 8192, .inl (fun j : Nat => zI (a_t (j : Int)))))]) (cx := [(h0, .inr (14, [.ref q_t, .int (zI (z16_n)), .int (zI (z16_at)), .int (zI (z16_kind)), .int (zI (z16_place)), .int (zI (z16_value)), .int (zI (z16_before)), .ref tx9, v16_8, v16_9, v16_10, v16_11, v16_12, v16_13])), (q_t, .inl (cT, 8192, .inl (fun j : Nat => zI (a_t (j : Int)))))]) (wr := []) (rx := [(h0, .inr (14, [.ref q_t, .int (zI (z16_n)), .int (zI (z16_at)), .int (zI (z16_kind)), .int (zI (z16_place)), .int (zI (z16_value)), .int (zI (z16_before)), .ref tx9, v16_8, v16_9, v16_10, v16_11, v16_12, v16_13])), (q_t, .inl (cT, 8192, .inl (fun j : Nat => zI (a_t (j : Int)))))]) (pl := va_pl L (pE P)) (pl1 := va_pl L (pE P)) hP hD [0, 1] [] rfl rfl (by decide) (by decide) hk1 hFc hP1 hD1
  have hK := (hK.sub (tys' := [(cO, .object "java/lang/Object"), (cI, .int), (cZ, .boolean)]) [1, 2, 3] rfl).app hK1
  generalize H1 = H at hP hS ⊢
  have hP : va_P (dC, dI) vwQ ([(h0, .inr (14, [.ref q_t, .int (zI (z16_n)), .int (zI (z16_at)), .int (zI (z16_kind)), .int (zI (z16_place)), .int (zI (z16_value)), .int (zI (z16_before)), .ref tx9, v16_8, v16_9, v16_10, v16_11, v16_12, v16_13])), (q_t, .inl (cT, 8192, .inl (fun j : Nat => zI (a_t (j : Int)))))] ++ va_pl L (pE P)) H := hP
  have hD : va_D A ([(h0, .inr (14, [.ref q_t, .int (zI (z16_n)), .int (zI (z16_at)), .int (zI (z16_kind)), .int (zI (z16_place)), .int (zI (z16_value)), .int (zI (z16_before)), .ref tx9, v16_8, v16_9, v16_10, v16_11, v16_12, v16_13])), (q_t, .inl (cT, 8192, .inl (fun j : Nat => zI (a_t (j : Int)))))] ++ va_pl L (pE P)) := hD
  have hK : va_K (dC, dI) vwQ [(cO, .object "java/lang/Object"), (cI, .int), (cZ, .boolean), (cT, .byte)] s := hK
  refine W.widen (k := 0) (n := 0) (Nat.le_of_ble_eq_true rfl) (Nat.le_of_ble_eq_true rfl) ?_
  have hw_2 := hw
  obtain ⟨z_3, rfl, hzz_3⟩ := hw_2
  skip
  refine lv_if_eq (tgt := 26) hx hb dX16_row_6 (by decide) (fun b6 => ?_) (fun b6 => ?_)
  · have yb6 : (z_3 : Int) = (0 : Int) := (zI_eq (a := z_3) (b := 0) (by omega) (by omega) (by omega) (by omega)).mp b6
    refine lv_aload_n hx hb dX16_row_26 rfl (lv_at hl 1 rfl) ?_
    refine lv_aload_n hx hb dX16_row_27 rfl (lv_at hl 0 rfl) ?_
    refine lv_iconst (v := 2) hx hb dX16_row_28 (by decide) ?_
    have hX_tn := hX_tn
    have hPc := hP.part (X := [(h0, .inr (14, [.ref q_t, .int (zI (z16_n)), .int (zI (z16_at)), .int (zI (z16_kind)), .int (zI (z16_place)), .int (zI (z16_value)), .int (zI (z16_before)), .ref tx9, v16_8, v16_9, v16_10, v16_11, v16_12, v16_13])), (q_t, .inl (cT, 8192, .inl (fun j : Nat => zI (a_t (j : Int)))))]) (cx := [(h0, .inr (14, [.ref q_t, .int (zI (z16_n)), .int (zI (z16_at)), .int (zI (z16_kind)), .int (zI (z16_place)), .int (zI (z16_value)), .int (zI (z16_before)), .ref tx9, v16_8, v16_9, v16_10, v16_11, v16_12, v16_13])), (q_t, .inl (cT, 8192, .inl (fun j : Nat => zI (a_t (j : Int)))))]) (pl := va_pl L (pE P)) [0, 1] rfl
    have hDc := hD.part (X := [(h0, .inr (14, [.ref q_t, .int (zI (z16_n)), .int (zI (z16_at)), .int (zI (z16_kind)), .int (zI (z16_place)), .int (zI (z16_value)), .int (zI (z16_before)), .ref tx9, v16_8, v16_9, v16_10, v16_11, v16_12, v16_13])), (q_t, .inl (cT, 8192, .inl (fun j : Nat => zI (a_t (j : Int)))))]) (cx := [(h0, .inr (14, [.ref q_t, .int (zI (z16_n)), .int (zI (z16_at)), .int (zI (z16_kind)), .int (zI (z16_place)), .int (zI (z16_value)), .int (zI (z16_before)), .ref tx9, v16_8, v16_9, v16_10, v16_11, v16_12, v16_13])), (q_t, .inl (cT, 8192, .inl (fun j : Nat => zI (a_t (j : Int)))))]) (pl := va_pl L (pE P)) [0, 1] (by decide) rfl
    have hKc := hK.sub (tys' := [(cT, .byte)]) [3] rfl
    have hFc := va_freeP (X := [(h0, .inr (14, [.ref q_t, .int (zI (z16_n)), .int (zI (z16_at)), .int (zI (z16_kind)), .int (zI (z16_place)), .int (zI (z16_value)), .int (zI (z16_before)), .ref tx9, v16_8, v16_9, v16_10, v16_11, v16_12, v16_13])), (q_t, .inl (cT, 8192, .inl (fun j : Nat => zI (a_t (j : Int)))))]) (cx := [(h0, .inr (14, [.ref q_t, .int (zI (z16_n)), .int (zI (z16_at)), .int (zI (z16_kind)), .int (zI (z16_place)), .int (zI (z16_value)), .int (zI (z16_before)), .ref tx9, v16_8, v16_9, v16_10, v16_11, v16_12, v16_13])), (q_t, .inl (cT, 8192, .inl (fun j : Nat => zI (a_t (j : Int)))))]) (pl := va_pl L (pE P)) hD hS hA [0, 1] rfl
    refine W_knowS (fun hrmA => ?_)
    refine vx_calli (vx_runV (As := [.int 2]) (rest := [.ref xr]) ⟨hx, hb, hml, hown, hts⟩ (c_X16_wantIK l dC dI h0 z16_n z16_at z16_kind z16_place z16_value z16_before v16_8 v16_9 v16_10 v16_11 v16_12 v16_13 q_t cT a_t tx9 L P sa_RX16_9 2 (by omega) (by omega) (by omega) (by omega) (by omega) (by omega) hR_a_t hX_tx (by omega) hX_kv hX_tn (by omega) H.size sv_RX16_9 sa_RX16_119 sv_RX16_119 sa_RX16_100 sv_RX16_100 sa_RX16_117 sv_RX16_117 sa_RX16_98 sv_RX16_98 H) (cwV 1 hts g_X16_rowR_X16_wantIK rfl rfl rfl (by decide +kernel) ⟨(Nat.le_of_ble_eq_true rfl), (Nat.le_of_ble_eq_true rfl)⟩) ⟨fun a U g mk q => by obtain ⟨q0, q1, qP, qK, qD, e0, e1, e2, e3, e4, e5, e6, e7, e8, e9, e10, e11, e12, e13, e14⟩ := q; exact ⟨q0, q1, qP, va_K.moved (u := U) (U := U.calling g mk a) (Vm.Alike.refl U.vm) qK, qD, vk_R.same (u := U) (U := U.calling g mk a) rfl e0, va_Z.moved (u := U) (U := U.calling g mk a) (Vm.Alike.refl U.vm) e1, vs_S.moved (u := U) (U := U.calling g mk a) (Vm.Alike.refl U.vm) e2, va_Nw.same rfl (u := U) (U := U.calling g mk a) rfl e3, vk_R.same (u := U) (U := U.calling g mk a) rfl e4, vs_S.moved (u := U) (U := U.calling g mk a) (Vm.Alike.refl U.vm) e5, vs_S.moved (u := U) (U := U.calling g mk a) (Vm.Alike.refl U.vm) e6, vk_R.same (u := U) (U := U.calling g mk a) rfl e7, vk_R.same (u := U) (U := U.calling g mk a) rfl e8, vs_S.moved (u := U) (U := U.calling g mk a) (Vm.Alike.refl U.vm) e9, vk_R.same (u := U) (U := U.calling g mk a) rfl e10, vs_S.moved (u := U) (U := U.calling g mk a) (Vm.Alike.refl U.vm) e11, e12, vx_Zq.moved (u := U) (U := U.calling g mk a) (Vm.Alike.refl U.vm) e13, vx_Zq.moved (u := U) (U := U.calling g mk a) (Vm.Alike.refl U.vm) e14⟩, va_recv hKc hPc (ci := 14) (q0 := 0) rfl rfl, fun U hU hW => ⟨rfl, by rw [hU], by rw [hU]; exact hPc, va_K.moved hW.alike hKc, hDc.weaken (fun _ _ _ _ => trivial), vk_R.warm hW hp4, va_Z.go hp3 hS hFc hU hW.alike, vs_S.go hp2 hS hFc hU hW.alike, va_Nw.warmC hW hp5, vk_R.warm hW hp6, vs_S.go hp7 hS hFc hU hW.alike, vs_S.go hp8 hS hFc hU hW.alike, vk_R.warm hW hp9, vk_R.warm hW hp10, vs_S.go hp11 hS hFc hU hW.alike, vk_R.warm hW hp12, vs_S.go hp13 hS hFc hU hW.alike, hU, vx_Zq.go hp14 hS hFc hU hW.alike, vx_Zq.go hp15 hS hFc hU hW.alike⟩⟩ rfl rfl hl.1 rfl (lv_room (Nat.le_of_ble_eq_true rfl)) dX16_row_29 ⟨(show 0 + ((z16_n - z16_at + 20).toNat) ≤ (8 * (z16_n - z16_place) - TKW z16_kind (z16_at - z16_place) + 160).toNat from (rmT (by omega) (by omega))), (show 0 + ((10 * (z16_n - z16_at) + 120).toNat) ≤ (45 * (z16_n - z16_place) - TKV z16_kind (z16_at - z16_place) + 500).toNat from (rmT (by omega) (by omega)))⟩) hS (fun q _ h => hFc q h) hFc (fun q _ h => hFc q h) (fun E ce q9 u t H1 locs ht hvm _ hB hz1 hk1 hS hce hcv hcl => ?_) (fun r_4 u t H1 locs ht hvm hw hB hz1 hk1 hS => ?_)
    · obtain ⟨rfl, zp_5, Ln_6, Pn_7, kc_8, ks_9, hxt_10, hP1, hD1⟩ := hB
      rw [ht] at hP1
      obtain ⟨hP, hD⟩ := va_joinP (X := [(h0, .inr (14, [.ref q_t, .int (zI (z16_n)), .int (zI (z16_at)), .int (zI (z16_kind)), .int (zI (z16_place)), .int (zI (z16_value)), .int (zI (z16_before)), .ref tx9, v16_8, v16_9, v16_10, v16_11, v16_12, v16_13])), (q_t, .inl (cT, 8192, .inl (fun j : Nat => zI (a_t (j : Int)))))]) (cx := [(h0, .inr (14, [.ref q_t, .int (zI (z16_n)), .int (zI (z16_at)), .int (zI (z16_kind)), .int (zI (z16_place)), .int (zI (z16_value)), .int (zI (z16_before)), .ref tx9, v16_8, v16_9, v16_10, v16_11, v16_12, v16_13])), (q_t, .inl (cT, 8192, .inl (fun j : Nat => zI (a_t (j : Int)))))]) (wr := []) (rx := [(q_t, .inl (cT, 8192, .inl (fun j : Nat => zI (a_t (j : Int))))), (q9, .inr (15, [.null, .null, .null, .null, .null, .int 0, .int (zI (zp_5))]))]) (pl := va_pl L (pE P)) (pl1 := va_pl Ln_6 (pE Pn_7)) hP hD [0, 1] [] rfl rfl (by decide) (by decide) hk1 hFc hP1 hD1
      have hrmC := hxt_10.1.1
      rw [ht] at hrmC
      refine vx_tightS (hrmA.trans hrmC) ?_
      have hrb := hxt_10.1.2
      generalize H1 = H at hP hS hce ⊢
      have hP : va_P (dC, dI) vwQ ([(q_t, .inl (cT, 8192, .inl (fun j : Nat => zI (a_t (j : Int))))), (q9, .inr (15, [.null, .null, .null, .null, .null, .int 0, .int (zI (zp_5))]))] ++ va_pl Ln_6 (pE Pn_7)) H := hP
      have hD : va_D A ([(q_t, .inl (cT, 8192, .inl (fun j : Nat => zI (a_t (j : Int))))), (q9, .inr (15, [.null, .null, .null, .null, .null, .int 0, .int (zI (zp_5))]))] ++ va_pl Ln_6 (pE Pn_7)) := hD
      have hzp : 0 ≤ zp_5 ∧ zp_5 ≤ 8192 := hxt_10.2.1
      subst hQ
      refine vx_knowS (fun hrm9 => ?_)
      refine vx_widen (k := ((8 * (z16_n - z16_place) - TKW z16_kind (z16_at - z16_place) + 160).toNat)) (n := ((45 * (z16_n - z16_place) - TKV z16_kind (z16_at - z16_place) + 500).toNat)) (rmW (by omega)) (rmW (by omega)) ?_
      exact vx_out (fun x9 h9 => (hnt x9 h9).elim) hlocks hce hcv hcl (fun t ht hvm => ⟨(), trivial, ⟨rfl, zp_5, Ln_6, Pn_7, (0 + kc_8), (0 + ks_9), ⟨⟨(by rw [ht, ← hp16]; exact hrm9), (by omega)⟩, ⟨(by omega), ⟨(KEG.refl [] L P).trans (hxt_10.2.2.1.kegR hX_g9), hX_g9.txt hxt_10.2.2.1 hxt_10.2.2.2, (hcx0.cpa hg00.owa (fun z _ q => by rw [show z = xr from q, hk00]; decide)).trans (KEG.refl [] L P) (hxt_10.2.2.1.cpa hX_g9.owa), hnx0.trans (NTX.ext hxt_10.2.2.1 hxt_10.2.2.2)⟩⟩⟩, by rw [ht]; exact hP, hD⟩, hS.F ht⟩) hS.2.2 (Nat.le_refl _) (Nat.le_refl _)
    obtain ⟨z0_11, z1_12, z2_13, z3_14, z4_15, q5_16, Ln_17, Pn_18, kc_19, ks_20, hxt_20, hP1, hK1, hD1⟩ := hB
    rw [ht] at hP1
    have hK1 := va_K.moved hvm.symm hK1
    obtain ⟨hP, hD⟩ := va_joinP (X := [(h0, .inr (14, [.ref q_t, .int (zI (z16_n)), .int (zI (z16_at)), .int (zI (z16_kind)), .int (zI (z16_place)), .int (zI (z16_value)), .int (zI (z16_before)), .ref tx9, v16_8, v16_9, v16_10, v16_11, v16_12, v16_13])), (q_t, .inl (cT, 8192, .inl (fun j : Nat => zI (a_t (j : Int)))))]) (cx := [(h0, .inr (14, [.ref q_t, .int (zI (z16_n)), .int (zI (z16_at)), .int (zI (z16_kind)), .int (zI (z16_place)), .int (zI (z16_value)), .int (zI (z16_before)), .ref tx9, v16_8, v16_9, v16_10, v16_11, v16_12, v16_13])), (q_t, .inl (cT, 8192, .inl (fun j : Nat => zI (a_t (j : Int)))))]) (wr := []) (rx := [(h0, .inr (14, [.ref q_t, .int (zI (z16_n)), .int (zI (z0_11)), .int (zI (z1_12)), .int (zI (z2_13)), .int (zI (z3_14)), .int (zI (z4_15)), .ref q5_16, v16_8, v16_9, v16_10, v16_11, v16_12, v16_13])), (q_t, .inl (cT, 8192, .inl (fun j : Nat => zI (a_t (j : Int)))))]) (pl := va_pl L (pE P)) (pl1 := va_pl Ln_17 (pE Pn_18)) hP hD [0, 1] [] rfl rfl (by decide) (by decide) hk1 hFc hP1 hD1
    have hK := (hK.sub (tys' := [(cO, .object "java/lang/Object"), (cI, .int), (cZ, .boolean)]) [0, 1, 2] rfl).app hK1
    have hrmC := hxt_20.1.1
    rw [ht] at hrmC
    refine W_tightS (hrmA.trans hrmC) ?_
    have hrb := hxt_20.1.2
    generalize H1 = H at hP hS ⊢
    have hP : va_P (dC, dI) vwQ ([(h0, .inr (14, [.ref q_t, .int (zI (z16_n)), .int (zI (z0_11)), .int (zI (z1_12)), .int (zI (z2_13)), .int (zI (z3_14)), .int (zI (z4_15)), .ref q5_16, v16_8, v16_9, v16_10, v16_11, v16_12, v16_13])), (q_t, .inl (cT, 8192, .inl (fun j : Nat => zI (a_t (j : Int)))))] ++ va_pl Ln_17 (pE Pn_18)) H := hP
    have hD : va_D A ([(h0, .inr (14, [.ref q_t, .int (zI (z16_n)), .int (zI (z0_11)), .int (zI (z1_12)), .int (zI (z2_13)), .int (zI (z3_14)), .int (zI (z4_15)), .ref q5_16, v16_8, v16_9, v16_10, v16_11, v16_12, v16_13])), (q_t, .inl (cT, 8192, .inl (fun j : Nat => zI (a_t (j : Int)))))] ++ va_pl Ln_17 (pE Pn_18)) := hD
    have hK : va_K (dC, dI) vwQ [(cO, .object "java/lang/Object"), (cI, .int), (cZ, .boolean), (cT, .byte)] s := hK
    refine W.widen (k := (0 + kc_19)) (n := (0 + ks_20)) (by omega) (by omega) ?_
    have hw_21 := hw
    obtain ⟨rk_22, rk_23, rk_24, rk_25, rk_26, hu_26⟩ := hxt_20.2
    obtain ⟨z_27, rfl, hzz_27⟩ := hw_21
    have htk_28 := hu_26.1.2
    have hrg_28 := hu_26.1.1
    have htq_28 := htk_28.1
    have hkd_33 := hu_26.2.1
    have hX_kv := hkd_33.2
    have hu_29 := hu_26.2.2
    have hex_30 : EXT9 L P Ln_17 Pn_18 := hu_29.1
    have hke_31 : KEG [] L P Ln_17 Pn_18 := hex_30.kegR hX_g9
    have hak_32 : GLR Ln_17 Pn_18 cO cI cZ sx_ed := hX_g9.txt hex_30 hu_29.2.1
    have hsm_34 := (hex_30 xr hX_x).2
    have : Pn_18.ro xr = P.ro xr := hsm_34.1 0
    have : Pn_18.rt xr = P.rt xr := hsm_34.1 1
    have : Pn_18.ra xr = P.ra xr := hsm_34.1 2
    have : Pn_18.rb xr = P.rb xr := hsm_34.1 3
    have : Pn_18.rA xr = P.rA xr := hsm_34.1 4
    have : Pn_18.rB xr = P.rB xr := hsm_34.1 5
    have : Pn_18.rg xr = P.rg xr := hsm_34.1 6
    have : Pn_18.ek xr = P.ek xr := hsm_34.2.1 8
    have hq_35 : HID (la ∈ Ln_17 ∧ Pn_18.kd la = 30) := hke_31.mem hC_la.1 hC_la.2.1 (by decide)
    have hq_36 : HID (xr ∈ Ln_17 ∧ Pn_18.kd xr = 17) := hke_31.mem hX_x hX_k (by decide)
    have hE_37 : HID (Pn_18.ek xr ≠ 1) := (by rw [hke_31.ek hX_x hX_k (by decide)]; exact hX_e)
    have hA_38 : KEG [] L P Ln_17 Pn_18 := (KEG.refl [] L P).trans hke_31
    have : Pn_18.lz la = P.lz la := (hex_30 la hC_la.1).2.1 0
    have hek_39 : HID (Pn_18.ek la = 12) := (by rw [hke_31.ek hC_la.1 hC_la.2.1 (by decide)]; exact hC_la.2.2.1)
    have how_40 : HID (Pn_18.ow la = la) := ((hke_31.1 la hC_la.1 (by rw [hC_la.2.1]; decide)).2.2.2.1 hC_la.2.1 hC_la.2.2.2).1
    have hcz := (((hke_31.1 la hC_la.1 (by rw [hC_la.2.1]; decide)).2.2.2.1 hC_la.2.1 hC_la.2.2.2).2 (by simp)).1
    have hX_tx := hu_29.2.2
    have hcx_41 : CHG (fun z => z = xr) L P Ln_17 Pn_18 := hcx0.trans hex_30.chg (fun z m q => q.elim)
    have hnn_28 := TKV.nn (k := z1_12) (d := z0_11 - z2_13) (by omega)
    have hnx_42 : NTX L P Ln_17 Pn_18 := hnx0.trans (NTX.ext hex_30 hu_29.2.1)
    have hzr9 := hzz_27.1.reg rfl
    have hnt9 := TKQ.reg hX_tn9 (by omega)
    have hri_43 : (((0 + ks_20) : Nat) : Int) ≤ 45 * (z2_13 - z16_place) - TKV z16_kind (z16_at - z16_place) + TKV (z1_12) (z0_11 - z2_13) - 90 ∧ (((0 + kc_19) : Nat) : Int) ≤ 8 * (z2_13 - z16_place) - TKW z16_kind (z16_at - z16_place) + TKW (z1_12) (z0_11 - z2_13) - 16 := (by omega)
    clear hrb
    skip
    have hr7 := (hak_32.rokR hq_36.1 hq_36.2).n7
    obtain ⟨kp_44, gkp_44⟩ := va_pl_get (X := [(h0, .inr (14, [.ref q_t, .int (zI (z16_n)), .int (zI (z0_11)), .int (zI (z1_12)), .int (zI (z2_13)), .int (zI (z3_14)), .int (zI (z4_15)), .ref q5_16, v16_8, v16_9, v16_10, v16_11, v16_12, v16_13])), (q_t, .inl (cT, 8192, .inl (fun j : Nat => zI (a_t (j : Int)))))]) (f := pE Pn_18) hq_36.1
    have hkp_44 := gkp_44
    rw [pE_row hq_36.2] at hkp_44
    have hD0 := hD
    refine va_put (D := (dC, dI)) (ci := 21) (v := .int (zI (z_27))) (ty := .int) (C := RX17) (T := TX17) (N := 7) hx hb hts mem_X16_rowR_2 tyX17 tyX17_ok nmX17 hown hK hP hD hS kp_44 hkp_44 rfl 1 (by decide) (ow (k := 7) rfl) (fun _ h9 => h9) rfl (by decide +kernel) rfl rfl (by first | exact Nat.le_of_ble_eq_true rfl | exact (show (0 + kc_19) ≤ (8 * (z16_n - z16_place) - TKW z16_kind (z16_at - z16_place) + 160).toNat from (rmW (by omega))) | exact (show (0 + ks_20) ≤ (45 * (z16_n - z16_place) - TKV z16_kind (z16_at - z16_place) + 500).toNat from (rmW (by omega)))) dX16_row_32 (fun H locs hP hD hS => ?_)
    obtain ⟨Pw_45, ePw_45⟩ : ∃ q9 : PO, q9 = Pn_18.rw9 1 xr (z_27) := ⟨_, rfl⟩
    have eU : (([(h0, .inr (14, [.ref q_t, .int (zI (z16_n)), .int (zI (z0_11)), .int (zI (z1_12)), .int (zI (z2_13)), .int (zI (z3_14)), .int (zI (z4_15)), .ref q5_16, v16_8, v16_9, v16_10, v16_11, v16_12, v16_13])), (q_t, .inl (cT, 8192, .inl (fun j : Nat => zI (a_t (j : Int)))))] : va_W) ++ va_pl Ln_17 (pE Pn_18)).set kp_44 (xr, rowE (Pn_18.ro xr) (z_27) (Pn_18.ra xr) (Pn_18.rb xr) (Pn_18.rA xr) (Pn_18.rB xr) (Pn_18.rg xr)) = ([(h0, .inr (14, [.ref q_t, .int (zI (z16_n)), .int (zI (z0_11)), .int (zI (z1_12)), .int (zI (z2_13)), .int (zI (z3_14)), .int (zI (z4_15)), .ref q5_16, v16_8, v16_9, v16_10, v16_11, v16_12, v16_13])), (q_t, .inl (cT, 8192, .inl (fun j : Nat => zI (a_t (j : Int)))))] : va_W) ++ va_pl Ln_17 (pE Pw_45) := (by rw [va_pl_set hD0 hq_36.1 gkp_44, ePw_45]; exact congrArg (fun f9 => ([(h0, .inr (14, [.ref q_t, .int (zI (z16_n)), .int (zI (z0_11)), .int (zI (z1_12)), .int (zI (z2_13)), .int (zI (z3_14)), .int (zI (z4_15)), .ref q5_16, v16_8, v16_9, v16_10, v16_11, v16_12, v16_13])), (q_t, .inl (cT, 8192, .inl (fun j : Nat => zI (a_t (j : Int)))))] : va_W) ++ va_pl Ln_17 f9) (put17_1 hq_36.2))
    have hP : va_P (dC, dI) vwQ ([(h0, .inr (14, [.ref q_t, .int (zI (z16_n)), .int (zI (z0_11)), .int (zI (z1_12)), .int (zI (z2_13)), .int (zI (z3_14)), .int (zI (z4_15)), .ref q5_16, v16_8, v16_9, v16_10, v16_11, v16_12, v16_13])), (q_t, .inl (cT, 8192, .inl (fun j : Nat => zI (a_t (j : Int)))))] ++ va_pl Ln_17 (pE Pw_45)) H := (by rw [← eU]; exact hP)
    have hD : va_D A ([(h0, .inr (14, [.ref q_t, .int (zI (z16_n)), .int (zI (z0_11)), .int (zI (z1_12)), .int (zI (z2_13)), .int (zI (z3_14)), .int (zI (z4_15)), .ref q5_16, v16_8, v16_9, v16_10, v16_11, v16_12, v16_13])), (q_t, .inl (cT, 8192, .inl (fun j : Nat => zI (a_t (j : Int)))))] ++ va_pl Ln_17 (pE Pw_45)) := (by rw [← eU]; exact hD)
    clear eU hD0 gkp_44 hkp_44
    have wPw_45 : RW1 xr Pn_18 Pw_45 := (by rw [ePw_45]; exact RW1.put _ _ _ _)
    have hy_46 : Pw_45.kd la = 30 := (by rw [ePw_45]; exact hq_35.2)
    have hy_47 : Pw_45.kd xr = 17 := (by rw [ePw_45]; exact hq_36.2)
    have : Pw_45.ro xr = Pn_18.ro xr := (by rw [ePw_45]; exact rw9_of _ (by decide))
    have : Pw_45.rt xr = z_27 := (by rw [ePw_45]; exact rw9_at _ _ _ _)
    have : Pw_45.ra xr = Pn_18.ra xr := (by rw [ePw_45]; exact rw9_of _ (by decide))
    have : Pw_45.rb xr = Pn_18.rb xr := (by rw [ePw_45]; exact rw9_of _ (by decide))
    have : Pw_45.rA xr = Pn_18.rA xr := (by rw [ePw_45]; exact rw9_of _ (by decide))
    have : Pw_45.rB xr = Pn_18.rB xr := (by rw [ePw_45]; exact rw9_of _ (by decide))
    have : Pw_45.rg xr = Pn_18.rg xr := (by rw [ePw_45]; exact rw9_of _ (by decide))
    have : Pw_45.ek xr = Pn_18.ek xr := (by rw [ePw_45]; rfl)
    have hW_48 : RW1 xr Pn_18 Pw_45 := wPw_45
    have hrw_51 : RWD Pn_18 Pw_45 := hW_48.rwd (Or.inl hq_36.2)
    have hak_50 : GLR Ln_17 Pw_45 cO cI cZ sx_ed := hak_32.row hW_48 hq_36.2 (ROKR.of (by omega) (by omega) (by omega) (by omega) (by omega) (by omega) (by omega) (uaZR (by omega)) (ubZR (by omega))) (fun e9 => by have q9 := hak_32.op21 hq_36.1 hq_36.2 e9; omega)
    have hke_49 : KEG [] Ln_17 Pn_18 Ln_17 Pw_45 := hrw_51.kegR _ hq_35.2
    have hq_52 : HID (la ∈ Ln_17 ∧ Pw_45.kd la = 30) := hke_49.mem hq_35.1 hq_35.2 (by decide)
    have hq_53 : HID (xr ∈ Ln_17 ∧ Pw_45.kd xr = 17) := hke_49.mem hq_36.1 hq_36.2 (by decide)
    have hE_54 : HID (Pw_45.ek xr ≠ 1) := (by rw [hke_49.ek hq_36.1 hq_36.2 (by decide)]; exact hE_37.out)
    have hA_55 : KEG [] L P Ln_17 Pw_45 := hA_38.trans hke_49
    have : Pw_45.lz la = Pn_18.lz la := hrw_51.lz hq_35.2
    have : Pw_45.cap la = Pn_18.cap la := hW_48.cap la
    have hek_56 : HID (Pw_45.ek la = 12) := (by rw [hke_49.ek hq_35.1 hq_35.2 (by decide)]; exact hek_39.out)
    have how_57 : HID (Pw_45.ow la = la) := ((hke_49.1 la hq_35.1 (by rw [hq_35.2]; decide)).2.2.2.1 hq_35.2 how_40.out).1
    have hcz := (((hke_49.1 la hq_35.1 (by rw [hq_35.2]; decide)).2.2.2.1 hq_35.2 how_40.out).2 (by simp)).1
    have hX_tx := hX_tx.rw1R hW_48 (Or.inl hq_36.2)
    have hcx_58 : CHG (fun z => z = xr) L P Ln_17 Pw_45 := hcx_41.trans (hW_48.chg _) (fun z m q => q)
    have hnx_59 : NTX L P Ln_17 Pw_45 := hnx_42.trans (NTX.put9 hW_48)
    refine lv_aload_n hx hb dX16_row_35 rfl (lv_at hl 0 rfl) ?_
    refine va_ldcS hx hb hown hp17 dX16_row_36 ?_
    have hX_tn := htk_28
    have hPc := hP.part (X := [(h0, .inr (14, [.ref q_t, .int (zI (z16_n)), .int (zI (z0_11)), .int (zI (z1_12)), .int (zI (z2_13)), .int (zI (z3_14)), .int (zI (z4_15)), .ref q5_16, v16_8, v16_9, v16_10, v16_11, v16_12, v16_13])), (q_t, .inl (cT, 8192, .inl (fun j : Nat => zI (a_t (j : Int)))))]) (cx := [(h0, .inr (14, [.ref q_t, .int (zI (z16_n)), .int (zI (z0_11)), .int (zI (z1_12)), .int (zI (z2_13)), .int (zI (z3_14)), .int (zI (z4_15)), .ref q5_16, v16_8, v16_9, v16_10, v16_11, v16_12, v16_13])), (q_t, .inl (cT, 8192, .inl (fun j : Nat => zI (a_t (j : Int)))))]) (pl := va_pl Ln_17 (pE Pw_45)) [0, 1] rfl
    have hDc := hD.part (X := [(h0, .inr (14, [.ref q_t, .int (zI (z16_n)), .int (zI (z0_11)), .int (zI (z1_12)), .int (zI (z2_13)), .int (zI (z3_14)), .int (zI (z4_15)), .ref q5_16, v16_8, v16_9, v16_10, v16_11, v16_12, v16_13])), (q_t, .inl (cT, 8192, .inl (fun j : Nat => zI (a_t (j : Int)))))]) (cx := [(h0, .inr (14, [.ref q_t, .int (zI (z16_n)), .int (zI (z0_11)), .int (zI (z1_12)), .int (zI (z2_13)), .int (zI (z3_14)), .int (zI (z4_15)), .ref q5_16, v16_8, v16_9, v16_10, v16_11, v16_12, v16_13])), (q_t, .inl (cT, 8192, .inl (fun j : Nat => zI (a_t (j : Int)))))]) (pl := va_pl Ln_17 (pE Pw_45)) [0, 1] (by decide) rfl
    have hKc := hK.sub (tys' := [(cT, .byte)]) [3] rfl
    have hFc := va_freeP (X := [(h0, .inr (14, [.ref q_t, .int (zI (z16_n)), .int (zI (z0_11)), .int (zI (z1_12)), .int (zI (z2_13)), .int (zI (z3_14)), .int (zI (z4_15)), .ref q5_16, v16_8, v16_9, v16_10, v16_11, v16_12, v16_13])), (q_t, .inl (cT, 8192, .inl (fun j : Nat => zI (a_t (j : Int)))))]) (cx := [(h0, .inr (14, [.ref q_t, .int (zI (z16_n)), .int (zI (z0_11)), .int (zI (z1_12)), .int (zI (z2_13)), .int (zI (z3_14)), .int (zI (z4_15)), .ref q5_16, v16_8, v16_9, v16_10, v16_11, v16_12, v16_13])), (q_t, .inl (cT, 8192, .inl (fun j : Nat => zI (a_t (j : Int)))))]) (pl := va_pl Ln_17 (pE Pw_45)) hD hS hA [0, 1] rfl
    refine W_knowS (fun hrmA => ?_)
    refine vx_callv (vx_runV (As := [.ref sa_RX16_229]) (rest := []) ⟨hx, hb, hml, hown, hts⟩ (c_X16_wantSK l dC dI h0 z16_n z0_11 z1_12 z2_13 z3_14 z4_15 v16_8 v16_9 v16_10 v16_11 v16_12 v16_13 q_t cT a_t q5_16 Ln_17 Pw_45 sa_RX16_9 sa_RX16_229 sv_RX16_229 1 ((fun j : Nat => ([61] : List Int32).getD j 0)) (by omega) (by omega) (by omega) (by omega) (by omega) (by omega) hR_a_t hX_tx (by omega) hX_tn (by omega) H.size sv_RX16_9 sa_RX16_119 sv_RX16_119 sa_RX16_100 sv_RX16_100 sa_RX16_117 sv_RX16_117 sa_RX16_98 sv_RX16_98 H) (cwV 1 hts g_X16_rowR_X16_wantSK rfl rfl rfl (by decide +kernel) ⟨(Nat.le_of_ble_eq_true rfl), (Nat.le_of_ble_eq_true rfl)⟩) ⟨fun a U g mk q => by obtain ⟨q0, q1, qP, qK, qD, e0, e1, e2, e3, e4, e5, e6, e7, e8, e9, e10, e11, e12, e13, e14, e15⟩ := q; exact ⟨q0, q1, qP, va_K.moved (u := U) (U := U.calling g mk a) (Vm.Alike.refl U.vm) qK, qD, vs_S.moved (u := U) (U := U.calling g mk a) (Vm.Alike.refl U.vm) e0, vs_S.moved (u := U) (U := U.calling g mk a) (Vm.Alike.refl U.vm) e1, va_Z.moved (u := U) (U := U.calling g mk a) (Vm.Alike.refl U.vm) e2, vk_R.same (u := U) (U := U.calling g mk a) rfl e3, va_Nw.same rfl (u := U) (U := U.calling g mk a) rfl e4, vk_R.same (u := U) (U := U.calling g mk a) rfl e5, vs_S.moved (u := U) (U := U.calling g mk a) (Vm.Alike.refl U.vm) e6, vs_S.moved (u := U) (U := U.calling g mk a) (Vm.Alike.refl U.vm) e7, vk_R.same (u := U) (U := U.calling g mk a) rfl e8, vk_R.same (u := U) (U := U.calling g mk a) rfl e9, vs_S.moved (u := U) (U := U.calling g mk a) (Vm.Alike.refl U.vm) e10, vk_R.same (u := U) (U := U.calling g mk a) rfl e11, vs_S.moved (u := U) (U := U.calling g mk a) (Vm.Alike.refl U.vm) e12, e13, vx_Zq.moved (u := U) (U := U.calling g mk a) (Vm.Alike.refl U.vm) e14, vx_Zq.moved (u := U) (U := U.calling g mk a) (Vm.Alike.refl U.vm) e15⟩, va_recv hKc hPc (ci := 14) (q0 := 0) rfl rfl, fun U hU hW => ⟨rfl, by rw [hU], by rw [hU]; exact hPc, va_K.moved hW.alike hKc, hDc.weaken (fun _ _ _ _ => trivial), vs_S.go hp18 hS hFc hU hW.alike, vs_S.go hp2 hS hFc hU hW.alike, va_Z.go hp3 hS hFc hU hW.alike, vk_R.warm hW hp4, va_Nw.warmC hW hp5, vk_R.warm hW hp6, vs_S.go hp7 hS hFc hU hW.alike, vs_S.go hp8 hS hFc hU hW.alike, vk_R.warm hW hp9, vk_R.warm hW hp10, vs_S.go hp11 hS hFc hU hW.alike, vk_R.warm hW hp12, vs_S.go hp13 hS hFc hU hW.alike, hU, vx_Zq.go hp14 hS hFc hU hW.alike, vx_Zq.go hp15 hS hFc hU hW.alike⟩⟩ rfl rfl hl.1 rfl (lv_room (Nat.le_of_ble_eq_true rfl)) dX16_row_38 ⟨(show (0 + kc_19) + ((z16_n - z0_11 + 20).toNat) ≤ (8 * (z16_n - z16_place) - TKW z16_kind (z16_at - z16_place) + 160).toNat from (rmT (by omega) (by omega))), (show (0 + ks_20) + ((10 * (z16_n - z0_11) + 120).toNat) ≤ (45 * (z16_n - z16_place) - TKV z16_kind (z16_at - z16_place) + 500).toNat from (rmT (by omega) (by omega)))⟩) hS (fun q _ h => hFc q h) hFc (fun q _ h => hFc q h) (fun E ce q9 u t H1 locs ht hvm _ hB hz1 hk1 hS hce hcv hcl => ?_) (fun  u t H1 locs ht hvm hw hB hz1 hk1 hS => ?_)
    · obtain ⟨rfl, zp_60, Ln_61, Pn_62, kc_63, ks_64, hxt_65, hP1, hD1⟩ := hB
      rw [ht] at hP1
      obtain ⟨hP, hD⟩ := va_joinP (X := [(h0, .inr (14, [.ref q_t, .int (zI (z16_n)), .int (zI (z0_11)), .int (zI (z1_12)), .int (zI (z2_13)), .int (zI (z3_14)), .int (zI (z4_15)), .ref q5_16, v16_8, v16_9, v16_10, v16_11, v16_12, v16_13])), (q_t, .inl (cT, 8192, .inl (fun j : Nat => zI (a_t (j : Int)))))]) (cx := [(h0, .inr (14, [.ref q_t, .int (zI (z16_n)), .int (zI (z0_11)), .int (zI (z1_12)), .int (zI (z2_13)), .int (zI (z3_14)), .int (zI (z4_15)), .ref q5_16, v16_8, v16_9, v16_10, v16_11, v16_12, v16_13])), (q_t, .inl (cT, 8192, .inl (fun j : Nat => zI (a_t (j : Int)))))]) (wr := []) (rx := [(q_t, .inl (cT, 8192, .inl (fun j : Nat => zI (a_t (j : Int))))), (q9, .inr (15, [.null, .null, .null, .null, .null, .int 0, .int (zI (zp_60))]))]) (pl := va_pl Ln_17 (pE Pw_45)) (pl1 := va_pl Ln_61 (pE Pn_62)) hP hD [0, 1] [] rfl rfl (by decide) (by decide) hk1 hFc hP1 hD1
      have hrmC := hxt_65.1.1
      rw [ht] at hrmC
      refine vx_tightS (hrmA.trans hrmC) ?_
      have hrb := hxt_65.1.2
      generalize H1 = H at hP hS hce ⊢
      have hP : va_P (dC, dI) vwQ ([(q_t, .inl (cT, 8192, .inl (fun j : Nat => zI (a_t (j : Int))))), (q9, .inr (15, [.null, .null, .null, .null, .null, .int 0, .int (zI (zp_60))]))] ++ va_pl Ln_61 (pE Pn_62)) H := hP
      have hD : va_D A ([(q_t, .inl (cT, 8192, .inl (fun j : Nat => zI (a_t (j : Int))))), (q9, .inr (15, [.null, .null, .null, .null, .null, .int 0, .int (zI (zp_60))]))] ++ va_pl Ln_61 (pE Pn_62)) := hD
      have hzp : 0 ≤ zp_60 ∧ zp_60 ≤ 8192 := hxt_65.2.1
      subst hQ
      refine vx_knowS (fun hrm9 => ?_)
      refine vx_widen (k := ((8 * (z16_n - z16_place) - TKW z16_kind (z16_at - z16_place) + 160).toNat)) (n := ((45 * (z16_n - z16_place) - TKV z16_kind (z16_at - z16_place) + 500).toNat)) (rmW (by omega)) (rmW (by omega)) ?_
      exact vx_out (fun x9 h9 => (hnt x9 h9).elim) hlocks hce hcv hcl (fun t ht hvm => ⟨(), trivial, ⟨rfl, zp_60, Ln_61, Pn_62, ((0 + kc_19) + kc_63), ((0 + ks_20) + ks_64), ⟨⟨(by rw [ht, ← hp16]; exact hrm9), (by omega)⟩, ⟨(by omega), ⟨hA_55.trans (hxt_65.2.2.1.kegR hak_50), hak_50.txt hxt_65.2.2.1 hxt_65.2.2.2, (hcx_58.cpa hg00.owa (fun z _ q => by rw [show z = xr from q, hk00]; decide)).trans hA_55 (hxt_65.2.2.1.cpa hak_50.owa), hnx_59.trans (NTX.ext hxt_65.2.2.1 hxt_65.2.2.2)⟩⟩⟩, by rw [ht]; exact hP, hD⟩, hS.F ht⟩) hS.2.2 (Nat.le_refl _) (Nat.le_refl _)
    obtain ⟨z0_66, z1_67, z2_68, z3_69, z4_70, q5_71, Ln_72, Pn_73, kc_74, ks_75, hxt_75, hP1, hK1, hD1⟩ := hB
    rw [ht] at hP1
    have hK1 := va_K.moved hvm.symm hK1
    obtain ⟨hP, hD⟩ := va_joinP (X := [(h0, .inr (14, [.ref q_t, .int (zI (z16_n)), .int (zI (z0_11)), .int (zI (z1_12)), .int (zI (z2_13)), .int (zI (z3_14)), .int (zI (z4_15)), .ref q5_16, v16_8, v16_9, v16_10, v16_11, v16_12, v16_13])), (q_t, .inl (cT, 8192, .inl (fun j : Nat => zI (a_t (j : Int)))))]) (cx := [(h0, .inr (14, [.ref q_t, .int (zI (z16_n)), .int (zI (z0_11)), .int (zI (z1_12)), .int (zI (z2_13)), .int (zI (z3_14)), .int (zI (z4_15)), .ref q5_16, v16_8, v16_9, v16_10, v16_11, v16_12, v16_13])), (q_t, .inl (cT, 8192, .inl (fun j : Nat => zI (a_t (j : Int)))))]) (wr := []) (rx := [(h0, .inr (14, [.ref q_t, .int (zI (z16_n)), .int (zI (z0_66)), .int (zI (z1_67)), .int (zI (z2_68)), .int (zI (z3_69)), .int (zI (z4_70)), .ref q5_71, v16_8, v16_9, v16_10, v16_11, v16_12, v16_13])), (q_t, .inl (cT, 8192, .inl (fun j : Nat => zI (a_t (j : Int)))))]) (pl := va_pl Ln_17 (pE Pw_45)) (pl1 := va_pl Ln_72 (pE Pn_73)) hP hD [0, 1] [] rfl rfl (by decide) (by decide) hk1 hFc hP1 hD1
    have hK := (hK.sub (tys' := [(cO, .object "java/lang/Object"), (cI, .int), (cZ, .boolean)]) [0, 1, 2] rfl).app hK1
    have hrmC := hxt_75.1.1
    rw [ht] at hrmC
    refine W_tightS (hrmA.trans hrmC) ?_
    have hrb := hxt_75.1.2
    generalize H1 = H at hP hS ⊢
    have hP : va_P (dC, dI) vwQ ([(h0, .inr (14, [.ref q_t, .int (zI (z16_n)), .int (zI (z0_66)), .int (zI (z1_67)), .int (zI (z2_68)), .int (zI (z3_69)), .int (zI (z4_70)), .ref q5_71, v16_8, v16_9, v16_10, v16_11, v16_12, v16_13])), (q_t, .inl (cT, 8192, .inl (fun j : Nat => zI (a_t (j : Int)))))] ++ va_pl Ln_72 (pE Pn_73)) H := hP
    have hD : va_D A ([(h0, .inr (14, [.ref q_t, .int (zI (z16_n)), .int (zI (z0_66)), .int (zI (z1_67)), .int (zI (z2_68)), .int (zI (z3_69)), .int (zI (z4_70)), .ref q5_71, v16_8, v16_9, v16_10, v16_11, v16_12, v16_13])), (q_t, .inl (cT, 8192, .inl (fun j : Nat => zI (a_t (j : Int)))))] ++ va_pl Ln_72 (pE Pn_73)) := hD
    have hK : va_K (dC, dI) vwQ [(cO, .object "java/lang/Object"), (cI, .int), (cZ, .boolean), (cT, .byte)] s := hK
    refine W.widen (k := ((0 + kc_19) + kc_74)) (n := ((0 + ks_20) + ks_75)) (by omega) (by omega) ?_
    obtain ⟨rk_76, rk_77, rk_78, rk_79, rk_80, hu_80⟩ := hxt_75.2
    have htk_81 := hu_80.1.2.1
    have hnt_81 := hu_80.1.2.2
    have hno7 := htk_28.2.2.2 (by omega)
    have hrg_81 := hu_80.1.1
    have htq_81 := htk_81.1
    have hgo9 := hkd_33.go (by omega)
    have hkd_86 := hu_80.2.1
    have hX_kv := hkd_86.2
    have hu_82 := hu_80.2.2
    have hex_83 : EXT9 Ln_17 Pw_45 Ln_72 Pn_73 := hu_82.1
    have hke_84 : KEG [] Ln_17 Pw_45 Ln_72 Pn_73 := hex_83.kegR hak_50
    have hak_85 : GLR Ln_72 Pn_73 cO cI cZ sx_ed := hak_50.txt hex_83 hu_82.2.1
    have hsm_87 := (hex_83 xr hq_53.1).2
    have : Pn_73.ro xr = Pw_45.ro xr := hsm_87.1 0
    have : Pn_73.rt xr = Pw_45.rt xr := hsm_87.1 1
    have : Pn_73.ra xr = Pw_45.ra xr := hsm_87.1 2
    have : Pn_73.rb xr = Pw_45.rb xr := hsm_87.1 3
    have : Pn_73.rA xr = Pw_45.rA xr := hsm_87.1 4
    have : Pn_73.rB xr = Pw_45.rB xr := hsm_87.1 5
    have : Pn_73.rg xr = Pw_45.rg xr := hsm_87.1 6
    have : Pn_73.ek xr = Pw_45.ek xr := hsm_87.2.1 8
    have hq_88 : HID (la ∈ Ln_72 ∧ Pn_73.kd la = 30) := hke_84.mem hq_52.1 hq_52.2 (by decide)
    have hq_89 : HID (xr ∈ Ln_72 ∧ Pn_73.kd xr = 17) := hke_84.mem hq_53.1 hq_53.2 (by decide)
    have hE_90 : HID (Pn_73.ek xr ≠ 1) := (by rw [hke_84.ek hq_53.1 hq_53.2 (by decide)]; exact hE_54.out)
    have hA_91 : KEG [] L P Ln_72 Pn_73 := hA_55.trans hke_84
    have : Pn_73.lz la = Pw_45.lz la := (hex_83 la hq_52.1).2.1 0
    have hek_92 : HID (Pn_73.ek la = 12) := (by rw [hke_84.ek hq_52.1 hq_52.2 (by decide)]; exact hek_56.out)
    have how_93 : HID (Pn_73.ow la = la) := ((hke_84.1 la hq_52.1 (by rw [hq_52.2]; decide)).2.2.2.1 hq_52.2 how_57.out).1
    have hcz := (((hke_84.1 la hq_52.1 (by rw [hq_52.2]; decide)).2.2.2.1 hq_52.2 how_57.out).2 (by simp)).1
    have hX_tx := hu_82.2.2
    have hcx_94 : CHG (fun z => z = xr) L P Ln_72 Pn_73 := hcx_58.trans hex_83.chg (fun z m q => q.elim)
    have hnn_81 := TKV.nn (k := z1_67) (d := z0_66 - z2_68) (by omega)
    have hnx_95 : NTX L P Ln_72 Pn_73 := hnx_59.trans (NTX.ext hex_83 hu_82.2.1)
    have hri_96 : ((((0 + ks_20) + ks_75) : Nat) : Int) ≤ 45 * (z2_68 - z16_place) - TKV z16_kind (z16_at - z16_place) + TKV (z1_67) (z0_66 - z2_68) - 55 ∧ ((((0 + kc_19) + kc_74) : Nat) : Int) ≤ 8 * (z2_68 - z16_place) - TKW z16_kind (z16_at - z16_place) + TKW (z1_67) (z0_66 - z2_68) - 11 := (by omega)
    clear hrb hri_43
    skip
    refine lv_aload_n hx hb dX16_row_41 rfl (lv_at hl 0 rfl) ?_
    refine va_ldcS hx hb hown hp19 dX16_row_42 ?_
    have hPc := hP.part (X := [(h0, .inr (14, [.ref q_t, .int (zI (z16_n)), .int (zI (z0_66)), .int (zI (z1_67)), .int (zI (z2_68)), .int (zI (z3_69)), .int (zI (z4_70)), .ref q5_71, v16_8, v16_9, v16_10, v16_11, v16_12, v16_13])), (q_t, .inl (cT, 8192, .inl (fun j : Nat => zI (a_t (j : Int)))))]) (cx := [(h0, .inr (14, [.ref q_t, .int (zI (z16_n)), .int (zI (z0_66)), .int (zI (z1_67)), .int (zI (z2_68)), .int (zI (z3_69)), .int (zI (z4_70)), .ref q5_71, v16_8, v16_9, v16_10, v16_11, v16_12, v16_13])), (q_t, .inl (cT, 8192, .inl (fun j : Nat => zI (a_t (j : Int)))))]) (pl := va_pl Ln_72 (pE Pn_73)) [0, 1] rfl
    have hDc := hD.part (X := [(h0, .inr (14, [.ref q_t, .int (zI (z16_n)), .int (zI (z0_66)), .int (zI (z1_67)), .int (zI (z2_68)), .int (zI (z3_69)), .int (zI (z4_70)), .ref q5_71, v16_8, v16_9, v16_10, v16_11, v16_12, v16_13])), (q_t, .inl (cT, 8192, .inl (fun j : Nat => zI (a_t (j : Int)))))]) (cx := [(h0, .inr (14, [.ref q_t, .int (zI (z16_n)), .int (zI (z0_66)), .int (zI (z1_67)), .int (zI (z2_68)), .int (zI (z3_69)), .int (zI (z4_70)), .ref q5_71, v16_8, v16_9, v16_10, v16_11, v16_12, v16_13])), (q_t, .inl (cT, 8192, .inl (fun j : Nat => zI (a_t (j : Int)))))]) (pl := va_pl Ln_72 (pE Pn_73)) [0, 1] (by decide) rfl
    have hKc := hK.sub (tys' := [(cT, .byte)]) [3] rfl
    have hFc := va_freeP (X := [(h0, .inr (14, [.ref q_t, .int (zI (z16_n)), .int (zI (z0_66)), .int (zI (z1_67)), .int (zI (z2_68)), .int (zI (z3_69)), .int (zI (z4_70)), .ref q5_71, v16_8, v16_9, v16_10, v16_11, v16_12, v16_13])), (q_t, .inl (cT, 8192, .inl (fun j : Nat => zI (a_t (j : Int)))))]) (cx := [(h0, .inr (14, [.ref q_t, .int (zI (z16_n)), .int (zI (z0_66)), .int (zI (z1_67)), .int (zI (z2_68)), .int (zI (z3_69)), .int (zI (z4_70)), .ref q5_71, v16_8, v16_9, v16_10, v16_11, v16_12, v16_13])), (q_t, .inl (cT, 8192, .inl (fun j : Nat => zI (a_t (j : Int)))))]) (pl := va_pl Ln_72 (pE Pn_73)) hD hS hA [0, 1] rfl
    refine va_calli (va_runV (As := [.ref sa_RX16_231]) (rest := []) ⟨hx, hb, hml, hown, hts⟩ (c_X16_isKK l dC dI h0 (.int (zI (z16_n))) (.int (zI (z0_66))) z1_67 (.int (zI (z2_68))) (.int (zI (z3_69))) (.int (zI (z4_70))) v16_8 v16_9 v16_10 v16_11 v16_12 v16_13 q_t cT a_t q5_71 Ln_72 Pn_73 sa_RX16_9 sa_RX16_231 sv_RX16_231 2 ((fun j : Nat => ([105, 110] : List Int32).getD j 0)) (by omega) hR_a_t hX_tx (by omega) H.size sv_RX16_9) (cwV 1 hts g_X16_rowR_X16_isKK rfl rfl rfl (by decide +kernel) ⟨(Nat.le_of_ble_eq_true rfl), (Nat.le_of_ble_eq_true rfl)⟩) ⟨fun a U g mk q => by obtain ⟨q0, q1, qP, qK, qD, e0, e1, e2⟩ := q; exact ⟨q0, q1, qP, va_K.moved (u := U) (U := U.calling g mk a) (Vm.Alike.refl U.vm) qK, qD, vs_S.moved (u := U) (U := U.calling g mk a) (Vm.Alike.refl U.vm) e0, vs_S.moved (u := U) (U := U.calling g mk a) (Vm.Alike.refl U.vm) e1, va_Z.moved (u := U) (U := U.calling g mk a) (Vm.Alike.refl U.vm) e2⟩, va_recv hKc hPc (ci := 14) (q0 := 0) rfl rfl, fun U hU hW => ⟨rfl, by rw [hU], by rw [hU]; exact hPc, va_K.moved hW.alike hKc, hDc.weaken (fun _ _ _ _ => trivial), vs_S.go hp2 hS hFc hU hW.alike, vs_S.go hp20 hS hFc hU hW.alike, va_Z.go hp3 hS hFc hU hW.alike⟩⟩ rfl rfl hl.1 rfl (lv_room (Nat.le_of_ble_eq_true rfl)) dX16_row_44 ⟨(show ((0 + kc_19) + kc_74) + 0 ≤ (8 * (z16_n - z16_place) - TKW z16_kind (z16_at - z16_place) + 160).toNat from (rmW (by omega))), (show ((0 + ks_20) + ks_75) + 0 ≤ (45 * (z16_n - z16_place) - TKV z16_kind (z16_at - z16_place) + 500).toNat from (rmW (by omega)))⟩) hS (fun q _ h => hFc q h) hFc (fun r_97 u t H1 locs ht hvm hw hB hz1 hk1 hS => ?_)
    obtain ⟨hP1, hK1, hD1⟩ := hB
    rw [ht] at hP1
    have hK1 := va_K.moved hvm.symm hK1
    obtain ⟨hP, hD⟩ := va_joinP (X := [(h0, .inr (14, [.ref q_t, .int (zI (z16_n)), .int (zI (z0_66)), .int (zI (z1_67)), .int (zI (z2_68)), .int (zI (z3_69)), .int (zI (z4_70)), .ref q5_71, v16_8, v16_9, v16_10, v16_11, v16_12, v16_13])), (q_t, .inl (cT, 8192, .inl (fun j : Nat => zI (a_t (j : Int)))))]) (cx := [(h0, .inr (14, [.ref q_t, .int (zI (z16_n)), .int (zI (z0_66)), .int (zI (z1_67)), .int (zI (z2_68)), .int (zI (z3_69)), .int (zI (z4_70)), .ref q5_71, v16_8, v16_9, v16_10, v16_11, v16_12, v16_13])), (q_t, .inl (cT, 8192, .inl (fun j : Nat => zI (a_t (j : Int)))))]) (wr := []) (rx := [(h0, .inr (14, [.ref q_t, .int (zI (z16_n)), .int (zI (z0_66)), .int (zI (z1_67)), .int (zI (z2_68)), .int (zI (z3_69)), .int (zI (z4_70)), .ref q5_71, v16_8, v16_9, v16_10, v16_11, v16_12, v16_13])), (q_t, .inl (cT, 8192, .inl (fun j : Nat => zI (a_t (j : Int)))))]) (pl := va_pl Ln_72 (pE Pn_73)) (pl1 := va_pl Ln_72 (pE Pn_73)) hP hD [0, 1] [] rfl rfl (by decide) (by decide) hk1 hFc hP1 hD1
    have hK := (hK.sub (tys' := [(cO, .object "java/lang/Object"), (cI, .int), (cZ, .boolean)]) [0, 1, 2] rfl).app hK1
    generalize H1 = H at hP hS ⊢
    have hP : va_P (dC, dI) vwQ ([(h0, .inr (14, [.ref q_t, .int (zI (z16_n)), .int (zI (z0_66)), .int (zI (z1_67)), .int (zI (z2_68)), .int (zI (z3_69)), .int (zI (z4_70)), .ref q5_71, v16_8, v16_9, v16_10, v16_11, v16_12, v16_13])), (q_t, .inl (cT, 8192, .inl (fun j : Nat => zI (a_t (j : Int)))))] ++ va_pl Ln_72 (pE Pn_73)) H := hP
    have hD : va_D A ([(h0, .inr (14, [.ref q_t, .int (zI (z16_n)), .int (zI (z0_66)), .int (zI (z1_67)), .int (zI (z2_68)), .int (zI (z3_69)), .int (zI (z4_70)), .ref q5_71, v16_8, v16_9, v16_10, v16_11, v16_12, v16_13])), (q_t, .inl (cT, 8192, .inl (fun j : Nat => zI (a_t (j : Int)))))] ++ va_pl Ln_72 (pE Pn_73)) := hD
    have hK : va_K (dC, dI) vwQ [(cO, .object "java/lang/Object"), (cI, .int), (cZ, .boolean), (cT, .byte)] s := hK
    refine W.widen (k := ((0 + kc_19) + kc_74)) (n := ((0 + ks_20) + ks_75)) (by omega) (by omega) ?_
    have hw_98 := hw
    obtain ⟨z_99, rfl, hzz_99⟩ := hw_98
    skip
    refine lv_if_eq (tgt := 61) hx hb dX16_row_47 (by decide) (fun b47 => ?_) (fun b47 => ?_)
    · have yb47 : (z_99 : Int) = (0 : Int) := (zI_eq (a := z_99) (b := 0) (by omega) (by omega) (by omega) (by omega)).mp b47
      refine lv_aload_n hx hb dX16_row_61 rfl (lv_at hl 0 rfl) ?_
      refine lv_aload_n hx hb dX16_row_62 rfl (lv_at hl 1 rfl) ?_
      refine lv_iconst (v := 0) hx hb dX16_row_63 (by decide) ?_
      have hX_tn := htk_81
      have hX_g := hak_85
      have hX_x := hq_89.1
      have hX_k := hq_89.2
      have hX_la := (show la ∈ Ln_72 ∧ Pn_73.kd la = 30 ∧ Pn_73.ek la = 12 ∧ Pn_73.ow la = la from ⟨hq_88.1, hq_88.2, hek_92.out, how_93.out⟩)
      have hPc := hP.part (X := [(h0, .inr (14, [.ref q_t, .int (zI (z16_n)), .int (zI (z0_66)), .int (zI (z1_67)), .int (zI (z2_68)), .int (zI (z3_69)), .int (zI (z4_70)), .ref q5_71, v16_8, v16_9, v16_10, v16_11, v16_12, v16_13])), (q_t, .inl (cT, 8192, .inl (fun j : Nat => zI (a_t (j : Int)))))]) (cx := [(h0, .inr (14, [.ref q_t, .int (zI (z16_n)), .int (zI (z0_66)), .int (zI (z1_67)), .int (zI (z2_68)), .int (zI (z3_69)), .int (zI (z4_70)), .ref q5_71, v16_8, v16_9, v16_10, v16_11, v16_12, v16_13])), (q_t, .inl (cT, 8192, .inl (fun j : Nat => zI (a_t (j : Int)))))]) (pl := va_pl Ln_72 (pE Pn_73)) [0, 1] rfl
      have hDc := hD.part (X := [(h0, .inr (14, [.ref q_t, .int (zI (z16_n)), .int (zI (z0_66)), .int (zI (z1_67)), .int (zI (z2_68)), .int (zI (z3_69)), .int (zI (z4_70)), .ref q5_71, v16_8, v16_9, v16_10, v16_11, v16_12, v16_13])), (q_t, .inl (cT, 8192, .inl (fun j : Nat => zI (a_t (j : Int)))))]) (cx := [(h0, .inr (14, [.ref q_t, .int (zI (z16_n)), .int (zI (z0_66)), .int (zI (z1_67)), .int (zI (z2_68)), .int (zI (z3_69)), .int (zI (z4_70)), .ref q5_71, v16_8, v16_9, v16_10, v16_11, v16_12, v16_13])), (q_t, .inl (cT, 8192, .inl (fun j : Nat => zI (a_t (j : Int)))))]) (pl := va_pl Ln_72 (pE Pn_73)) [0, 1] (by decide) rfl
      have hKc := hK.sub (tys' := [(cT, .byte), (cO, .object "java/lang/Object"), (cI, .int), (cZ, .boolean)]) [3, 0, 1, 2] rfl
      have hFc := va_freeP (X := [(h0, .inr (14, [.ref q_t, .int (zI (z16_n)), .int (zI (z0_66)), .int (zI (z1_67)), .int (zI (z2_68)), .int (zI (z3_69)), .int (zI (z4_70)), .ref q5_71, v16_8, v16_9, v16_10, v16_11, v16_12, v16_13])), (q_t, .inl (cT, 8192, .inl (fun j : Nat => zI (a_t (j : Int)))))]) (cx := [(h0, .inr (14, [.ref q_t, .int (zI (z16_n)), .int (zI (z0_66)), .int (zI (z1_67)), .int (zI (z2_68)), .int (zI (z3_69)), .int (zI (z4_70)), .ref q5_71, v16_8, v16_9, v16_10, v16_11, v16_12, v16_13])), (q_t, .inl (cT, 8192, .inl (fun j : Nat => zI (a_t (j : Int)))))]) (pl := va_pl Ln_72 (pE Pn_73)) hD hS hA [0, 1] rfl
      refine W_knowS (fun hrmA => ?_)
      refine vx_callv (vx_runV (As := [.ref xr, .int 0]) (rest := []) ⟨hx, hb, hml, hown, hts⟩ (c_X16_opAR l dC dI cI cZ h0 z16_n z0_66 z1_67 z2_68 z3_69 z4_70 v16_8 v16_9 v16_10 v16_11 v16_12 v16_13 q_t cT a_t q5_71 Ln_72 Pn_73 sa_RX16_9 cO la sx_ed xr (by omega) (by omega) (by omega) (by omega) (by omega) (by omega) hR_a_t hX_g hX_la hX_x hX_k (by omega) hX_kv hX_tn H.size sv_RX16_9 sa_RX16_119 sv_RX16_119 sa_RX16_100 sv_RX16_100 sa_RX16_117 sv_RX16_117 sa_RX16_98 sv_RX16_98 H) (cwV 2 hts g_X16_rowR_X16_opAR rfl rfl rfl (by decide +kernel) ⟨(Nat.le_of_ble_eq_true rfl), (Nat.le_of_ble_eq_true rfl)⟩) ⟨fun a U g mk q => by obtain ⟨q0, q1, qP, qK, qD, e0, e1, e2, e3, e4, e5, e6, e7, e8, e9, e10, e11, e12, e13, e14⟩ := q; exact ⟨q0, q1, qP, va_K.moved (u := U) (U := U.calling g mk a) (Vm.Alike.refl U.vm) qK, qD, vk_R.same (u := U) (U := U.calling g mk a) rfl e0, va_Z.moved (u := U) (U := U.calling g mk a) (Vm.Alike.refl U.vm) e1, vs_S.moved (u := U) (U := U.calling g mk a) (Vm.Alike.refl U.vm) e2, va_Nw.same rfl (u := U) (U := U.calling g mk a) rfl e3, vk_R.same (u := U) (U := U.calling g mk a) rfl e4, vs_S.moved (u := U) (U := U.calling g mk a) (Vm.Alike.refl U.vm) e5, vs_S.moved (u := U) (U := U.calling g mk a) (Vm.Alike.refl U.vm) e6, vk_R.same (u := U) (U := U.calling g mk a) rfl e7, vk_R.same (u := U) (U := U.calling g mk a) rfl e8, vs_S.moved (u := U) (U := U.calling g mk a) (Vm.Alike.refl U.vm) e9, vk_R.same (u := U) (U := U.calling g mk a) rfl e10, vs_S.moved (u := U) (U := U.calling g mk a) (Vm.Alike.refl U.vm) e11, e12, vx_Zq.moved (u := U) (U := U.calling g mk a) (Vm.Alike.refl U.vm) e13, vx_Zq.moved (u := U) (U := U.calling g mk a) (Vm.Alike.refl U.vm) e14⟩, va_recv hKc hPc (ci := 14) (q0 := 0) rfl rfl, fun U hU hW => ⟨rfl, by rw [hU], by rw [hU]; exact hPc, va_K.moved hW.alike hKc, hDc.weaken (fun _ _ _ _ => trivial), vk_R.warm hW hp4, va_Z.go hp3 hS hFc hU hW.alike, vs_S.go hp2 hS hFc hU hW.alike, va_Nw.warmC hW hp5, vk_R.warm hW hp6, vs_S.go hp7 hS hFc hU hW.alike, vs_S.go hp8 hS hFc hU hW.alike, vk_R.warm hW hp9, vk_R.warm hW hp10, vs_S.go hp11 hS hFc hU hW.alike, vk_R.warm hW hp12, vs_S.go hp13 hS hFc hU hW.alike, hU, vx_Zq.go hp14 hS hFc hU hW.alike, vx_Zq.go hp15 hS hFc hU hW.alike⟩⟩ rfl rfl hl.1 rfl (lv_room (Nat.le_of_ble_eq_true rfl)) dX16_row_64 ⟨(show ((0 + kc_19) + kc_74) + ((z16_n - z0_66 + 20).toNat) ≤ (8 * (z16_n - z16_place) - TKW z16_kind (z16_at - z16_place) + 160).toNat from (rmT (by omega) (by omega))), (show ((0 + ks_20) + ks_75) + ((10 * (z16_n - z0_66) + 120).toNat) ≤ (45 * (z16_n - z16_place) - TKV z16_kind (z16_at - z16_place) + 500).toNat from (rmT (by omega) (by omega)))⟩) hS (fun q _ h => hFc q h) hFc (fun q _ h => hFc q h) (fun E ce q9 u t H1 locs ht hvm _ hB hz1 hk1 hS hce hcv hcl => ?_) (fun  u t H1 locs ht hvm hw hB hz1 hk1 hS => ?_)
      · obtain ⟨rfl, zp_100, Ln_101, Pn_102, kc_103, ks_104, hxt_105, hP1, hD1⟩ := hB
        rw [ht] at hP1
        obtain ⟨hP, hD⟩ := va_joinP (X := [(h0, .inr (14, [.ref q_t, .int (zI (z16_n)), .int (zI (z0_66)), .int (zI (z1_67)), .int (zI (z2_68)), .int (zI (z3_69)), .int (zI (z4_70)), .ref q5_71, v16_8, v16_9, v16_10, v16_11, v16_12, v16_13])), (q_t, .inl (cT, 8192, .inl (fun j : Nat => zI (a_t (j : Int)))))]) (cx := [(h0, .inr (14, [.ref q_t, .int (zI (z16_n)), .int (zI (z0_66)), .int (zI (z1_67)), .int (zI (z2_68)), .int (zI (z3_69)), .int (zI (z4_70)), .ref q5_71, v16_8, v16_9, v16_10, v16_11, v16_12, v16_13])), (q_t, .inl (cT, 8192, .inl (fun j : Nat => zI (a_t (j : Int)))))]) (wr := []) (rx := [(q_t, .inl (cT, 8192, .inl (fun j : Nat => zI (a_t (j : Int))))), (q9, .inr (15, [.null, .null, .null, .null, .null, .int 0, .int (zI (zp_100))]))]) (pl := va_pl Ln_72 (pE Pn_73)) (pl1 := va_pl Ln_101 (pE Pn_102)) hP hD [0, 1] [] rfl rfl (by decide) (by decide) hk1 hFc hP1 hD1
        have hrmC := hxt_105.1.1
        rw [ht] at hrmC
        refine vx_tightS (hrmA.trans hrmC) ?_
        have hrb := hxt_105.1.2
        generalize H1 = H at hP hS hce ⊢
        have hP : va_P (dC, dI) vwQ ([(q_t, .inl (cT, 8192, .inl (fun j : Nat => zI (a_t (j : Int))))), (q9, .inr (15, [.null, .null, .null, .null, .null, .int 0, .int (zI (zp_100))]))] ++ va_pl Ln_101 (pE Pn_102)) H := hP
        have hD : va_D A ([(q_t, .inl (cT, 8192, .inl (fun j : Nat => zI (a_t (j : Int))))), (q9, .inr (15, [.null, .null, .null, .null, .null, .int 0, .int (zI (zp_100))]))] ++ va_pl Ln_101 (pE Pn_102)) := hD
        have hzp : 0 ≤ zp_100 ∧ zp_100 ≤ 8192 := hxt_105.2.1
        subst hQ
        refine vx_knowS (fun hrm9 => ?_)
        refine vx_widen (k := ((8 * (z16_n - z16_place) - TKW z16_kind (z16_at - z16_place) + 160).toNat)) (n := ((45 * (z16_n - z16_place) - TKV z16_kind (z16_at - z16_place) + 500).toNat)) (rmW (by omega)) (rmW (by omega)) ?_
        exact vx_out (fun x9 h9 => (hnt x9 h9).elim) hlocks hce hcv hcl (fun t ht hvm => ⟨(), trivial, ⟨rfl, zp_100, Ln_101, Pn_102, (((0 + kc_19) + kc_74) + kc_103), (((0 + ks_20) + ks_75) + ks_104), ⟨⟨(by rw [ht, ← hp16]; exact hrm9), (by omega)⟩, ⟨(by omega), ⟨hA_91.trans hxt_105.2.2.1, hxt_105.2.2.2.1, (hcx_94.cpa hg00.owa (fun z _ q => by rw [show z = xr from q, hk00]; decide)).trans hA_91 hxt_105.2.2.2.2.1, hnx_95.trans hxt_105.2.2.2.2.2⟩⟩⟩, by rw [ht]; exact hP, hD⟩, hS.F ht⟩) hS.2.2 (Nat.le_refl _) (Nat.le_refl _)
      obtain ⟨z0_106, z1_107, z2_108, z3_109, z4_110, q5_111, Ln_112, Pn_113, kc_114, ks_115, hxt_115, hP1, hK1, hD1⟩ := hB
      rw [ht] at hP1
      have hK1 := va_K.moved hvm.symm hK1
      obtain ⟨hP, hD⟩ := va_joinP (X := [(h0, .inr (14, [.ref q_t, .int (zI (z16_n)), .int (zI (z0_66)), .int (zI (z1_67)), .int (zI (z2_68)), .int (zI (z3_69)), .int (zI (z4_70)), .ref q5_71, v16_8, v16_9, v16_10, v16_11, v16_12, v16_13])), (q_t, .inl (cT, 8192, .inl (fun j : Nat => zI (a_t (j : Int)))))]) (cx := [(h0, .inr (14, [.ref q_t, .int (zI (z16_n)), .int (zI (z0_66)), .int (zI (z1_67)), .int (zI (z2_68)), .int (zI (z3_69)), .int (zI (z4_70)), .ref q5_71, v16_8, v16_9, v16_10, v16_11, v16_12, v16_13])), (q_t, .inl (cT, 8192, .inl (fun j : Nat => zI (a_t (j : Int)))))]) (wr := []) (rx := [(h0, .inr (14, [.ref q_t, .int (zI (z16_n)), .int (zI (z0_106)), .int (zI (z1_107)), .int (zI (z2_108)), .int (zI (z3_109)), .int (zI (z4_110)), .ref q5_111, v16_8, v16_9, v16_10, v16_11, v16_12, v16_13])), (q_t, .inl (cT, 8192, .inl (fun j : Nat => zI (a_t (j : Int)))))]) (pl := va_pl Ln_72 (pE Pn_73)) (pl1 := va_pl Ln_112 (pE Pn_113)) hP hD [0, 1] [] rfl rfl (by decide) (by decide) hk1 hFc hP1 hD1
      have hK := (hK.sub (tys' := []) [] rfl).app hK1
      have hrmC := hxt_115.1.1
      rw [ht] at hrmC
      refine W_tightS (hrmA.trans hrmC) ?_
      have hrb := hxt_115.1.2
      generalize H1 = H at hP hS ⊢
      have hP : va_P (dC, dI) vwQ ([(h0, .inr (14, [.ref q_t, .int (zI (z16_n)), .int (zI (z0_106)), .int (zI (z1_107)), .int (zI (z2_108)), .int (zI (z3_109)), .int (zI (z4_110)), .ref q5_111, v16_8, v16_9, v16_10, v16_11, v16_12, v16_13])), (q_t, .inl (cT, 8192, .inl (fun j : Nat => zI (a_t (j : Int)))))] ++ va_pl Ln_112 (pE Pn_113)) H := hP
      have hD : va_D A ([(h0, .inr (14, [.ref q_t, .int (zI (z16_n)), .int (zI (z0_106)), .int (zI (z1_107)), .int (zI (z2_108)), .int (zI (z3_109)), .int (zI (z4_110)), .ref q5_111, v16_8, v16_9, v16_10, v16_11, v16_12, v16_13])), (q_t, .inl (cT, 8192, .inl (fun j : Nat => zI (a_t (j : Int)))))] ++ va_pl Ln_112 (pE Pn_113)) := hD
      have hK : va_K (dC, dI) vwQ [(cT, .byte), (cO, .object "java/lang/Object"), (cI, .int), (cZ, .boolean)] s := hK
      refine W.widen (k := (((0 + kc_19) + kc_74) + kc_114)) (n := (((0 + ks_20) + ks_75) + ks_115)) (by omega) (by omega) ?_
      obtain ⟨rk_116, rk_117, rk_118, rk_119, rk_120, hu_120⟩ := hxt_115.2
      have htk_121 := hu_120.2.2.2.2.1.2
      have hrg_121 := hu_120.2.2.2.2.1.1
      have htq_121 := htk_121.1
      have hu_122 := HID.mk (hu_120)
      replace hu_120 := HID.mk hu_120
      replace hxt_115 := HID.mk hxt_115
      have hoc9 := hu_122.2.2.1.2
      have hoq9 : OPQ (Pn_113.rA xr) (Pn_113.ra xr) := hu_122.2.2.1.1
      have hgo9 := hkd_86.go (by omega)
      have hkd_123 := hu_122.2.2.2.2.2.1
      have hX_kv := hkd_123.2
      have hq_124 : HID (la ∈ Ln_112 ∧ Pn_113.kd la = 30) := hu_122.1.mem hq_88.1 hq_88.2 (by decide)
      have hq_125 : HID (xr ∈ Ln_112 ∧ Pn_113.kd xr = 17) := hu_122.1.mem hq_89.1 hq_89.2 (by decide)
      have hE_126 : HID (Pn_113.ek xr ≠ 1) := (by rw [hu_122.1.ek hq_89.1 hq_89.2 (by decide)]; exact hE_90.out)
      have hA_127 : KEG [] L P Ln_112 Pn_113 := hA_91.trans hu_122.1
      have : Pn_113.lz la = Pn_73.lz la := (hu_122.2.2.2.1 la hq_88.1 (fun e9 => absurd e9 (kd_ne hq_88.2 hq_89.2 (by decide)))).2.1 0
      have hek_128 : HID (Pn_113.ek la = 12) := (by rw [hu_122.1.ek hq_88.1 hq_88.2 (by decide)]; exact hek_92.out)
      have how_129 : HID (Pn_113.ow la = la) := ((hu_122.1.1 la hq_88.1 (by rw [hq_88.2]; decide)).2.2.2.1 hq_88.2 how_93.out).1
      have hcz := (((hu_122.1.1 la hq_88.1 (by rw [hq_88.2]; decide)).2.2.2.1 hq_88.2 how_93.out).2 (by simp)).1
      have hX_tx := hu_122.2.2.2.2.2.2.1
      have hxk9 := hu_122.2.2.2.2.2.2.2
      have hcx_130 : CHG (fun z => z = xr) L P Ln_112 Pn_113 := hcx_94.trans hu_122.2.2.2.1 (fun z m q => q)
      have hnn_121 := TKV.nn (k := z1_107) (d := z0_106 - z2_108) (by omega)
      have hnx_131 : NTX L P Ln_112 Pn_113 := hnx_95.trans hu_122.2.2.1.2.2.2.2.2.2.2.2.2.2
      have hri_132 : (((((0 + ks_20) + ks_75) + ks_115) : Nat) : Int) ≤ 45 * (z2_108 - z16_place) - TKV z16_kind (z16_at - z16_place) + TKV (z1_107) (z0_106 - z2_108) - 100 ∧ (((((0 + kc_19) + kc_74) + kc_114) : Nat) : Int) ≤ 8 * (z2_108 - z16_place) - TKW z16_kind (z16_at - z16_place) + TKW (z1_107) (z0_106 - z2_108) - 19 := (by omega)
      clear hrb hri_96
      skip
      have hoa9 := hoq9
      refine lv_aload_n hx hb dX16_row_67 rfl (lv_at hl 1 rfl) ?_
      refine lv_aload_n hx hb dX16_row_68 rfl (lv_at hl 0 rfl) ?_
      refine va_get (D := (dC, dI)) (ci := 14) (v := .int (zI (z1_107))) (C := RX16) (T := TX16) (N := 14) hx hb hts mem_X16_rowR_5 hown hK hP 0 rfl rfl 3 (by decide) (ow (k := 14) rfl) (fun _ h9 => h9) rfl dX16_row_69 ?_
      refine lv_iconst (v := 5) hx hb dX16_row_72 (by decide) ?_
      refine lv_icmp_ne (tgt := 86) hx hb dX16_row_73 (by decide) (fun b73 => ?_) (fun b73 => ?_)
      · have yb73 : ¬ (z1_107 : Int) = (5 : Int) := fun q => b73 ((zI_eq (a := z1_107) (b := 5) (by omega) (by omega) (by omega) (by omega)).mpr q)
        refine lv_iconst (v := 0) hx hb dX16_row_86 (by decide) ?_
        have hr7 := (hu_122.2.1.rokR hq_125.1 hq_125.2).n7
        refine lv_topi (fun z ez => ?_)
        obtain rfl : z = zI (0) := ez
        obtain ⟨kp_133, gkp_133⟩ := va_pl_get (X := [(h0, .inr (14, [.ref q_t, .int (zI (z16_n)), .int (zI (z0_106)), .int (zI (z1_107)), .int (zI (z2_108)), .int (zI (z3_109)), .int (zI (z4_110)), .ref q5_111, v16_8, v16_9, v16_10, v16_11, v16_12, v16_13])), (q_t, .inl (cT, 8192, .inl (fun j : Nat => zI (a_t (j : Int)))))]) (f := pE Pn_113) hq_125.1
        have hkp_133 := gkp_133
        rw [pE_row hq_125.2] at hkp_133
        have hD0 := hD
        refine va_put (D := (dC, dI)) (ci := 21) (v := .int (zI (0))) (ty := .int) (C := RX17) (T := TX17) (N := 7) hx hb hts mem_X16_rowR_2 tyX17 tyX17_ok nmX17 hown hK hP hD hS kp_133 hkp_133 rfl 0 (by decide) (ow (k := 15) rfl) (fun _ h9 => h9) rfl (by decide +kernel) rfl rfl (by first | exact Nat.le_of_ble_eq_true rfl | exact (show (((0 + kc_19) + kc_74) + kc_114) ≤ (8 * (z16_n - z16_place) - TKW z16_kind (z16_at - z16_place) + 160).toNat from (rmW (by omega))) | exact (show (((0 + ks_20) + ks_75) + ks_115) ≤ (45 * (z16_n - z16_place) - TKV z16_kind (z16_at - z16_place) + 500).toNat from (rmW (by omega)))) dX16_row_87 (fun H locs hP hD hS => ?_)
        obtain ⟨Pw_134, ePw_134⟩ : ∃ q9 : PO, q9 = Pn_113.rw9 0 xr (0) := ⟨_, rfl⟩
        have eU : (([(h0, .inr (14, [.ref q_t, .int (zI (z16_n)), .int (zI (z0_106)), .int (zI (z1_107)), .int (zI (z2_108)), .int (zI (z3_109)), .int (zI (z4_110)), .ref q5_111, v16_8, v16_9, v16_10, v16_11, v16_12, v16_13])), (q_t, .inl (cT, 8192, .inl (fun j : Nat => zI (a_t (j : Int)))))] : va_W) ++ va_pl Ln_112 (pE Pn_113)).set kp_133 (xr, rowE (0) (Pn_113.rt xr) (Pn_113.ra xr) (Pn_113.rb xr) (Pn_113.rA xr) (Pn_113.rB xr) (Pn_113.rg xr)) = ([(h0, .inr (14, [.ref q_t, .int (zI (z16_n)), .int (zI (z0_106)), .int (zI (z1_107)), .int (zI (z2_108)), .int (zI (z3_109)), .int (zI (z4_110)), .ref q5_111, v16_8, v16_9, v16_10, v16_11, v16_12, v16_13])), (q_t, .inl (cT, 8192, .inl (fun j : Nat => zI (a_t (j : Int)))))] : va_W) ++ va_pl Ln_112 (pE Pw_134) := (by rw [va_pl_set hD0 hq_125.1 gkp_133, ePw_134]; exact congrArg (fun f9 => ([(h0, .inr (14, [.ref q_t, .int (zI (z16_n)), .int (zI (z0_106)), .int (zI (z1_107)), .int (zI (z2_108)), .int (zI (z3_109)), .int (zI (z4_110)), .ref q5_111, v16_8, v16_9, v16_10, v16_11, v16_12, v16_13])), (q_t, .inl (cT, 8192, .inl (fun j : Nat => zI (a_t (j : Int)))))] : va_W) ++ va_pl Ln_112 f9) (put17_0 hq_125.2))
        have hP : va_P (dC, dI) vwQ ([(h0, .inr (14, [.ref q_t, .int (zI (z16_n)), .int (zI (z0_106)), .int (zI (z1_107)), .int (zI (z2_108)), .int (zI (z3_109)), .int (zI (z4_110)), .ref q5_111, v16_8, v16_9, v16_10, v16_11, v16_12, v16_13])), (q_t, .inl (cT, 8192, .inl (fun j : Nat => zI (a_t (j : Int)))))] ++ va_pl Ln_112 (pE Pw_134)) H := (by rw [← eU]; exact hP)
        have hD : va_D A ([(h0, .inr (14, [.ref q_t, .int (zI (z16_n)), .int (zI (z0_106)), .int (zI (z1_107)), .int (zI (z2_108)), .int (zI (z3_109)), .int (zI (z4_110)), .ref q5_111, v16_8, v16_9, v16_10, v16_11, v16_12, v16_13])), (q_t, .inl (cT, 8192, .inl (fun j : Nat => zI (a_t (j : Int)))))] ++ va_pl Ln_112 (pE Pw_134)) := (by rw [← eU]; exact hD)
        clear eU hD0 gkp_133 hkp_133
        have wPw_134 : RW1 xr Pn_113 Pw_134 := (by rw [ePw_134]; exact RW1.put _ _ _ _)
        have hy_135 : Pw_134.kd la = 30 := (by rw [ePw_134]; exact hq_124.2)
        have hy_136 : Pw_134.kd xr = 17 := (by rw [ePw_134]; exact hq_125.2)
        have : Pw_134.ro xr = 0 := (by rw [ePw_134]; exact rw9_at _ _ _ _)
        have : Pw_134.rt xr = Pn_113.rt xr := (by rw [ePw_134]; exact rw9_of _ (by decide))
        have : Pw_134.ra xr = Pn_113.ra xr := (by rw [ePw_134]; exact rw9_of _ (by decide))
        have : Pw_134.rb xr = Pn_113.rb xr := (by rw [ePw_134]; exact rw9_of _ (by decide))
        have : Pw_134.rA xr = Pn_113.rA xr := (by rw [ePw_134]; exact rw9_of _ (by decide))
        have : Pw_134.rB xr = Pn_113.rB xr := (by rw [ePw_134]; exact rw9_of _ (by decide))
        have : Pw_134.rg xr = Pn_113.rg xr := (by rw [ePw_134]; exact rw9_of _ (by decide))
        have : Pw_134.ek xr = Pn_113.ek xr := (by rw [ePw_134]; rfl)
        have hW_137 : RW1 xr Pn_113 Pw_134 := wPw_134
        have hrw_140 : RWD Pn_113 Pw_134 := hW_137.rwd (Or.inl hq_125.2)
        have hak_139 : GLR Ln_112 Pw_134 cO cI cZ sx_ed := hu_122.2.1.row hW_137 hq_125.2 (ROKR.of (by omega) (by omega) (by omega) (by omega) (by omega) (by omega) (by omega) (OPQ.uaR (hoq9.to (by omega) (by omega))) (ubZR (by omega))) (fun e9 => by have q9 := hu_122.2.1.op21 hq_125.1 hq_125.2 e9; omega)
        have hke_138 : KEG [] Ln_112 Pn_113 Ln_112 Pw_134 := hrw_140.kegR _ hq_124.2
        have hq_141 : HID (la ∈ Ln_112 ∧ Pw_134.kd la = 30) := hke_138.mem hq_124.1 hq_124.2 (by decide)
        have hq_142 : HID (xr ∈ Ln_112 ∧ Pw_134.kd xr = 17) := hke_138.mem hq_125.1 hq_125.2 (by decide)
        have hE_143 : HID (Pw_134.ek xr ≠ 1) := (by rw [hke_138.ek hq_125.1 hq_125.2 (by decide)]; exact hE_126.out)
        have hA_144 : KEG [] L P Ln_112 Pw_134 := hA_127.trans hke_138
        have : Pw_134.lz la = Pn_113.lz la := hrw_140.lz hq_124.2
        have : Pw_134.cap la = Pn_113.cap la := hW_137.cap la
        have hek_145 : HID (Pw_134.ek la = 12) := (by rw [hke_138.ek hq_124.1 hq_124.2 (by decide)]; exact hek_128.out)
        have how_146 : HID (Pw_134.ow la = la) := ((hke_138.1 la hq_124.1 (by rw [hq_124.2]; decide)).2.2.2.1 hq_124.2 how_129.out).1
        have hcz := (((hke_138.1 la hq_124.1 (by rw [hq_124.2]; decide)).2.2.2.1 hq_124.2 how_129.out).2 (by simp)).1
        have hX_tx := hX_tx.rw1R hW_137 (Or.inl hq_125.2)
        have hcx_147 : CHG (fun z => z = xr) L P Ln_112 Pw_134 := hcx_130.trans (hW_137.chg _) (fun z m q => q)
        have hnx_148 : NTX L P Ln_112 Pw_134 := hnx_131.trans (NTX.put9 hW_137)
        refine lv_aload_n hx hb dX16_row_90 rfl (lv_at hl 1 rfl) ?_
        have hr7 := (hak_139.rokR hq_142.1 hq_142.2).n7
        obtain ⟨kp_149, hkp_149⟩ := va_pl_get (X := [(h0, .inr (14, [.ref q_t, .int (zI (z16_n)), .int (zI (z0_106)), .int (zI (z1_107)), .int (zI (z2_108)), .int (zI (z3_109)), .int (zI (z4_110)), .ref q5_111, v16_8, v16_9, v16_10, v16_11, v16_12, v16_13])), (q_t, .inl (cT, 8192, .inl (fun j : Nat => zI (a_t (j : Int)))))]) (f := pE Pw_134) hq_142.1
        rw [pE_row hq_142.2] at hkp_149
        refine va_get (D := (dC, dI)) (ci := 21) (v := .int (zI (Pw_134.ro xr))) (C := RX17) (T := TX17) (N := 7) hx hb hts mem_X16_rowR_2 hown hK hP kp_149 hkp_149 rfl 0 (by decide) (ow (k := 15) rfl) (fun _ h9 => h9) rfl dX16_row_91 ?_
        refine lv_if_ne (tgt := 98) hx hb dX16_row_94 (by decide) (fun b94 => ?_) (fun b94 => ?_)
        · have yb94 : ¬ (Pw_134.ro xr : Int) = (0 : Int) := fun q => b94 ((zI_eq (a := Pw_134.ro xr) (b := 0) (by omega) (by omega) (by omega) (by omega)).mpr q)
          have hno9 := TKQ.is htk_121 (Or.inl (by omega))
          have hno8 := htk_121.2.2.2 (by omega)
          refine lv_aload_n hx hb dX16_row_98 rfl (lv_at hl 0 rfl) ?_
          have hPc := hP.part (X := [(h0, .inr (14, [.ref q_t, .int (zI (z16_n)), .int (zI (z0_106)), .int (zI (z1_107)), .int (zI (z2_108)), .int (zI (z3_109)), .int (zI (z4_110)), .ref q5_111, v16_8, v16_9, v16_10, v16_11, v16_12, v16_13])), (q_t, .inl (cT, 8192, .inl (fun j : Nat => zI (a_t (j : Int)))))]) (cx := [(h0, .inr (14, [.ref q_t, .int (zI (z16_n)), .int (zI (z0_106)), .int (zI (z1_107)), .int (zI (z2_108)), .int (zI (z3_109)), .int (zI (z4_110)), .ref q5_111, v16_8, v16_9, v16_10, v16_11, v16_12, v16_13])), (q_t, .inl (cT, 8192, .inl (fun j : Nat => zI (a_t (j : Int)))))]) (pl := va_pl Ln_112 (pE Pw_134)) [0, 1] rfl
          have hDc := hD.part (X := [(h0, .inr (14, [.ref q_t, .int (zI (z16_n)), .int (zI (z0_106)), .int (zI (z1_107)), .int (zI (z2_108)), .int (zI (z3_109)), .int (zI (z4_110)), .ref q5_111, v16_8, v16_9, v16_10, v16_11, v16_12, v16_13])), (q_t, .inl (cT, 8192, .inl (fun j : Nat => zI (a_t (j : Int)))))]) (cx := [(h0, .inr (14, [.ref q_t, .int (zI (z16_n)), .int (zI (z0_106)), .int (zI (z1_107)), .int (zI (z2_108)), .int (zI (z3_109)), .int (zI (z4_110)), .ref q5_111, v16_8, v16_9, v16_10, v16_11, v16_12, v16_13])), (q_t, .inl (cT, 8192, .inl (fun j : Nat => zI (a_t (j : Int)))))]) (pl := va_pl Ln_112 (pE Pw_134)) [0, 1] (by decide) rfl
          have hKc := hK.sub (tys' := [(cT, .byte)]) [0] rfl
          have hFc := va_freeP (X := [(h0, .inr (14, [.ref q_t, .int (zI (z16_n)), .int (zI (z0_106)), .int (zI (z1_107)), .int (zI (z2_108)), .int (zI (z3_109)), .int (zI (z4_110)), .ref q5_111, v16_8, v16_9, v16_10, v16_11, v16_12, v16_13])), (q_t, .inl (cT, 8192, .inl (fun j : Nat => zI (a_t (j : Int)))))]) (cx := [(h0, .inr (14, [.ref q_t, .int (zI (z16_n)), .int (zI (z0_106)), .int (zI (z1_107)), .int (zI (z2_108)), .int (zI (z3_109)), .int (zI (z4_110)), .ref q5_111, v16_8, v16_9, v16_10, v16_11, v16_12, v16_13])), (q_t, .inl (cT, 8192, .inl (fun j : Nat => zI (a_t (j : Int)))))]) (pl := va_pl Ln_112 (pE Pw_134)) hD hS hA [0, 1] rfl
          refine W_knowS (fun hrmA => ?_)
          refine va_callv (va_runV (As := []) (rest := []) ⟨hx, hb, hml, hown, hts⟩ (c_X16_nextK l dC dI h0 z16_n z0_106 z1_107 z2_108 z3_109 z4_110 (.ref q5_111) v16_8 v16_9 v16_10 v16_11 v16_12 v16_13 q_t cT a_t Ln_112 Pw_134 sa_RX16_9 (by omega) (by omega) (by omega) (by omega) (by omega) (by omega) hR_a_t (by omega) H.size sa_RX16_9 H sv_RX16_9 sa_RX16_119 sv_RX16_119 sa_RX16_100 sv_RX16_100 sa_RX16_117 sa_RX16_100 sv_RX16_117 sa_RX16_98 sv_RX16_98) (cwV 0 hts g_X16_rowR_X16_nextK rfl rfl rfl (by decide +kernel) ⟨(Nat.le_of_ble_eq_true rfl), (Nat.le_of_ble_eq_true rfl)⟩) ⟨fun a U g mk q => by obtain ⟨q0, q1, qP, qK, qD, e0, e1, e2, e3, e4, e5, e6, e7, e8, e9, e10, e11, e12⟩ := q; exact ⟨q0, q1, qP, va_K.moved (u := U) (U := U.calling g mk a) (Vm.Alike.refl U.vm) qK, qD, vk_R.same (u := U) (U := U.calling g mk a) rfl e0, e1, va_Z.moved (u := U) (U := U.calling g mk a) (Vm.Alike.refl U.vm) e2, vs_S.moved (u := U) (U := U.calling g mk a) (Vm.Alike.refl U.vm) e3, va_Nw.same rfl (u := U) (U := U.calling g mk a) rfl e4, vk_R.same (u := U) (U := U.calling g mk a) rfl e5, vs_S.moved (u := U) (U := U.calling g mk a) (Vm.Alike.refl U.vm) e6, vs_S.moved (u := U) (U := U.calling g mk a) (Vm.Alike.refl U.vm) e7, vk_R.same (u := U) (U := U.calling g mk a) rfl e8, vk_R.same (u := U) (U := U.calling g mk a) rfl e9, vs_S.moved (u := U) (U := U.calling g mk a) (Vm.Alike.refl U.vm) e10, vk_R.same (u := U) (U := U.calling g mk a) rfl e11, vs_S.moved (u := U) (U := U.calling g mk a) (Vm.Alike.refl U.vm) e12⟩, va_recv hKc hPc (ci := 14) (q0 := 0) rfl rfl, fun U hU hW => ⟨rfl, by rw [hU], by rw [hU]; exact hPc, va_K.moved hW.alike hKc, hDc.weaken (fun _ _ _ _ => trivial), vk_R.warm hW hp4, hU, va_Z.go hp3 hS hFc hU hW.alike, vs_S.go hp2 hS hFc hU hW.alike, va_Nw.warmC hW hp5, vk_R.warm hW hp6, vs_S.go hp7 hS hFc hU hW.alike, vs_S.go hp8 hS hFc hU hW.alike, vk_R.warm hW hp9, vk_R.warm hW hp10, vs_S.go hp11 hS hFc hU hW.alike, vk_R.warm hW hp12, vs_S.go hp13 hS hFc hU hW.alike⟩⟩ rfl rfl hl.1 rfl (lv_room (Nat.le_of_ble_eq_true rfl)) dX16_row_99 ⟨(show (((0 + kc_19) + kc_74) + kc_114) + ((z16_n - z0_106 + 20).toNat) ≤ (8 * (z16_n - z16_place) - TKW z16_kind (z16_at - z16_place) + 160).toNat from (rmT (by omega) (by omega))), (show (((0 + ks_20) + ks_75) + ks_115) + ((10 * (z16_n - z0_106) + 120).toNat) ≤ (45 * (z16_n - z16_place) - TKV z16_kind (z16_at - z16_place) + 500).toNat from (rmT (by omega) (by omega)))⟩) hS (fun q _ h => hFc q h) hFc (fun  u t H1 locs ht hvm hw hB hz1 hk1 hS => ?_)
          obtain ⟨z0_150, z1_151, z2_152, z3_153, z4_154, q5_155, Ln_156, Pn_157, kc_158, ks_159, hxt_159, hP1, hK1, hD1⟩ := hB
          rw [ht] at hP1
          have hK1 := va_K.moved hvm.symm hK1
          obtain ⟨hP, hD⟩ := va_joinP (X := [(h0, .inr (14, [.ref q_t, .int (zI (z16_n)), .int (zI (z0_106)), .int (zI (z1_107)), .int (zI (z2_108)), .int (zI (z3_109)), .int (zI (z4_110)), .ref q5_111, v16_8, v16_9, v16_10, v16_11, v16_12, v16_13])), (q_t, .inl (cT, 8192, .inl (fun j : Nat => zI (a_t (j : Int)))))]) (cx := [(h0, .inr (14, [.ref q_t, .int (zI (z16_n)), .int (zI (z0_106)), .int (zI (z1_107)), .int (zI (z2_108)), .int (zI (z3_109)), .int (zI (z4_110)), .ref q5_111, v16_8, v16_9, v16_10, v16_11, v16_12, v16_13])), (q_t, .inl (cT, 8192, .inl (fun j : Nat => zI (a_t (j : Int)))))]) (wr := []) (rx := [(h0, .inr (14, [.ref q_t, .int (zI (z16_n)), .int (zI (z0_150)), .int (zI (z1_151)), .int (zI (z2_152)), .int (zI (z3_153)), .int (zI (z4_154)), .ref q5_155, v16_8, v16_9, v16_10, v16_11, v16_12, v16_13])), (q_t, .inl (cT, 8192, .inl (fun j : Nat => zI (a_t (j : Int)))))]) (pl := va_pl Ln_112 (pE Pw_134)) (pl1 := va_pl Ln_156 (pE Pn_157)) hP hD [0, 1] [] rfl rfl (by decide) (by decide) hk1 hFc hP1 hD1
          have hK := (hK.sub (tys' := [(cO, .object "java/lang/Object"), (cI, .int), (cZ, .boolean)]) [1, 2, 3] rfl).app hK1
          have hrmC := hxt_159.1.1
          rw [ht] at hrmC
          refine W_tightS (hrmA.trans hrmC) ?_
          have hrb := hxt_159.1.2
          generalize H1 = H at hP hS ⊢
          have hP : va_P (dC, dI) vwQ ([(h0, .inr (14, [.ref q_t, .int (zI (z16_n)), .int (zI (z0_150)), .int (zI (z1_151)), .int (zI (z2_152)), .int (zI (z3_153)), .int (zI (z4_154)), .ref q5_155, v16_8, v16_9, v16_10, v16_11, v16_12, v16_13])), (q_t, .inl (cT, 8192, .inl (fun j : Nat => zI (a_t (j : Int)))))] ++ va_pl Ln_156 (pE Pn_157)) H := hP
          have hD : va_D A ([(h0, .inr (14, [.ref q_t, .int (zI (z16_n)), .int (zI (z0_150)), .int (zI (z1_151)), .int (zI (z2_152)), .int (zI (z3_153)), .int (zI (z4_154)), .ref q5_155, v16_8, v16_9, v16_10, v16_11, v16_12, v16_13])), (q_t, .inl (cT, 8192, .inl (fun j : Nat => zI (a_t (j : Int)))))] ++ va_pl Ln_156 (pE Pn_157)) := hD
          have hK : va_K (dC, dI) vwQ [(cO, .object "java/lang/Object"), (cI, .int), (cZ, .boolean), (cT, .byte)] s := hK
          refine W.widen (k := ((((0 + kc_19) + kc_74) + kc_114) + kc_158)) (n := ((((0 + ks_20) + ks_75) + ks_115) + ks_159)) (by omega) (by omega) ?_
          obtain ⟨rk_160, rk_161, rk_162, rk_163, rk_164, hu_164⟩ := hxt_159.2
          have htk_165 := hu_164.1.2
          have hrg_165 := hu_164.1.1
          have htq_165 := htk_165.1
          have hgo9 := hkd_123.go (by omega)
          have hkd_170 := hu_164.2.1
          have hX_kv := hkd_170.2
          have hu_166 := hu_164.2.2
          have hex_167 : EXT9 Ln_112 Pw_134 Ln_156 Pn_157 := hu_166.1
          have hke_168 : KEG [] Ln_112 Pw_134 Ln_156 Pn_157 := hex_167.kegR hak_139
          have hak_169 : GLR Ln_156 Pn_157 cO cI cZ sx_ed := hak_139.txt hex_167 hu_166.2.1
          have hsm_171 := (hex_167 xr hq_142.1).2
          have : Pn_157.ro xr = Pw_134.ro xr := hsm_171.1 0
          have : Pn_157.rt xr = Pw_134.rt xr := hsm_171.1 1
          have : Pn_157.ra xr = Pw_134.ra xr := hsm_171.1 2
          have : Pn_157.rb xr = Pw_134.rb xr := hsm_171.1 3
          have : Pn_157.rA xr = Pw_134.rA xr := hsm_171.1 4
          have : Pn_157.rB xr = Pw_134.rB xr := hsm_171.1 5
          have : Pn_157.rg xr = Pw_134.rg xr := hsm_171.1 6
          have : Pn_157.ek xr = Pw_134.ek xr := hsm_171.2.1 8
          have hq_172 : HID (la ∈ Ln_156 ∧ Pn_157.kd la = 30) := hke_168.mem hq_141.1 hq_141.2 (by decide)
          have hq_173 : HID (xr ∈ Ln_156 ∧ Pn_157.kd xr = 17) := hke_168.mem hq_142.1 hq_142.2 (by decide)
          have hE_174 : HID (Pn_157.ek xr ≠ 1) := (by rw [hke_168.ek hq_142.1 hq_142.2 (by decide)]; exact hE_143.out)
          have hA_175 : KEG [] L P Ln_156 Pn_157 := hA_144.trans hke_168
          have : Pn_157.lz la = Pw_134.lz la := (hex_167 la hq_141.1).2.1 0
          have hek_176 : HID (Pn_157.ek la = 12) := (by rw [hke_168.ek hq_141.1 hq_141.2 (by decide)]; exact hek_145.out)
          have how_177 : HID (Pn_157.ow la = la) := ((hke_168.1 la hq_141.1 (by rw [hq_141.2]; decide)).2.2.2.1 hq_141.2 how_146.out).1
          have hcz := (((hke_168.1 la hq_141.1 (by rw [hq_141.2]; decide)).2.2.2.1 hq_141.2 how_146.out).2 (by simp)).1
          have hX_tx := hu_166.2.2.1
          have hxk9 := hu_166.2.2.2
          have hcx_178 : CHG (fun z => z = xr) L P Ln_156 Pn_157 := hcx_147.trans hex_167.chg (fun z m q => q.elim)
          have hnn_165 := TKV.nn (k := z1_151) (d := z0_150 - z2_152) (by omega)
          have hnx_179 : NTX L P Ln_156 Pn_157 := hnx_148.trans (NTX.ext hex_167 hu_166.2.1)
          have hri_180 : ((((((0 + ks_20) + ks_75) + ks_115) + ks_159) : Nat) : Int) ≤ 45 * (z2_152 - z16_place) - TKV z16_kind (z16_at - z16_place) + TKV (z1_151) (z0_150 - z2_152) - 15 ∧ ((((((0 + kc_19) + kc_74) + kc_114) + kc_158) : Nat) : Int) ≤ 8 * (z2_152 - z16_place) - TKW z16_kind (z16_at - z16_place) + TKW (z1_151) (z0_150 - z2_152) - 9 := (by omega)
          clear hrb hri_132
          skip
          refine lv_aload_n hx hb dX16_row_102 rfl (lv_at hl 0 rfl) ?_
          refine lv_aload_n hx hb dX16_row_103 rfl (lv_at hl 1 rfl) ?_
          refine lv_iconst (v := 1) hx hb dX16_row_104 (by decide) ?_
          have hX_tn := htk_165
          have hX_g := hak_169
          have hX_x := hq_173.1
          have hX_k := hq_173.2
          have hX_la := (show la ∈ Ln_156 ∧ Pn_157.kd la = 30 ∧ Pn_157.ek la = 12 ∧ Pn_157.ow la = la from ⟨hq_172.1, hq_172.2, hek_176.out, how_177.out⟩)
          have hPc := hP.part (X := [(h0, .inr (14, [.ref q_t, .int (zI (z16_n)), .int (zI (z0_150)), .int (zI (z1_151)), .int (zI (z2_152)), .int (zI (z3_153)), .int (zI (z4_154)), .ref q5_155, v16_8, v16_9, v16_10, v16_11, v16_12, v16_13])), (q_t, .inl (cT, 8192, .inl (fun j : Nat => zI (a_t (j : Int)))))]) (cx := [(h0, .inr (14, [.ref q_t, .int (zI (z16_n)), .int (zI (z0_150)), .int (zI (z1_151)), .int (zI (z2_152)), .int (zI (z3_153)), .int (zI (z4_154)), .ref q5_155, v16_8, v16_9, v16_10, v16_11, v16_12, v16_13])), (q_t, .inl (cT, 8192, .inl (fun j : Nat => zI (a_t (j : Int)))))]) (pl := va_pl Ln_156 (pE Pn_157)) [0, 1] rfl
          have hDc := hD.part (X := [(h0, .inr (14, [.ref q_t, .int (zI (z16_n)), .int (zI (z0_150)), .int (zI (z1_151)), .int (zI (z2_152)), .int (zI (z3_153)), .int (zI (z4_154)), .ref q5_155, v16_8, v16_9, v16_10, v16_11, v16_12, v16_13])), (q_t, .inl (cT, 8192, .inl (fun j : Nat => zI (a_t (j : Int)))))]) (cx := [(h0, .inr (14, [.ref q_t, .int (zI (z16_n)), .int (zI (z0_150)), .int (zI (z1_151)), .int (zI (z2_152)), .int (zI (z3_153)), .int (zI (z4_154)), .ref q5_155, v16_8, v16_9, v16_10, v16_11, v16_12, v16_13])), (q_t, .inl (cT, 8192, .inl (fun j : Nat => zI (a_t (j : Int)))))]) (pl := va_pl Ln_156 (pE Pn_157)) [0, 1] (by decide) rfl
          have hKc := hK.sub (tys' := [(cT, .byte), (cO, .object "java/lang/Object"), (cI, .int), (cZ, .boolean)]) [3, 0, 1, 2] rfl
          have hFc := va_freeP (X := [(h0, .inr (14, [.ref q_t, .int (zI (z16_n)), .int (zI (z0_150)), .int (zI (z1_151)), .int (zI (z2_152)), .int (zI (z3_153)), .int (zI (z4_154)), .ref q5_155, v16_8, v16_9, v16_10, v16_11, v16_12, v16_13])), (q_t, .inl (cT, 8192, .inl (fun j : Nat => zI (a_t (j : Int)))))]) (cx := [(h0, .inr (14, [.ref q_t, .int (zI (z16_n)), .int (zI (z0_150)), .int (zI (z1_151)), .int (zI (z2_152)), .int (zI (z3_153)), .int (zI (z4_154)), .ref q5_155, v16_8, v16_9, v16_10, v16_11, v16_12, v16_13])), (q_t, .inl (cT, 8192, .inl (fun j : Nat => zI (a_t (j : Int)))))]) (pl := va_pl Ln_156 (pE Pn_157)) hD hS hA [0, 1] rfl
          refine W_knowS (fun hrmA => ?_)
          refine vx_callv (vx_runV (As := [.ref xr, .int 1]) (rest := []) ⟨hx, hb, hml, hown, hts⟩ (c_X16_opBR l dC dI cI cZ h0 z16_n z0_150 z1_151 z2_152 z3_153 z4_154 v16_8 v16_9 v16_10 v16_11 v16_12 v16_13 q_t cT a_t q5_155 Ln_156 Pn_157 sa_RX16_9 cO la sx_ed xr (by omega) (by omega) (by omega) (by omega) (by omega) (by omega) hR_a_t hX_g hX_la hX_x hX_k (by omega) hX_kv hX_tn H.size sv_RX16_9 sa_RX16_119 sv_RX16_119 sa_RX16_100 sv_RX16_100 sa_RX16_117 sv_RX16_117 sa_RX16_98 sv_RX16_98 H) (cwV 2 hts g_X16_rowR_X16_opBR rfl rfl rfl (by decide +kernel) ⟨(Nat.le_of_ble_eq_true rfl), (Nat.le_of_ble_eq_true rfl)⟩) ⟨fun a U g mk q => by obtain ⟨q0, q1, qP, qK, qD, e0, e1, e2, e3, e4, e5, e6, e7, e8, e9, e10, e11, e12, e13, e14⟩ := q; exact ⟨q0, q1, qP, va_K.moved (u := U) (U := U.calling g mk a) (Vm.Alike.refl U.vm) qK, qD, vk_R.same (u := U) (U := U.calling g mk a) rfl e0, va_Z.moved (u := U) (U := U.calling g mk a) (Vm.Alike.refl U.vm) e1, vs_S.moved (u := U) (U := U.calling g mk a) (Vm.Alike.refl U.vm) e2, va_Nw.same rfl (u := U) (U := U.calling g mk a) rfl e3, vk_R.same (u := U) (U := U.calling g mk a) rfl e4, vs_S.moved (u := U) (U := U.calling g mk a) (Vm.Alike.refl U.vm) e5, vs_S.moved (u := U) (U := U.calling g mk a) (Vm.Alike.refl U.vm) e6, vk_R.same (u := U) (U := U.calling g mk a) rfl e7, vk_R.same (u := U) (U := U.calling g mk a) rfl e8, vs_S.moved (u := U) (U := U.calling g mk a) (Vm.Alike.refl U.vm) e9, vk_R.same (u := U) (U := U.calling g mk a) rfl e10, vs_S.moved (u := U) (U := U.calling g mk a) (Vm.Alike.refl U.vm) e11, e12, vx_Zq.moved (u := U) (U := U.calling g mk a) (Vm.Alike.refl U.vm) e13, vx_Zq.moved (u := U) (U := U.calling g mk a) (Vm.Alike.refl U.vm) e14⟩, va_recv hKc hPc (ci := 14) (q0 := 0) rfl rfl, fun U hU hW => ⟨rfl, by rw [hU], by rw [hU]; exact hPc, va_K.moved hW.alike hKc, hDc.weaken (fun _ _ _ _ => trivial), vk_R.warm hW hp4, va_Z.go hp3 hS hFc hU hW.alike, vs_S.go hp2 hS hFc hU hW.alike, va_Nw.warmC hW hp5, vk_R.warm hW hp6, vs_S.go hp7 hS hFc hU hW.alike, vs_S.go hp8 hS hFc hU hW.alike, vk_R.warm hW hp9, vk_R.warm hW hp10, vs_S.go hp11 hS hFc hU hW.alike, vk_R.warm hW hp12, vs_S.go hp13 hS hFc hU hW.alike, hU, vx_Zq.go hp14 hS hFc hU hW.alike, vx_Zq.go hp15 hS hFc hU hW.alike⟩⟩ rfl rfl hl.1 rfl (lv_room (Nat.le_of_ble_eq_true rfl)) dX16_row_105 ⟨(show ((((0 + kc_19) + kc_74) + kc_114) + kc_158) + ((z16_n - z0_150 + 20).toNat) ≤ (8 * (z16_n - z16_place) - TKW z16_kind (z16_at - z16_place) + 160).toNat from (rmT (by omega) (by omega))), (show ((((0 + ks_20) + ks_75) + ks_115) + ks_159) + ((10 * (z16_n - z0_150) + 120).toNat) ≤ (45 * (z16_n - z16_place) - TKV z16_kind (z16_at - z16_place) + 500).toNat from (rmT (by omega) (by omega)))⟩) hS (fun q _ h => hFc q h) hFc (fun q _ h => hFc q h) (fun E ce q9 u t H1 locs ht hvm _ hB hz1 hk1 hS hce hcv hcl => ?_) (fun  u t H1 locs ht hvm hw hB hz1 hk1 hS => ?_)
          · obtain ⟨rfl, zp_181, Ln_182, Pn_183, kc_184, ks_185, hxt_186, hP1, hD1⟩ := hB
            rw [ht] at hP1
            obtain ⟨hP, hD⟩ := va_joinP (X := [(h0, .inr (14, [.ref q_t, .int (zI (z16_n)), .int (zI (z0_150)), .int (zI (z1_151)), .int (zI (z2_152)), .int (zI (z3_153)), .int (zI (z4_154)), .ref q5_155, v16_8, v16_9, v16_10, v16_11, v16_12, v16_13])), (q_t, .inl (cT, 8192, .inl (fun j : Nat => zI (a_t (j : Int)))))]) (cx := [(h0, .inr (14, [.ref q_t, .int (zI (z16_n)), .int (zI (z0_150)), .int (zI (z1_151)), .int (zI (z2_152)), .int (zI (z3_153)), .int (zI (z4_154)), .ref q5_155, v16_8, v16_9, v16_10, v16_11, v16_12, v16_13])), (q_t, .inl (cT, 8192, .inl (fun j : Nat => zI (a_t (j : Int)))))]) (wr := []) (rx := [(q_t, .inl (cT, 8192, .inl (fun j : Nat => zI (a_t (j : Int))))), (q9, .inr (15, [.null, .null, .null, .null, .null, .int 0, .int (zI (zp_181))]))]) (pl := va_pl Ln_156 (pE Pn_157)) (pl1 := va_pl Ln_182 (pE Pn_183)) hP hD [0, 1] [] rfl rfl (by decide) (by decide) hk1 hFc hP1 hD1
            have hrmC := hxt_186.1.1
            rw [ht] at hrmC
            refine vx_tightS (hrmA.trans hrmC) ?_
            have hrb := hxt_186.1.2
            generalize H1 = H at hP hS hce ⊢
            have hP : va_P (dC, dI) vwQ ([(q_t, .inl (cT, 8192, .inl (fun j : Nat => zI (a_t (j : Int))))), (q9, .inr (15, [.null, .null, .null, .null, .null, .int 0, .int (zI (zp_181))]))] ++ va_pl Ln_182 (pE Pn_183)) H := hP
            have hD : va_D A ([(q_t, .inl (cT, 8192, .inl (fun j : Nat => zI (a_t (j : Int))))), (q9, .inr (15, [.null, .null, .null, .null, .null, .int 0, .int (zI (zp_181))]))] ++ va_pl Ln_182 (pE Pn_183)) := hD
            have hzp : 0 ≤ zp_181 ∧ zp_181 ≤ 8192 := hxt_186.2.1
            subst hQ
            refine vx_knowS (fun hrm9 => ?_)
            refine vx_widen (k := ((8 * (z16_n - z16_place) - TKW z16_kind (z16_at - z16_place) + 160).toNat)) (n := ((45 * (z16_n - z16_place) - TKV z16_kind (z16_at - z16_place) + 500).toNat)) (rmW (by omega)) (rmW (by omega)) ?_
            exact vx_out (fun x9 h9 => (hnt x9 h9).elim) hlocks hce hcv hcl (fun t ht hvm => ⟨(), trivial, ⟨rfl, zp_181, Ln_182, Pn_183, (((((0 + kc_19) + kc_74) + kc_114) + kc_158) + kc_184), (((((0 + ks_20) + ks_75) + ks_115) + ks_159) + ks_185), ⟨⟨(by rw [ht, ← hp16]; exact hrm9), (by omega)⟩, ⟨(by omega), ⟨hA_175.trans hxt_186.2.2.1, hxt_186.2.2.2.1, (hcx_178.cpa hg00.owa (fun z _ q => by rw [show z = xr from q, hk00]; decide)).trans hA_175 hxt_186.2.2.2.2.1, hnx_179.trans hxt_186.2.2.2.2.2⟩⟩⟩, by rw [ht]; exact hP, hD⟩, hS.F ht⟩) hS.2.2 (Nat.le_refl _) (Nat.le_refl _)
          obtain ⟨z0_187, z1_188, z2_189, z3_190, z4_191, q5_192, Ln_193, Pn_194, kc_195, ks_196, hxt_196, hP1, hK1, hD1⟩ := hB
          rw [ht] at hP1
          have hK1 := va_K.moved hvm.symm hK1
          obtain ⟨hP, hD⟩ := va_joinP (X := [(h0, .inr (14, [.ref q_t, .int (zI (z16_n)), .int (zI (z0_150)), .int (zI (z1_151)), .int (zI (z2_152)), .int (zI (z3_153)), .int (zI (z4_154)), .ref q5_155, v16_8, v16_9, v16_10, v16_11, v16_12, v16_13])), (q_t, .inl (cT, 8192, .inl (fun j : Nat => zI (a_t (j : Int)))))]) (cx := [(h0, .inr (14, [.ref q_t, .int (zI (z16_n)), .int (zI (z0_150)), .int (zI (z1_151)), .int (zI (z2_152)), .int (zI (z3_153)), .int (zI (z4_154)), .ref q5_155, v16_8, v16_9, v16_10, v16_11, v16_12, v16_13])), (q_t, .inl (cT, 8192, .inl (fun j : Nat => zI (a_t (j : Int)))))]) (wr := []) (rx := [(h0, .inr (14, [.ref q_t, .int (zI (z16_n)), .int (zI (z0_187)), .int (zI (z1_188)), .int (zI (z2_189)), .int (zI (z3_190)), .int (zI (z4_191)), .ref q5_192, v16_8, v16_9, v16_10, v16_11, v16_12, v16_13])), (q_t, .inl (cT, 8192, .inl (fun j : Nat => zI (a_t (j : Int)))))]) (pl := va_pl Ln_156 (pE Pn_157)) (pl1 := va_pl Ln_193 (pE Pn_194)) hP hD [0, 1] [] rfl rfl (by decide) (by decide) hk1 hFc hP1 hD1
          have hK := (hK.sub (tys' := []) [] rfl).app hK1
          have hrmC := hxt_196.1.1
          rw [ht] at hrmC
          refine W_tightS (hrmA.trans hrmC) ?_
          have hrb := hxt_196.1.2
          generalize H1 = H at hP hS ⊢
          have hP : va_P (dC, dI) vwQ ([(h0, .inr (14, [.ref q_t, .int (zI (z16_n)), .int (zI (z0_187)), .int (zI (z1_188)), .int (zI (z2_189)), .int (zI (z3_190)), .int (zI (z4_191)), .ref q5_192, v16_8, v16_9, v16_10, v16_11, v16_12, v16_13])), (q_t, .inl (cT, 8192, .inl (fun j : Nat => zI (a_t (j : Int)))))] ++ va_pl Ln_193 (pE Pn_194)) H := hP
          have hD : va_D A ([(h0, .inr (14, [.ref q_t, .int (zI (z16_n)), .int (zI (z0_187)), .int (zI (z1_188)), .int (zI (z2_189)), .int (zI (z3_190)), .int (zI (z4_191)), .ref q5_192, v16_8, v16_9, v16_10, v16_11, v16_12, v16_13])), (q_t, .inl (cT, 8192, .inl (fun j : Nat => zI (a_t (j : Int)))))] ++ va_pl Ln_193 (pE Pn_194)) := hD
          have hK : va_K (dC, dI) vwQ [(cT, .byte), (cO, .object "java/lang/Object"), (cI, .int), (cZ, .boolean)] s := hK
          refine W.widen (k := (((((0 + kc_19) + kc_74) + kc_114) + kc_158) + kc_195)) (n := (((((0 + ks_20) + ks_75) + ks_115) + ks_159) + ks_196)) (by omega) (by omega) ?_
          obtain ⟨rk_197, rk_198, rk_199, rk_200, rk_201, hu_201⟩ := hxt_196.2
          have htk_202 := hu_201.2.2.2.2.1.2
          have hrg_202 := hu_201.2.2.2.2.1.1
          have htq_202 := htk_202.1
          have hu_203 := HID.mk (hu_201)
          replace hu_201 := HID.mk hu_201
          replace hxt_196 := HID.mk hxt_196
          have hoc9 := hu_203.2.2.1.2
          have hoq9 : OPQ (Pn_194.rB xr) (Pn_194.rb xr) := hu_203.2.2.1.1
          have hgo9 := hkd_170.go (by omega)
          have hkd_204 := hu_203.2.2.2.2.2.1
          have hX_kv := hkd_204.2
          have hq_205 : HID (la ∈ Ln_193 ∧ Pn_194.kd la = 30) := hu_203.1.mem hq_172.1 hq_172.2 (by decide)
          have hq_206 : HID (xr ∈ Ln_193 ∧ Pn_194.kd xr = 17) := hu_203.1.mem hq_173.1 hq_173.2 (by decide)
          have hE_207 : HID (Pn_194.ek xr ≠ 1) := (by rw [hu_203.1.ek hq_173.1 hq_173.2 (by decide)]; exact hE_174.out)
          have hA_208 : KEG [] L P Ln_193 Pn_194 := hA_175.trans hu_203.1
          have : Pn_194.lz la = Pn_157.lz la := (hu_203.2.2.2.1 la hq_172.1 (fun e9 => absurd e9 (kd_ne hq_172.2 hq_173.2 (by decide)))).2.1 0
          have hek_209 : HID (Pn_194.ek la = 12) := (by rw [hu_203.1.ek hq_172.1 hq_172.2 (by decide)]; exact hek_176.out)
          have how_210 : HID (Pn_194.ow la = la) := ((hu_203.1.1 la hq_172.1 (by rw [hq_172.2]; decide)).2.2.2.1 hq_172.2 how_177.out).1
          have hcz := (((hu_203.1.1 la hq_172.1 (by rw [hq_172.2]; decide)).2.2.2.1 hq_172.2 how_177.out).2 (by simp)).1
          have hX_tx := hu_203.2.2.2.2.2.2.1
          have hxk9 := hu_203.2.2.2.2.2.2.2
          have hcx_211 : CHG (fun z => z = xr) L P Ln_193 Pn_194 := hcx_178.trans hu_203.2.2.2.1 (fun z m q => q)
          have hnn_202 := TKV.nn (k := z1_188) (d := z0_187 - z2_189) (by omega)
          have hnx_212 : NTX L P Ln_193 Pn_194 := hnx_179.trans hu_203.2.2.1.2.2.2.2.2.2.2.2.2.2
          have hri_213 : (((((((0 + ks_20) + ks_75) + ks_115) + ks_159) + ks_196) : Nat) : Int) ≤ 45 * (z2_189 - z16_place) - TKV z16_kind (z16_at - z16_place) + TKV (z1_188) (z0_187 - z2_189) - 60 ∧ (((((((0 + kc_19) + kc_74) + kc_114) + kc_158) + kc_195) : Nat) : Int) ≤ 8 * (z2_189 - z16_place) - TKW z16_kind (z16_at - z16_place) + TKW (z1_188) (z0_187 - z2_189) - 17 := (by omega)
          clear hrb hri_180
          skip
          have hob9 := hoq9
          subst hQ
          refine W_knowS (fun hrm9 => ?_)
          refine W.widen (k := ((8 * (z16_n - z16_place) - TKW z16_kind (z16_at - z16_place) + 160).toNat)) (n := ((45 * (z16_n - z16_place) - TKV z16_kind (z16_at - z16_place) + 500).toNat)) (rmW (by omega)) (rmW (by omega)) ?_
          refine vx_ret ?_
          exact W.vret hx hb hr (fun t ht hW => ⟨⟨(), rfl, trivial, z0_187, z1_188, z2_189, z3_190, z4_191, q5_192, Ln_193, Pn_194, (((((0 + kc_19) + kc_74) + kc_114) + kc_158) + kc_195), (((((0 + ks_20) + ks_75) + ks_115) + ks_159) + ks_196), ⟨⟨(by rw [ht, ← hp16]; exact hrm9), (by omega)⟩, ⟨(by omega), (by omega), (by omega), (by omega), (by omega), ⟨hA_208, hu_203.2.1, ⟨⟨(hkd_204.mono (by omega)).ms (by omega) (by omega) (by omega), by omega, by omega⟩, ⟨by omega, (by first | exact OPQ.z (by omega) | exact hoa9.to (by omega) (by omega)), (by first | exact OPQ.z (by omega) | exact hob9.to (by omega) (by omega))⟩, hnx_212⟩, hcx_211, ⟨⟨by omega, by omega, by omega⟩, htk_202⟩, hkd_204.mono (by omega), hX_tx⟩⟩⟩, by rw [ht]; exact hP, va_K.moved hW.alike hK, hD⟩, hS.F ht⟩) hS.2.2 dX16_row_108
        · have yb94 : (Pw_134.ro xr : Int) = (0 : Int) := (zI_eq (a := Pw_134.ro xr) (b := 0) (by omega) (by omega) (by omega) (by omega)).mp b94
          subst hQ
          refine W_knowS (fun hrm9 => ?_)
          refine W.widen (k := ((8 * (z16_n - z16_place) - TKW z16_kind (z16_at - z16_place) + 160).toNat)) (n := ((45 * (z16_n - z16_place) - TKV z16_kind (z16_at - z16_place) + 500).toNat)) (rmW (by omega)) (rmW (by omega)) ?_
          refine vx_ret ?_
          exact W.vret hx hb hr (fun t ht hW => ⟨⟨(), rfl, trivial, z0_106, z1_107, z2_108, z3_109, z4_110, q5_111, Ln_112, Pw_134, (((0 + kc_19) + kc_74) + kc_114), (((0 + ks_20) + ks_75) + ks_115), ⟨⟨(by rw [ht, ← hp16]; exact hrm9), (by omega)⟩, ⟨(by omega), (by omega), (by omega), (by omega), (by omega), ⟨hA_144, hak_139, ⟨⟨(hkd_123.mono (by omega)).ms (by omega) (by omega) (by omega), by omega, by omega⟩, ⟨by omega, (by first | exact OPQ.z (by omega) | exact hoa9.to (by omega) (by omega)), (by first | exact OPQ.z (by omega) | exact hob9.to (by omega) (by omega))⟩, hnx_148⟩, hcx_147, ⟨⟨by omega, by omega, by omega⟩, htk_121⟩, hkd_123.mono (by omega), hX_tx⟩⟩⟩, by rw [ht]; exact hP, va_K.moved hW.alike hK, hD⟩, hS.F ht⟩) hS.2.2 dX16_row_97
      · have yb73 : (z1_107 : Int) = (5 : Int) := (zI_eq (a := z1_107) (b := 5) (by omega) (by omega) (by omega) (by omega)).mp b73
        by_cases hxs : q5_111 = sa_RX16_9
        · skip
          rw [hxs] at hP hD
          have hP : va_P (dC, dI) vwQ ([(h0, .inr (14, [.ref q_t, .int (zI (z16_n)), .int (zI (z0_106)), .int (zI (z1_107)), .int (zI (z2_108)), .int (zI (z3_109)), .int (zI (z4_110)), .ref sa_RX16_9, v16_8, v16_9, v16_10, v16_11, v16_12, v16_13])), (q_t, .inl (cT, 8192, .inl (fun j : Nat => zI (a_t (j : Int)))))] ++ va_pl Ln_112 (pE Pn_113)) H := hP
          have hD : va_D A ([(h0, .inr (14, [.ref q_t, .int (zI (z16_n)), .int (zI (z0_106)), .int (zI (z1_107)), .int (zI (z2_108)), .int (zI (z3_109)), .int (zI (z4_110)), .ref sa_RX16_9, v16_8, v16_9, v16_10, v16_11, v16_12, v16_13])), (q_t, .inl (cT, 8192, .inl (fun j : Nat => zI (a_t (j : Int)))))] ++ va_pl Ln_112 (pE Pn_113)) := hD
          refine lv_aload_n hx hb dX16_row_76 rfl (lv_at hl 0 rfl) ?_
          refine va_get (D := (dC, dI)) (ci := 14) (v := .ref sa_RX16_9) (C := RX16) (T := TX16) (N := 14) hx hb hts mem_X16_rowR_5 hown hK hP 0 rfl rfl 7 (by decide) (ow (k := 19) rfl) (fun _ h9 => h9) rfl dX16_row_77 ?_
          have hX_tf : sb_Fit (fun j : Nat => ([] : List Int32).getD j 0) := fitL (by decide)
          have hPc := hP.sub (ws' := []) [] rfl
          have hDc := hD.sub (ws' := []) [] (by decide) rfl
          have hKc := hK.sub (tys' := []) [] rfl
          have hFc := va_free (wc := []) hD hS hA [] rfl
          refine va_calli (va_runSN (As := [.ref sa_RX16_9]) (rest := [.ref xr]) ⟨hx, hb, hml, hown, hts⟩ (c_X19_operation l dC dI sa_RX16_9 sv_RX16_9 0 ((fun j : Nat => ([] : List Int32).getD j 0)) hX_tf (by omega) H.size sa_RX19_3 sa_RX19_11 sv_RX19_11 sv_RX19_3 sx_fm) ⟨va_cnB 1 hts (goodIn_sub mem_X16_rowR_8 gw_X19_operation) rfl rfl rfl hp26 (ow (k := 20) rfl) (by decide +kernel) ⟨(Nat.le_of_ble_eq_true rfl), (Nat.le_of_ble_eq_true rfl)⟩, (ow (k := 21) rfl), trivial⟩ ⟨fun a U g mk q => by obtain ⟨q0, q1, qP, qK, qD, e0, e1, e2, e3, e4, e5, e6, e7⟩ := q; exact ⟨q0, q1, qP, va_K.moved (u := U) (U := U.calling g mk a) (Vm.Alike.refl U.vm) qK, qD, vk_R.same (u := U) (U := U.calling g mk a) rfl e0, va_Z.moved (u := U) (U := U.calling g mk a) (Vm.Alike.refl U.vm) e1, vk_R.same (u := U) (U := U.calling g mk a) rfl e2, vs_S.moved (u := U) (U := U.calling g mk a) (Vm.Alike.refl U.vm) e3, vs_S.moved (u := U) (U := U.calling g mk a) (Vm.Alike.refl U.vm) e4, va_Nw.same rfl (u := U) (U := U.calling g mk a) rfl e5, vs_S.moved (u := U) (U := U.calling g mk a) (Vm.Alike.refl U.vm) e6, va_Z.moved (u := U) (U := U.calling g mk a) (Vm.Alike.refl U.vm) e7⟩, fun U hU hW => ⟨rfl, by rw [hU], by rw [hU]; exact hPc, va_K.moved hW.alike hKc, hDc.weaken (fun _ _ _ _ => trivial), vk_R.warm hW hp21, va_Z.go hp3 hS hFc hU hW.alike, vk_R.warm hW hp22, vs_S.go hp23 hS hFc hU hW.alike, vs_S.go hp2 hS hFc hU hW.alike, va_Nw.warmC hW hp5, vs_S.go hp24 hS hFc hU hW.alike, va_Z.go hp25 hS hFc hU hW.alike⟩⟩ rfl rfl hl.1 rfl (lv_room (Nat.le_of_ble_eq_true rfl)) dX16_row_80 ⟨(show (((0 + kc_19) + kc_74) + kc_114) + ((5 + ((0 : Int) + 2) / 9).toNat) ≤ (8 * (z16_n - z16_place) - TKW z16_kind (z16_at - z16_place) + 160).toNat from (rmT (by omega) (by omega))), (show (((0 + ks_20) + ks_75) + ks_115) + ((5 * (0 : Int) + 40).toNat) ≤ (45 * (z16_n - z16_place) - TKV z16_kind (z16_at - z16_place) + 500).toNat from (rmT (by omega) (by omega)))⟩) hS (fun q _ h => hFc q h) hFc (fun r_214 u t H1 locs ht hvm hw hB hz1 hk1 hS => ?_)
          obtain ⟨hP1, hK1, hD1⟩ := hB
          rw [ht] at hP1
          have hK1 := va_K.moved hvm.symm hK1
          obtain ⟨hP, hD⟩ := va_joinQ (X := [(h0, .inr (14, [.ref q_t, .int (zI (z16_n)), .int (zI (z0_106)), .int (zI (z1_107)), .int (zI (z2_108)), .int (zI (z3_109)), .int (zI (z4_110)), .ref sa_RX16_9, v16_8, v16_9, v16_10, v16_11, v16_12, v16_13])), (q_t, .inl (cT, 8192, .inl (fun j : Nat => zI (a_t (j : Int)))))]) (cx := []) (wr := [(h0, .inr (14, [.ref q_t, .int (zI (z16_n)), .int (zI (z0_106)), .int (zI (z1_107)), .int (zI (z2_108)), .int (zI (z3_109)), .int (zI (z4_110)), .ref sa_RX16_9, v16_8, v16_9, v16_10, v16_11, v16_12, v16_13])), (q_t, .inl (cT, 8192, .inl (fun j : Nat => zI (a_t (j : Int)))))]) (w1 := []) (pl := va_pl Ln_112 (pE Pn_113)) hP hD [] [0, 1] rfl rfl (by decide) (by decide) hk1 hFc hP1 hD1
          have hK := (hK.sub (tys' := [(cT, .byte), (cO, .object "java/lang/Object"), (cI, .int), (cZ, .boolean)]) [0, 1, 2, 3] rfl).app hK1
          generalize H1 = H at hP hS ⊢
          have hP : va_P (dC, dI) vwQ ([(h0, .inr (14, [.ref q_t, .int (zI (z16_n)), .int (zI (z0_106)), .int (zI (z1_107)), .int (zI (z2_108)), .int (zI (z3_109)), .int (zI (z4_110)), .ref sa_RX16_9, v16_8, v16_9, v16_10, v16_11, v16_12, v16_13])), (q_t, .inl (cT, 8192, .inl (fun j : Nat => zI (a_t (j : Int)))))] ++ va_pl Ln_112 (pE Pn_113)) H := hP
          have hD : va_D A ([(h0, .inr (14, [.ref q_t, .int (zI (z16_n)), .int (zI (z0_106)), .int (zI (z1_107)), .int (zI (z2_108)), .int (zI (z3_109)), .int (zI (z4_110)), .ref sa_RX16_9, v16_8, v16_9, v16_10, v16_11, v16_12, v16_13])), (q_t, .inl (cT, 8192, .inl (fun j : Nat => zI (a_t (j : Int)))))] ++ va_pl Ln_112 (pE Pn_113)) := hD
          have hK : va_K (dC, dI) vwQ [(cT, .byte), (cO, .object "java/lang/Object"), (cI, .int), (cZ, .boolean)] s := hK
          refine W.widen (k := ((((0 + kc_19) + kc_74) + kc_114) + ((5 + ((0 : Int) + 2) / 9).toNat))) (n := ((((0 + ks_20) + ks_75) + ks_115) + ((5 * (0 : Int) + 40).toNat))) (by omega) (by omega) ?_
          have hw_215 := hw
          obtain ⟨z_216, rfl, hzz_216⟩ := hw_215
          refine lv_goto (tgt := 87) hx hb dX16_row_83 (by decide) ?_
          have hr7 := (hu_122.2.1.rokR hq_125.1 hq_125.2).n7
          obtain ⟨kp_217, gkp_217⟩ := va_pl_get (X := [(h0, .inr (14, [.ref q_t, .int (zI (z16_n)), .int (zI (z0_106)), .int (zI (z1_107)), .int (zI (z2_108)), .int (zI (z3_109)), .int (zI (z4_110)), .ref sa_RX16_9, v16_8, v16_9, v16_10, v16_11, v16_12, v16_13])), (q_t, .inl (cT, 8192, .inl (fun j : Nat => zI (a_t (j : Int)))))]) (f := pE Pn_113) hq_125.1
          have hkp_217 := gkp_217
          rw [pE_row hq_125.2] at hkp_217
          have hD0 := hD
          refine va_put (D := (dC, dI)) (ci := 21) (v := .int (zI (z_216))) (ty := .int) (C := RX17) (T := TX17) (N := 7) hx hb hts mem_X16_rowR_2 tyX17 tyX17_ok nmX17 hown hK hP hD hS kp_217 hkp_217 rfl 0 (by decide) (ow (k := 15) rfl) (fun _ h9 => h9) rfl (by decide +kernel) rfl rfl (by first | exact Nat.le_of_ble_eq_true rfl | exact (show ((((0 + kc_19) + kc_74) + kc_114) + ((5 + ((0 : Int) + 2) / 9).toNat)) ≤ (8 * (z16_n - z16_place) - TKW z16_kind (z16_at - z16_place) + 160).toNat from (rmW (by omega))) | exact (show ((((0 + ks_20) + ks_75) + ks_115) + ((5 * (0 : Int) + 40).toNat)) ≤ (45 * (z16_n - z16_place) - TKV z16_kind (z16_at - z16_place) + 500).toNat from (rmW (by omega)))) dX16_row_87 (fun H locs hP hD hS => ?_)
          obtain ⟨Pw_218, ePw_218⟩ : ∃ q9 : PO, q9 = Pn_113.rw9 0 xr (z_216) := ⟨_, rfl⟩
          have eU : (([(h0, .inr (14, [.ref q_t, .int (zI (z16_n)), .int (zI (z0_106)), .int (zI (z1_107)), .int (zI (z2_108)), .int (zI (z3_109)), .int (zI (z4_110)), .ref sa_RX16_9, v16_8, v16_9, v16_10, v16_11, v16_12, v16_13])), (q_t, .inl (cT, 8192, .inl (fun j : Nat => zI (a_t (j : Int)))))] : va_W) ++ va_pl Ln_112 (pE Pn_113)).set kp_217 (xr, rowE (z_216) (Pn_113.rt xr) (Pn_113.ra xr) (Pn_113.rb xr) (Pn_113.rA xr) (Pn_113.rB xr) (Pn_113.rg xr)) = ([(h0, .inr (14, [.ref q_t, .int (zI (z16_n)), .int (zI (z0_106)), .int (zI (z1_107)), .int (zI (z2_108)), .int (zI (z3_109)), .int (zI (z4_110)), .ref sa_RX16_9, v16_8, v16_9, v16_10, v16_11, v16_12, v16_13])), (q_t, .inl (cT, 8192, .inl (fun j : Nat => zI (a_t (j : Int)))))] : va_W) ++ va_pl Ln_112 (pE Pw_218) := (by rw [va_pl_set hD0 hq_125.1 gkp_217, ePw_218]; exact congrArg (fun f9 => ([(h0, .inr (14, [.ref q_t, .int (zI (z16_n)), .int (zI (z0_106)), .int (zI (z1_107)), .int (zI (z2_108)), .int (zI (z3_109)), .int (zI (z4_110)), .ref sa_RX16_9, v16_8, v16_9, v16_10, v16_11, v16_12, v16_13])), (q_t, .inl (cT, 8192, .inl (fun j : Nat => zI (a_t (j : Int)))))] : va_W) ++ va_pl Ln_112 f9) (put17_0 hq_125.2))
          have hP : va_P (dC, dI) vwQ ([(h0, .inr (14, [.ref q_t, .int (zI (z16_n)), .int (zI (z0_106)), .int (zI (z1_107)), .int (zI (z2_108)), .int (zI (z3_109)), .int (zI (z4_110)), .ref sa_RX16_9, v16_8, v16_9, v16_10, v16_11, v16_12, v16_13])), (q_t, .inl (cT, 8192, .inl (fun j : Nat => zI (a_t (j : Int)))))] ++ va_pl Ln_112 (pE Pw_218)) H := (by rw [← eU]; exact hP)
          have hD : va_D A ([(h0, .inr (14, [.ref q_t, .int (zI (z16_n)), .int (zI (z0_106)), .int (zI (z1_107)), .int (zI (z2_108)), .int (zI (z3_109)), .int (zI (z4_110)), .ref sa_RX16_9, v16_8, v16_9, v16_10, v16_11, v16_12, v16_13])), (q_t, .inl (cT, 8192, .inl (fun j : Nat => zI (a_t (j : Int)))))] ++ va_pl Ln_112 (pE Pw_218)) := (by rw [← eU]; exact hD)
          clear eU hD0 gkp_217 hkp_217
          have wPw_218 : RW1 xr Pn_113 Pw_218 := (by rw [ePw_218]; exact RW1.put _ _ _ _)
          have hy_219 : Pw_218.kd la = 30 := (by rw [ePw_218]; exact hq_124.2)
          have hy_220 : Pw_218.kd xr = 17 := (by rw [ePw_218]; exact hq_125.2)
          have : Pw_218.ro xr = z_216 := (by rw [ePw_218]; exact rw9_at _ _ _ _)
          have : Pw_218.rt xr = Pn_113.rt xr := (by rw [ePw_218]; exact rw9_of _ (by decide))
          have : Pw_218.ra xr = Pn_113.ra xr := (by rw [ePw_218]; exact rw9_of _ (by decide))
          have : Pw_218.rb xr = Pn_113.rb xr := (by rw [ePw_218]; exact rw9_of _ (by decide))
          have : Pw_218.rA xr = Pn_113.rA xr := (by rw [ePw_218]; exact rw9_of _ (by decide))
          have : Pw_218.rB xr = Pn_113.rB xr := (by rw [ePw_218]; exact rw9_of _ (by decide))
          have : Pw_218.rg xr = Pn_113.rg xr := (by rw [ePw_218]; exact rw9_of _ (by decide))
          have : Pw_218.ek xr = Pn_113.ek xr := (by rw [ePw_218]; rfl)
          have hW_221 : RW1 xr Pn_113 Pw_218 := wPw_218
          have hrw_224 : RWD Pn_113 Pw_218 := hW_221.rwd (Or.inl hq_125.2)
          have hak_223 : GLR Ln_112 Pw_218 cO cI cZ sx_ed := hu_122.2.1.row hW_221 hq_125.2 (ROKR.of (by omega) (by omega) (by omega) (by omega) (by omega) (by omega) (by omega) (OPQ.uaR (hoq9.to (by omega) (by omega))) (ubZR (by omega))) (fun e9 => by have q9 := hu_122.2.1.op21 hq_125.1 hq_125.2 e9; omega)
          have hke_222 : KEG [] Ln_112 Pn_113 Ln_112 Pw_218 := hrw_224.kegR _ hq_124.2
          have hq_225 : HID (la ∈ Ln_112 ∧ Pw_218.kd la = 30) := hke_222.mem hq_124.1 hq_124.2 (by decide)
          have hq_226 : HID (xr ∈ Ln_112 ∧ Pw_218.kd xr = 17) := hke_222.mem hq_125.1 hq_125.2 (by decide)
          have hE_227 : HID (Pw_218.ek xr ≠ 1) := (by rw [hke_222.ek hq_125.1 hq_125.2 (by decide)]; exact hE_126.out)
          have hA_228 : KEG [] L P Ln_112 Pw_218 := hA_127.trans hke_222
          have : Pw_218.lz la = Pn_113.lz la := hrw_224.lz hq_124.2
          have : Pw_218.cap la = Pn_113.cap la := hW_221.cap la
          have hek_229 : HID (Pw_218.ek la = 12) := (by rw [hke_222.ek hq_124.1 hq_124.2 (by decide)]; exact hek_128.out)
          have how_230 : HID (Pw_218.ow la = la) := ((hke_222.1 la hq_124.1 (by rw [hq_124.2]; decide)).2.2.2.1 hq_124.2 how_129.out).1
          have hcz := (((hke_222.1 la hq_124.1 (by rw [hq_124.2]; decide)).2.2.2.1 hq_124.2 how_129.out).2 (by simp)).1
          have hX_tx := hX_tx.rw1R hW_221 (Or.inl hq_125.2)
          have hcx_231 : CHG (fun z => z = xr) L P Ln_112 Pw_218 := hcx_130.trans (hW_221.chg _) (fun z m q => q)
          have hnx_232 : NTX L P Ln_112 Pw_218 := hnx_131.trans (NTX.put9 hW_221)
          refine lv_aload_n hx hb dX16_row_90 rfl (lv_at hl 1 rfl) ?_
          have hr7 := (hak_223.rokR hq_226.1 hq_226.2).n7
          obtain ⟨kp_233, hkp_233⟩ := va_pl_get (X := [(h0, .inr (14, [.ref q_t, .int (zI (z16_n)), .int (zI (z0_106)), .int (zI (z1_107)), .int (zI (z2_108)), .int (zI (z3_109)), .int (zI (z4_110)), .ref sa_RX16_9, v16_8, v16_9, v16_10, v16_11, v16_12, v16_13])), (q_t, .inl (cT, 8192, .inl (fun j : Nat => zI (a_t (j : Int)))))]) (f := pE Pw_218) hq_226.1
          rw [pE_row hq_226.2] at hkp_233
          refine va_get (D := (dC, dI)) (ci := 21) (v := .int (zI (Pw_218.ro xr))) (C := RX17) (T := TX17) (N := 7) hx hb hts mem_X16_rowR_2 hown hK hP kp_233 hkp_233 rfl 0 (by decide) (ow (k := 15) rfl) (fun _ h9 => h9) rfl dX16_row_91 ?_
          refine lv_if_ne (tgt := 98) hx hb dX16_row_94 (by decide) (fun b94 => ?_) (fun b94 => ?_)
          · have yb94 : ¬ (Pw_218.ro xr : Int) = (0 : Int) := fun q => b94 ((zI_eq (a := Pw_218.ro xr) (b := 0) (by omega) (by omega) (by omega) (by omega)).mpr q)
            have hno9 := TKQ.is htk_121 (Or.inl (by omega))
            have hno8 := htk_121.2.2.2 (by omega)
            refine lv_aload_n hx hb dX16_row_98 rfl (lv_at hl 0 rfl) ?_
            have hPc := hP.part (X := [(h0, .inr (14, [.ref q_t, .int (zI (z16_n)), .int (zI (z0_106)), .int (zI (z1_107)), .int (zI (z2_108)), .int (zI (z3_109)), .int (zI (z4_110)), .ref sa_RX16_9, v16_8, v16_9, v16_10, v16_11, v16_12, v16_13])), (q_t, .inl (cT, 8192, .inl (fun j : Nat => zI (a_t (j : Int)))))]) (cx := [(h0, .inr (14, [.ref q_t, .int (zI (z16_n)), .int (zI (z0_106)), .int (zI (z1_107)), .int (zI (z2_108)), .int (zI (z3_109)), .int (zI (z4_110)), .ref sa_RX16_9, v16_8, v16_9, v16_10, v16_11, v16_12, v16_13])), (q_t, .inl (cT, 8192, .inl (fun j : Nat => zI (a_t (j : Int)))))]) (pl := va_pl Ln_112 (pE Pw_218)) [0, 1] rfl
            have hDc := hD.part (X := [(h0, .inr (14, [.ref q_t, .int (zI (z16_n)), .int (zI (z0_106)), .int (zI (z1_107)), .int (zI (z2_108)), .int (zI (z3_109)), .int (zI (z4_110)), .ref sa_RX16_9, v16_8, v16_9, v16_10, v16_11, v16_12, v16_13])), (q_t, .inl (cT, 8192, .inl (fun j : Nat => zI (a_t (j : Int)))))]) (cx := [(h0, .inr (14, [.ref q_t, .int (zI (z16_n)), .int (zI (z0_106)), .int (zI (z1_107)), .int (zI (z2_108)), .int (zI (z3_109)), .int (zI (z4_110)), .ref sa_RX16_9, v16_8, v16_9, v16_10, v16_11, v16_12, v16_13])), (q_t, .inl (cT, 8192, .inl (fun j : Nat => zI (a_t (j : Int)))))]) (pl := va_pl Ln_112 (pE Pw_218)) [0, 1] (by decide) rfl
            have hKc := hK.sub (tys' := [(cT, .byte)]) [0] rfl
            have hFc := va_freeP (X := [(h0, .inr (14, [.ref q_t, .int (zI (z16_n)), .int (zI (z0_106)), .int (zI (z1_107)), .int (zI (z2_108)), .int (zI (z3_109)), .int (zI (z4_110)), .ref sa_RX16_9, v16_8, v16_9, v16_10, v16_11, v16_12, v16_13])), (q_t, .inl (cT, 8192, .inl (fun j : Nat => zI (a_t (j : Int)))))]) (cx := [(h0, .inr (14, [.ref q_t, .int (zI (z16_n)), .int (zI (z0_106)), .int (zI (z1_107)), .int (zI (z2_108)), .int (zI (z3_109)), .int (zI (z4_110)), .ref sa_RX16_9, v16_8, v16_9, v16_10, v16_11, v16_12, v16_13])), (q_t, .inl (cT, 8192, .inl (fun j : Nat => zI (a_t (j : Int)))))]) (pl := va_pl Ln_112 (pE Pw_218)) hD hS hA [0, 1] rfl
            refine W_knowS (fun hrmA => ?_)
            refine va_callv (va_runV (As := []) (rest := []) ⟨hx, hb, hml, hown, hts⟩ (c_X16_nextK l dC dI h0 z16_n z0_106 z1_107 z2_108 z3_109 z4_110 (.ref sa_RX16_9) v16_8 v16_9 v16_10 v16_11 v16_12 v16_13 q_t cT a_t Ln_112 Pw_218 sa_RX16_9 (by omega) (by omega) (by omega) (by omega) (by omega) (by omega) hR_a_t (by omega) H.size sa_RX16_9 H sv_RX16_9 sa_RX16_119 sv_RX16_119 sa_RX16_100 sv_RX16_100 sa_RX16_117 sa_RX16_100 sv_RX16_117 sa_RX16_98 sv_RX16_98) (cwV 0 hts g_X16_rowR_X16_nextK rfl rfl rfl (by decide +kernel) ⟨(Nat.le_of_ble_eq_true rfl), (Nat.le_of_ble_eq_true rfl)⟩) ⟨fun a U g mk q => by obtain ⟨q0, q1, qP, qK, qD, e0, e1, e2, e3, e4, e5, e6, e7, e8, e9, e10, e11, e12⟩ := q; exact ⟨q0, q1, qP, va_K.moved (u := U) (U := U.calling g mk a) (Vm.Alike.refl U.vm) qK, qD, vk_R.same (u := U) (U := U.calling g mk a) rfl e0, e1, va_Z.moved (u := U) (U := U.calling g mk a) (Vm.Alike.refl U.vm) e2, vs_S.moved (u := U) (U := U.calling g mk a) (Vm.Alike.refl U.vm) e3, va_Nw.same rfl (u := U) (U := U.calling g mk a) rfl e4, vk_R.same (u := U) (U := U.calling g mk a) rfl e5, vs_S.moved (u := U) (U := U.calling g mk a) (Vm.Alike.refl U.vm) e6, vs_S.moved (u := U) (U := U.calling g mk a) (Vm.Alike.refl U.vm) e7, vk_R.same (u := U) (U := U.calling g mk a) rfl e8, vk_R.same (u := U) (U := U.calling g mk a) rfl e9, vs_S.moved (u := U) (U := U.calling g mk a) (Vm.Alike.refl U.vm) e10, vk_R.same (u := U) (U := U.calling g mk a) rfl e11, vs_S.moved (u := U) (U := U.calling g mk a) (Vm.Alike.refl U.vm) e12⟩, va_recv hKc hPc (ci := 14) (q0 := 0) rfl rfl, fun U hU hW => ⟨rfl, by rw [hU], by rw [hU]; exact hPc, va_K.moved hW.alike hKc, hDc.weaken (fun _ _ _ _ => trivial), vk_R.warm hW hp4, hU, va_Z.go hp3 hS hFc hU hW.alike, vs_S.go hp2 hS hFc hU hW.alike, va_Nw.warmC hW hp5, vk_R.warm hW hp6, vs_S.go hp7 hS hFc hU hW.alike, vs_S.go hp8 hS hFc hU hW.alike, vk_R.warm hW hp9, vk_R.warm hW hp10, vs_S.go hp11 hS hFc hU hW.alike, vk_R.warm hW hp12, vs_S.go hp13 hS hFc hU hW.alike⟩⟩ rfl rfl hl.1 rfl (lv_room (Nat.le_of_ble_eq_true rfl)) dX16_row_99 ⟨(show ((((0 + kc_19) + kc_74) + kc_114) + ((5 + ((0 : Int) + 2) / 9).toNat)) + ((z16_n - z0_106 + 20).toNat) ≤ (8 * (z16_n - z16_place) - TKW z16_kind (z16_at - z16_place) + 160).toNat from (rmT (by omega) (by omega))), (show ((((0 + ks_20) + ks_75) + ks_115) + ((5 * (0 : Int) + 40).toNat)) + ((10 * (z16_n - z0_106) + 120).toNat) ≤ (45 * (z16_n - z16_place) - TKV z16_kind (z16_at - z16_place) + 500).toNat from (rmT (by omega) (by omega)))⟩) hS (fun q _ h => hFc q h) hFc (fun  u t H1 locs ht hvm hw hB hz1 hk1 hS => ?_)
            obtain ⟨z0_234, z1_235, z2_236, z3_237, z4_238, q5_239, Ln_240, Pn_241, kc_242, ks_243, hxt_243, hP1, hK1, hD1⟩ := hB
            rw [ht] at hP1
            have hK1 := va_K.moved hvm.symm hK1
            obtain ⟨hP, hD⟩ := va_joinP (X := [(h0, .inr (14, [.ref q_t, .int (zI (z16_n)), .int (zI (z0_106)), .int (zI (z1_107)), .int (zI (z2_108)), .int (zI (z3_109)), .int (zI (z4_110)), .ref sa_RX16_9, v16_8, v16_9, v16_10, v16_11, v16_12, v16_13])), (q_t, .inl (cT, 8192, .inl (fun j : Nat => zI (a_t (j : Int)))))]) (cx := [(h0, .inr (14, [.ref q_t, .int (zI (z16_n)), .int (zI (z0_106)), .int (zI (z1_107)), .int (zI (z2_108)), .int (zI (z3_109)), .int (zI (z4_110)), .ref sa_RX16_9, v16_8, v16_9, v16_10, v16_11, v16_12, v16_13])), (q_t, .inl (cT, 8192, .inl (fun j : Nat => zI (a_t (j : Int)))))]) (wr := []) (rx := [(h0, .inr (14, [.ref q_t, .int (zI (z16_n)), .int (zI (z0_234)), .int (zI (z1_235)), .int (zI (z2_236)), .int (zI (z3_237)), .int (zI (z4_238)), .ref q5_239, v16_8, v16_9, v16_10, v16_11, v16_12, v16_13])), (q_t, .inl (cT, 8192, .inl (fun j : Nat => zI (a_t (j : Int)))))]) (pl := va_pl Ln_112 (pE Pw_218)) (pl1 := va_pl Ln_240 (pE Pn_241)) hP hD [0, 1] [] rfl rfl (by decide) (by decide) hk1 hFc hP1 hD1
            have hK := (hK.sub (tys' := [(cO, .object "java/lang/Object"), (cI, .int), (cZ, .boolean)]) [1, 2, 3] rfl).app hK1
            have hrmC := hxt_243.1.1
            rw [ht] at hrmC
            refine W_tightS (hrmA.trans hrmC) ?_
            have hrb := hxt_243.1.2
            generalize H1 = H at hP hS ⊢
            have hP : va_P (dC, dI) vwQ ([(h0, .inr (14, [.ref q_t, .int (zI (z16_n)), .int (zI (z0_234)), .int (zI (z1_235)), .int (zI (z2_236)), .int (zI (z3_237)), .int (zI (z4_238)), .ref q5_239, v16_8, v16_9, v16_10, v16_11, v16_12, v16_13])), (q_t, .inl (cT, 8192, .inl (fun j : Nat => zI (a_t (j : Int)))))] ++ va_pl Ln_240 (pE Pn_241)) H := hP
            have hD : va_D A ([(h0, .inr (14, [.ref q_t, .int (zI (z16_n)), .int (zI (z0_234)), .int (zI (z1_235)), .int (zI (z2_236)), .int (zI (z3_237)), .int (zI (z4_238)), .ref q5_239, v16_8, v16_9, v16_10, v16_11, v16_12, v16_13])), (q_t, .inl (cT, 8192, .inl (fun j : Nat => zI (a_t (j : Int)))))] ++ va_pl Ln_240 (pE Pn_241)) := hD
            have hK : va_K (dC, dI) vwQ [(cO, .object "java/lang/Object"), (cI, .int), (cZ, .boolean), (cT, .byte)] s := hK
            refine W.widen (k := (((((0 + kc_19) + kc_74) + kc_114) + ((5 + ((0 : Int) + 2) / 9).toNat)) + kc_242)) (n := (((((0 + ks_20) + ks_75) + ks_115) + ((5 * (0 : Int) + 40).toNat)) + ks_243)) (by omega) (by omega) ?_
            obtain ⟨rk_244, rk_245, rk_246, rk_247, rk_248, hu_248⟩ := hxt_243.2
            have htk_249 := hu_248.1.2
            have hrg_249 := hu_248.1.1
            have htq_249 := htk_249.1
            have hgo9 := hkd_123.go (by omega)
            have hkd_254 := hu_248.2.1
            have hX_kv := hkd_254.2
            have hu_250 := hu_248.2.2
            have hex_251 : EXT9 Ln_112 Pw_218 Ln_240 Pn_241 := hu_250.1
            have hke_252 : KEG [] Ln_112 Pw_218 Ln_240 Pn_241 := hex_251.kegR hak_223
            have hak_253 : GLR Ln_240 Pn_241 cO cI cZ sx_ed := hak_223.txt hex_251 hu_250.2.1
            have hsm_255 := (hex_251 xr hq_226.1).2
            have : Pn_241.ro xr = Pw_218.ro xr := hsm_255.1 0
            have : Pn_241.rt xr = Pw_218.rt xr := hsm_255.1 1
            have : Pn_241.ra xr = Pw_218.ra xr := hsm_255.1 2
            have : Pn_241.rb xr = Pw_218.rb xr := hsm_255.1 3
            have : Pn_241.rA xr = Pw_218.rA xr := hsm_255.1 4
            have : Pn_241.rB xr = Pw_218.rB xr := hsm_255.1 5
            have : Pn_241.rg xr = Pw_218.rg xr := hsm_255.1 6
            have : Pn_241.ek xr = Pw_218.ek xr := hsm_255.2.1 8
            have hq_256 : HID (la ∈ Ln_240 ∧ Pn_241.kd la = 30) := hke_252.mem hq_225.1 hq_225.2 (by decide)
            have hq_257 : HID (xr ∈ Ln_240 ∧ Pn_241.kd xr = 17) := hke_252.mem hq_226.1 hq_226.2 (by decide)
            have hE_258 : HID (Pn_241.ek xr ≠ 1) := (by rw [hke_252.ek hq_226.1 hq_226.2 (by decide)]; exact hE_227.out)
            have hA_259 : KEG [] L P Ln_240 Pn_241 := hA_228.trans hke_252
            have : Pn_241.lz la = Pw_218.lz la := (hex_251 la hq_225.1).2.1 0
            have hek_260 : HID (Pn_241.ek la = 12) := (by rw [hke_252.ek hq_225.1 hq_225.2 (by decide)]; exact hek_229.out)
            have how_261 : HID (Pn_241.ow la = la) := ((hke_252.1 la hq_225.1 (by rw [hq_225.2]; decide)).2.2.2.1 hq_225.2 how_230.out).1
            have hcz := (((hke_252.1 la hq_225.1 (by rw [hq_225.2]; decide)).2.2.2.1 hq_225.2 how_230.out).2 (by simp)).1
            have hX_tx := hu_250.2.2.1
            have hxk9 := hu_250.2.2.2
            have hcx_262 : CHG (fun z => z = xr) L P Ln_240 Pn_241 := hcx_231.trans hex_251.chg (fun z m q => q.elim)
            have hnn_249 := TKV.nn (k := z1_235) (d := z0_234 - z2_236) (by omega)
            have hnx_263 : NTX L P Ln_240 Pn_241 := hnx_232.trans (NTX.ext hex_251 hu_250.2.1)
            have hri_264 : (((((((0 + ks_20) + ks_75) + ks_115) + ((5 * (0 : Int) + 40).toNat)) + ks_243) : Nat) : Int) ≤ 45 * (z2_236 - z16_place) - TKV z16_kind (z16_at - z16_place) + TKV (z1_235) (z0_234 - z2_236) - 15 ∧ (((((((0 + kc_19) + kc_74) + kc_114) + ((5 + ((0 : Int) + 2) / 9).toNat)) + kc_242) : Nat) : Int) ≤ 8 * (z2_236 - z16_place) - TKW z16_kind (z16_at - z16_place) + TKW (z1_235) (z0_234 - z2_236) - 9 := (by omega)
            clear hrb hri_132
            skip
            refine lv_aload_n hx hb dX16_row_102 rfl (lv_at hl 0 rfl) ?_
            refine lv_aload_n hx hb dX16_row_103 rfl (lv_at hl 1 rfl) ?_
            refine lv_iconst (v := 1) hx hb dX16_row_104 (by decide) ?_
            have hX_tn := htk_249
            have hX_g := hak_253
            have hX_x := hq_257.1
            have hX_k := hq_257.2
            have hX_la := (show la ∈ Ln_240 ∧ Pn_241.kd la = 30 ∧ Pn_241.ek la = 12 ∧ Pn_241.ow la = la from ⟨hq_256.1, hq_256.2, hek_260.out, how_261.out⟩)
            have hPc := hP.part (X := [(h0, .inr (14, [.ref q_t, .int (zI (z16_n)), .int (zI (z0_234)), .int (zI (z1_235)), .int (zI (z2_236)), .int (zI (z3_237)), .int (zI (z4_238)), .ref q5_239, v16_8, v16_9, v16_10, v16_11, v16_12, v16_13])), (q_t, .inl (cT, 8192, .inl (fun j : Nat => zI (a_t (j : Int)))))]) (cx := [(h0, .inr (14, [.ref q_t, .int (zI (z16_n)), .int (zI (z0_234)), .int (zI (z1_235)), .int (zI (z2_236)), .int (zI (z3_237)), .int (zI (z4_238)), .ref q5_239, v16_8, v16_9, v16_10, v16_11, v16_12, v16_13])), (q_t, .inl (cT, 8192, .inl (fun j : Nat => zI (a_t (j : Int)))))]) (pl := va_pl Ln_240 (pE Pn_241)) [0, 1] rfl
            have hDc := hD.part (X := [(h0, .inr (14, [.ref q_t, .int (zI (z16_n)), .int (zI (z0_234)), .int (zI (z1_235)), .int (zI (z2_236)), .int (zI (z3_237)), .int (zI (z4_238)), .ref q5_239, v16_8, v16_9, v16_10, v16_11, v16_12, v16_13])), (q_t, .inl (cT, 8192, .inl (fun j : Nat => zI (a_t (j : Int)))))]) (cx := [(h0, .inr (14, [.ref q_t, .int (zI (z16_n)), .int (zI (z0_234)), .int (zI (z1_235)), .int (zI (z2_236)), .int (zI (z3_237)), .int (zI (z4_238)), .ref q5_239, v16_8, v16_9, v16_10, v16_11, v16_12, v16_13])), (q_t, .inl (cT, 8192, .inl (fun j : Nat => zI (a_t (j : Int)))))]) (pl := va_pl Ln_240 (pE Pn_241)) [0, 1] (by decide) rfl
            have hKc := hK.sub (tys' := [(cT, .byte), (cO, .object "java/lang/Object"), (cI, .int), (cZ, .boolean)]) [3, 0, 1, 2] rfl
            have hFc := va_freeP (X := [(h0, .inr (14, [.ref q_t, .int (zI (z16_n)), .int (zI (z0_234)), .int (zI (z1_235)), .int (zI (z2_236)), .int (zI (z3_237)), .int (zI (z4_238)), .ref q5_239, v16_8, v16_9, v16_10, v16_11, v16_12, v16_13])), (q_t, .inl (cT, 8192, .inl (fun j : Nat => zI (a_t (j : Int)))))]) (cx := [(h0, .inr (14, [.ref q_t, .int (zI (z16_n)), .int (zI (z0_234)), .int (zI (z1_235)), .int (zI (z2_236)), .int (zI (z3_237)), .int (zI (z4_238)), .ref q5_239, v16_8, v16_9, v16_10, v16_11, v16_12, v16_13])), (q_t, .inl (cT, 8192, .inl (fun j : Nat => zI (a_t (j : Int)))))]) (pl := va_pl Ln_240 (pE Pn_241)) hD hS hA [0, 1] rfl
            refine W_knowS (fun hrmA => ?_)
            refine vx_callv (vx_runV (As := [.ref xr, .int 1]) (rest := []) ⟨hx, hb, hml, hown, hts⟩ (c_X16_opBR l dC dI cI cZ h0 z16_n z0_234 z1_235 z2_236 z3_237 z4_238 v16_8 v16_9 v16_10 v16_11 v16_12 v16_13 q_t cT a_t q5_239 Ln_240 Pn_241 sa_RX16_9 cO la sx_ed xr (by omega) (by omega) (by omega) (by omega) (by omega) (by omega) hR_a_t hX_g hX_la hX_x hX_k (by omega) hX_kv hX_tn H.size sv_RX16_9 sa_RX16_119 sv_RX16_119 sa_RX16_100 sv_RX16_100 sa_RX16_117 sv_RX16_117 sa_RX16_98 sv_RX16_98 H) (cwV 2 hts g_X16_rowR_X16_opBR rfl rfl rfl (by decide +kernel) ⟨(Nat.le_of_ble_eq_true rfl), (Nat.le_of_ble_eq_true rfl)⟩) ⟨fun a U g mk q => by obtain ⟨q0, q1, qP, qK, qD, e0, e1, e2, e3, e4, e5, e6, e7, e8, e9, e10, e11, e12, e13, e14⟩ := q; exact ⟨q0, q1, qP, va_K.moved (u := U) (U := U.calling g mk a) (Vm.Alike.refl U.vm) qK, qD, vk_R.same (u := U) (U := U.calling g mk a) rfl e0, va_Z.moved (u := U) (U := U.calling g mk a) (Vm.Alike.refl U.vm) e1, vs_S.moved (u := U) (U := U.calling g mk a) (Vm.Alike.refl U.vm) e2, va_Nw.same rfl (u := U) (U := U.calling g mk a) rfl e3, vk_R.same (u := U) (U := U.calling g mk a) rfl e4, vs_S.moved (u := U) (U := U.calling g mk a) (Vm.Alike.refl U.vm) e5, vs_S.moved (u := U) (U := U.calling g mk a) (Vm.Alike.refl U.vm) e6, vk_R.same (u := U) (U := U.calling g mk a) rfl e7, vk_R.same (u := U) (U := U.calling g mk a) rfl e8, vs_S.moved (u := U) (U := U.calling g mk a) (Vm.Alike.refl U.vm) e9, vk_R.same (u := U) (U := U.calling g mk a) rfl e10, vs_S.moved (u := U) (U := U.calling g mk a) (Vm.Alike.refl U.vm) e11, e12, vx_Zq.moved (u := U) (U := U.calling g mk a) (Vm.Alike.refl U.vm) e13, vx_Zq.moved (u := U) (U := U.calling g mk a) (Vm.Alike.refl U.vm) e14⟩, va_recv hKc hPc (ci := 14) (q0 := 0) rfl rfl, fun U hU hW => ⟨rfl, by rw [hU], by rw [hU]; exact hPc, va_K.moved hW.alike hKc, hDc.weaken (fun _ _ _ _ => trivial), vk_R.warm hW hp4, va_Z.go hp3 hS hFc hU hW.alike, vs_S.go hp2 hS hFc hU hW.alike, va_Nw.warmC hW hp5, vk_R.warm hW hp6, vs_S.go hp7 hS hFc hU hW.alike, vs_S.go hp8 hS hFc hU hW.alike, vk_R.warm hW hp9, vk_R.warm hW hp10, vs_S.go hp11 hS hFc hU hW.alike, vk_R.warm hW hp12, vs_S.go hp13 hS hFc hU hW.alike, hU, vx_Zq.go hp14 hS hFc hU hW.alike, vx_Zq.go hp15 hS hFc hU hW.alike⟩⟩ rfl rfl hl.1 rfl (lv_room (Nat.le_of_ble_eq_true rfl)) dX16_row_105 ⟨(show (((((0 + kc_19) + kc_74) + kc_114) + ((5 + ((0 : Int) + 2) / 9).toNat)) + kc_242) + ((z16_n - z0_234 + 20).toNat) ≤ (8 * (z16_n - z16_place) - TKW z16_kind (z16_at - z16_place) + 160).toNat from (rmT (by omega) (by omega))), (show (((((0 + ks_20) + ks_75) + ks_115) + ((5 * (0 : Int) + 40).toNat)) + ks_243) + ((10 * (z16_n - z0_234) + 120).toNat) ≤ (45 * (z16_n - z16_place) - TKV z16_kind (z16_at - z16_place) + 500).toNat from (rmT (by omega) (by omega)))⟩) hS (fun q _ h => hFc q h) hFc (fun q _ h => hFc q h) (fun E ce q9 u t H1 locs ht hvm _ hB hz1 hk1 hS hce hcv hcl => ?_) (fun  u t H1 locs ht hvm hw hB hz1 hk1 hS => ?_)
            · obtain ⟨rfl, zp_265, Ln_266, Pn_267, kc_268, ks_269, hxt_270, hP1, hD1⟩ := hB
              rw [ht] at hP1
              obtain ⟨hP, hD⟩ := va_joinP (X := [(h0, .inr (14, [.ref q_t, .int (zI (z16_n)), .int (zI (z0_234)), .int (zI (z1_235)), .int (zI (z2_236)), .int (zI (z3_237)), .int (zI (z4_238)), .ref q5_239, v16_8, v16_9, v16_10, v16_11, v16_12, v16_13])), (q_t, .inl (cT, 8192, .inl (fun j : Nat => zI (a_t (j : Int)))))]) (cx := [(h0, .inr (14, [.ref q_t, .int (zI (z16_n)), .int (zI (z0_234)), .int (zI (z1_235)), .int (zI (z2_236)), .int (zI (z3_237)), .int (zI (z4_238)), .ref q5_239, v16_8, v16_9, v16_10, v16_11, v16_12, v16_13])), (q_t, .inl (cT, 8192, .inl (fun j : Nat => zI (a_t (j : Int)))))]) (wr := []) (rx := [(q_t, .inl (cT, 8192, .inl (fun j : Nat => zI (a_t (j : Int))))), (q9, .inr (15, [.null, .null, .null, .null, .null, .int 0, .int (zI (zp_265))]))]) (pl := va_pl Ln_240 (pE Pn_241)) (pl1 := va_pl Ln_266 (pE Pn_267)) hP hD [0, 1] [] rfl rfl (by decide) (by decide) hk1 hFc hP1 hD1
              have hrmC := hxt_270.1.1
              rw [ht] at hrmC
              refine vx_tightS (hrmA.trans hrmC) ?_
              have hrb := hxt_270.1.2
              generalize H1 = H at hP hS hce ⊢
              have hP : va_P (dC, dI) vwQ ([(q_t, .inl (cT, 8192, .inl (fun j : Nat => zI (a_t (j : Int))))), (q9, .inr (15, [.null, .null, .null, .null, .null, .int 0, .int (zI (zp_265))]))] ++ va_pl Ln_266 (pE Pn_267)) H := hP
              have hD : va_D A ([(q_t, .inl (cT, 8192, .inl (fun j : Nat => zI (a_t (j : Int))))), (q9, .inr (15, [.null, .null, .null, .null, .null, .int 0, .int (zI (zp_265))]))] ++ va_pl Ln_266 (pE Pn_267)) := hD
              have hzp : 0 ≤ zp_265 ∧ zp_265 ≤ 8192 := hxt_270.2.1
              subst hQ
              refine vx_knowS (fun hrm9 => ?_)
              refine vx_widen (k := ((8 * (z16_n - z16_place) - TKW z16_kind (z16_at - z16_place) + 160).toNat)) (n := ((45 * (z16_n - z16_place) - TKV z16_kind (z16_at - z16_place) + 500).toNat)) (rmW (by omega)) (rmW (by omega)) ?_
              exact vx_out (fun x9 h9 => (hnt x9 h9).elim) hlocks hce hcv hcl (fun t ht hvm => ⟨(), trivial, ⟨rfl, zp_265, Ln_266, Pn_267, ((((((0 + kc_19) + kc_74) + kc_114) + ((5 + ((0 : Int) + 2) / 9).toNat)) + kc_242) + kc_268), ((((((0 + ks_20) + ks_75) + ks_115) + ((5 * (0 : Int) + 40).toNat)) + ks_243) + ks_269), ⟨⟨(by rw [ht, ← hp16]; exact hrm9), (by omega)⟩, ⟨(by omega), ⟨hA_259.trans hxt_270.2.2.1, hxt_270.2.2.2.1, (hcx_262.cpa hg00.owa (fun z _ q => by rw [show z = xr from q, hk00]; decide)).trans hA_259 hxt_270.2.2.2.2.1, hnx_263.trans hxt_270.2.2.2.2.2⟩⟩⟩, by rw [ht]; exact hP, hD⟩, hS.F ht⟩) hS.2.2 (Nat.le_refl _) (Nat.le_refl _)
            obtain ⟨z0_271, z1_272, z2_273, z3_274, z4_275, q5_276, Ln_277, Pn_278, kc_279, ks_280, hxt_280, hP1, hK1, hD1⟩ := hB
            rw [ht] at hP1
            have hK1 := va_K.moved hvm.symm hK1
            obtain ⟨hP, hD⟩ := va_joinP (X := [(h0, .inr (14, [.ref q_t, .int (zI (z16_n)), .int (zI (z0_234)), .int (zI (z1_235)), .int (zI (z2_236)), .int (zI (z3_237)), .int (zI (z4_238)), .ref q5_239, v16_8, v16_9, v16_10, v16_11, v16_12, v16_13])), (q_t, .inl (cT, 8192, .inl (fun j : Nat => zI (a_t (j : Int)))))]) (cx := [(h0, .inr (14, [.ref q_t, .int (zI (z16_n)), .int (zI (z0_234)), .int (zI (z1_235)), .int (zI (z2_236)), .int (zI (z3_237)), .int (zI (z4_238)), .ref q5_239, v16_8, v16_9, v16_10, v16_11, v16_12, v16_13])), (q_t, .inl (cT, 8192, .inl (fun j : Nat => zI (a_t (j : Int)))))]) (wr := []) (rx := [(h0, .inr (14, [.ref q_t, .int (zI (z16_n)), .int (zI (z0_271)), .int (zI (z1_272)), .int (zI (z2_273)), .int (zI (z3_274)), .int (zI (z4_275)), .ref q5_276, v16_8, v16_9, v16_10, v16_11, v16_12, v16_13])), (q_t, .inl (cT, 8192, .inl (fun j : Nat => zI (a_t (j : Int)))))]) (pl := va_pl Ln_240 (pE Pn_241)) (pl1 := va_pl Ln_277 (pE Pn_278)) hP hD [0, 1] [] rfl rfl (by decide) (by decide) hk1 hFc hP1 hD1
            have hK := (hK.sub (tys' := []) [] rfl).app hK1
            have hrmC := hxt_280.1.1
            rw [ht] at hrmC
            refine W_tightS (hrmA.trans hrmC) ?_
            have hrb := hxt_280.1.2
            generalize H1 = H at hP hS ⊢
            have hP : va_P (dC, dI) vwQ ([(h0, .inr (14, [.ref q_t, .int (zI (z16_n)), .int (zI (z0_271)), .int (zI (z1_272)), .int (zI (z2_273)), .int (zI (z3_274)), .int (zI (z4_275)), .ref q5_276, v16_8, v16_9, v16_10, v16_11, v16_12, v16_13])), (q_t, .inl (cT, 8192, .inl (fun j : Nat => zI (a_t (j : Int)))))] ++ va_pl Ln_277 (pE Pn_278)) H := hP
            have hD : va_D A ([(h0, .inr (14, [.ref q_t, .int (zI (z16_n)), .int (zI (z0_271)), .int (zI (z1_272)), .int (zI (z2_273)), .int (zI (z3_274)), .int (zI (z4_275)), .ref q5_276, v16_8, v16_9, v16_10, v16_11, v16_12, v16_13])), (q_t, .inl (cT, 8192, .inl (fun j : Nat => zI (a_t (j : Int)))))] ++ va_pl Ln_277 (pE Pn_278)) := hD
            have hK : va_K (dC, dI) vwQ [(cT, .byte), (cO, .object "java/lang/Object"), (cI, .int), (cZ, .boolean)] s := hK
            refine W.widen (k := ((((((0 + kc_19) + kc_74) + kc_114) + ((5 + ((0 : Int) + 2) / 9).toNat)) + kc_242) + kc_279)) (n := ((((((0 + ks_20) + ks_75) + ks_115) + ((5 * (0 : Int) + 40).toNat)) + ks_243) + ks_280)) (by omega) (by omega) ?_
            obtain ⟨rk_281, rk_282, rk_283, rk_284, rk_285, hu_285⟩ := hxt_280.2
            have htk_286 := hu_285.2.2.2.2.1.2
            have hrg_286 := hu_285.2.2.2.2.1.1
            have htq_286 := htk_286.1
            have hu_287 := HID.mk (hu_285)
            replace hu_285 := HID.mk hu_285
            replace hxt_280 := HID.mk hxt_280
            have hoc9 := hu_287.2.2.1.2
            have hoq9 : OPQ (Pn_278.rB xr) (Pn_278.rb xr) := hu_287.2.2.1.1
            have hgo9 := hkd_254.go (by omega)
            have hkd_288 := hu_287.2.2.2.2.2.1
            have hX_kv := hkd_288.2
            have hq_289 : HID (la ∈ Ln_277 ∧ Pn_278.kd la = 30) := hu_287.1.mem hq_256.1 hq_256.2 (by decide)
            have hq_290 : HID (xr ∈ Ln_277 ∧ Pn_278.kd xr = 17) := hu_287.1.mem hq_257.1 hq_257.2 (by decide)
            have hE_291 : HID (Pn_278.ek xr ≠ 1) := (by rw [hu_287.1.ek hq_257.1 hq_257.2 (by decide)]; exact hE_258.out)
            have hA_292 : KEG [] L P Ln_277 Pn_278 := hA_259.trans hu_287.1
            have : Pn_278.lz la = Pn_241.lz la := (hu_287.2.2.2.1 la hq_256.1 (fun e9 => absurd e9 (kd_ne hq_256.2 hq_257.2 (by decide)))).2.1 0
            have hek_293 : HID (Pn_278.ek la = 12) := (by rw [hu_287.1.ek hq_256.1 hq_256.2 (by decide)]; exact hek_260.out)
            have how_294 : HID (Pn_278.ow la = la) := ((hu_287.1.1 la hq_256.1 (by rw [hq_256.2]; decide)).2.2.2.1 hq_256.2 how_261.out).1
            have hcz := (((hu_287.1.1 la hq_256.1 (by rw [hq_256.2]; decide)).2.2.2.1 hq_256.2 how_261.out).2 (by simp)).1
            have hX_tx := hu_287.2.2.2.2.2.2.1
            have hxk9 := hu_287.2.2.2.2.2.2.2
            have hcx_295 : CHG (fun z => z = xr) L P Ln_277 Pn_278 := hcx_262.trans hu_287.2.2.2.1 (fun z m q => q)
            have hnn_286 := TKV.nn (k := z1_272) (d := z0_271 - z2_273) (by omega)
            have hnx_296 : NTX L P Ln_277 Pn_278 := hnx_263.trans hu_287.2.2.1.2.2.2.2.2.2.2.2.2.2
            have hri_297 : ((((((((0 + ks_20) + ks_75) + ks_115) + ((5 * (0 : Int) + 40).toNat)) + ks_243) + ks_280) : Nat) : Int) ≤ 45 * (z2_273 - z16_place) - TKV z16_kind (z16_at - z16_place) + TKV (z1_272) (z0_271 - z2_273) - 60 ∧ ((((((((0 + kc_19) + kc_74) + kc_114) + ((5 + ((0 : Int) + 2) / 9).toNat)) + kc_242) + kc_279) : Nat) : Int) ≤ 8 * (z2_273 - z16_place) - TKW z16_kind (z16_at - z16_place) + TKW (z1_272) (z0_271 - z2_273) - 17 := (by omega)
            clear hrb hri_264
            skip
            have hob9 := hoq9
            subst hQ
            refine W_knowS (fun hrm9 => ?_)
            refine W.widen (k := ((8 * (z16_n - z16_place) - TKW z16_kind (z16_at - z16_place) + 160).toNat)) (n := ((45 * (z16_n - z16_place) - TKV z16_kind (z16_at - z16_place) + 500).toNat)) (rmW (by omega)) (rmW (by omega)) ?_
            refine vx_ret ?_
            exact W.vret hx hb hr (fun t ht hW => ⟨⟨(), rfl, trivial, z0_271, z1_272, z2_273, z3_274, z4_275, q5_276, Ln_277, Pn_278, ((((((0 + kc_19) + kc_74) + kc_114) + ((5 + ((0 : Int) + 2) / 9).toNat)) + kc_242) + kc_279), ((((((0 + ks_20) + ks_75) + ks_115) + ((5 * (0 : Int) + 40).toNat)) + ks_243) + ks_280), ⟨⟨(by rw [ht, ← hp16]; exact hrm9), (by omega)⟩, ⟨(by omega), (by omega), (by omega), (by omega), (by omega), ⟨hA_292, hu_287.2.1, ⟨⟨(hkd_288.mono (by omega)).ms (by omega) (by omega) (by omega), by omega, by omega⟩, ⟨by omega, (by first | exact OPQ.z (by omega) | exact hoa9.to (by omega) (by omega)), (by first | exact OPQ.z (by omega) | exact hob9.to (by omega) (by omega))⟩, hnx_296⟩, hcx_295, ⟨⟨by omega, by omega, by omega⟩, htk_286⟩, hkd_288.mono (by omega), hX_tx⟩⟩⟩, by rw [ht]; exact hP, va_K.moved hW.alike hK, hD⟩, hS.F ht⟩) hS.2.2 dX16_row_108
          · have yb94 : (Pw_218.ro xr : Int) = (0 : Int) := (zI_eq (a := Pw_218.ro xr) (b := 0) (by omega) (by omega) (by omega) (by omega)).mp b94
            subst hQ
            refine W_knowS (fun hrm9 => ?_)
            refine W.widen (k := ((8 * (z16_n - z16_place) - TKW z16_kind (z16_at - z16_place) + 160).toNat)) (n := ((45 * (z16_n - z16_place) - TKV z16_kind (z16_at - z16_place) + 500).toNat)) (rmW (by omega)) (rmW (by omega)) ?_
            refine vx_ret ?_
            exact W.vret hx hb hr (fun t ht hW => ⟨⟨(), rfl, trivial, z0_106, z1_107, z2_108, z3_109, z4_110, sa_RX16_9, Ln_112, Pw_218, ((((0 + kc_19) + kc_74) + kc_114) + ((5 + ((0 : Int) + 2) / 9).toNat)), ((((0 + ks_20) + ks_75) + ks_115) + ((5 * (0 : Int) + 40).toNat)), ⟨⟨(by rw [ht, ← hp16]; exact hrm9), (by omega)⟩, ⟨(by omega), (by omega), (by omega), (by omega), (by omega), ⟨hA_228, hak_223, ⟨⟨(hkd_123.mono (by omega)).ms (by omega) (by omega) (by omega), by omega, by omega⟩, ⟨by omega, (by first | exact OPQ.z (by omega) | exact hoa9.to (by omega) (by omega)), (by first | exact OPQ.z (by omega) | exact hob9.to (by omega) (by omega))⟩, hnx_232⟩, hcx_231, ⟨⟨by omega, by omega, by omega⟩, htk_121⟩, hkd_123.mono (by omega), (Or.inl rfl)⟩⟩⟩, by rw [ht]; exact hP, va_K.moved hW.alike hK, hD⟩, hS.F ht⟩) hS.2.2 dX16_row_97
        · skip
          have hX_ts := hX_tx.resolve_left hxs
          have htn9 := hX_ts.2.2.2.2.2.1
          have hxk8 := hxk9 (by omega)
          have hX_tf : sb_Fit (fun j : Nat => zI (Pn_113.ia (Pn_113.le q5_111) (j : Int))) := az_fit hX_ts.2.2.2.2.2.2
          refine lv_aload_n hx hb dX16_row_76 rfl (lv_at hl 0 rfl) ?_
          refine va_get (D := (dC, dI)) (ci := 14) (v := .ref q5_111) (C := RX16) (T := TX16) (N := 14) hx hb hts mem_X16_rowR_5 hown hK hP 0 rfl rfl 7 (by decide) (ow (k := 19) rfl) (fun _ h9 => h9) rfl dX16_row_77 ?_
          have hPc := hP.sub (ws' := []) [] rfl
          have hDc := hD.sub (ws' := []) [] (by decide) rfl
          have hKc := hK.sub (tys' := []) [] rfl
          have hFc := va_free (wc := []) hD hS hA [] rfl
          refine va_calli (va_runSN (As := [.ref q5_111]) (rest := [.ref xr]) ⟨hx, hb, hml, hown, hts⟩ (c_X19_operation l dC dI q5_111 (Pn_113.le q5_111) (Pn_113.an (Pn_113.le q5_111)) ((fun j : Nat => zI (Pn_113.ia (Pn_113.le q5_111) (j : Int)))) hX_tf (by omega) H.size sa_RX19_3 sa_RX19_11 sv_RX19_11 sv_RX19_3 sx_fm) ⟨va_cnB 1 hts (goodIn_sub mem_X16_rowR_8 gw_X19_operation) rfl rfl rfl hp26 (ow (k := 20) rfl) (by decide +kernel) ⟨(Nat.le_of_ble_eq_true rfl), (Nat.le_of_ble_eq_true rfl)⟩, (ow (k := 21) rfl), trivial⟩ ⟨fun a U g mk q => by obtain ⟨q0, q1, qP, qK, qD, e0, e1, e2, e3, e4, e5, e6, e7⟩ := q; exact ⟨q0, q1, qP, va_K.moved (u := U) (U := U.calling g mk a) (Vm.Alike.refl U.vm) qK, qD, vk_R.same (u := U) (U := U.calling g mk a) rfl e0, va_Z.moved (u := U) (U := U.calling g mk a) (Vm.Alike.refl U.vm) e1, vk_R.same (u := U) (U := U.calling g mk a) rfl e2, vs_S.moved (u := U) (U := U.calling g mk a) (Vm.Alike.refl U.vm) e3, vs_S.moved (u := U) (U := U.calling g mk a) (Vm.Alike.refl U.vm) e4, va_Nw.same rfl (u := U) (U := U.calling g mk a) rfl e5, vs_S.moved (u := U) (U := U.calling g mk a) (Vm.Alike.refl U.vm) e6, va_Z.moved (u := U) (U := U.calling g mk a) (Vm.Alike.refl U.vm) e7⟩, fun U hU hW => ⟨rfl, by rw [hU], by rw [hU]; exact hPc, va_K.moved hW.alike hKc, hDc.weaken (fun _ _ _ _ => trivial), vk_R.warm hW hp21, va_Z.go hp3 hS hFc hU hW.alike, vk_R.warm hW hp22, vs_S.go hp23 hS hFc hU hW.alike, (by rw [hU]; exact vs_S.moved hW.alike (vs_ofP (ti := 0) hp1 hK hP hD rfl hX_ts rfl [] rfl (show ∀ i ∈ ([] : List Nat), i < 2 from by decide))), va_Nw.warmC hW hp5, vs_S.go hp24 hS hFc hU hW.alike, va_Z.go hp25 hS hFc hU hW.alike⟩⟩ rfl rfl hl.1 rfl (lv_room (Nat.le_of_ble_eq_true rfl)) dX16_row_80 ⟨(show (((0 + kc_19) + kc_74) + kc_114) + ((5 + ((Pn_113.an (Pn_113.le q5_111) : Int) + 2) / 9).toNat) ≤ (8 * (z16_n - z16_place) - TKW z16_kind (z16_at - z16_place) + 160).toNat from (rmT (by omega) (by omega))), (show (((0 + ks_20) + ks_75) + ks_115) + ((5 * (Pn_113.an (Pn_113.le q5_111) : Int) + 40).toNat) ≤ (45 * (z16_n - z16_place) - TKV z16_kind (z16_at - z16_place) + 500).toNat from (rmT (by omega) (by omega)))⟩) hS (fun q _ h => hFc q h) hFc (fun r_298 u t H1 locs ht hvm hw hB hz1 hk1 hS => ?_)
          obtain ⟨hP1, hK1, hD1⟩ := hB
          rw [ht] at hP1
          have hK1 := va_K.moved hvm.symm hK1
          obtain ⟨hP, hD⟩ := va_joinQ (X := [(h0, .inr (14, [.ref q_t, .int (zI (z16_n)), .int (zI (z0_106)), .int (zI (z1_107)), .int (zI (z2_108)), .int (zI (z3_109)), .int (zI (z4_110)), .ref q5_111, v16_8, v16_9, v16_10, v16_11, v16_12, v16_13])), (q_t, .inl (cT, 8192, .inl (fun j : Nat => zI (a_t (j : Int)))))]) (cx := []) (wr := [(h0, .inr (14, [.ref q_t, .int (zI (z16_n)), .int (zI (z0_106)), .int (zI (z1_107)), .int (zI (z2_108)), .int (zI (z3_109)), .int (zI (z4_110)), .ref q5_111, v16_8, v16_9, v16_10, v16_11, v16_12, v16_13])), (q_t, .inl (cT, 8192, .inl (fun j : Nat => zI (a_t (j : Int)))))]) (w1 := []) (pl := va_pl Ln_112 (pE Pn_113)) hP hD [] [0, 1] rfl rfl (by decide) (by decide) hk1 hFc hP1 hD1
          have hK := (hK.sub (tys' := [(cT, .byte), (cO, .object "java/lang/Object"), (cI, .int), (cZ, .boolean)]) [0, 1, 2, 3] rfl).app hK1
          generalize H1 = H at hP hS ⊢
          have hP : va_P (dC, dI) vwQ ([(h0, .inr (14, [.ref q_t, .int (zI (z16_n)), .int (zI (z0_106)), .int (zI (z1_107)), .int (zI (z2_108)), .int (zI (z3_109)), .int (zI (z4_110)), .ref q5_111, v16_8, v16_9, v16_10, v16_11, v16_12, v16_13])), (q_t, .inl (cT, 8192, .inl (fun j : Nat => zI (a_t (j : Int)))))] ++ va_pl Ln_112 (pE Pn_113)) H := hP
          have hD : va_D A ([(h0, .inr (14, [.ref q_t, .int (zI (z16_n)), .int (zI (z0_106)), .int (zI (z1_107)), .int (zI (z2_108)), .int (zI (z3_109)), .int (zI (z4_110)), .ref q5_111, v16_8, v16_9, v16_10, v16_11, v16_12, v16_13])), (q_t, .inl (cT, 8192, .inl (fun j : Nat => zI (a_t (j : Int)))))] ++ va_pl Ln_112 (pE Pn_113)) := hD
          have hK : va_K (dC, dI) vwQ [(cT, .byte), (cO, .object "java/lang/Object"), (cI, .int), (cZ, .boolean)] s := hK
          refine W.widen (k := ((((0 + kc_19) + kc_74) + kc_114) + ((5 + ((Pn_113.an (Pn_113.le q5_111) : Int) + 2) / 9).toNat))) (n := ((((0 + ks_20) + ks_75) + ks_115) + ((5 * (Pn_113.an (Pn_113.le q5_111) : Int) + 40).toNat))) (by omega) (by omega) ?_
          have hw_299 := hw
          obtain ⟨z_300, rfl, hzz_300⟩ := hw_299
          refine lv_goto (tgt := 87) hx hb dX16_row_83 (by decide) ?_
          have hr7 := (hu_122.2.1.rokR hq_125.1 hq_125.2).n7
          obtain ⟨kp_301, gkp_301⟩ := va_pl_get (X := [(h0, .inr (14, [.ref q_t, .int (zI (z16_n)), .int (zI (z0_106)), .int (zI (z1_107)), .int (zI (z2_108)), .int (zI (z3_109)), .int (zI (z4_110)), .ref q5_111, v16_8, v16_9, v16_10, v16_11, v16_12, v16_13])), (q_t, .inl (cT, 8192, .inl (fun j : Nat => zI (a_t (j : Int)))))]) (f := pE Pn_113) hq_125.1
          have hkp_301 := gkp_301
          rw [pE_row hq_125.2] at hkp_301
          have hD0 := hD
          refine va_put (D := (dC, dI)) (ci := 21) (v := .int (zI (z_300))) (ty := .int) (C := RX17) (T := TX17) (N := 7) hx hb hts mem_X16_rowR_2 tyX17 tyX17_ok nmX17 hown hK hP hD hS kp_301 hkp_301 rfl 0 (by decide) (ow (k := 15) rfl) (fun _ h9 => h9) rfl (by decide +kernel) rfl rfl (by first | exact Nat.le_of_ble_eq_true rfl | exact (show ((((0 + kc_19) + kc_74) + kc_114) + ((5 + ((Pn_113.an (Pn_113.le q5_111) : Int) + 2) / 9).toNat)) ≤ (8 * (z16_n - z16_place) - TKW z16_kind (z16_at - z16_place) + 160).toNat from (rmW (by omega))) | exact (show ((((0 + ks_20) + ks_75) + ks_115) + ((5 * (Pn_113.an (Pn_113.le q5_111) : Int) + 40).toNat)) ≤ (45 * (z16_n - z16_place) - TKV z16_kind (z16_at - z16_place) + 500).toNat from (rmW (by omega)))) dX16_row_87 (fun H locs hP hD hS => ?_)
          obtain ⟨Pw_302, ePw_302⟩ : ∃ q9 : PO, q9 = Pn_113.rw9 0 xr (z_300) := ⟨_, rfl⟩
          have eU : (([(h0, .inr (14, [.ref q_t, .int (zI (z16_n)), .int (zI (z0_106)), .int (zI (z1_107)), .int (zI (z2_108)), .int (zI (z3_109)), .int (zI (z4_110)), .ref q5_111, v16_8, v16_9, v16_10, v16_11, v16_12, v16_13])), (q_t, .inl (cT, 8192, .inl (fun j : Nat => zI (a_t (j : Int)))))] : va_W) ++ va_pl Ln_112 (pE Pn_113)).set kp_301 (xr, rowE (z_300) (Pn_113.rt xr) (Pn_113.ra xr) (Pn_113.rb xr) (Pn_113.rA xr) (Pn_113.rB xr) (Pn_113.rg xr)) = ([(h0, .inr (14, [.ref q_t, .int (zI (z16_n)), .int (zI (z0_106)), .int (zI (z1_107)), .int (zI (z2_108)), .int (zI (z3_109)), .int (zI (z4_110)), .ref q5_111, v16_8, v16_9, v16_10, v16_11, v16_12, v16_13])), (q_t, .inl (cT, 8192, .inl (fun j : Nat => zI (a_t (j : Int)))))] : va_W) ++ va_pl Ln_112 (pE Pw_302) := (by rw [va_pl_set hD0 hq_125.1 gkp_301, ePw_302]; exact congrArg (fun f9 => ([(h0, .inr (14, [.ref q_t, .int (zI (z16_n)), .int (zI (z0_106)), .int (zI (z1_107)), .int (zI (z2_108)), .int (zI (z3_109)), .int (zI (z4_110)), .ref q5_111, v16_8, v16_9, v16_10, v16_11, v16_12, v16_13])), (q_t, .inl (cT, 8192, .inl (fun j : Nat => zI (a_t (j : Int)))))] : va_W) ++ va_pl Ln_112 f9) (put17_0 hq_125.2))
          have hP : va_P (dC, dI) vwQ ([(h0, .inr (14, [.ref q_t, .int (zI (z16_n)), .int (zI (z0_106)), .int (zI (z1_107)), .int (zI (z2_108)), .int (zI (z3_109)), .int (zI (z4_110)), .ref q5_111, v16_8, v16_9, v16_10, v16_11, v16_12, v16_13])), (q_t, .inl (cT, 8192, .inl (fun j : Nat => zI (a_t (j : Int)))))] ++ va_pl Ln_112 (pE Pw_302)) H := (by rw [← eU]; exact hP)
          have hD : va_D A ([(h0, .inr (14, [.ref q_t, .int (zI (z16_n)), .int (zI (z0_106)), .int (zI (z1_107)), .int (zI (z2_108)), .int (zI (z3_109)), .int (zI (z4_110)), .ref q5_111, v16_8, v16_9, v16_10, v16_11, v16_12, v16_13])), (q_t, .inl (cT, 8192, .inl (fun j : Nat => zI (a_t (j : Int)))))] ++ va_pl Ln_112 (pE Pw_302)) := (by rw [← eU]; exact hD)
          clear eU hD0 gkp_301 hkp_301
          have wPw_302 : RW1 xr Pn_113 Pw_302 := (by rw [ePw_302]; exact RW1.put _ _ _ _)
          have hy_303 : Pw_302.kd la = 30 := (by rw [ePw_302]; exact hq_124.2)
          have hy_304 : Pw_302.kd xr = 17 := (by rw [ePw_302]; exact hq_125.2)
          have : Pw_302.ro xr = z_300 := (by rw [ePw_302]; exact rw9_at _ _ _ _)
          have : Pw_302.rt xr = Pn_113.rt xr := (by rw [ePw_302]; exact rw9_of _ (by decide))
          have : Pw_302.ra xr = Pn_113.ra xr := (by rw [ePw_302]; exact rw9_of _ (by decide))
          have : Pw_302.rb xr = Pn_113.rb xr := (by rw [ePw_302]; exact rw9_of _ (by decide))
          have : Pw_302.rA xr = Pn_113.rA xr := (by rw [ePw_302]; exact rw9_of _ (by decide))
          have : Pw_302.rB xr = Pn_113.rB xr := (by rw [ePw_302]; exact rw9_of _ (by decide))
          have : Pw_302.rg xr = Pn_113.rg xr := (by rw [ePw_302]; exact rw9_of _ (by decide))
          have : Pw_302.ek xr = Pn_113.ek xr := (by rw [ePw_302]; rfl)
          have hW_305 : RW1 xr Pn_113 Pw_302 := wPw_302
          have hrw_308 : RWD Pn_113 Pw_302 := hW_305.rwd (Or.inl hq_125.2)
          have hak_307 : GLR Ln_112 Pw_302 cO cI cZ sx_ed := hu_122.2.1.row hW_305 hq_125.2 (ROKR.of (by omega) (by omega) (by omega) (by omega) (by omega) (by omega) (by omega) (OPQ.uaR (hoq9.to (by omega) (by omega))) (ubZR (by omega))) (fun e9 => by have q9 := hu_122.2.1.op21 hq_125.1 hq_125.2 e9; omega)
          have hke_306 : KEG [] Ln_112 Pn_113 Ln_112 Pw_302 := hrw_308.kegR _ hq_124.2
          have hq_309 : HID (la ∈ Ln_112 ∧ Pw_302.kd la = 30) := hke_306.mem hq_124.1 hq_124.2 (by decide)
          have hq_310 : HID (xr ∈ Ln_112 ∧ Pw_302.kd xr = 17) := hke_306.mem hq_125.1 hq_125.2 (by decide)
          have hE_311 : HID (Pw_302.ek xr ≠ 1) := (by rw [hke_306.ek hq_125.1 hq_125.2 (by decide)]; exact hE_126.out)
          have hA_312 : KEG [] L P Ln_112 Pw_302 := hA_127.trans hke_306
          have : Pw_302.lz la = Pn_113.lz la := hrw_308.lz hq_124.2
          have : Pw_302.cap la = Pn_113.cap la := hW_305.cap la
          have hek_313 : HID (Pw_302.ek la = 12) := (by rw [hke_306.ek hq_124.1 hq_124.2 (by decide)]; exact hek_128.out)
          have how_314 : HID (Pw_302.ow la = la) := ((hke_306.1 la hq_124.1 (by rw [hq_124.2]; decide)).2.2.2.1 hq_124.2 how_129.out).1
          have hcz := (((hke_306.1 la hq_124.1 (by rw [hq_124.2]; decide)).2.2.2.1 hq_124.2 how_129.out).2 (by simp)).1
          have hX_tx := hX_tx.rw1R hW_305 (Or.inl hq_125.2)
          have hcx_315 : CHG (fun z => z = xr) L P Ln_112 Pw_302 := hcx_130.trans (hW_305.chg _) (fun z m q => q)
          have hnx_316 : NTX L P Ln_112 Pw_302 := hnx_131.trans (NTX.put9 hW_305)
          refine lv_aload_n hx hb dX16_row_90 rfl (lv_at hl 1 rfl) ?_
          have hr7 := (hak_307.rokR hq_310.1 hq_310.2).n7
          obtain ⟨kp_317, hkp_317⟩ := va_pl_get (X := [(h0, .inr (14, [.ref q_t, .int (zI (z16_n)), .int (zI (z0_106)), .int (zI (z1_107)), .int (zI (z2_108)), .int (zI (z3_109)), .int (zI (z4_110)), .ref q5_111, v16_8, v16_9, v16_10, v16_11, v16_12, v16_13])), (q_t, .inl (cT, 8192, .inl (fun j : Nat => zI (a_t (j : Int)))))]) (f := pE Pw_302) hq_310.1
          rw [pE_row hq_310.2] at hkp_317
          refine va_get (D := (dC, dI)) (ci := 21) (v := .int (zI (Pw_302.ro xr))) (C := RX17) (T := TX17) (N := 7) hx hb hts mem_X16_rowR_2 hown hK hP kp_317 hkp_317 rfl 0 (by decide) (ow (k := 15) rfl) (fun _ h9 => h9) rfl dX16_row_91 ?_
          refine lv_if_ne (tgt := 98) hx hb dX16_row_94 (by decide) (fun b94 => ?_) (fun b94 => ?_)
          · have yb94 : ¬ (Pw_302.ro xr : Int) = (0 : Int) := fun q => b94 ((zI_eq (a := Pw_302.ro xr) (b := 0) (by omega) (by omega) (by omega) (by omega)).mpr q)
            have hno9 := TKQ.is htk_121 (Or.inl (by omega))
            have hno8 := htk_121.2.2.2 (by omega)
            refine lv_aload_n hx hb dX16_row_98 rfl (lv_at hl 0 rfl) ?_
            have hPc := hP.part (X := [(h0, .inr (14, [.ref q_t, .int (zI (z16_n)), .int (zI (z0_106)), .int (zI (z1_107)), .int (zI (z2_108)), .int (zI (z3_109)), .int (zI (z4_110)), .ref q5_111, v16_8, v16_9, v16_10, v16_11, v16_12, v16_13])), (q_t, .inl (cT, 8192, .inl (fun j : Nat => zI (a_t (j : Int)))))]) (cx := [(h0, .inr (14, [.ref q_t, .int (zI (z16_n)), .int (zI (z0_106)), .int (zI (z1_107)), .int (zI (z2_108)), .int (zI (z3_109)), .int (zI (z4_110)), .ref q5_111, v16_8, v16_9, v16_10, v16_11, v16_12, v16_13])), (q_t, .inl (cT, 8192, .inl (fun j : Nat => zI (a_t (j : Int)))))]) (pl := va_pl Ln_112 (pE Pw_302)) [0, 1] rfl
            have hDc := hD.part (X := [(h0, .inr (14, [.ref q_t, .int (zI (z16_n)), .int (zI (z0_106)), .int (zI (z1_107)), .int (zI (z2_108)), .int (zI (z3_109)), .int (zI (z4_110)), .ref q5_111, v16_8, v16_9, v16_10, v16_11, v16_12, v16_13])), (q_t, .inl (cT, 8192, .inl (fun j : Nat => zI (a_t (j : Int)))))]) (cx := [(h0, .inr (14, [.ref q_t, .int (zI (z16_n)), .int (zI (z0_106)), .int (zI (z1_107)), .int (zI (z2_108)), .int (zI (z3_109)), .int (zI (z4_110)), .ref q5_111, v16_8, v16_9, v16_10, v16_11, v16_12, v16_13])), (q_t, .inl (cT, 8192, .inl (fun j : Nat => zI (a_t (j : Int)))))]) (pl := va_pl Ln_112 (pE Pw_302)) [0, 1] (by decide) rfl
            have hKc := hK.sub (tys' := [(cT, .byte)]) [0] rfl
            have hFc := va_freeP (X := [(h0, .inr (14, [.ref q_t, .int (zI (z16_n)), .int (zI (z0_106)), .int (zI (z1_107)), .int (zI (z2_108)), .int (zI (z3_109)), .int (zI (z4_110)), .ref q5_111, v16_8, v16_9, v16_10, v16_11, v16_12, v16_13])), (q_t, .inl (cT, 8192, .inl (fun j : Nat => zI (a_t (j : Int)))))]) (cx := [(h0, .inr (14, [.ref q_t, .int (zI (z16_n)), .int (zI (z0_106)), .int (zI (z1_107)), .int (zI (z2_108)), .int (zI (z3_109)), .int (zI (z4_110)), .ref q5_111, v16_8, v16_9, v16_10, v16_11, v16_12, v16_13])), (q_t, .inl (cT, 8192, .inl (fun j : Nat => zI (a_t (j : Int)))))]) (pl := va_pl Ln_112 (pE Pw_302)) hD hS hA [0, 1] rfl
            refine W_knowS (fun hrmA => ?_)
            refine va_callv (va_runV (As := []) (rest := []) ⟨hx, hb, hml, hown, hts⟩ (c_X16_nextK l dC dI h0 z16_n z0_106 z1_107 z2_108 z3_109 z4_110 (.ref q5_111) v16_8 v16_9 v16_10 v16_11 v16_12 v16_13 q_t cT a_t Ln_112 Pw_302 sa_RX16_9 (by omega) (by omega) (by omega) (by omega) (by omega) (by omega) hR_a_t (by omega) H.size sa_RX16_9 H sv_RX16_9 sa_RX16_119 sv_RX16_119 sa_RX16_100 sv_RX16_100 sa_RX16_117 sa_RX16_100 sv_RX16_117 sa_RX16_98 sv_RX16_98) (cwV 0 hts g_X16_rowR_X16_nextK rfl rfl rfl (by decide +kernel) ⟨(Nat.le_of_ble_eq_true rfl), (Nat.le_of_ble_eq_true rfl)⟩) ⟨fun a U g mk q => by obtain ⟨q0, q1, qP, qK, qD, e0, e1, e2, e3, e4, e5, e6, e7, e8, e9, e10, e11, e12⟩ := q; exact ⟨q0, q1, qP, va_K.moved (u := U) (U := U.calling g mk a) (Vm.Alike.refl U.vm) qK, qD, vk_R.same (u := U) (U := U.calling g mk a) rfl e0, e1, va_Z.moved (u := U) (U := U.calling g mk a) (Vm.Alike.refl U.vm) e2, vs_S.moved (u := U) (U := U.calling g mk a) (Vm.Alike.refl U.vm) e3, va_Nw.same rfl (u := U) (U := U.calling g mk a) rfl e4, vk_R.same (u := U) (U := U.calling g mk a) rfl e5, vs_S.moved (u := U) (U := U.calling g mk a) (Vm.Alike.refl U.vm) e6, vs_S.moved (u := U) (U := U.calling g mk a) (Vm.Alike.refl U.vm) e7, vk_R.same (u := U) (U := U.calling g mk a) rfl e8, vk_R.same (u := U) (U := U.calling g mk a) rfl e9, vs_S.moved (u := U) (U := U.calling g mk a) (Vm.Alike.refl U.vm) e10, vk_R.same (u := U) (U := U.calling g mk a) rfl e11, vs_S.moved (u := U) (U := U.calling g mk a) (Vm.Alike.refl U.vm) e12⟩, va_recv hKc hPc (ci := 14) (q0 := 0) rfl rfl, fun U hU hW => ⟨rfl, by rw [hU], by rw [hU]; exact hPc, va_K.moved hW.alike hKc, hDc.weaken (fun _ _ _ _ => trivial), vk_R.warm hW hp4, hU, va_Z.go hp3 hS hFc hU hW.alike, vs_S.go hp2 hS hFc hU hW.alike, va_Nw.warmC hW hp5, vk_R.warm hW hp6, vs_S.go hp7 hS hFc hU hW.alike, vs_S.go hp8 hS hFc hU hW.alike, vk_R.warm hW hp9, vk_R.warm hW hp10, vs_S.go hp11 hS hFc hU hW.alike, vk_R.warm hW hp12, vs_S.go hp13 hS hFc hU hW.alike⟩⟩ rfl rfl hl.1 rfl (lv_room (Nat.le_of_ble_eq_true rfl)) dX16_row_99 ⟨(show ((((0 + kc_19) + kc_74) + kc_114) + ((5 + ((Pn_113.an (Pn_113.le q5_111) : Int) + 2) / 9).toNat)) + ((z16_n - z0_106 + 20).toNat) ≤ (8 * (z16_n - z16_place) - TKW z16_kind (z16_at - z16_place) + 160).toNat from (rmT (by omega) (by omega))), (show ((((0 + ks_20) + ks_75) + ks_115) + ((5 * (Pn_113.an (Pn_113.le q5_111) : Int) + 40).toNat)) + ((10 * (z16_n - z0_106) + 120).toNat) ≤ (45 * (z16_n - z16_place) - TKV z16_kind (z16_at - z16_place) + 500).toNat from (rmT (by omega) (by omega)))⟩) hS (fun q _ h => hFc q h) hFc (fun  u t H1 locs ht hvm hw hB hz1 hk1 hS => ?_)
            obtain ⟨z0_318, z1_319, z2_320, z3_321, z4_322, q5_323, Ln_324, Pn_325, kc_326, ks_327, hxt_327, hP1, hK1, hD1⟩ := hB
            rw [ht] at hP1
            have hK1 := va_K.moved hvm.symm hK1
            obtain ⟨hP, hD⟩ := va_joinP (X := [(h0, .inr (14, [.ref q_t, .int (zI (z16_n)), .int (zI (z0_106)), .int (zI (z1_107)), .int (zI (z2_108)), .int (zI (z3_109)), .int (zI (z4_110)), .ref q5_111, v16_8, v16_9, v16_10, v16_11, v16_12, v16_13])), (q_t, .inl (cT, 8192, .inl (fun j : Nat => zI (a_t (j : Int)))))]) (cx := [(h0, .inr (14, [.ref q_t, .int (zI (z16_n)), .int (zI (z0_106)), .int (zI (z1_107)), .int (zI (z2_108)), .int (zI (z3_109)), .int (zI (z4_110)), .ref q5_111, v16_8, v16_9, v16_10, v16_11, v16_12, v16_13])), (q_t, .inl (cT, 8192, .inl (fun j : Nat => zI (a_t (j : Int)))))]) (wr := []) (rx := [(h0, .inr (14, [.ref q_t, .int (zI (z16_n)), .int (zI (z0_318)), .int (zI (z1_319)), .int (zI (z2_320)), .int (zI (z3_321)), .int (zI (z4_322)), .ref q5_323, v16_8, v16_9, v16_10, v16_11, v16_12, v16_13])), (q_t, .inl (cT, 8192, .inl (fun j : Nat => zI (a_t (j : Int)))))]) (pl := va_pl Ln_112 (pE Pw_302)) (pl1 := va_pl Ln_324 (pE Pn_325)) hP hD [0, 1] [] rfl rfl (by decide) (by decide) hk1 hFc hP1 hD1
            have hK := (hK.sub (tys' := [(cO, .object "java/lang/Object"), (cI, .int), (cZ, .boolean)]) [1, 2, 3] rfl).app hK1
            have hrmC := hxt_327.1.1
            rw [ht] at hrmC
            refine W_tightS (hrmA.trans hrmC) ?_
            have hrb := hxt_327.1.2
            generalize H1 = H at hP hS ⊢
            have hP : va_P (dC, dI) vwQ ([(h0, .inr (14, [.ref q_t, .int (zI (z16_n)), .int (zI (z0_318)), .int (zI (z1_319)), .int (zI (z2_320)), .int (zI (z3_321)), .int (zI (z4_322)), .ref q5_323, v16_8, v16_9, v16_10, v16_11, v16_12, v16_13])), (q_t, .inl (cT, 8192, .inl (fun j : Nat => zI (a_t (j : Int)))))] ++ va_pl Ln_324 (pE Pn_325)) H := hP
            have hD : va_D A ([(h0, .inr (14, [.ref q_t, .int (zI (z16_n)), .int (zI (z0_318)), .int (zI (z1_319)), .int (zI (z2_320)), .int (zI (z3_321)), .int (zI (z4_322)), .ref q5_323, v16_8, v16_9, v16_10, v16_11, v16_12, v16_13])), (q_t, .inl (cT, 8192, .inl (fun j : Nat => zI (a_t (j : Int)))))] ++ va_pl Ln_324 (pE Pn_325)) := hD
            have hK : va_K (dC, dI) vwQ [(cO, .object "java/lang/Object"), (cI, .int), (cZ, .boolean), (cT, .byte)] s := hK
            refine W.widen (k := (((((0 + kc_19) + kc_74) + kc_114) + ((5 + ((Pn_113.an (Pn_113.le q5_111) : Int) + 2) / 9).toNat)) + kc_326)) (n := (((((0 + ks_20) + ks_75) + ks_115) + ((5 * (Pn_113.an (Pn_113.le q5_111) : Int) + 40).toNat)) + ks_327)) (by omega) (by omega) ?_
            obtain ⟨rk_328, rk_329, rk_330, rk_331, rk_332, hu_332⟩ := hxt_327.2
            have htk_333 := hu_332.1.2
            have hrg_333 := hu_332.1.1
            have htq_333 := htk_333.1
            have hgo9 := hkd_123.go (by omega)
            have hkd_338 := hu_332.2.1
            have hX_kv := hkd_338.2
            have hu_334 := hu_332.2.2
            have hex_335 : EXT9 Ln_112 Pw_302 Ln_324 Pn_325 := hu_334.1
            have hke_336 : KEG [] Ln_112 Pw_302 Ln_324 Pn_325 := hex_335.kegR hak_307
            have hak_337 : GLR Ln_324 Pn_325 cO cI cZ sx_ed := hak_307.txt hex_335 hu_334.2.1
            have hsm_339 := (hex_335 xr hq_310.1).2
            have : Pn_325.ro xr = Pw_302.ro xr := hsm_339.1 0
            have : Pn_325.rt xr = Pw_302.rt xr := hsm_339.1 1
            have : Pn_325.ra xr = Pw_302.ra xr := hsm_339.1 2
            have : Pn_325.rb xr = Pw_302.rb xr := hsm_339.1 3
            have : Pn_325.rA xr = Pw_302.rA xr := hsm_339.1 4
            have : Pn_325.rB xr = Pw_302.rB xr := hsm_339.1 5
            have : Pn_325.rg xr = Pw_302.rg xr := hsm_339.1 6
            have : Pn_325.ek xr = Pw_302.ek xr := hsm_339.2.1 8
            have hq_340 : HID (la ∈ Ln_324 ∧ Pn_325.kd la = 30) := hke_336.mem hq_309.1 hq_309.2 (by decide)
            have hq_341 : HID (xr ∈ Ln_324 ∧ Pn_325.kd xr = 17) := hke_336.mem hq_310.1 hq_310.2 (by decide)
            have hE_342 : HID (Pn_325.ek xr ≠ 1) := (by rw [hke_336.ek hq_310.1 hq_310.2 (by decide)]; exact hE_311.out)
            have hA_343 : KEG [] L P Ln_324 Pn_325 := hA_312.trans hke_336
            have : Pn_325.lz la = Pw_302.lz la := (hex_335 la hq_309.1).2.1 0
            have hek_344 : HID (Pn_325.ek la = 12) := (by rw [hke_336.ek hq_309.1 hq_309.2 (by decide)]; exact hek_313.out)
            have how_345 : HID (Pn_325.ow la = la) := ((hke_336.1 la hq_309.1 (by rw [hq_309.2]; decide)).2.2.2.1 hq_309.2 how_314.out).1
            have hcz := (((hke_336.1 la hq_309.1 (by rw [hq_309.2]; decide)).2.2.2.1 hq_309.2 how_314.out).2 (by simp)).1
            have hX_tx := hu_334.2.2.1
            have hxk9 := hu_334.2.2.2
            have hcx_346 : CHG (fun z => z = xr) L P Ln_324 Pn_325 := hcx_315.trans hex_335.chg (fun z m q => q.elim)
            have hnn_333 := TKV.nn (k := z1_319) (d := z0_318 - z2_320) (by omega)
            have hnx_347 : NTX L P Ln_324 Pn_325 := hnx_316.trans (NTX.ext hex_335 hu_334.2.1)
            have hri_348 : (((((((0 + ks_20) + ks_75) + ks_115) + ((5 * (Pn_113.an (Pn_113.le q5_111) : Int) + 40).toNat)) + ks_327) : Nat) : Int) ≤ 45 * (z2_320 - z16_place) - TKV z16_kind (z16_at - z16_place) + TKV (z1_319) (z0_318 - z2_320) - 15 ∧ (((((((0 + kc_19) + kc_74) + kc_114) + ((5 + ((Pn_113.an (Pn_113.le q5_111) : Int) + 2) / 9).toNat)) + kc_326) : Nat) : Int) ≤ 8 * (z2_320 - z16_place) - TKW z16_kind (z16_at - z16_place) + TKW (z1_319) (z0_318 - z2_320) - 9 := (by omega)
            clear hrb hri_132
            skip
            refine lv_aload_n hx hb dX16_row_102 rfl (lv_at hl 0 rfl) ?_
            refine lv_aload_n hx hb dX16_row_103 rfl (lv_at hl 1 rfl) ?_
            refine lv_iconst (v := 1) hx hb dX16_row_104 (by decide) ?_
            have hX_tn := htk_333
            have hX_g := hak_337
            have hX_x := hq_341.1
            have hX_k := hq_341.2
            have hX_la := (show la ∈ Ln_324 ∧ Pn_325.kd la = 30 ∧ Pn_325.ek la = 12 ∧ Pn_325.ow la = la from ⟨hq_340.1, hq_340.2, hek_344.out, how_345.out⟩)
            have hPc := hP.part (X := [(h0, .inr (14, [.ref q_t, .int (zI (z16_n)), .int (zI (z0_318)), .int (zI (z1_319)), .int (zI (z2_320)), .int (zI (z3_321)), .int (zI (z4_322)), .ref q5_323, v16_8, v16_9, v16_10, v16_11, v16_12, v16_13])), (q_t, .inl (cT, 8192, .inl (fun j : Nat => zI (a_t (j : Int)))))]) (cx := [(h0, .inr (14, [.ref q_t, .int (zI (z16_n)), .int (zI (z0_318)), .int (zI (z1_319)), .int (zI (z2_320)), .int (zI (z3_321)), .int (zI (z4_322)), .ref q5_323, v16_8, v16_9, v16_10, v16_11, v16_12, v16_13])), (q_t, .inl (cT, 8192, .inl (fun j : Nat => zI (a_t (j : Int)))))]) (pl := va_pl Ln_324 (pE Pn_325)) [0, 1] rfl
            have hDc := hD.part (X := [(h0, .inr (14, [.ref q_t, .int (zI (z16_n)), .int (zI (z0_318)), .int (zI (z1_319)), .int (zI (z2_320)), .int (zI (z3_321)), .int (zI (z4_322)), .ref q5_323, v16_8, v16_9, v16_10, v16_11, v16_12, v16_13])), (q_t, .inl (cT, 8192, .inl (fun j : Nat => zI (a_t (j : Int)))))]) (cx := [(h0, .inr (14, [.ref q_t, .int (zI (z16_n)), .int (zI (z0_318)), .int (zI (z1_319)), .int (zI (z2_320)), .int (zI (z3_321)), .int (zI (z4_322)), .ref q5_323, v16_8, v16_9, v16_10, v16_11, v16_12, v16_13])), (q_t, .inl (cT, 8192, .inl (fun j : Nat => zI (a_t (j : Int)))))]) (pl := va_pl Ln_324 (pE Pn_325)) [0, 1] (by decide) rfl
            have hKc := hK.sub (tys' := [(cT, .byte), (cO, .object "java/lang/Object"), (cI, .int), (cZ, .boolean)]) [3, 0, 1, 2] rfl
            have hFc := va_freeP (X := [(h0, .inr (14, [.ref q_t, .int (zI (z16_n)), .int (zI (z0_318)), .int (zI (z1_319)), .int (zI (z2_320)), .int (zI (z3_321)), .int (zI (z4_322)), .ref q5_323, v16_8, v16_9, v16_10, v16_11, v16_12, v16_13])), (q_t, .inl (cT, 8192, .inl (fun j : Nat => zI (a_t (j : Int)))))]) (cx := [(h0, .inr (14, [.ref q_t, .int (zI (z16_n)), .int (zI (z0_318)), .int (zI (z1_319)), .int (zI (z2_320)), .int (zI (z3_321)), .int (zI (z4_322)), .ref q5_323, v16_8, v16_9, v16_10, v16_11, v16_12, v16_13])), (q_t, .inl (cT, 8192, .inl (fun j : Nat => zI (a_t (j : Int)))))]) (pl := va_pl Ln_324 (pE Pn_325)) hD hS hA [0, 1] rfl
            refine W_knowS (fun hrmA => ?_)
            refine vx_callv (vx_runV (As := [.ref xr, .int 1]) (rest := []) ⟨hx, hb, hml, hown, hts⟩ (c_X16_opBR l dC dI cI cZ h0 z16_n z0_318 z1_319 z2_320 z3_321 z4_322 v16_8 v16_9 v16_10 v16_11 v16_12 v16_13 q_t cT a_t q5_323 Ln_324 Pn_325 sa_RX16_9 cO la sx_ed xr (by omega) (by omega) (by omega) (by omega) (by omega) (by omega) hR_a_t hX_g hX_la hX_x hX_k (by omega) hX_kv hX_tn H.size sv_RX16_9 sa_RX16_119 sv_RX16_119 sa_RX16_100 sv_RX16_100 sa_RX16_117 sv_RX16_117 sa_RX16_98 sv_RX16_98 H) (cwV 2 hts g_X16_rowR_X16_opBR rfl rfl rfl (by decide +kernel) ⟨(Nat.le_of_ble_eq_true rfl), (Nat.le_of_ble_eq_true rfl)⟩) ⟨fun a U g mk q => by obtain ⟨q0, q1, qP, qK, qD, e0, e1, e2, e3, e4, e5, e6, e7, e8, e9, e10, e11, e12, e13, e14⟩ := q; exact ⟨q0, q1, qP, va_K.moved (u := U) (U := U.calling g mk a) (Vm.Alike.refl U.vm) qK, qD, vk_R.same (u := U) (U := U.calling g mk a) rfl e0, va_Z.moved (u := U) (U := U.calling g mk a) (Vm.Alike.refl U.vm) e1, vs_S.moved (u := U) (U := U.calling g mk a) (Vm.Alike.refl U.vm) e2, va_Nw.same rfl (u := U) (U := U.calling g mk a) rfl e3, vk_R.same (u := U) (U := U.calling g mk a) rfl e4, vs_S.moved (u := U) (U := U.calling g mk a) (Vm.Alike.refl U.vm) e5, vs_S.moved (u := U) (U := U.calling g mk a) (Vm.Alike.refl U.vm) e6, vk_R.same (u := U) (U := U.calling g mk a) rfl e7, vk_R.same (u := U) (U := U.calling g mk a) rfl e8, vs_S.moved (u := U) (U := U.calling g mk a) (Vm.Alike.refl U.vm) e9, vk_R.same (u := U) (U := U.calling g mk a) rfl e10, vs_S.moved (u := U) (U := U.calling g mk a) (Vm.Alike.refl U.vm) e11, e12, vx_Zq.moved (u := U) (U := U.calling g mk a) (Vm.Alike.refl U.vm) e13, vx_Zq.moved (u := U) (U := U.calling g mk a) (Vm.Alike.refl U.vm) e14⟩, va_recv hKc hPc (ci := 14) (q0 := 0) rfl rfl, fun U hU hW => ⟨rfl, by rw [hU], by rw [hU]; exact hPc, va_K.moved hW.alike hKc, hDc.weaken (fun _ _ _ _ => trivial), vk_R.warm hW hp4, va_Z.go hp3 hS hFc hU hW.alike, vs_S.go hp2 hS hFc hU hW.alike, va_Nw.warmC hW hp5, vk_R.warm hW hp6, vs_S.go hp7 hS hFc hU hW.alike, vs_S.go hp8 hS hFc hU hW.alike, vk_R.warm hW hp9, vk_R.warm hW hp10, vs_S.go hp11 hS hFc hU hW.alike, vk_R.warm hW hp12, vs_S.go hp13 hS hFc hU hW.alike, hU, vx_Zq.go hp14 hS hFc hU hW.alike, vx_Zq.go hp15 hS hFc hU hW.alike⟩⟩ rfl rfl hl.1 rfl (lv_room (Nat.le_of_ble_eq_true rfl)) dX16_row_105 ⟨(show (((((0 + kc_19) + kc_74) + kc_114) + ((5 + ((Pn_113.an (Pn_113.le q5_111) : Int) + 2) / 9).toNat)) + kc_326) + ((z16_n - z0_318 + 20).toNat) ≤ (8 * (z16_n - z16_place) - TKW z16_kind (z16_at - z16_place) + 160).toNat from (rmT (by omega) (by omega))), (show (((((0 + ks_20) + ks_75) + ks_115) + ((5 * (Pn_113.an (Pn_113.le q5_111) : Int) + 40).toNat)) + ks_327) + ((10 * (z16_n - z0_318) + 120).toNat) ≤ (45 * (z16_n - z16_place) - TKV z16_kind (z16_at - z16_place) + 500).toNat from (rmT (by omega) (by omega)))⟩) hS (fun q _ h => hFc q h) hFc (fun q _ h => hFc q h) (fun E ce q9 u t H1 locs ht hvm _ hB hz1 hk1 hS hce hcv hcl => ?_) (fun  u t H1 locs ht hvm hw hB hz1 hk1 hS => ?_)
            · obtain ⟨rfl, zp_349, Ln_350, Pn_351, kc_352, ks_353, hxt_354, hP1, hD1⟩ := hB
              rw [ht] at hP1
              obtain ⟨hP, hD⟩ := va_joinP (X := [(h0, .inr (14, [.ref q_t, .int (zI (z16_n)), .int (zI (z0_318)), .int (zI (z1_319)), .int (zI (z2_320)), .int (zI (z3_321)), .int (zI (z4_322)), .ref q5_323, v16_8, v16_9, v16_10, v16_11, v16_12, v16_13])), (q_t, .inl (cT, 8192, .inl (fun j : Nat => zI (a_t (j : Int)))))]) (cx := [(h0, .inr (14, [.ref q_t, .int (zI (z16_n)), .int (zI (z0_318)), .int (zI (z1_319)), .int (zI (z2_320)), .int (zI (z3_321)), .int (zI (z4_322)), .ref q5_323, v16_8, v16_9, v16_10, v16_11, v16_12, v16_13])), (q_t, .inl (cT, 8192, .inl (fun j : Nat => zI (a_t (j : Int)))))]) (wr := []) (rx := [(q_t, .inl (cT, 8192, .inl (fun j : Nat => zI (a_t (j : Int))))), (q9, .inr (15, [.null, .null, .null, .null, .null, .int 0, .int (zI (zp_349))]))]) (pl := va_pl Ln_324 (pE Pn_325)) (pl1 := va_pl Ln_350 (pE Pn_351)) hP hD [0, 1] [] rfl rfl (by decide) (by decide) hk1 hFc hP1 hD1
              have hrmC := hxt_354.1.1
              rw [ht] at hrmC
              refine vx_tightS (hrmA.trans hrmC) ?_
              have hrb := hxt_354.1.2
              generalize H1 = H at hP hS hce ⊢
              have hP : va_P (dC, dI) vwQ ([(q_t, .inl (cT, 8192, .inl (fun j : Nat => zI (a_t (j : Int))))), (q9, .inr (15, [.null, .null, .null, .null, .null, .int 0, .int (zI (zp_349))]))] ++ va_pl Ln_350 (pE Pn_351)) H := hP
              have hD : va_D A ([(q_t, .inl (cT, 8192, .inl (fun j : Nat => zI (a_t (j : Int))))), (q9, .inr (15, [.null, .null, .null, .null, .null, .int 0, .int (zI (zp_349))]))] ++ va_pl Ln_350 (pE Pn_351)) := hD
              have hzp : 0 ≤ zp_349 ∧ zp_349 ≤ 8192 := hxt_354.2.1
              subst hQ
              refine vx_knowS (fun hrm9 => ?_)
              refine vx_widen (k := ((8 * (z16_n - z16_place) - TKW z16_kind (z16_at - z16_place) + 160).toNat)) (n := ((45 * (z16_n - z16_place) - TKV z16_kind (z16_at - z16_place) + 500).toNat)) (rmW (by omega)) (rmW (by omega)) ?_
              exact vx_out (fun x9 h9 => (hnt x9 h9).elim) hlocks hce hcv hcl (fun t ht hvm => ⟨(), trivial, ⟨rfl, zp_349, Ln_350, Pn_351, ((((((0 + kc_19) + kc_74) + kc_114) + ((5 + ((Pn_113.an (Pn_113.le q5_111) : Int) + 2) / 9).toNat)) + kc_326) + kc_352), ((((((0 + ks_20) + ks_75) + ks_115) + ((5 * (Pn_113.an (Pn_113.le q5_111) : Int) + 40).toNat)) + ks_327) + ks_353), ⟨⟨(by rw [ht, ← hp16]; exact hrm9), (by omega)⟩, ⟨(by omega), ⟨hA_343.trans hxt_354.2.2.1, hxt_354.2.2.2.1, (hcx_346.cpa hg00.owa (fun z _ q => by rw [show z = xr from q, hk00]; decide)).trans hA_343 hxt_354.2.2.2.2.1, hnx_347.trans hxt_354.2.2.2.2.2⟩⟩⟩, by rw [ht]; exact hP, hD⟩, hS.F ht⟩) hS.2.2 (Nat.le_refl _) (Nat.le_refl _)
            obtain ⟨z0_355, z1_356, z2_357, z3_358, z4_359, q5_360, Ln_361, Pn_362, kc_363, ks_364, hxt_364, hP1, hK1, hD1⟩ := hB
            rw [ht] at hP1
            have hK1 := va_K.moved hvm.symm hK1
            obtain ⟨hP, hD⟩ := va_joinP (X := [(h0, .inr (14, [.ref q_t, .int (zI (z16_n)), .int (zI (z0_318)), .int (zI (z1_319)), .int (zI (z2_320)), .int (zI (z3_321)), .int (zI (z4_322)), .ref q5_323, v16_8, v16_9, v16_10, v16_11, v16_12, v16_13])), (q_t, .inl (cT, 8192, .inl (fun j : Nat => zI (a_t (j : Int)))))]) (cx := [(h0, .inr (14, [.ref q_t, .int (zI (z16_n)), .int (zI (z0_318)), .int (zI (z1_319)), .int (zI (z2_320)), .int (zI (z3_321)), .int (zI (z4_322)), .ref q5_323, v16_8, v16_9, v16_10, v16_11, v16_12, v16_13])), (q_t, .inl (cT, 8192, .inl (fun j : Nat => zI (a_t (j : Int)))))]) (wr := []) (rx := [(h0, .inr (14, [.ref q_t, .int (zI (z16_n)), .int (zI (z0_355)), .int (zI (z1_356)), .int (zI (z2_357)), .int (zI (z3_358)), .int (zI (z4_359)), .ref q5_360, v16_8, v16_9, v16_10, v16_11, v16_12, v16_13])), (q_t, .inl (cT, 8192, .inl (fun j : Nat => zI (a_t (j : Int)))))]) (pl := va_pl Ln_324 (pE Pn_325)) (pl1 := va_pl Ln_361 (pE Pn_362)) hP hD [0, 1] [] rfl rfl (by decide) (by decide) hk1 hFc hP1 hD1
            have hK := (hK.sub (tys' := []) [] rfl).app hK1
            have hrmC := hxt_364.1.1
            rw [ht] at hrmC
            refine W_tightS (hrmA.trans hrmC) ?_
            have hrb := hxt_364.1.2
            generalize H1 = H at hP hS ⊢
            have hP : va_P (dC, dI) vwQ ([(h0, .inr (14, [.ref q_t, .int (zI (z16_n)), .int (zI (z0_355)), .int (zI (z1_356)), .int (zI (z2_357)), .int (zI (z3_358)), .int (zI (z4_359)), .ref q5_360, v16_8, v16_9, v16_10, v16_11, v16_12, v16_13])), (q_t, .inl (cT, 8192, .inl (fun j : Nat => zI (a_t (j : Int)))))] ++ va_pl Ln_361 (pE Pn_362)) H := hP
            have hD : va_D A ([(h0, .inr (14, [.ref q_t, .int (zI (z16_n)), .int (zI (z0_355)), .int (zI (z1_356)), .int (zI (z2_357)), .int (zI (z3_358)), .int (zI (z4_359)), .ref q5_360, v16_8, v16_9, v16_10, v16_11, v16_12, v16_13])), (q_t, .inl (cT, 8192, .inl (fun j : Nat => zI (a_t (j : Int)))))] ++ va_pl Ln_361 (pE Pn_362)) := hD
            have hK : va_K (dC, dI) vwQ [(cT, .byte), (cO, .object "java/lang/Object"), (cI, .int), (cZ, .boolean)] s := hK
            refine W.widen (k := ((((((0 + kc_19) + kc_74) + kc_114) + ((5 + ((Pn_113.an (Pn_113.le q5_111) : Int) + 2) / 9).toNat)) + kc_326) + kc_363)) (n := ((((((0 + ks_20) + ks_75) + ks_115) + ((5 * (Pn_113.an (Pn_113.le q5_111) : Int) + 40).toNat)) + ks_327) + ks_364)) (by omega) (by omega) ?_
            obtain ⟨rk_365, rk_366, rk_367, rk_368, rk_369, hu_369⟩ := hxt_364.2
            have htk_370 := hu_369.2.2.2.2.1.2
            have hrg_370 := hu_369.2.2.2.2.1.1
            have htq_370 := htk_370.1
            have hu_371 := HID.mk (hu_369)
            replace hu_369 := HID.mk hu_369
            replace hxt_364 := HID.mk hxt_364
            have hoc9 := hu_371.2.2.1.2
            have hoq9 : OPQ (Pn_362.rB xr) (Pn_362.rb xr) := hu_371.2.2.1.1
            have hgo9 := hkd_338.go (by omega)
            have hkd_372 := hu_371.2.2.2.2.2.1
            have hX_kv := hkd_372.2
            have hq_373 : HID (la ∈ Ln_361 ∧ Pn_362.kd la = 30) := hu_371.1.mem hq_340.1 hq_340.2 (by decide)
            have hq_374 : HID (xr ∈ Ln_361 ∧ Pn_362.kd xr = 17) := hu_371.1.mem hq_341.1 hq_341.2 (by decide)
            have hE_375 : HID (Pn_362.ek xr ≠ 1) := (by rw [hu_371.1.ek hq_341.1 hq_341.2 (by decide)]; exact hE_342.out)
            have hA_376 : KEG [] L P Ln_361 Pn_362 := hA_343.trans hu_371.1
            have : Pn_362.lz la = Pn_325.lz la := (hu_371.2.2.2.1 la hq_340.1 (fun e9 => absurd e9 (kd_ne hq_340.2 hq_341.2 (by decide)))).2.1 0
            have hek_377 : HID (Pn_362.ek la = 12) := (by rw [hu_371.1.ek hq_340.1 hq_340.2 (by decide)]; exact hek_344.out)
            have how_378 : HID (Pn_362.ow la = la) := ((hu_371.1.1 la hq_340.1 (by rw [hq_340.2]; decide)).2.2.2.1 hq_340.2 how_345.out).1
            have hcz := (((hu_371.1.1 la hq_340.1 (by rw [hq_340.2]; decide)).2.2.2.1 hq_340.2 how_345.out).2 (by simp)).1
            have hX_tx := hu_371.2.2.2.2.2.2.1
            have hxk9 := hu_371.2.2.2.2.2.2.2
            have hcx_379 : CHG (fun z => z = xr) L P Ln_361 Pn_362 := hcx_346.trans hu_371.2.2.2.1 (fun z m q => q)
            have hnn_370 := TKV.nn (k := z1_356) (d := z0_355 - z2_357) (by omega)
            have hnx_380 : NTX L P Ln_361 Pn_362 := hnx_347.trans hu_371.2.2.1.2.2.2.2.2.2.2.2.2.2
            have hri_381 : ((((((((0 + ks_20) + ks_75) + ks_115) + ((5 * (Pn_113.an (Pn_113.le q5_111) : Int) + 40).toNat)) + ks_327) + ks_364) : Nat) : Int) ≤ 45 * (z2_357 - z16_place) - TKV z16_kind (z16_at - z16_place) + TKV (z1_356) (z0_355 - z2_357) - 60 ∧ ((((((((0 + kc_19) + kc_74) + kc_114) + ((5 + ((Pn_113.an (Pn_113.le q5_111) : Int) + 2) / 9).toNat)) + kc_326) + kc_363) : Nat) : Int) ≤ 8 * (z2_357 - z16_place) - TKW z16_kind (z16_at - z16_place) + TKW (z1_356) (z0_355 - z2_357) - 17 := (by omega)
            clear hrb hri_348
            skip
            have hob9 := hoq9
            subst hQ
            refine W_knowS (fun hrm9 => ?_)
            refine W.widen (k := ((8 * (z16_n - z16_place) - TKW z16_kind (z16_at - z16_place) + 160).toNat)) (n := ((45 * (z16_n - z16_place) - TKV z16_kind (z16_at - z16_place) + 500).toNat)) (rmW (by omega)) (rmW (by omega)) ?_
            refine vx_ret ?_
            exact W.vret hx hb hr (fun t ht hW => ⟨⟨(), rfl, trivial, z0_355, z1_356, z2_357, z3_358, z4_359, q5_360, Ln_361, Pn_362, ((((((0 + kc_19) + kc_74) + kc_114) + ((5 + ((Pn_113.an (Pn_113.le q5_111) : Int) + 2) / 9).toNat)) + kc_326) + kc_363), ((((((0 + ks_20) + ks_75) + ks_115) + ((5 * (Pn_113.an (Pn_113.le q5_111) : Int) + 40).toNat)) + ks_327) + ks_364), ⟨⟨(by rw [ht, ← hp16]; exact hrm9), (by omega)⟩, ⟨(by omega), (by omega), (by omega), (by omega), (by omega), ⟨hA_376, hu_371.2.1, ⟨⟨(hkd_372.mono (by omega)).ms (by omega) (by omega) (by omega), by omega, by omega⟩, ⟨by omega, (by first | exact OPQ.z (by omega) | exact hoa9.to (by omega) (by omega)), (by first | exact OPQ.z (by omega) | exact hob9.to (by omega) (by omega))⟩, hnx_380⟩, hcx_379, ⟨⟨by omega, by omega, by omega⟩, htk_370⟩, hkd_372.mono (by omega), hX_tx⟩⟩⟩, by rw [ht]; exact hP, va_K.moved hW.alike hK, hD⟩, hS.F ht⟩) hS.2.2 dX16_row_108
          · have yb94 : (Pw_302.ro xr : Int) = (0 : Int) := (zI_eq (a := Pw_302.ro xr) (b := 0) (by omega) (by omega) (by omega) (by omega)).mp b94
            subst hQ
            refine W_knowS (fun hrm9 => ?_)
            refine W.widen (k := ((8 * (z16_n - z16_place) - TKW z16_kind (z16_at - z16_place) + 160).toNat)) (n := ((45 * (z16_n - z16_place) - TKV z16_kind (z16_at - z16_place) + 500).toNat)) (rmW (by omega)) (rmW (by omega)) ?_
            refine vx_ret ?_
            exact W.vret hx hb hr (fun t ht hW => ⟨⟨(), rfl, trivial, z0_106, z1_107, z2_108, z3_109, z4_110, q5_111, Ln_112, Pw_302, ((((0 + kc_19) + kc_74) + kc_114) + ((5 + ((Pn_113.an (Pn_113.le q5_111) : Int) + 2) / 9).toNat)), ((((0 + ks_20) + ks_75) + ks_115) + ((5 * (Pn_113.an (Pn_113.le q5_111) : Int) + 40).toNat)), ⟨⟨(by rw [ht, ← hp16]; exact hrm9), (by omega)⟩, ⟨(by omega), (by omega), (by omega), (by omega), (by omega), ⟨hA_312, hak_307, ⟨⟨(hkd_123.mono (by omega)).ms (by omega) (by omega) (by omega), by omega, by omega⟩, ⟨by omega, (by first | exact OPQ.z (by omega) | exact hoa9.to (by omega) (by omega)), (by first | exact OPQ.z (by omega) | exact hob9.to (by omega) (by omega))⟩, hnx_316⟩, hcx_315, ⟨⟨by omega, by omega, by omega⟩, htk_121⟩, hkd_123.mono (by omega), hX_tx⟩⟩⟩, by rw [ht]; exact hP, va_K.moved hW.alike hK, hD⟩, hS.F ht⟩) hS.2.2 dX16_row_97
    · have yb47 : ¬ (z_99 : Int) = (0 : Int) := fun q => b47 ((zI_eq (a := z_99) (b := 0) (by omega) (by omega) (by omega) (by omega)).mpr q)
      have hni9 := TKQ.is htk_81 (hzz_99.2.2.2 (by omega))
      have hni8 := htk_81.2.2.2 (by omega)
      refine lv_aload_n hx hb dX16_row_50 rfl (lv_at hl 0 rfl) ?_
      have hPc := hP.part (X := [(h0, .inr (14, [.ref q_t, .int (zI (z16_n)), .int (zI (z0_66)), .int (zI (z1_67)), .int (zI (z2_68)), .int (zI (z3_69)), .int (zI (z4_70)), .ref q5_71, v16_8, v16_9, v16_10, v16_11, v16_12, v16_13])), (q_t, .inl (cT, 8192, .inl (fun j : Nat => zI (a_t (j : Int)))))]) (cx := [(h0, .inr (14, [.ref q_t, .int (zI (z16_n)), .int (zI (z0_66)), .int (zI (z1_67)), .int (zI (z2_68)), .int (zI (z3_69)), .int (zI (z4_70)), .ref q5_71, v16_8, v16_9, v16_10, v16_11, v16_12, v16_13])), (q_t, .inl (cT, 8192, .inl (fun j : Nat => zI (a_t (j : Int)))))]) (pl := va_pl Ln_72 (pE Pn_73)) [0, 1] rfl
      have hDc := hD.part (X := [(h0, .inr (14, [.ref q_t, .int (zI (z16_n)), .int (zI (z0_66)), .int (zI (z1_67)), .int (zI (z2_68)), .int (zI (z3_69)), .int (zI (z4_70)), .ref q5_71, v16_8, v16_9, v16_10, v16_11, v16_12, v16_13])), (q_t, .inl (cT, 8192, .inl (fun j : Nat => zI (a_t (j : Int)))))]) (cx := [(h0, .inr (14, [.ref q_t, .int (zI (z16_n)), .int (zI (z0_66)), .int (zI (z1_67)), .int (zI (z2_68)), .int (zI (z3_69)), .int (zI (z4_70)), .ref q5_71, v16_8, v16_9, v16_10, v16_11, v16_12, v16_13])), (q_t, .inl (cT, 8192, .inl (fun j : Nat => zI (a_t (j : Int)))))]) (pl := va_pl Ln_72 (pE Pn_73)) [0, 1] (by decide) rfl
      have hKc := hK.sub (tys' := [(cT, .byte)]) [3] rfl
      have hFc := va_freeP (X := [(h0, .inr (14, [.ref q_t, .int (zI (z16_n)), .int (zI (z0_66)), .int (zI (z1_67)), .int (zI (z2_68)), .int (zI (z3_69)), .int (zI (z4_70)), .ref q5_71, v16_8, v16_9, v16_10, v16_11, v16_12, v16_13])), (q_t, .inl (cT, 8192, .inl (fun j : Nat => zI (a_t (j : Int)))))]) (cx := [(h0, .inr (14, [.ref q_t, .int (zI (z16_n)), .int (zI (z0_66)), .int (zI (z1_67)), .int (zI (z2_68)), .int (zI (z3_69)), .int (zI (z4_70)), .ref q5_71, v16_8, v16_9, v16_10, v16_11, v16_12, v16_13])), (q_t, .inl (cT, 8192, .inl (fun j : Nat => zI (a_t (j : Int)))))]) (pl := va_pl Ln_72 (pE Pn_73)) hD hS hA [0, 1] rfl
      refine W_knowS (fun hrmA => ?_)
      refine va_callv (va_runV (As := []) (rest := []) ⟨hx, hb, hml, hown, hts⟩ (c_X16_nextK l dC dI h0 z16_n z0_66 z1_67 z2_68 z3_69 z4_70 (.ref q5_71) v16_8 v16_9 v16_10 v16_11 v16_12 v16_13 q_t cT a_t Ln_72 Pn_73 sa_RX16_9 (by omega) (by omega) (by omega) (by omega) (by omega) (by omega) hR_a_t (by omega) H.size sa_RX16_9 H sv_RX16_9 sa_RX16_119 sv_RX16_119 sa_RX16_100 sv_RX16_100 sa_RX16_117 sa_RX16_100 sv_RX16_117 sa_RX16_98 sv_RX16_98) (cwV 0 hts g_X16_rowR_X16_nextK rfl rfl rfl (by decide +kernel) ⟨(Nat.le_of_ble_eq_true rfl), (Nat.le_of_ble_eq_true rfl)⟩) ⟨fun a U g mk q => by obtain ⟨q0, q1, qP, qK, qD, e0, e1, e2, e3, e4, e5, e6, e7, e8, e9, e10, e11, e12⟩ := q; exact ⟨q0, q1, qP, va_K.moved (u := U) (U := U.calling g mk a) (Vm.Alike.refl U.vm) qK, qD, vk_R.same (u := U) (U := U.calling g mk a) rfl e0, e1, va_Z.moved (u := U) (U := U.calling g mk a) (Vm.Alike.refl U.vm) e2, vs_S.moved (u := U) (U := U.calling g mk a) (Vm.Alike.refl U.vm) e3, va_Nw.same rfl (u := U) (U := U.calling g mk a) rfl e4, vk_R.same (u := U) (U := U.calling g mk a) rfl e5, vs_S.moved (u := U) (U := U.calling g mk a) (Vm.Alike.refl U.vm) e6, vs_S.moved (u := U) (U := U.calling g mk a) (Vm.Alike.refl U.vm) e7, vk_R.same (u := U) (U := U.calling g mk a) rfl e8, vk_R.same (u := U) (U := U.calling g mk a) rfl e9, vs_S.moved (u := U) (U := U.calling g mk a) (Vm.Alike.refl U.vm) e10, vk_R.same (u := U) (U := U.calling g mk a) rfl e11, vs_S.moved (u := U) (U := U.calling g mk a) (Vm.Alike.refl U.vm) e12⟩, va_recv hKc hPc (ci := 14) (q0 := 0) rfl rfl, fun U hU hW => ⟨rfl, by rw [hU], by rw [hU]; exact hPc, va_K.moved hW.alike hKc, hDc.weaken (fun _ _ _ _ => trivial), vk_R.warm hW hp4, hU, va_Z.go hp3 hS hFc hU hW.alike, vs_S.go hp2 hS hFc hU hW.alike, va_Nw.warmC hW hp5, vk_R.warm hW hp6, vs_S.go hp7 hS hFc hU hW.alike, vs_S.go hp8 hS hFc hU hW.alike, vk_R.warm hW hp9, vk_R.warm hW hp10, vs_S.go hp11 hS hFc hU hW.alike, vk_R.warm hW hp12, vs_S.go hp13 hS hFc hU hW.alike⟩⟩ rfl rfl hl.1 rfl (lv_room (Nat.le_of_ble_eq_true rfl)) dX16_row_51 ⟨(show ((0 + kc_19) + kc_74) + ((z16_n - z0_66 + 20).toNat) ≤ (8 * (z16_n - z16_place) - TKW z16_kind (z16_at - z16_place) + 160).toNat from (rmT (by omega) (by omega))), (show ((0 + ks_20) + ks_75) + ((10 * (z16_n - z0_66) + 120).toNat) ≤ (45 * (z16_n - z16_place) - TKV z16_kind (z16_at - z16_place) + 500).toNat from (rmT (by omega) (by omega)))⟩) hS (fun q _ h => hFc q h) hFc (fun  u t H1 locs ht hvm hw hB hz1 hk1 hS => ?_)
      obtain ⟨z0_382, z1_383, z2_384, z3_385, z4_386, q5_387, Ln_388, Pn_389, kc_390, ks_391, hxt_391, hP1, hK1, hD1⟩ := hB
      rw [ht] at hP1
      have hK1 := va_K.moved hvm.symm hK1
      obtain ⟨hP, hD⟩ := va_joinP (X := [(h0, .inr (14, [.ref q_t, .int (zI (z16_n)), .int (zI (z0_66)), .int (zI (z1_67)), .int (zI (z2_68)), .int (zI (z3_69)), .int (zI (z4_70)), .ref q5_71, v16_8, v16_9, v16_10, v16_11, v16_12, v16_13])), (q_t, .inl (cT, 8192, .inl (fun j : Nat => zI (a_t (j : Int)))))]) (cx := [(h0, .inr (14, [.ref q_t, .int (zI (z16_n)), .int (zI (z0_66)), .int (zI (z1_67)), .int (zI (z2_68)), .int (zI (z3_69)), .int (zI (z4_70)), .ref q5_71, v16_8, v16_9, v16_10, v16_11, v16_12, v16_13])), (q_t, .inl (cT, 8192, .inl (fun j : Nat => zI (a_t (j : Int)))))]) (wr := []) (rx := [(h0, .inr (14, [.ref q_t, .int (zI (z16_n)), .int (zI (z0_382)), .int (zI (z1_383)), .int (zI (z2_384)), .int (zI (z3_385)), .int (zI (z4_386)), .ref q5_387, v16_8, v16_9, v16_10, v16_11, v16_12, v16_13])), (q_t, .inl (cT, 8192, .inl (fun j : Nat => zI (a_t (j : Int)))))]) (pl := va_pl Ln_72 (pE Pn_73)) (pl1 := va_pl Ln_388 (pE Pn_389)) hP hD [0, 1] [] rfl rfl (by decide) (by decide) hk1 hFc hP1 hD1
      have hK := (hK.sub (tys' := [(cO, .object "java/lang/Object"), (cI, .int), (cZ, .boolean)]) [0, 1, 2] rfl).app hK1
      have hrmC := hxt_391.1.1
      rw [ht] at hrmC
      refine W_tightS (hrmA.trans hrmC) ?_
      have hrb := hxt_391.1.2
      generalize H1 = H at hP hS ⊢
      have hP : va_P (dC, dI) vwQ ([(h0, .inr (14, [.ref q_t, .int (zI (z16_n)), .int (zI (z0_382)), .int (zI (z1_383)), .int (zI (z2_384)), .int (zI (z3_385)), .int (zI (z4_386)), .ref q5_387, v16_8, v16_9, v16_10, v16_11, v16_12, v16_13])), (q_t, .inl (cT, 8192, .inl (fun j : Nat => zI (a_t (j : Int)))))] ++ va_pl Ln_388 (pE Pn_389)) H := hP
      have hD : va_D A ([(h0, .inr (14, [.ref q_t, .int (zI (z16_n)), .int (zI (z0_382)), .int (zI (z1_383)), .int (zI (z2_384)), .int (zI (z3_385)), .int (zI (z4_386)), .ref q5_387, v16_8, v16_9, v16_10, v16_11, v16_12, v16_13])), (q_t, .inl (cT, 8192, .inl (fun j : Nat => zI (a_t (j : Int)))))] ++ va_pl Ln_388 (pE Pn_389)) := hD
      have hK : va_K (dC, dI) vwQ [(cO, .object "java/lang/Object"), (cI, .int), (cZ, .boolean), (cT, .byte)] s := hK
      refine W.widen (k := (((0 + kc_19) + kc_74) + kc_390)) (n := (((0 + ks_20) + ks_75) + ks_391)) (by omega) (by omega) ?_
      obtain ⟨rk_392, rk_393, rk_394, rk_395, rk_396, hu_396⟩ := hxt_391.2
      have htk_397 := hu_396.1.2
      have hrg_397 := hu_396.1.1
      have htq_397 := htk_397.1
      have hgo9 := hkd_86.go (by omega)
      have hkd_402 := hu_396.2.1
      have hX_kv := hkd_402.2
      have hu_398 := hu_396.2.2
      have hex_399 : EXT9 Ln_72 Pn_73 Ln_388 Pn_389 := hu_398.1
      have hke_400 : KEG [] Ln_72 Pn_73 Ln_388 Pn_389 := hex_399.kegR hak_85
      have hak_401 : GLR Ln_388 Pn_389 cO cI cZ sx_ed := hak_85.txt hex_399 hu_398.2.1
      have hsm_403 := (hex_399 xr hq_89.1).2
      have : Pn_389.ro xr = Pn_73.ro xr := hsm_403.1 0
      have : Pn_389.rt xr = Pn_73.rt xr := hsm_403.1 1
      have : Pn_389.ra xr = Pn_73.ra xr := hsm_403.1 2
      have : Pn_389.rb xr = Pn_73.rb xr := hsm_403.1 3
      have : Pn_389.rA xr = Pn_73.rA xr := hsm_403.1 4
      have : Pn_389.rB xr = Pn_73.rB xr := hsm_403.1 5
      have : Pn_389.rg xr = Pn_73.rg xr := hsm_403.1 6
      have : Pn_389.ek xr = Pn_73.ek xr := hsm_403.2.1 8
      have hq_404 : HID (la ∈ Ln_388 ∧ Pn_389.kd la = 30) := hke_400.mem hq_88.1 hq_88.2 (by decide)
      have hq_405 : HID (xr ∈ Ln_388 ∧ Pn_389.kd xr = 17) := hke_400.mem hq_89.1 hq_89.2 (by decide)
      have hE_406 : HID (Pn_389.ek xr ≠ 1) := (by rw [hke_400.ek hq_89.1 hq_89.2 (by decide)]; exact hE_90.out)
      have hA_407 : KEG [] L P Ln_388 Pn_389 := hA_91.trans hke_400
      have : Pn_389.lz la = Pn_73.lz la := (hex_399 la hq_88.1).2.1 0
      have hek_408 : HID (Pn_389.ek la = 12) := (by rw [hke_400.ek hq_88.1 hq_88.2 (by decide)]; exact hek_92.out)
      have how_409 : HID (Pn_389.ow la = la) := ((hke_400.1 la hq_88.1 (by rw [hq_88.2]; decide)).2.2.2.1 hq_88.2 how_93.out).1
      have hcz := (((hke_400.1 la hq_88.1 (by rw [hq_88.2]; decide)).2.2.2.1 hq_88.2 how_93.out).2 (by simp)).1
      have hX_tx := hu_398.2.2.1
      have hxk9 := hu_398.2.2.2
      have hcx_410 : CHG (fun z => z = xr) L P Ln_388 Pn_389 := hcx_94.trans hex_399.chg (fun z m q => q.elim)
      have hnn_397 := TKV.nn (k := z1_383) (d := z0_382 - z2_384) (by omega)
      have hnx_411 : NTX L P Ln_388 Pn_389 := hnx_95.trans (NTX.ext hex_399 hu_398.2.1)
      have hri_412 : (((((0 + ks_20) + ks_75) + ks_391) : Nat) : Int) ≤ 45 * (z2_384 - z16_place) - TKV z16_kind (z16_at - z16_place) + TKV (z1_383) (z0_382 - z2_384) - 20 ∧ (((((0 + kc_19) + kc_74) + kc_390) : Nat) : Int) ≤ 8 * (z2_384 - z16_place) - TKW z16_kind (z16_at - z16_place) + TKW (z1_383) (z0_382 - z2_384) - 6 := (by omega)
      clear hrb hri_96
      skip
      refine lv_aload_n hx hb dX16_row_54 rfl (lv_at hl 1 rfl) ?_
      refine lv_bipush (v := 20) hx hb dX16_row_55 (by decide) ?_
      have hr7 := (hak_401.rokR hq_405.1 hq_405.2).n7
      refine lv_topi (fun z ez => ?_)
      obtain rfl : z = zI (20) := ez
      obtain ⟨kp_413, gkp_413⟩ := va_pl_get (X := [(h0, .inr (14, [.ref q_t, .int (zI (z16_n)), .int (zI (z0_382)), .int (zI (z1_383)), .int (zI (z2_384)), .int (zI (z3_385)), .int (zI (z4_386)), .ref q5_387, v16_8, v16_9, v16_10, v16_11, v16_12, v16_13])), (q_t, .inl (cT, 8192, .inl (fun j : Nat => zI (a_t (j : Int)))))]) (f := pE Pn_389) hq_405.1
      have hkp_413 := gkp_413
      rw [pE_row hq_405.2] at hkp_413
      have hD0 := hD
      refine va_put (D := (dC, dI)) (ci := 21) (v := .int (zI (20))) (ty := .int) (C := RX17) (T := TX17) (N := 7) hx hb hts mem_X16_rowR_2 tyX17 tyX17_ok nmX17 hown hK hP hD hS kp_413 hkp_413 rfl 0 (by decide) (ow (k := 15) rfl) (fun _ h9 => h9) rfl (by decide +kernel) rfl rfl (by first | exact Nat.le_of_ble_eq_true rfl | exact (show (((0 + kc_19) + kc_74) + kc_390) ≤ (8 * (z16_n - z16_place) - TKW z16_kind (z16_at - z16_place) + 160).toNat from (rmW (by omega))) | exact (show (((0 + ks_20) + ks_75) + ks_391) ≤ (45 * (z16_n - z16_place) - TKV z16_kind (z16_at - z16_place) + 500).toNat from (rmW (by omega)))) dX16_row_57 (fun H locs hP hD hS => ?_)
      obtain ⟨Pw_414, ePw_414⟩ : ∃ q9 : PO, q9 = Pn_389.rw9 0 xr (20) := ⟨_, rfl⟩
      have eU : (([(h0, .inr (14, [.ref q_t, .int (zI (z16_n)), .int (zI (z0_382)), .int (zI (z1_383)), .int (zI (z2_384)), .int (zI (z3_385)), .int (zI (z4_386)), .ref q5_387, v16_8, v16_9, v16_10, v16_11, v16_12, v16_13])), (q_t, .inl (cT, 8192, .inl (fun j : Nat => zI (a_t (j : Int)))))] : va_W) ++ va_pl Ln_388 (pE Pn_389)).set kp_413 (xr, rowE (20) (Pn_389.rt xr) (Pn_389.ra xr) (Pn_389.rb xr) (Pn_389.rA xr) (Pn_389.rB xr) (Pn_389.rg xr)) = ([(h0, .inr (14, [.ref q_t, .int (zI (z16_n)), .int (zI (z0_382)), .int (zI (z1_383)), .int (zI (z2_384)), .int (zI (z3_385)), .int (zI (z4_386)), .ref q5_387, v16_8, v16_9, v16_10, v16_11, v16_12, v16_13])), (q_t, .inl (cT, 8192, .inl (fun j : Nat => zI (a_t (j : Int)))))] : va_W) ++ va_pl Ln_388 (pE Pw_414) := (by rw [va_pl_set hD0 hq_405.1 gkp_413, ePw_414]; exact congrArg (fun f9 => ([(h0, .inr (14, [.ref q_t, .int (zI (z16_n)), .int (zI (z0_382)), .int (zI (z1_383)), .int (zI (z2_384)), .int (zI (z3_385)), .int (zI (z4_386)), .ref q5_387, v16_8, v16_9, v16_10, v16_11, v16_12, v16_13])), (q_t, .inl (cT, 8192, .inl (fun j : Nat => zI (a_t (j : Int)))))] : va_W) ++ va_pl Ln_388 f9) (put17_0 hq_405.2))
      have hP : va_P (dC, dI) vwQ ([(h0, .inr (14, [.ref q_t, .int (zI (z16_n)), .int (zI (z0_382)), .int (zI (z1_383)), .int (zI (z2_384)), .int (zI (z3_385)), .int (zI (z4_386)), .ref q5_387, v16_8, v16_9, v16_10, v16_11, v16_12, v16_13])), (q_t, .inl (cT, 8192, .inl (fun j : Nat => zI (a_t (j : Int)))))] ++ va_pl Ln_388 (pE Pw_414)) H := (by rw [← eU]; exact hP)
      have hD : va_D A ([(h0, .inr (14, [.ref q_t, .int (zI (z16_n)), .int (zI (z0_382)), .int (zI (z1_383)), .int (zI (z2_384)), .int (zI (z3_385)), .int (zI (z4_386)), .ref q5_387, v16_8, v16_9, v16_10, v16_11, v16_12, v16_13])), (q_t, .inl (cT, 8192, .inl (fun j : Nat => zI (a_t (j : Int)))))] ++ va_pl Ln_388 (pE Pw_414)) := (by rw [← eU]; exact hD)
      clear eU hD0 gkp_413 hkp_413
      have wPw_414 : RW1 xr Pn_389 Pw_414 := (by rw [ePw_414]; exact RW1.put _ _ _ _)
      have hy_415 : Pw_414.kd la = 30 := (by rw [ePw_414]; exact hq_404.2)
      have hy_416 : Pw_414.kd xr = 17 := (by rw [ePw_414]; exact hq_405.2)
      have : Pw_414.ro xr = 20 := (by rw [ePw_414]; exact rw9_at _ _ _ _)
      have : Pw_414.rt xr = Pn_389.rt xr := (by rw [ePw_414]; exact rw9_of _ (by decide))
      have : Pw_414.ra xr = Pn_389.ra xr := (by rw [ePw_414]; exact rw9_of _ (by decide))
      have : Pw_414.rb xr = Pn_389.rb xr := (by rw [ePw_414]; exact rw9_of _ (by decide))
      have : Pw_414.rA xr = Pn_389.rA xr := (by rw [ePw_414]; exact rw9_of _ (by decide))
      have : Pw_414.rB xr = Pn_389.rB xr := (by rw [ePw_414]; exact rw9_of _ (by decide))
      have : Pw_414.rg xr = Pn_389.rg xr := (by rw [ePw_414]; exact rw9_of _ (by decide))
      have : Pw_414.ek xr = Pn_389.ek xr := (by rw [ePw_414]; rfl)
      have hW_417 : RW1 xr Pn_389 Pw_414 := wPw_414
      have hrw_420 : RWD Pn_389 Pw_414 := hW_417.rwd (Or.inl hq_405.2)
      have hak_419 : GLR Ln_388 Pw_414 cO cI cZ sx_ed := hak_401.row hW_417 hq_405.2 (ROKR.of (by omega) (by omega) (by omega) (by omega) (by omega) (by omega) (by omega) (uaZR (by omega)) (ubZR (by omega))) (fun e9 => by have q9 := hak_401.op21 hq_405.1 hq_405.2 e9; omega)
      have hke_418 : KEG [] Ln_388 Pn_389 Ln_388 Pw_414 := hrw_420.kegR _ hq_404.2
      have hq_421 : HID (la ∈ Ln_388 ∧ Pw_414.kd la = 30) := hke_418.mem hq_404.1 hq_404.2 (by decide)
      have hq_422 : HID (xr ∈ Ln_388 ∧ Pw_414.kd xr = 17) := hke_418.mem hq_405.1 hq_405.2 (by decide)
      have hE_423 : HID (Pw_414.ek xr ≠ 1) := (by rw [hke_418.ek hq_405.1 hq_405.2 (by decide)]; exact hE_406.out)
      have hA_424 : KEG [] L P Ln_388 Pw_414 := hA_407.trans hke_418
      have : Pw_414.lz la = Pn_389.lz la := hrw_420.lz hq_404.2
      have : Pw_414.cap la = Pn_389.cap la := hW_417.cap la
      have hek_425 : HID (Pw_414.ek la = 12) := (by rw [hke_418.ek hq_404.1 hq_404.2 (by decide)]; exact hek_408.out)
      have how_426 : HID (Pw_414.ow la = la) := ((hke_418.1 la hq_404.1 (by rw [hq_404.2]; decide)).2.2.2.1 hq_404.2 how_409.out).1
      have hcz := (((hke_418.1 la hq_404.1 (by rw [hq_404.2]; decide)).2.2.2.1 hq_404.2 how_409.out).2 (by simp)).1
      have hX_tx := hX_tx.rw1R hW_417 (Or.inl hq_405.2)
      have hcx_427 : CHG (fun z => z = xr) L P Ln_388 Pw_414 := hcx_410.trans (hW_417.chg _) (fun z m q => q)
      have hnx_428 : NTX L P Ln_388 Pw_414 := hnx_411.trans (NTX.put9 hW_417)
      subst hQ
      have hK := hK.sub (tys' := [(cT, .byte), (cO, .object "java/lang/Object"), (cI, .int), (cZ, .boolean)]) [3, 0, 1, 2] rfl
      refine W_knowS (fun hrm9 => ?_)
      refine W.widen (k := ((8 * (z16_n - z16_place) - TKW z16_kind (z16_at - z16_place) + 160).toNat)) (n := ((45 * (z16_n - z16_place) - TKV z16_kind (z16_at - z16_place) + 500).toNat)) (rmW (by omega)) (rmW (by omega)) ?_
      refine vx_ret ?_
      exact W.vret hx hb hr (fun t ht hW => ⟨⟨(), rfl, trivial, z0_382, z1_383, z2_384, z3_385, z4_386, q5_387, Ln_388, Pw_414, (((0 + kc_19) + kc_74) + kc_390), (((0 + ks_20) + ks_75) + ks_391), ⟨⟨(by rw [ht, ← hp16]; exact hrm9), (by omega)⟩, ⟨(by omega), (by omega), (by omega), (by omega), (by omega), ⟨hA_424, hak_419, ⟨⟨(hkd_402.mono (by omega)).ms (by omega) (by omega) (by omega), by omega, by omega⟩, ⟨by omega, (by first | exact OPQ.z (by omega) | exact hoa9.to (by omega) (by omega)), (by first | exact OPQ.z (by omega) | exact hob9.to (by omega) (by omega))⟩, hnx_428⟩, hcx_427, ⟨⟨by omega, by omega, by omega⟩, htk_397⟩, hkd_402.mono (by omega), hX_tx⟩⟩⟩, by rw [ht]; exact hP, va_K.moved hW.alike hK, hD⟩, hS.F ht⟩) hS.2.2 dX16_row_60
  · have yb6 : ¬ (z_3 : Int) = (0 : Int) := fun q => b6 ((zI_eq (a := z_3) (b := 0) (by omega) (by omega) (by omega) (by omega)).mpr q)
    have hni9 := TKQ.is hX_tn (hzz_3.2.2.2 (by omega))
    have hni8 := hX_tn.2.2.2 (by omega)
    refine lv_aload_n hx hb dX16_row_9 rfl (lv_at hl 0 rfl) ?_
    have hPc := hP.part (X := [(h0, .inr (14, [.ref q_t, .int (zI (z16_n)), .int (zI (z16_at)), .int (zI (z16_kind)), .int (zI (z16_place)), .int (zI (z16_value)), .int (zI (z16_before)), .ref tx9, v16_8, v16_9, v16_10, v16_11, v16_12, v16_13])), (q_t, .inl (cT, 8192, .inl (fun j : Nat => zI (a_t (j : Int)))))]) (cx := [(h0, .inr (14, [.ref q_t, .int (zI (z16_n)), .int (zI (z16_at)), .int (zI (z16_kind)), .int (zI (z16_place)), .int (zI (z16_value)), .int (zI (z16_before)), .ref tx9, v16_8, v16_9, v16_10, v16_11, v16_12, v16_13])), (q_t, .inl (cT, 8192, .inl (fun j : Nat => zI (a_t (j : Int)))))]) (pl := va_pl L (pE P)) [0, 1] rfl
    have hDc := hD.part (X := [(h0, .inr (14, [.ref q_t, .int (zI (z16_n)), .int (zI (z16_at)), .int (zI (z16_kind)), .int (zI (z16_place)), .int (zI (z16_value)), .int (zI (z16_before)), .ref tx9, v16_8, v16_9, v16_10, v16_11, v16_12, v16_13])), (q_t, .inl (cT, 8192, .inl (fun j : Nat => zI (a_t (j : Int)))))]) (cx := [(h0, .inr (14, [.ref q_t, .int (zI (z16_n)), .int (zI (z16_at)), .int (zI (z16_kind)), .int (zI (z16_place)), .int (zI (z16_value)), .int (zI (z16_before)), .ref tx9, v16_8, v16_9, v16_10, v16_11, v16_12, v16_13])), (q_t, .inl (cT, 8192, .inl (fun j : Nat => zI (a_t (j : Int)))))]) (pl := va_pl L (pE P)) [0, 1] (by decide) rfl
    have hKc := hK.sub (tys' := [(cT, .byte)]) [3] rfl
    have hFc := va_freeP (X := [(h0, .inr (14, [.ref q_t, .int (zI (z16_n)), .int (zI (z16_at)), .int (zI (z16_kind)), .int (zI (z16_place)), .int (zI (z16_value)), .int (zI (z16_before)), .ref tx9, v16_8, v16_9, v16_10, v16_11, v16_12, v16_13])), (q_t, .inl (cT, 8192, .inl (fun j : Nat => zI (a_t (j : Int)))))]) (cx := [(h0, .inr (14, [.ref q_t, .int (zI (z16_n)), .int (zI (z16_at)), .int (zI (z16_kind)), .int (zI (z16_place)), .int (zI (z16_value)), .int (zI (z16_before)), .ref tx9, v16_8, v16_9, v16_10, v16_11, v16_12, v16_13])), (q_t, .inl (cT, 8192, .inl (fun j : Nat => zI (a_t (j : Int)))))]) (pl := va_pl L (pE P)) hD hS hA [0, 1] rfl
    refine W_knowS (fun hrmA => ?_)
    refine va_callv (va_runV (As := []) (rest := []) ⟨hx, hb, hml, hown, hts⟩ (c_X16_nextK l dC dI h0 z16_n z16_at z16_kind z16_place z16_value z16_before (.ref tx9) v16_8 v16_9 v16_10 v16_11 v16_12 v16_13 q_t cT a_t L P sa_RX16_9 (by omega) (by omega) (by omega) (by omega) (by omega) (by omega) hR_a_t (by omega) H.size sa_RX16_9 H sv_RX16_9 sa_RX16_119 sv_RX16_119 sa_RX16_100 sv_RX16_100 sa_RX16_117 sa_RX16_100 sv_RX16_117 sa_RX16_98 sv_RX16_98) (cwV 0 hts g_X16_rowR_X16_nextK rfl rfl rfl (by decide +kernel) ⟨(Nat.le_of_ble_eq_true rfl), (Nat.le_of_ble_eq_true rfl)⟩) ⟨fun a U g mk q => by obtain ⟨q0, q1, qP, qK, qD, e0, e1, e2, e3, e4, e5, e6, e7, e8, e9, e10, e11, e12⟩ := q; exact ⟨q0, q1, qP, va_K.moved (u := U) (U := U.calling g mk a) (Vm.Alike.refl U.vm) qK, qD, vk_R.same (u := U) (U := U.calling g mk a) rfl e0, e1, va_Z.moved (u := U) (U := U.calling g mk a) (Vm.Alike.refl U.vm) e2, vs_S.moved (u := U) (U := U.calling g mk a) (Vm.Alike.refl U.vm) e3, va_Nw.same rfl (u := U) (U := U.calling g mk a) rfl e4, vk_R.same (u := U) (U := U.calling g mk a) rfl e5, vs_S.moved (u := U) (U := U.calling g mk a) (Vm.Alike.refl U.vm) e6, vs_S.moved (u := U) (U := U.calling g mk a) (Vm.Alike.refl U.vm) e7, vk_R.same (u := U) (U := U.calling g mk a) rfl e8, vk_R.same (u := U) (U := U.calling g mk a) rfl e9, vs_S.moved (u := U) (U := U.calling g mk a) (Vm.Alike.refl U.vm) e10, vk_R.same (u := U) (U := U.calling g mk a) rfl e11, vs_S.moved (u := U) (U := U.calling g mk a) (Vm.Alike.refl U.vm) e12⟩, va_recv hKc hPc (ci := 14) (q0 := 0) rfl rfl, fun U hU hW => ⟨rfl, by rw [hU], by rw [hU]; exact hPc, va_K.moved hW.alike hKc, hDc.weaken (fun _ _ _ _ => trivial), vk_R.warm hW hp4, hU, va_Z.go hp3 hS hFc hU hW.alike, vs_S.go hp2 hS hFc hU hW.alike, va_Nw.warmC hW hp5, vk_R.warm hW hp6, vs_S.go hp7 hS hFc hU hW.alike, vs_S.go hp8 hS hFc hU hW.alike, vk_R.warm hW hp9, vk_R.warm hW hp10, vs_S.go hp11 hS hFc hU hW.alike, vk_R.warm hW hp12, vs_S.go hp13 hS hFc hU hW.alike⟩⟩ rfl rfl hl.1 rfl (lv_room (Nat.le_of_ble_eq_true rfl)) dX16_row_10 ⟨(show 0 + ((z16_n - z16_at + 20).toNat) ≤ (8 * (z16_n - z16_place) - TKW z16_kind (z16_at - z16_place) + 160).toNat from (rmT (by omega) (by omega))), (show 0 + ((10 * (z16_n - z16_at) + 120).toNat) ≤ (45 * (z16_n - z16_place) - TKV z16_kind (z16_at - z16_place) + 500).toNat from (rmT (by omega) (by omega)))⟩) hS (fun q _ h => hFc q h) hFc (fun  u t H1 locs ht hvm hw hB hz1 hk1 hS => ?_)
    obtain ⟨z0_429, z1_430, z2_431, z3_432, z4_433, q5_434, Ln_435, Pn_436, kc_437, ks_438, hxt_438, hP1, hK1, hD1⟩ := hB
    rw [ht] at hP1
    have hK1 := va_K.moved hvm.symm hK1
    obtain ⟨hP, hD⟩ := va_joinP (X := [(h0, .inr (14, [.ref q_t, .int (zI (z16_n)), .int (zI (z16_at)), .int (zI (z16_kind)), .int (zI (z16_place)), .int (zI (z16_value)), .int (zI (z16_before)), .ref tx9, v16_8, v16_9, v16_10, v16_11, v16_12, v16_13])), (q_t, .inl (cT, 8192, .inl (fun j : Nat => zI (a_t (j : Int)))))]) (cx := [(h0, .inr (14, [.ref q_t, .int (zI (z16_n)), .int (zI (z16_at)), .int (zI (z16_kind)), .int (zI (z16_place)), .int (zI (z16_value)), .int (zI (z16_before)), .ref tx9, v16_8, v16_9, v16_10, v16_11, v16_12, v16_13])), (q_t, .inl (cT, 8192, .inl (fun j : Nat => zI (a_t (j : Int)))))]) (wr := []) (rx := [(h0, .inr (14, [.ref q_t, .int (zI (z16_n)), .int (zI (z0_429)), .int (zI (z1_430)), .int (zI (z2_431)), .int (zI (z3_432)), .int (zI (z4_433)), .ref q5_434, v16_8, v16_9, v16_10, v16_11, v16_12, v16_13])), (q_t, .inl (cT, 8192, .inl (fun j : Nat => zI (a_t (j : Int)))))]) (pl := va_pl L (pE P)) (pl1 := va_pl Ln_435 (pE Pn_436)) hP hD [0, 1] [] rfl rfl (by decide) (by decide) hk1 hFc hP1 hD1
    have hK := (hK.sub (tys' := [(cO, .object "java/lang/Object"), (cI, .int), (cZ, .boolean)]) [0, 1, 2] rfl).app hK1
    have hrmC := hxt_438.1.1
    rw [ht] at hrmC
    refine W_tightS (hrmA.trans hrmC) ?_
    have hrb := hxt_438.1.2
    generalize H1 = H at hP hS ⊢
    have hP : va_P (dC, dI) vwQ ([(h0, .inr (14, [.ref q_t, .int (zI (z16_n)), .int (zI (z0_429)), .int (zI (z1_430)), .int (zI (z2_431)), .int (zI (z3_432)), .int (zI (z4_433)), .ref q5_434, v16_8, v16_9, v16_10, v16_11, v16_12, v16_13])), (q_t, .inl (cT, 8192, .inl (fun j : Nat => zI (a_t (j : Int)))))] ++ va_pl Ln_435 (pE Pn_436)) H := hP
    have hD : va_D A ([(h0, .inr (14, [.ref q_t, .int (zI (z16_n)), .int (zI (z0_429)), .int (zI (z1_430)), .int (zI (z2_431)), .int (zI (z3_432)), .int (zI (z4_433)), .ref q5_434, v16_8, v16_9, v16_10, v16_11, v16_12, v16_13])), (q_t, .inl (cT, 8192, .inl (fun j : Nat => zI (a_t (j : Int)))))] ++ va_pl Ln_435 (pE Pn_436)) := hD
    have hK : va_K (dC, dI) vwQ [(cO, .object "java/lang/Object"), (cI, .int), (cZ, .boolean), (cT, .byte)] s := hK
    refine W.widen (k := (0 + kc_437)) (n := (0 + ks_438)) (by omega) (by omega) ?_
    obtain ⟨rk_439, rk_440, rk_441, rk_442, rk_443, hu_443⟩ := hxt_438.2
    have htk_444 := hu_443.1.2
    have hrg_444 := hu_443.1.1
    have htq_444 := htk_444.1
    have hkd_449 := hu_443.2.1
    have hX_kv := hkd_449.2
    have hu_445 := hu_443.2.2
    have hex_446 : EXT9 L P Ln_435 Pn_436 := hu_445.1
    have hke_447 : KEG [] L P Ln_435 Pn_436 := hex_446.kegR hX_g9
    have hak_448 : GLR Ln_435 Pn_436 cO cI cZ sx_ed := hX_g9.txt hex_446 hu_445.2.1
    have hsm_450 := (hex_446 xr hX_x).2
    have : Pn_436.ro xr = P.ro xr := hsm_450.1 0
    have : Pn_436.rt xr = P.rt xr := hsm_450.1 1
    have : Pn_436.ra xr = P.ra xr := hsm_450.1 2
    have : Pn_436.rb xr = P.rb xr := hsm_450.1 3
    have : Pn_436.rA xr = P.rA xr := hsm_450.1 4
    have : Pn_436.rB xr = P.rB xr := hsm_450.1 5
    have : Pn_436.rg xr = P.rg xr := hsm_450.1 6
    have : Pn_436.ek xr = P.ek xr := hsm_450.2.1 8
    have hq_451 : HID (la ∈ Ln_435 ∧ Pn_436.kd la = 30) := hke_447.mem hC_la.1 hC_la.2.1 (by decide)
    have hq_452 : HID (xr ∈ Ln_435 ∧ Pn_436.kd xr = 17) := hke_447.mem hX_x hX_k (by decide)
    have hE_453 : HID (Pn_436.ek xr ≠ 1) := (by rw [hke_447.ek hX_x hX_k (by decide)]; exact hX_e)
    have hA_454 : KEG [] L P Ln_435 Pn_436 := (KEG.refl [] L P).trans hke_447
    have : Pn_436.lz la = P.lz la := (hex_446 la hC_la.1).2.1 0
    have hek_455 : HID (Pn_436.ek la = 12) := (by rw [hke_447.ek hC_la.1 hC_la.2.1 (by decide)]; exact hC_la.2.2.1)
    have how_456 : HID (Pn_436.ow la = la) := ((hke_447.1 la hC_la.1 (by rw [hC_la.2.1]; decide)).2.2.2.1 hC_la.2.1 hC_la.2.2.2).1
    have hcz := (((hke_447.1 la hC_la.1 (by rw [hC_la.2.1]; decide)).2.2.2.1 hC_la.2.1 hC_la.2.2.2).2 (by simp)).1
    have hX_tx := hu_445.2.2.1
    have hxk9 := hu_445.2.2.2
    have hcx_457 : CHG (fun z => z = xr) L P Ln_435 Pn_436 := hcx0.trans hex_446.chg (fun z m q => q.elim)
    have hnn_444 := TKV.nn (k := z1_430) (d := z0_429 - z2_431) (by omega)
    have hnx_458 : NTX L P Ln_435 Pn_436 := hnx0.trans (NTX.ext hex_446 hu_445.2.1)
    have hri_459 : (((0 + ks_438) : Nat) : Int) ≤ 45 * (z2_431 - z16_place) - TKV z16_kind (z16_at - z16_place) + TKV (z1_430) (z0_429 - z2_431) + 35 ∧ (((0 + kc_437) : Nat) : Int) ≤ 8 * (z2_431 - z16_place) - TKW z16_kind (z16_at - z16_place) + TKW (z1_430) (z0_429 - z2_431) + 5 := (by omega)
    clear hrb
    skip
    refine lv_aload_n hx hb dX16_row_13 rfl (lv_at hl 1 rfl) ?_
    refine lv_bipush (v := 21) hx hb dX16_row_14 (by decide) ?_
    have hr7 := (hak_448.rokR hq_452.1 hq_452.2).n7
    refine lv_topi (fun z ez => ?_)
    obtain rfl : z = zI (21) := ez
    obtain ⟨kp_460, gkp_460⟩ := va_pl_get (X := [(h0, .inr (14, [.ref q_t, .int (zI (z16_n)), .int (zI (z0_429)), .int (zI (z1_430)), .int (zI (z2_431)), .int (zI (z3_432)), .int (zI (z4_433)), .ref q5_434, v16_8, v16_9, v16_10, v16_11, v16_12, v16_13])), (q_t, .inl (cT, 8192, .inl (fun j : Nat => zI (a_t (j : Int)))))]) (f := pE Pn_436) hq_452.1
    have hkp_460 := gkp_460
    rw [pE_row hq_452.2] at hkp_460
    have hD0 := hD
    refine va_put (D := (dC, dI)) (ci := 21) (v := .int (zI (21))) (ty := .int) (C := RX17) (T := TX17) (N := 7) hx hb hts mem_X16_rowR_2 tyX17 tyX17_ok nmX17 hown hK hP hD hS kp_460 hkp_460 rfl 0 (by decide) (ow (k := 15) rfl) (fun _ h9 => h9) rfl (by decide +kernel) rfl rfl (by first | exact Nat.le_of_ble_eq_true rfl | exact (show (0 + kc_437) ≤ (8 * (z16_n - z16_place) - TKW z16_kind (z16_at - z16_place) + 160).toNat from (rmW (by omega))) | exact (show (0 + ks_438) ≤ (45 * (z16_n - z16_place) - TKV z16_kind (z16_at - z16_place) + 500).toNat from (rmW (by omega)))) dX16_row_16 (fun H locs hP hD hS => ?_)
    obtain ⟨Pw_461, ePw_461⟩ : ∃ q9 : PO, q9 = Pn_436.rw9 0 xr (21) := ⟨_, rfl⟩
    have eU : (([(h0, .inr (14, [.ref q_t, .int (zI (z16_n)), .int (zI (z0_429)), .int (zI (z1_430)), .int (zI (z2_431)), .int (zI (z3_432)), .int (zI (z4_433)), .ref q5_434, v16_8, v16_9, v16_10, v16_11, v16_12, v16_13])), (q_t, .inl (cT, 8192, .inl (fun j : Nat => zI (a_t (j : Int)))))] : va_W) ++ va_pl Ln_435 (pE Pn_436)).set kp_460 (xr, rowE (21) (Pn_436.rt xr) (Pn_436.ra xr) (Pn_436.rb xr) (Pn_436.rA xr) (Pn_436.rB xr) (Pn_436.rg xr)) = ([(h0, .inr (14, [.ref q_t, .int (zI (z16_n)), .int (zI (z0_429)), .int (zI (z1_430)), .int (zI (z2_431)), .int (zI (z3_432)), .int (zI (z4_433)), .ref q5_434, v16_8, v16_9, v16_10, v16_11, v16_12, v16_13])), (q_t, .inl (cT, 8192, .inl (fun j : Nat => zI (a_t (j : Int)))))] : va_W) ++ va_pl Ln_435 (pE Pw_461) := (by rw [va_pl_set hD0 hq_452.1 gkp_460, ePw_461]; exact congrArg (fun f9 => ([(h0, .inr (14, [.ref q_t, .int (zI (z16_n)), .int (zI (z0_429)), .int (zI (z1_430)), .int (zI (z2_431)), .int (zI (z3_432)), .int (zI (z4_433)), .ref q5_434, v16_8, v16_9, v16_10, v16_11, v16_12, v16_13])), (q_t, .inl (cT, 8192, .inl (fun j : Nat => zI (a_t (j : Int)))))] : va_W) ++ va_pl Ln_435 f9) (put17_0 hq_452.2))
    have hP : va_P (dC, dI) vwQ ([(h0, .inr (14, [.ref q_t, .int (zI (z16_n)), .int (zI (z0_429)), .int (zI (z1_430)), .int (zI (z2_431)), .int (zI (z3_432)), .int (zI (z4_433)), .ref q5_434, v16_8, v16_9, v16_10, v16_11, v16_12, v16_13])), (q_t, .inl (cT, 8192, .inl (fun j : Nat => zI (a_t (j : Int)))))] ++ va_pl Ln_435 (pE Pw_461)) H := (by rw [← eU]; exact hP)
    have hD : va_D A ([(h0, .inr (14, [.ref q_t, .int (zI (z16_n)), .int (zI (z0_429)), .int (zI (z1_430)), .int (zI (z2_431)), .int (zI (z3_432)), .int (zI (z4_433)), .ref q5_434, v16_8, v16_9, v16_10, v16_11, v16_12, v16_13])), (q_t, .inl (cT, 8192, .inl (fun j : Nat => zI (a_t (j : Int)))))] ++ va_pl Ln_435 (pE Pw_461)) := (by rw [← eU]; exact hD)
    clear eU hD0 gkp_460 hkp_460
    have wPw_461 : RW1 xr Pn_436 Pw_461 := (by rw [ePw_461]; exact RW1.put _ _ _ _)
    have hy_462 : Pw_461.kd la = 30 := (by rw [ePw_461]; exact hq_451.2)
    have hy_463 : Pw_461.kd xr = 17 := (by rw [ePw_461]; exact hq_452.2)
    have : Pw_461.ro xr = 21 := (by rw [ePw_461]; exact rw9_at _ _ _ _)
    have : Pw_461.rt xr = Pn_436.rt xr := (by rw [ePw_461]; exact rw9_of _ (by decide))
    have : Pw_461.ra xr = Pn_436.ra xr := (by rw [ePw_461]; exact rw9_of _ (by decide))
    have : Pw_461.rb xr = Pn_436.rb xr := (by rw [ePw_461]; exact rw9_of _ (by decide))
    have : Pw_461.rA xr = Pn_436.rA xr := (by rw [ePw_461]; exact rw9_of _ (by decide))
    have : Pw_461.rB xr = Pn_436.rB xr := (by rw [ePw_461]; exact rw9_of _ (by decide))
    have : Pw_461.rg xr = Pn_436.rg xr := (by rw [ePw_461]; exact rw9_of _ (by decide))
    have : Pw_461.ek xr = Pn_436.ek xr := (by rw [ePw_461]; rfl)
    have hW_464 : RW1 xr Pn_436 Pw_461 := wPw_461
    have hrw_467 : RWD Pn_436 Pw_461 := hW_464.rwd (Or.inl hq_452.2)
    have hak_466 : GLR Ln_435 Pw_461 cO cI cZ sx_ed := hak_448.row hW_464 hq_452.2 (ROKR.of (by omega) (by omega) (by omega) (by omega) (by omega) (by omega) (by omega) (uaZR (by omega)) (ubZR (by omega))) (fun e9 => by have q9 := hak_448.op21 hq_452.1 hq_452.2 e9; omega)
    have hke_465 : KEG [] Ln_435 Pn_436 Ln_435 Pw_461 := hrw_467.kegR _ hq_451.2
    have hq_468 : HID (la ∈ Ln_435 ∧ Pw_461.kd la = 30) := hke_465.mem hq_451.1 hq_451.2 (by decide)
    have hq_469 : HID (xr ∈ Ln_435 ∧ Pw_461.kd xr = 17) := hke_465.mem hq_452.1 hq_452.2 (by decide)
    have hE_470 : HID (Pw_461.ek xr ≠ 1) := (by rw [hke_465.ek hq_452.1 hq_452.2 (by decide)]; exact hE_453.out)
    have hA_471 : KEG [] L P Ln_435 Pw_461 := hA_454.trans hke_465
    have : Pw_461.lz la = Pn_436.lz la := hrw_467.lz hq_451.2
    have : Pw_461.cap la = Pn_436.cap la := hW_464.cap la
    have hek_472 : HID (Pw_461.ek la = 12) := (by rw [hke_465.ek hq_451.1 hq_451.2 (by decide)]; exact hek_455.out)
    have how_473 : HID (Pw_461.ow la = la) := ((hke_465.1 la hq_451.1 (by rw [hq_451.2]; decide)).2.2.2.1 hq_451.2 how_456.out).1
    have hcz := (((hke_465.1 la hq_451.1 (by rw [hq_451.2]; decide)).2.2.2.1 hq_451.2 how_456.out).2 (by simp)).1
    have hX_tx := hX_tx.rw1R hW_464 (Or.inl hq_452.2)
    have hcx_474 : CHG (fun z => z = xr) L P Ln_435 Pw_461 := hcx_457.trans (hW_464.chg _) (fun z m q => q)
    have hnx_475 : NTX L P Ln_435 Pw_461 := hnx_458.trans (NTX.put9 hW_464)
    refine lv_aload_n hx hb dX16_row_19 rfl (lv_at hl 0 rfl) ?_
    refine lv_aload_n hx hb dX16_row_20 rfl (lv_at hl 1 rfl) ?_
    refine lv_iconst (v := 0) hx hb dX16_row_21 (by decide) ?_
    have hX_tn := htk_444
    have hX_g := hak_466
    have hX_x := hq_469.1
    have hX_k := hq_469.2
    have hX_la := (show la ∈ Ln_435 ∧ Pw_461.kd la = 30 ∧ Pw_461.ek la = 12 ∧ Pw_461.ow la = la from ⟨hq_468.1, hq_468.2, hek_472.out, how_473.out⟩)
    have hPc := hP.part (X := [(h0, .inr (14, [.ref q_t, .int (zI (z16_n)), .int (zI (z0_429)), .int (zI (z1_430)), .int (zI (z2_431)), .int (zI (z3_432)), .int (zI (z4_433)), .ref q5_434, v16_8, v16_9, v16_10, v16_11, v16_12, v16_13])), (q_t, .inl (cT, 8192, .inl (fun j : Nat => zI (a_t (j : Int)))))]) (cx := [(h0, .inr (14, [.ref q_t, .int (zI (z16_n)), .int (zI (z0_429)), .int (zI (z1_430)), .int (zI (z2_431)), .int (zI (z3_432)), .int (zI (z4_433)), .ref q5_434, v16_8, v16_9, v16_10, v16_11, v16_12, v16_13])), (q_t, .inl (cT, 8192, .inl (fun j : Nat => zI (a_t (j : Int)))))]) (pl := va_pl Ln_435 (pE Pw_461)) [0, 1] rfl
    have hDc := hD.part (X := [(h0, .inr (14, [.ref q_t, .int (zI (z16_n)), .int (zI (z0_429)), .int (zI (z1_430)), .int (zI (z2_431)), .int (zI (z3_432)), .int (zI (z4_433)), .ref q5_434, v16_8, v16_9, v16_10, v16_11, v16_12, v16_13])), (q_t, .inl (cT, 8192, .inl (fun j : Nat => zI (a_t (j : Int)))))]) (cx := [(h0, .inr (14, [.ref q_t, .int (zI (z16_n)), .int (zI (z0_429)), .int (zI (z1_430)), .int (zI (z2_431)), .int (zI (z3_432)), .int (zI (z4_433)), .ref q5_434, v16_8, v16_9, v16_10, v16_11, v16_12, v16_13])), (q_t, .inl (cT, 8192, .inl (fun j : Nat => zI (a_t (j : Int)))))]) (pl := va_pl Ln_435 (pE Pw_461)) [0, 1] (by decide) rfl
    have hKc := hK.sub (tys' := [(cT, .byte), (cO, .object "java/lang/Object"), (cI, .int), (cZ, .boolean)]) [3, 0, 1, 2] rfl
    have hFc := va_freeP (X := [(h0, .inr (14, [.ref q_t, .int (zI (z16_n)), .int (zI (z0_429)), .int (zI (z1_430)), .int (zI (z2_431)), .int (zI (z3_432)), .int (zI (z4_433)), .ref q5_434, v16_8, v16_9, v16_10, v16_11, v16_12, v16_13])), (q_t, .inl (cT, 8192, .inl (fun j : Nat => zI (a_t (j : Int)))))]) (cx := [(h0, .inr (14, [.ref q_t, .int (zI (z16_n)), .int (zI (z0_429)), .int (zI (z1_430)), .int (zI (z2_431)), .int (zI (z3_432)), .int (zI (z4_433)), .ref q5_434, v16_8, v16_9, v16_10, v16_11, v16_12, v16_13])), (q_t, .inl (cT, 8192, .inl (fun j : Nat => zI (a_t (j : Int)))))]) (pl := va_pl Ln_435 (pE Pw_461)) hD hS hA [0, 1] rfl
    refine W_knowS (fun hrmA => ?_)
    refine vx_callv (vx_runV (As := [.ref xr, .int 0]) (rest := []) ⟨hx, hb, hml, hown, hts⟩ (c_X16_opAR l dC dI cI cZ h0 z16_n z0_429 z1_430 z2_431 z3_432 z4_433 v16_8 v16_9 v16_10 v16_11 v16_12 v16_13 q_t cT a_t q5_434 Ln_435 Pw_461 sa_RX16_9 cO la sx_ed xr (by omega) (by omega) (by omega) (by omega) (by omega) (by omega) hR_a_t hX_g hX_la hX_x hX_k (by omega) hX_kv hX_tn H.size sv_RX16_9 sa_RX16_119 sv_RX16_119 sa_RX16_100 sv_RX16_100 sa_RX16_117 sv_RX16_117 sa_RX16_98 sv_RX16_98 H) (cwV 2 hts g_X16_rowR_X16_opAR rfl rfl rfl (by decide +kernel) ⟨(Nat.le_of_ble_eq_true rfl), (Nat.le_of_ble_eq_true rfl)⟩) ⟨fun a U g mk q => by obtain ⟨q0, q1, qP, qK, qD, e0, e1, e2, e3, e4, e5, e6, e7, e8, e9, e10, e11, e12, e13, e14⟩ := q; exact ⟨q0, q1, qP, va_K.moved (u := U) (U := U.calling g mk a) (Vm.Alike.refl U.vm) qK, qD, vk_R.same (u := U) (U := U.calling g mk a) rfl e0, va_Z.moved (u := U) (U := U.calling g mk a) (Vm.Alike.refl U.vm) e1, vs_S.moved (u := U) (U := U.calling g mk a) (Vm.Alike.refl U.vm) e2, va_Nw.same rfl (u := U) (U := U.calling g mk a) rfl e3, vk_R.same (u := U) (U := U.calling g mk a) rfl e4, vs_S.moved (u := U) (U := U.calling g mk a) (Vm.Alike.refl U.vm) e5, vs_S.moved (u := U) (U := U.calling g mk a) (Vm.Alike.refl U.vm) e6, vk_R.same (u := U) (U := U.calling g mk a) rfl e7, vk_R.same (u := U) (U := U.calling g mk a) rfl e8, vs_S.moved (u := U) (U := U.calling g mk a) (Vm.Alike.refl U.vm) e9, vk_R.same (u := U) (U := U.calling g mk a) rfl e10, vs_S.moved (u := U) (U := U.calling g mk a) (Vm.Alike.refl U.vm) e11, e12, vx_Zq.moved (u := U) (U := U.calling g mk a) (Vm.Alike.refl U.vm) e13, vx_Zq.moved (u := U) (U := U.calling g mk a) (Vm.Alike.refl U.vm) e14⟩, va_recv hKc hPc (ci := 14) (q0 := 0) rfl rfl, fun U hU hW => ⟨rfl, by rw [hU], by rw [hU]; exact hPc, va_K.moved hW.alike hKc, hDc.weaken (fun _ _ _ _ => trivial), vk_R.warm hW hp4, va_Z.go hp3 hS hFc hU hW.alike, vs_S.go hp2 hS hFc hU hW.alike, va_Nw.warmC hW hp5, vk_R.warm hW hp6, vs_S.go hp7 hS hFc hU hW.alike, vs_S.go hp8 hS hFc hU hW.alike, vk_R.warm hW hp9, vk_R.warm hW hp10, vs_S.go hp11 hS hFc hU hW.alike, vk_R.warm hW hp12, vs_S.go hp13 hS hFc hU hW.alike, hU, vx_Zq.go hp14 hS hFc hU hW.alike, vx_Zq.go hp15 hS hFc hU hW.alike⟩⟩ rfl rfl hl.1 rfl (lv_room (Nat.le_of_ble_eq_true rfl)) dX16_row_22 ⟨(show (0 + kc_437) + ((z16_n - z0_429 + 20).toNat) ≤ (8 * (z16_n - z16_place) - TKW z16_kind (z16_at - z16_place) + 160).toNat from (rmT (by omega) (by omega))), (show (0 + ks_438) + ((10 * (z16_n - z0_429) + 120).toNat) ≤ (45 * (z16_n - z16_place) - TKV z16_kind (z16_at - z16_place) + 500).toNat from (rmT (by omega) (by omega)))⟩) hS (fun q _ h => hFc q h) hFc (fun q _ h => hFc q h) (fun E ce q9 u t H1 locs ht hvm _ hB hz1 hk1 hS hce hcv hcl => ?_) (fun  u t H1 locs ht hvm hw hB hz1 hk1 hS => ?_)
    · obtain ⟨rfl, zp_476, Ln_477, Pn_478, kc_479, ks_480, hxt_481, hP1, hD1⟩ := hB
      rw [ht] at hP1
      obtain ⟨hP, hD⟩ := va_joinP (X := [(h0, .inr (14, [.ref q_t, .int (zI (z16_n)), .int (zI (z0_429)), .int (zI (z1_430)), .int (zI (z2_431)), .int (zI (z3_432)), .int (zI (z4_433)), .ref q5_434, v16_8, v16_9, v16_10, v16_11, v16_12, v16_13])), (q_t, .inl (cT, 8192, .inl (fun j : Nat => zI (a_t (j : Int)))))]) (cx := [(h0, .inr (14, [.ref q_t, .int (zI (z16_n)), .int (zI (z0_429)), .int (zI (z1_430)), .int (zI (z2_431)), .int (zI (z3_432)), .int (zI (z4_433)), .ref q5_434, v16_8, v16_9, v16_10, v16_11, v16_12, v16_13])), (q_t, .inl (cT, 8192, .inl (fun j : Nat => zI (a_t (j : Int)))))]) (wr := []) (rx := [(q_t, .inl (cT, 8192, .inl (fun j : Nat => zI (a_t (j : Int))))), (q9, .inr (15, [.null, .null, .null, .null, .null, .int 0, .int (zI (zp_476))]))]) (pl := va_pl Ln_435 (pE Pw_461)) (pl1 := va_pl Ln_477 (pE Pn_478)) hP hD [0, 1] [] rfl rfl (by decide) (by decide) hk1 hFc hP1 hD1
      have hrmC := hxt_481.1.1
      rw [ht] at hrmC
      refine vx_tightS (hrmA.trans hrmC) ?_
      have hrb := hxt_481.1.2
      generalize H1 = H at hP hS hce ⊢
      have hP : va_P (dC, dI) vwQ ([(q_t, .inl (cT, 8192, .inl (fun j : Nat => zI (a_t (j : Int))))), (q9, .inr (15, [.null, .null, .null, .null, .null, .int 0, .int (zI (zp_476))]))] ++ va_pl Ln_477 (pE Pn_478)) H := hP
      have hD : va_D A ([(q_t, .inl (cT, 8192, .inl (fun j : Nat => zI (a_t (j : Int))))), (q9, .inr (15, [.null, .null, .null, .null, .null, .int 0, .int (zI (zp_476))]))] ++ va_pl Ln_477 (pE Pn_478)) := hD
      have hzp : 0 ≤ zp_476 ∧ zp_476 ≤ 8192 := hxt_481.2.1
      subst hQ
      refine vx_knowS (fun hrm9 => ?_)
      refine vx_widen (k := ((8 * (z16_n - z16_place) - TKW z16_kind (z16_at - z16_place) + 160).toNat)) (n := ((45 * (z16_n - z16_place) - TKV z16_kind (z16_at - z16_place) + 500).toNat)) (rmW (by omega)) (rmW (by omega)) ?_
      exact vx_out (fun x9 h9 => (hnt x9 h9).elim) hlocks hce hcv hcl (fun t ht hvm => ⟨(), trivial, ⟨rfl, zp_476, Ln_477, Pn_478, ((0 + kc_437) + kc_479), ((0 + ks_438) + ks_480), ⟨⟨(by rw [ht, ← hp16]; exact hrm9), (by omega)⟩, ⟨(by omega), ⟨hA_471.trans hxt_481.2.2.1, hxt_481.2.2.2.1, (hcx_474.cpa hg00.owa (fun z _ q => by rw [show z = xr from q, hk00]; decide)).trans hA_471 hxt_481.2.2.2.2.1, hnx_475.trans hxt_481.2.2.2.2.2⟩⟩⟩, by rw [ht]; exact hP, hD⟩, hS.F ht⟩) hS.2.2 (Nat.le_refl _) (Nat.le_refl _)
    obtain ⟨z0_482, z1_483, z2_484, z3_485, z4_486, q5_487, Ln_488, Pn_489, kc_490, ks_491, hxt_491, hP1, hK1, hD1⟩ := hB
    rw [ht] at hP1
    have hK1 := va_K.moved hvm.symm hK1
    obtain ⟨hP, hD⟩ := va_joinP (X := [(h0, .inr (14, [.ref q_t, .int (zI (z16_n)), .int (zI (z0_429)), .int (zI (z1_430)), .int (zI (z2_431)), .int (zI (z3_432)), .int (zI (z4_433)), .ref q5_434, v16_8, v16_9, v16_10, v16_11, v16_12, v16_13])), (q_t, .inl (cT, 8192, .inl (fun j : Nat => zI (a_t (j : Int)))))]) (cx := [(h0, .inr (14, [.ref q_t, .int (zI (z16_n)), .int (zI (z0_429)), .int (zI (z1_430)), .int (zI (z2_431)), .int (zI (z3_432)), .int (zI (z4_433)), .ref q5_434, v16_8, v16_9, v16_10, v16_11, v16_12, v16_13])), (q_t, .inl (cT, 8192, .inl (fun j : Nat => zI (a_t (j : Int)))))]) (wr := []) (rx := [(h0, .inr (14, [.ref q_t, .int (zI (z16_n)), .int (zI (z0_482)), .int (zI (z1_483)), .int (zI (z2_484)), .int (zI (z3_485)), .int (zI (z4_486)), .ref q5_487, v16_8, v16_9, v16_10, v16_11, v16_12, v16_13])), (q_t, .inl (cT, 8192, .inl (fun j : Nat => zI (a_t (j : Int)))))]) (pl := va_pl Ln_435 (pE Pw_461)) (pl1 := va_pl Ln_488 (pE Pn_489)) hP hD [0, 1] [] rfl rfl (by decide) (by decide) hk1 hFc hP1 hD1
    have hK := (hK.sub (tys' := []) [] rfl).app hK1
    have hrmC := hxt_491.1.1
    rw [ht] at hrmC
    refine W_tightS (hrmA.trans hrmC) ?_
    have hrb := hxt_491.1.2
    generalize H1 = H at hP hS ⊢
    have hP : va_P (dC, dI) vwQ ([(h0, .inr (14, [.ref q_t, .int (zI (z16_n)), .int (zI (z0_482)), .int (zI (z1_483)), .int (zI (z2_484)), .int (zI (z3_485)), .int (zI (z4_486)), .ref q5_487, v16_8, v16_9, v16_10, v16_11, v16_12, v16_13])), (q_t, .inl (cT, 8192, .inl (fun j : Nat => zI (a_t (j : Int)))))] ++ va_pl Ln_488 (pE Pn_489)) H := hP
    have hD : va_D A ([(h0, .inr (14, [.ref q_t, .int (zI (z16_n)), .int (zI (z0_482)), .int (zI (z1_483)), .int (zI (z2_484)), .int (zI (z3_485)), .int (zI (z4_486)), .ref q5_487, v16_8, v16_9, v16_10, v16_11, v16_12, v16_13])), (q_t, .inl (cT, 8192, .inl (fun j : Nat => zI (a_t (j : Int)))))] ++ va_pl Ln_488 (pE Pn_489)) := hD
    have hK : va_K (dC, dI) vwQ [(cT, .byte), (cO, .object "java/lang/Object"), (cI, .int), (cZ, .boolean)] s := hK
    refine W.widen (k := ((0 + kc_437) + kc_490)) (n := ((0 + ks_438) + ks_491)) (by omega) (by omega) ?_
    obtain ⟨rk_492, rk_493, rk_494, rk_495, rk_496, hu_496⟩ := hxt_491.2
    have htk_497 := hu_496.2.2.2.2.1.2
    have hrg_497 := hu_496.2.2.2.2.1.1
    have htq_497 := htk_497.1
    have hu_498 := HID.mk (hu_496)
    replace hu_496 := HID.mk hu_496
    replace hxt_491 := HID.mk hxt_491
    have hoc9 := hu_498.2.2.1.2
    have hoq9 : OPQ (Pn_489.rA xr) (Pn_489.ra xr) := hu_498.2.2.1.1
    have hgo9 := hkd_449.go (by omega)
    have hkd_499 := hu_498.2.2.2.2.2.1
    have hX_kv := hkd_499.2
    have hq_500 : HID (la ∈ Ln_488 ∧ Pn_489.kd la = 30) := hu_498.1.mem hq_468.1 hq_468.2 (by decide)
    have hq_501 : HID (xr ∈ Ln_488 ∧ Pn_489.kd xr = 17) := hu_498.1.mem hq_469.1 hq_469.2 (by decide)
    have hE_502 : HID (Pn_489.ek xr ≠ 1) := (by rw [hu_498.1.ek hq_469.1 hq_469.2 (by decide)]; exact hE_470.out)
    have hA_503 : KEG [] L P Ln_488 Pn_489 := hA_471.trans hu_498.1
    have : Pn_489.lz la = Pw_461.lz la := (hu_498.2.2.2.1 la hq_468.1 (fun e9 => absurd e9 (kd_ne hq_468.2 hq_469.2 (by decide)))).2.1 0
    have hek_504 : HID (Pn_489.ek la = 12) := (by rw [hu_498.1.ek hq_468.1 hq_468.2 (by decide)]; exact hek_472.out)
    have how_505 : HID (Pn_489.ow la = la) := ((hu_498.1.1 la hq_468.1 (by rw [hq_468.2]; decide)).2.2.2.1 hq_468.2 how_473.out).1
    have hcz := (((hu_498.1.1 la hq_468.1 (by rw [hq_468.2]; decide)).2.2.2.1 hq_468.2 how_473.out).2 (by simp)).1
    have hX_tx := hu_498.2.2.2.2.2.2.1
    have hxk9 := hu_498.2.2.2.2.2.2.2
    have hcx_506 : CHG (fun z => z = xr) L P Ln_488 Pn_489 := hcx_474.trans hu_498.2.2.2.1 (fun z m q => q)
    have hnn_497 := TKV.nn (k := z1_483) (d := z0_482 - z2_484) (by omega)
    have hnx_507 : NTX L P Ln_488 Pn_489 := hnx_475.trans hu_498.2.2.1.2.2.2.2.2.2.2.2.2.2
    have hri_508 : ((((0 + ks_438) + ks_491) : Nat) : Int) ≤ 45 * (z2_484 - z16_place) - TKV z16_kind (z16_at - z16_place) + TKV (z1_483) (z0_482 - z2_484) - 10 ∧ ((((0 + kc_437) + kc_490) : Nat) : Int) ≤ 8 * (z2_484 - z16_place) - TKW z16_kind (z16_at - z16_place) + TKW (z1_483) (z0_482 - z2_484) - 3 := (by omega)
    clear hrb hri_459
    skip
    have hoa9 := hoq9
    subst hQ
    refine W_knowS (fun hrm9 => ?_)
    refine W.widen (k := ((8 * (z16_n - z16_place) - TKW z16_kind (z16_at - z16_place) + 160).toNat)) (n := ((45 * (z16_n - z16_place) - TKV z16_kind (z16_at - z16_place) + 500).toNat)) (rmW (by omega)) (rmW (by omega)) ?_
    refine vx_ret ?_
    exact W.vret hx hb hr (fun t ht hW => ⟨⟨(), rfl, trivial, z0_482, z1_483, z2_484, z3_485, z4_486, q5_487, Ln_488, Pn_489, ((0 + kc_437) + kc_490), ((0 + ks_438) + ks_491), ⟨⟨(by rw [ht, ← hp16]; exact hrm9), (by omega)⟩, ⟨(by omega), (by omega), (by omega), (by omega), (by omega), ⟨hA_503, hu_498.2.1, ⟨⟨(hkd_499.mono (by omega)).ms (by omega) (by omega) (by omega), by omega, by omega⟩, ⟨by omega, (by first | exact OPQ.z (by omega) | exact hoa9.to (by omega) (by omega)), (by first | exact OPQ.z (by omega) | exact hob9.to (by omega) (by omega))⟩, hnx_507⟩, hcx_506, ⟨⟨by omega, by omega, by omega⟩, htk_497⟩, hkd_499.mono (by omega), hX_tx⟩⟩⟩, by rw [ht]; exact hP, va_K.moved hW.alike hK, hD⟩, hS.F ht⟩) hS.2.2 dX16_row_25
