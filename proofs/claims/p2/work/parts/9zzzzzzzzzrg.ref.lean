theorem dX16_row_0 : decode cX16_row 0 = .ok (.aload_n 0, 1) := by decide +kernel
theorem dX16_row_1 : decode cX16_row 1 = .ok (.ldc 179, 2) := by decide +kernel
theorem dX16_row_3 : decode cX16_row 3 = .ok (.invokevirtual 132, 3) := by decide +kernel
theorem dX16_row_6 : decode cX16_row 6 = .ok (.ifCond .eq 20, 3) := by decide +kernel
theorem dX16_row_26 : decode cX16_row 26 = .ok (.aload_n 1, 1) := by decide +kernel
theorem dX16_row_27 : decode cX16_row 27 = .ok (.aload_n 0, 1) := by decide +kernel
theorem dX16_row_28 : decode cX16_row 28 = .ok (.iconst 2, 1) := by decide +kernel
theorem dX16_row_29 : decode cX16_row 29 = .ok (.invokevirtual 152, 3) := by decide +kernel
theorem dX16_row_32 : decode cX16_row 32 = .ok (.putfield 227, 3) := by decide +kernel
theorem dX16_row_35 : decode cX16_row 35 = .ok (.aload_n 0, 1) := by decide +kernel
theorem dX16_row_36 : decode cX16_row 36 = .ok (.ldc 229, 2) := by decide +kernel
theorem dX16_row_38 : decode cX16_row 38 = .ok (.invokevirtual 173, 3) := by decide +kernel
theorem dX16_row_41 : decode cX16_row 41 = .ok (.aload_n 0, 1) := by decide +kernel
theorem dX16_row_42 : decode cX16_row 42 = .ok (.ldc 231, 2) := by decide +kernel
theorem dX16_row_44 : decode cX16_row 44 = .ok (.invokevirtual 132, 3) := by decide +kernel
theorem dX16_row_47 : decode cX16_row 47 = .ok (.ifCond .eq 14, 3) := by decide +kernel
theorem dX16_row_61 : decode cX16_row 61 = .ok (.aload_n 0, 1) := by decide +kernel
theorem dX16_row_62 : decode cX16_row 62 = .ok (.aload_n 1, 1) := by decide +kernel
theorem dX16_row_63 : decode cX16_row 63 = .ok (.iconst 0, 1) := by decide +kernel
theorem dX16_row_64 : decode cX16_row 64 = .ok (.invokevirtual 223, 3) := by decide +kernel
theorem dX16_row_67 : decode cX16_row 67 = .ok (.aload_n 1, 1) := by decide +kernel
theorem dX16_row_68 : decode cX16_row 68 = .ok (.aload_n 0, 1) := by decide +kernel
theorem dX16_row_69 : decode cX16_row 69 = .ok (.getfield 38, 3) := by decide +kernel
theorem dX16_row_72 : decode cX16_row 72 = .ok (.iconst 5, 1) := by decide +kernel
theorem dX16_row_73 : decode cX16_row 73 = .ok (.if_icmp .ne 13, 3) := by decide +kernel
theorem dX16_row_86 : decode cX16_row 86 = .ok (.iconst 0, 1) := by decide +kernel
theorem dX16_row_87 : decode cX16_row 87 = .ok (.putfield 220, 3) := by decide +kernel
theorem dX16_row_90 : decode cX16_row 90 = .ok (.aload_n 1, 1) := by decide +kernel
theorem dX16_row_91 : decode cX16_row 91 = .ok (.getfield 220, 3) := by decide +kernel
theorem dX16_row_94 : decode cX16_row 94 = .ok (.ifCond .ne 4, 3) := by decide +kernel
theorem dX16_row_98 : decode cX16_row 98 = .ok (.aload_n 0, 1) := by decide +kernel
theorem dX16_row_99 : decode cX16_row 99 = .ok (.invokevirtual 35, 3) := by decide +kernel
theorem dX16_row_102 : decode cX16_row 102 = .ok (.aload_n 0, 1) := by decide +kernel
theorem dX16_row_103 : decode cX16_row 103 = .ok (.aload_n 1, 1) := by decide +kernel
theorem dX16_row_104 : decode cX16_row 104 = .ok (.iconst 1, 1) := by decide +kernel
theorem dX16_row_105 : decode cX16_row 105 = .ok (.invokevirtual 223, 3) := by decide +kernel
theorem dX16_row_108 : decode cX16_row 108 = .ok (.return_, 1) := by decide +kernel
theorem dX16_row_97 : decode cX16_row 97 = .ok (.return_, 1) := by decide +kernel
theorem dX16_row_76 : decode cX16_row 76 = .ok (.aload_n 0, 1) := by decide +kernel
theorem dX16_row_77 : decode cX16_row 77 = .ok (.getfield 11, 3) := by decide +kernel
theorem dX16_row_80 : decode cX16_row 80 = .ok (.invokestatic 233, 3) := by decide +kernel
theorem dX16_row_83 : decode cX16_row 83 = .ok (.goto 4, 3) := by decide +kernel
theorem dX16_row_50 : decode cX16_row 50 = .ok (.aload_n 0, 1) := by decide +kernel
theorem dX16_row_51 : decode cX16_row 51 = .ok (.invokevirtual 35, 3) := by decide +kernel
theorem dX16_row_54 : decode cX16_row 54 = .ok (.aload_n 1, 1) := by decide +kernel
theorem dX16_row_55 : decode cX16_row 55 = .ok (.bipush 20, 2) := by decide +kernel
theorem dX16_row_57 : decode cX16_row 57 = .ok (.putfield 220, 3) := by decide +kernel
theorem dX16_row_60 : decode cX16_row 60 = .ok (.return_, 1) := by decide +kernel
theorem dX16_row_9 : decode cX16_row 9 = .ok (.aload_n 0, 1) := by decide +kernel
theorem dX16_row_10 : decode cX16_row 10 = .ok (.invokevirtual 35, 3) := by decide +kernel
theorem dX16_row_13 : decode cX16_row 13 = .ok (.aload_n 1, 1) := by decide +kernel
theorem dX16_row_14 : decode cX16_row 14 = .ok (.bipush 21, 2) := by decide +kernel
theorem dX16_row_16 : decode cX16_row 16 = .ok (.putfield 220, 3) := by decide +kernel
theorem dX16_row_19 : decode cX16_row 19 = .ok (.aload_n 0, 1) := by decide +kernel
theorem dX16_row_20 : decode cX16_row 20 = .ok (.aload_n 1, 1) := by decide +kernel
theorem dX16_row_21 : decode cX16_row 21 = .ok (.iconst 0, 1) := by decide +kernel
theorem dX16_row_22 : decode cX16_row 22 = .ok (.invokevirtual 223, 3) := by decide +kernel
theorem dX16_row_25 : decode cX16_row 25 = .ok (.return_, 1) := by decide +kernel
def o_X16_rowM : List Cond := [.methodLink RX16 132 yX16_is, .instanceMethod yX16_is, .selects RX16 yX16_is yX16_is, .initialized RX16, .methodLink RX16 152 yX16_want_, .instanceMethod yX16_want_, .selects RX16 yX16_want_ yX16_want_, .fieldLink RX16 227 "SsaForgeModel$Row" "t" "I", .methodLink RX16 173 yX16_want, .instanceMethod yX16_want, .selects RX16 yX16_want yX16_want, .methodLink RX16 223 yX16_operand, .instanceMethod yX16_operand, .selects RX16 yX16_operand yX16_operand, .fieldLink RX16 38 "SsaForgeModel$Reader" "kind" "I", .fieldLink RX16 220 "SsaForgeModel$Row" "op" "I", .methodLink RX16 35 yX16_next, .instanceMethod yX16_next, .selects RX16 yX16_next yX16_next, .fieldLink RX16 11 "SsaForgeModel$Reader" "text" "Ljava/lang/String;", .initialized RX19, .static yX19_operation]
def v_X16_rowM : List Cond := .code yX16_row cX16_row 2 none :: (o_X16_rowM ++ (v_X16_isK ++ (v_X16_wantIM ++ (wsX170 ++ (v_X16_wantSM ++ (v_X16_opAM ++ (wsX160 ++ (v_X16_nextM ++ (v_X16_opBM ++ (v_X19_operation ++ []))))))))))
theorem mow_X16_rowM : ∀ w ∈ o_X16_rowM, w ∈ v_X16_rowM := fun _ h => List.mem_cons_of_mem _ (List.mem_append_left _ h)
theorem mem_X16_rowM_0 : ∀ w ∈ v_X16_isK, w ∈ v_X16_rowM := fun _ h => List.mem_cons_of_mem _ (List.mem_append_right _ (List.mem_append_left _ h))
theorem mem_X16_rowM_1 : ∀ w ∈ v_X16_wantIM, w ∈ v_X16_rowM := fun _ h => List.mem_cons_of_mem _ (List.mem_append_right _ (List.mem_append_right _ (List.mem_append_left _ h)))
theorem mem_X16_rowM_2 : ∀ w ∈ wsX170, w ∈ v_X16_rowM := fun _ h => List.mem_cons_of_mem _ (List.mem_append_right _ (List.mem_append_right _ (List.mem_append_right _ (List.mem_append_left _ h))))
theorem mem_X16_rowM_3 : ∀ w ∈ v_X16_wantSM, w ∈ v_X16_rowM := fun _ h => List.mem_cons_of_mem _ (List.mem_append_right _ (List.mem_append_right _ (List.mem_append_right _ (List.mem_append_right _ (List.mem_append_left _ h)))))
theorem mem_X16_rowM_4 : ∀ w ∈ v_X16_opAM, w ∈ v_X16_rowM := fun _ h => List.mem_cons_of_mem _ (List.mem_append_right _ (List.mem_append_right _ (List.mem_append_right _ (List.mem_append_right _ (List.mem_append_right _ (List.mem_append_left _ h))))))
theorem mem_X16_rowM_5 : ∀ w ∈ wsX160, w ∈ v_X16_rowM := fun _ h => List.mem_cons_of_mem _ (List.mem_append_right _ (List.mem_append_right _ (List.mem_append_right _ (List.mem_append_right _ (List.mem_append_right _ (List.mem_append_right _ (List.mem_append_left _ h)))))))
theorem mem_X16_rowM_6 : ∀ w ∈ v_X16_nextM, w ∈ v_X16_rowM := fun _ h => List.mem_cons_of_mem _ (List.mem_append_right _ (List.mem_append_right _ (List.mem_append_right _ (List.mem_append_right _ (List.mem_append_right _ (List.mem_append_right _ (List.mem_append_right _ (List.mem_append_left _ h))))))))
theorem mem_X16_rowM_7 : ∀ w ∈ v_X16_opBM, w ∈ v_X16_rowM := fun _ h => List.mem_cons_of_mem _ (List.mem_append_right _ (List.mem_append_right _ (List.mem_append_right _ (List.mem_append_right _ (List.mem_append_right _ (List.mem_append_right _ (List.mem_append_right _ (List.mem_append_right _ (List.mem_append_left _ h)))))))))
theorem mem_X16_rowM_8 : ∀ w ∈ v_X19_operation, w ∈ v_X16_rowM := fun _ h => List.mem_cons_of_mem _ (List.mem_append_right _ (List.mem_append_right _ (List.mem_append_right _ (List.mem_append_right _ (List.mem_append_right _ (List.mem_append_right _ (List.mem_append_right _ (List.mem_append_right _ (List.mem_append_right _ (List.mem_append_left _ h))))))))))
set_option maxRecDepth 20000 in
theorem gw_X16_rowM : v_X16_rowM.all goodWord = true := by decide +kernel
set_option maxRecDepth 20000 in
theorem g_X16_rowM_X16_isK : GoodIn v_X16_rowM (wsV RX16 132 RX16 yX16_is v_X16_isK) := goodIn_app (goodIn_sub (fun w h => mow_X16_rowM w (by revert w h; decide +kernel)) (by decide +kernel)) (goodIn_sub mem_X16_rowM_0 gw_X16_isK)
set_option maxRecDepth 20000 in
theorem g_X16_rowM_X16_wantIM : GoodIn v_X16_rowM (wsV RX16 152 RX16 yX16_want_ v_X16_wantIM) := goodIn_app (goodIn_sub (fun w h => mow_X16_rowM w (by revert w h; decide +kernel)) (by decide +kernel)) (goodIn_sub mem_X16_rowM_1 gw_X16_wantIM)
set_option maxRecDepth 20000 in
theorem g_X16_rowM_X16_wantSM : GoodIn v_X16_rowM (wsV RX16 173 RX16 yX16_want v_X16_wantSM) := goodIn_app (goodIn_sub (fun w h => mow_X16_rowM w (by revert w h; decide +kernel)) (by decide +kernel)) (goodIn_sub mem_X16_rowM_3 gw_X16_wantSM)
set_option maxRecDepth 20000 in
theorem g_X16_rowM_X16_opAM : GoodIn v_X16_rowM (wsV RX16 223 RX16 yX16_operand v_X16_opAM) := goodIn_app (goodIn_sub (fun w h => mow_X16_rowM w (by revert w h; decide +kernel)) (by decide +kernel)) (goodIn_sub mem_X16_rowM_4 gw_X16_opAM)
set_option maxRecDepth 20000 in
theorem g_X16_rowM_X16_nextM : GoodIn v_X16_rowM (wsV RX16 35 RX16 yX16_next v_X16_nextM) := goodIn_app (goodIn_sub (fun w h => mow_X16_rowM w (by revert w h; decide +kernel)) (by decide +kernel)) (goodIn_sub mem_X16_rowM_6 gw_X16_nextM)
set_option maxRecDepth 20000 in
theorem g_X16_rowM_X16_opBM : GoodIn v_X16_rowM (wsV RX16 223 RX16 yX16_operand v_X16_opBM) := goodIn_app (goodIn_sub (fun w h => mow_X16_rowM w (by revert w h; decide +kernel)) (by decide +kernel)) (goodIn_sub mem_X16_rowM_7 gw_X16_opBM)
set_option maxHeartbeats 40000000 in
set_option maxRecDepth 100000 in
theorem c_X16_rowM (l : Launch) (dC : Nat → ClassId) (dI : Nat → Nat → Nat) (cI : ClassId) (cZ : ClassId) (h0 : Nat) (z16_n : Int) (z16_at : Int) (z16_kind : Int) (z16_place : Int) (z16_value : Int) (z16_before : Int) (v16_8 : Value) (v16_9 : Value) (v16_10 : Value) (v16_11 : Value) (v16_12 : Value) (v16_13 : Value) (q_t : Nat) (cT : ClassId) (a_t : Int → Int) (tx9 : Nat) (L : List Nat) (P : PO) (sa_RX16_9 : Nat) (cO : ClassId) (la : Nat) (sx_ed : Nat) (xr : Nat) (hNz16_n : 0 ≤ z16_n ∧ z16_n ≤ 8192) (hNz16_at : 0 ≤ z16_at ∧ z16_at ≤ 8192) (hNz16_kind : 0 ≤ z16_kind ∧ z16_kind ≤ 6) (hNz16_place : 0 ≤ z16_place ∧ z16_place ≤ 8192) (hNz16_value : -2147483648 ≤ z16_value ∧ z16_value ≤ 2147483647) (hNz16_before : 0 ≤ z16_before ∧ z16_before ≤ 6) (hR_a_t : ∀ j : Int, -128 ≤ a_t j ∧ a_t j ≤ 127) (hX_g : GLF L P cO cI cZ sx_ed) (hX_la : la ∈ L ∧ P.kd la = 30 ∧ P.ek la = 12 ∧ P.ow la = la) (hX_x : xr ∈ L) (hX_k : P.kd xr = 17) (hX_e : P.ek xr ≠ 1) (hX_tx : TXT L P cT sa_RX16_9 tx9) (hNd : z16_at ≤ z16_n ∧ z16_place ≤ z16_at) (hX_kv : KV9 z16_kind z16_value) (hNr : P.rA xr = 0 ∧ P.rB xr = 0) (sz : Nat) (sa_RX16_179 : Nat) (sv_RX16_179 : Nat) (sv_RX16_9 : Nat) (sa_RX16_119 : Nat) (sv_RX16_119 : Nat) (sa_RX16_100 : Nat) (sv_RX16_100 : Nat) (sa_RX16_117 : Nat) (sv_RX16_117 : Nat) (sa_RX16_98 : Nat) (sv_RX16_98 : Nat) (HU : Heap) (sa_RX16_229 : Nat) (sv_RX16_229 : Nat) (sa_RX16_231 : Nat) (sv_RX16_231 : Nat) (sa_RX19_3 : Nat) (sa_RX19_11 : Nat) (sv_RX19_11 : Nat) (sv_RX19_3 : Nat) (sx_fm : Nat) : vx_Met l yX16_row v_X16_rowM ({ frames := 9, cells := ((24 * (z16_n - z16_at) + 40).toNat), slots := ((170 * (z16_n - z16_at) + 190).toNat), locals := 239 }) (va_Pc [.ref h0, .ref xr] (fun U => U.heap.size = sz ∧ va_P (dC, dI) vwQ ([(h0, .inr (14, [.ref q_t, .int (zI (z16_n)), .int (zI (z16_at)), .int (zI (z16_kind)), .int (zI (z16_place)), .int (zI (z16_value)), .int (zI (z16_before)), .ref tx9, v16_8, v16_9, v16_10, v16_11, v16_12, v16_13])), (q_t, .inl (cT, 8192, .inl (fun j : Nat => zI (a_t (j : Int)))))] ++ va_pl L (pE P)) U.heap ∧ va_K (dC, dI) vwQ [(cT, .byte), (cO, .object "java/lang/Object"), (cI, .int), (cZ, .boolean)] U ∧ va_D (fun _ => True) ([(h0, .inr (14, [.ref q_t, .int (zI (z16_n)), .int (zI (z16_at)), .int (zI (z16_kind)), .int (zI (z16_place)), .int (zI (z16_value)), .int (zI (z16_before)), .ref tx9, v16_8, v16_9, v16_10, v16_11, v16_12, v16_13])), (q_t, .inl (cT, 8192, .inl (fun j : Nat => zI (a_t (j : Int)))))] ++ va_pl L (pE P)) ∧ vk_R RX16 179 "show" sa_RX16_179 U ∧ vs_S sa_RX16_179 sv_RX16_179 4 (fun j : Nat => ([115, 104, 111, 119] : List Int32).getD j 0) (va_A ([(h0, .inr (14, [.ref q_t, .int (zI (z16_n)), .int (zI (z16_at)), .int (zI (z16_kind)), .int (zI (z16_place)), .int (zI (z16_value)), .int (zI (z16_before)), .ref tx9, v16_8, v16_9, v16_10, v16_11, v16_12, v16_13])), (q_t, .inl (cT, 8192, .inl (fun j : Nat => zI (a_t (j : Int)))))] ++ va_pl L (pE P)) sz) U U.heap ∧ vs_S sa_RX16_9 sv_RX16_9 0 (fun j : Nat => ([] : List Int32).getD j 0) (va_A ([(h0, .inr (14, [.ref q_t, .int (zI (z16_n)), .int (zI (z16_at)), .int (zI (z16_kind)), .int (zI (z16_place)), .int (zI (z16_value)), .int (zI (z16_before)), .ref tx9, v16_8, v16_9, v16_10, v16_11, v16_12, v16_13])), (q_t, .inl (cT, 8192, .inl (fun j : Nat => zI (a_t (j : Int)))))] ++ va_pl L (pE P)) sz) U U.heap ∧ va_Z "java/lang/String" "COMPACT_STRINGS" "Z" (.int 1) (va_A ([(h0, .inr (14, [.ref q_t, .int (zI (z16_n)), .int (zI (z16_at)), .int (zI (z16_kind)), .int (zI (z16_place)), .int (zI (z16_value)), .int (zI (z16_before)), .ref tx9, v16_8, v16_9, v16_10, v16_11, v16_12, v16_13])), (q_t, .inl (cT, 8192, .inl (fun j : Nat => zI (a_t (j : Int)))))] ++ va_pl L (pE P)) sz) U U.heap ∧ vk_R RX16 9 "" sa_RX16_9 U ∧ va_Nw (.castable "[B" "java/lang/Cloneable") U ∧ vk_R RX16 119 "+-*/%&|^<(),:=" sa_RX16_119 U ∧ vs_S sa_RX16_119 sv_RX16_119 14 (fun j : Nat => ([43, 45, 42, 47, 37, 38, 124, 94, 60, 40, 41, 44, 58, 61] : List Int32).getD j 0) (va_A ([(h0, .inr (14, [.ref q_t, .int (zI (z16_n)), .int (zI (z16_at)), .int (zI (z16_kind)), .int (zI (z16_place)), .int (zI (z16_value)), .int (zI (z16_before)), .ref tx9, v16_8, v16_9, v16_10, v16_11, v16_12, v16_13])), (q_t, .inl (cT, 8192, .inl (fun j : Nat => zI (a_t (j : Int)))))] ++ va_pl L (pE P)) sz) U U.heap ∧ vs_S sa_RX16_100 sv_RX16_100 1 (fun j : Nat => ([32] : List Int32).getD j 0) (va_A ([(h0, .inr (14, [.ref q_t, .int (zI (z16_n)), .int (zI (z16_at)), .int (zI (z16_kind)), .int (zI (z16_place)), .int (zI (z16_value)), .int (zI (z16_before)), .ref tx9, v16_8, v16_9, v16_10, v16_11, v16_12, v16_13])), (q_t, .inl (cT, 8192, .inl (fun j : Nat => zI (a_t (j : Int)))))] ++ va_pl L (pE P)) sz) U U.heap ∧ vk_R RX16 117 " << >> <= == != " sa_RX16_117 U ∧ vk_R RX16 100 " " sa_RX16_100 U ∧ vs_S sa_RX16_117 sv_RX16_117 16 (fun j : Nat => ([32, 60, 60, 32, 62, 62, 32, 60, 61, 32, 61, 61, 32, 33, 61, 32] : List Int32).getD j 0) (va_A ([(h0, .inr (14, [.ref q_t, .int (zI (z16_n)), .int (zI (z16_at)), .int (zI (z16_kind)), .int (zI (z16_place)), .int (zI (z16_value)), .int (zI (z16_before)), .ref tx9, v16_8, v16_9, v16_10, v16_11, v16_12, v16_13])), (q_t, .inl (cT, 8192, .inl (fun j : Nat => zI (a_t (j : Int)))))] ++ va_pl L (pE P)) sz) U U.heap ∧ vk_R RX16 98 " in show if jump ret phi " sa_RX16_98 U ∧ vs_S sa_RX16_98 sv_RX16_98 25 (fun j : Nat => ([32, 105, 110, 32, 115, 104, 111, 119, 32, 105, 102, 32, 106, 117, 109, 112, 32, 114, 101, 116, 32, 112, 104, 105, 32] : List Int32).getD j 0) (va_A ([(h0, .inr (14, [.ref q_t, .int (zI (z16_n)), .int (zI (z16_at)), .int (zI (z16_kind)), .int (zI (z16_place)), .int (zI (z16_value)), .int (zI (z16_before)), .ref tx9, v16_8, v16_9, v16_10, v16_11, v16_12, v16_13])), (q_t, .inl (cT, 8192, .inl (fun j : Nat => zI (a_t (j : Int)))))] ++ va_pl L (pE P)) sz) U U.heap ∧ vx_Zq Bundle.tN "UNASSIGNED_STACK" Bundle.steD (va_A ([(h0, .inr (14, [.ref q_t, .int (zI (z16_n)), .int (zI (z16_at)), .int (zI (z16_kind)), .int (zI (z16_place)), .int (zI (z16_value)), .int (zI (z16_before)), .ref tx9, v16_8, v16_9, v16_10, v16_11, v16_12, v16_13])), (q_t, .inl (cT, 8192, .inl (fun j : Nat => zI (a_t (j : Int)))))] ++ va_pl L (pE P)) sz) U U.heap ∧ vx_Zq Bundle.tN "SUPPRESSED_SENTINEL" Bundle.listD (va_A ([(h0, .inr (14, [.ref q_t, .int (zI (z16_n)), .int (zI (z16_at)), .int (zI (z16_kind)), .int (zI (z16_place)), .int (zI (z16_value)), .int (zI (z16_before)), .ref tx9, v16_8, v16_9, v16_10, v16_11, v16_12, v16_13])), (q_t, .inl (cT, 8192, .inl (fun j : Nat => zI (a_t (j : Int)))))] ++ va_pl L (pE P)) sz) U U.heap ∧ U.heap = HU ∧ vk_R RX16 229 "=" sa_RX16_229 U ∧ vs_S sa_RX16_229 sv_RX16_229 1 (fun j : Nat => ([61] : List Int32).getD j 0) (va_A ([(h0, .inr (14, [.ref q_t, .int (zI (z16_n)), .int (zI (z16_at)), .int (zI (z16_kind)), .int (zI (z16_place)), .int (zI (z16_value)), .int (zI (z16_before)), .ref tx9, v16_8, v16_9, v16_10, v16_11, v16_12, v16_13])), (q_t, .inl (cT, 8192, .inl (fun j : Nat => zI (a_t (j : Int)))))] ++ va_pl L (pE P)) sz) U U.heap ∧ vk_R RX16 231 "in" sa_RX16_231 U ∧ vs_S sa_RX16_231 sv_RX16_231 2 (fun j : Nat => ([105, 110] : List Int32).getD j 0) (va_A ([(h0, .inr (14, [.ref q_t, .int (zI (z16_n)), .int (zI (z16_at)), .int (zI (z16_kind)), .int (zI (z16_place)), .int (zI (z16_value)), .int (zI (z16_before)), .ref tx9, v16_8, v16_9, v16_10, v16_11, v16_12, v16_13])), (q_t, .inl (cT, 8192, .inl (fun j : Nat => zI (a_t (j : Int)))))] ++ va_pl L (pE P)) sz) U U.heap ∧ vk_R RX19 3 " + - * / % & | ^ << >> < <= == != " sa_RX19_3 U ∧ vk_R RX19 11 " " sa_RX19_11 U ∧ vs_S sa_RX19_11 sv_RX19_11 1 (fun j : Nat => ([32] : List Int32).getD j 0) (va_A ([(h0, .inr (14, [.ref q_t, .int (zI (z16_n)), .int (zI (z16_at)), .int (zI (z16_kind)), .int (zI (z16_place)), .int (zI (z16_value)), .int (zI (z16_before)), .ref tx9, v16_8, v16_9, v16_10, v16_11, v16_12, v16_13])), (q_t, .inl (cT, 8192, .inl (fun j : Nat => zI (a_t (j : Int)))))] ++ va_pl L (pE P)) sz) U U.heap ∧ vs_S sa_RX19_3 sv_RX19_3 34 (fun j : Nat => ([32, 43, 32, 45, 32, 42, 32, 47, 32, 37, 32, 38, 32, 124, 32, 94, 32, 60, 60, 32, 62, 62, 32, 60, 32, 60, 61, 32, 61, 61, 32, 33, 61, 32] : List Int32).getD j 0) (va_A ([(h0, .inr (14, [.ref q_t, .int (zI (z16_n)), .int (zI (z16_at)), .int (zI (z16_kind)), .int (zI (z16_place)), .int (zI (z16_value)), .int (zI (z16_before)), .ref tx9, v16_8, v16_9, v16_10, v16_11, v16_12, v16_13])), (q_t, .inl (cT, 8192, .inl (fun j : Nat => zI (a_t (j : Int)))))] ++ va_pl L (pE P)) sz) U U.heap ∧ va_Z "jdk/internal/util/Preconditions" "SIOOBE_FORMATTER" "Ljava/util/function/BiFunction;" (.ref sx_fm) (va_A ([(h0, .inr (14, [.ref q_t, .int (zI (z16_n)), .int (zI (z16_at)), .int (zI (z16_kind)), .int (zI (z16_place)), .int (zI (z16_value)), .int (zI (z16_before)), .ref tx9, v16_8, v16_9, v16_10, v16_11, v16_12, v16_13])), (q_t, .inl (cT, 8192, .inl (fun j : Nat => zI (a_t (j : Int)))))] ++ va_pl L (pE P)) sz) U U.heap ∧ va_Nw (.methodLinkNest RX16 233 yX19_operation "SsaForgeModel") U)) (va_Qv (fun _ : Unit => True) (fun (_ : Unit) (t : State) => ∃ (z0_9 : Int) (z1_9 : Int) (z2_9 : Int) (z3_9 : Int) (z4_9 : Int) (q5_9 : Nat) (Ln_9 : List Nat) (Pn_9 : PO) (kc_9 : Nat) (ks_9 : Nat), ((RM HU t.heap kc_9 ks_9 ∧ ((ks_9 : Int) ≤ 160 * (z0_9 - z16_at) ∧ (kc_9 : Int) ≤ 22 * (z0_9 - z16_at))) ∧ ((0 ≤ z0_9 ∧ z0_9 ≤ 8192) ∧ (0 ≤ z1_9 ∧ z1_9 ≤ 6) ∧ (0 ≤ z2_9 ∧ z2_9 ≤ 8192) ∧ (-2147483648 ≤ z3_9 ∧ z3_9 ≤ 2147483647) ∧ (0 ≤ z4_9 ∧ z4_9 ≤ 6) ∧ (KEG [] L P Ln_9 Pn_9 ∧ GLF Ln_9 Pn_9 cO cI cZ sx_ed ∧ (7 * (z16_n - z0_9) + z1_9 < 7 * (z16_n - z16_at) + z16_kind ∧ z16_at + 1 ≤ z0_9) ∧ CHG (fun z => z = xr) L P Ln_9 Pn_9 ∧ (z16_at ≤ z2_9 ∧ z2_9 ≤ z0_9 ∧ z0_9 ≤ z16_n) ∧ KDN (z1_9) (z0_9) (z3_9) z16_n z16_at ∧ TXT Ln_9 Pn_9 cT sa_RX16_9 q5_9))) ∧ va_P (dC, dI) vwQ ([(h0, .inr (14, [.ref q_t, .int (zI (z16_n)), .int (zI (z0_9)), .int (zI (z1_9)), .int (zI (z2_9)), .int (zI (z3_9)), .int (zI (z4_9)), .ref q5_9, v16_8, v16_9, v16_10, v16_11, v16_12, v16_13])), (q_t, .inl (cT, 8192, .inl (fun j : Nat => zI (a_t (j : Int)))))] ++ va_pl Ln_9 (pE Pn_9)) t.heap ∧ va_K (dC, dI) vwQ [(cT, .byte), (cO, .object "java/lang/Object"), (cI, .int), (cZ, .boolean)] t ∧ va_D (va_A ([(h0, .inr (14, [.ref q_t, .int (zI (z16_n)), .int (zI (z16_at)), .int (zI (z16_kind)), .int (zI (z16_place)), .int (zI (z16_value)), .int (zI (z16_before)), .ref tx9, v16_8, v16_9, v16_10, v16_11, v16_12, v16_13])), (q_t, .inl (cT, 8192, .inl (fun j : Nat => zI (a_t (j : Int)))))] ++ va_pl L (pE P)) sz) ([(h0, .inr (14, [.ref q_t, .int (zI (z16_n)), .int (zI (z0_9)), .int (zI (z1_9)), .int (zI (z2_9)), .int (zI (z3_9)), .int (zI (z4_9)), .ref q5_9, v16_8, v16_9, v16_10, v16_11, v16_12, v16_13])), (q_t, .inl (cT, 8192, .inl (fun j : Nat => zI (a_t (j : Int)))))] ++ va_pl Ln_9 (pE Pn_9))) (va_A ([(h0, .inr (14, [.ref q_t, .int (zI (z16_n)), .int (zI (z16_at)), .int (zI (z16_kind)), .int (zI (z16_place)), .int (zI (z16_value)), .int (zI (z16_before)), .ref tx9, v16_8, v16_9, v16_10, v16_11, v16_12, v16_13])), (q_t, .inl (cT, 8192, .inl (fun j : Nat => zI (a_t (j : Int)))))] ++ va_pl L (pE P)) sz)) (vx_X (fun _ : Unit => True) (fun E (q9 : Addr) (_ : Unit) (t9 : State) => (E = RX18 ∧ ∃ (zp_9 : Int) (Ln_9 : List Nat) (Pn_9 : PO) (kc_9 : Nat) (ks_9 : Nat), ((RM HU t9.heap kc_9 ks_9 ∧ ((ks_9 : Int) ≤ 160 * (z16_n - z16_at) + 7 ∧ (kc_9 : Int) ≤ 22 * (z16_n - z16_at) + 1)) ∧ ((0 ≤ zp_9 ∧ zp_9 ≤ 8192) ∧ (KEG [] L P Ln_9 Pn_9 ∧ GLF Ln_9 Pn_9 cO cI cZ sx_ed ∧ CPA L P Pn_9))) ∧ va_P (dC, dI) vwQ ([(q_t, .inl (cT, 8192, .inl (fun j : Nat => zI (a_t (j : Int))))), (q9, .inr (15, [.null, .null, .null, .null, .null, .int 0, .int (zI (zp_9))]))] ++ va_pl Ln_9 (pE Pn_9)) t9.heap ∧ va_D (va_A ([(h0, .inr (14, [.ref q_t, .int (zI (z16_n)), .int (zI (z16_at)), .int (zI (z16_kind)), .int (zI (z16_place)), .int (zI (z16_value)), .int (zI (z16_before)), .ref tx9, v16_8, v16_9, v16_10, v16_11, v16_12, v16_13])), (q_t, .inl (cT, 8192, .inl (fun j : Nat => zI (a_t (j : Int)))))] ++ va_pl L (pE P)) sz) ([(q_t, .inl (cT, 8192, .inl (fun j : Nat => zI (a_t (j : Int))))), (q9, .inr (15, [.null, .null, .null, .null, .null, .int 0, .int (zI (zp_9))]))] ++ va_pl Ln_9 (pE Pn_9)))) (va_A ([(h0, .inr (14, [.ref q_t, .int (zI (z16_n)), .int (zI (z16_at)), .int (zI (z16_kind)), .int (zI (z16_place)), .int (zI (z16_value)), .int (zI (z16_before)), .ref tx9, v16_8, v16_9, v16_10, v16_11, v16_12, v16_13])), (q_t, .inl (cT, 8192, .inl (fun j : Nat => zI (a_t (j : Int)))))] ++ va_pl L (pE P)) sz)) ((24 * (z16_n - z16_at) + 40).toNat) ((170 * (z16_n - z16_at) + 190).toNat) (va_A ([(h0, .inr (14, [.ref q_t, .int (zI (z16_n)), .int (zI (z16_at)), .int (zI (z16_kind)), .int (zI (z16_place)), .int (zI (z16_value)), .int (zI (z16_before)), .ref tx9, v16_8, v16_9, v16_10, v16_11, v16_12, v16_13])), (q_t, .inl (cT, 8192, .inl (fun j : Nat => zI (a_t (j : Int)))))] ++ va_pl L (pE P)) sz) := by
  refine vx_ofW (cc := cX16_row) (maxL := 2) (ret := none) (by decide) rfl ?_
  intro p e s m args below meth c s₁ B hml hnt hv
  obtain ⟨rfl, hsz, hP, hK, hD0, hp0, hp1, hp2, hp3, hp4, hp5, hp6, hp7, hp8, hp9, hp10, hp11, hp12, hp13, hp14, hp15, hp16, hp17, hp18, hp19, hp20, hp21, hp22, hp23, hp24, hp25, hp26⟩ := hv
  have hx := B.exec
  have hb := B.bytes
  have hr := B.returns
  have hts := atoms_spec (ws := v_X16_rowM) B.pre
  have hown : s.vm.findClass RX16 = some m.cls := findClass_of_methodNamed B.named
  have hlocks := B.notSynchronized
  have ow : ∀ {k : Nat} {w : Cond}, o_X16_rowM[k]? = some w → w.before ([.ref h0, .ref xr] : List Value).toArray s = true := fun h => hts _ (mow_X16_rowM _ (List.mem_of_getElem? h))
  subst hsz
  have hD := hD0.self (sz := s.heap.size)
  generalize hAe : va_A ([(h0, .inr (14, [.ref q_t, .int (zI (z16_n)), .int (zI (z16_at)), .int (zI (z16_kind)), .int (zI (z16_place)), .int (zI (z16_value)), .int (zI (z16_before)), .ref tx9, v16_8, v16_9, v16_10, v16_11, v16_12, v16_13])), (q_t, .inl (cT, 8192, .inl (fun j : Nat => zI (a_t (j : Int)))))] ++ va_pl L (pE P)) s.heap.size = A at hD hp1 hp2 hp3 hp7 hp8 hp11 hp13 hp14 hp15 hp18 hp20 hp23 hp24 hp25 ⊢
  have hA : ∀ q : Nat, s.heap.size ≤ q → A q := fun q h => by rw [← hAe]; exact Or.inr h
  have hS : va_S A s.heap s.heap [] := va_S.rf
  have hP : va_P (dC, dI) vwQ ([(h0, .inr (14, [.ref q_t, .int (zI (z16_n)), .int (zI (z16_at)), .int (zI (z16_kind)), .int (zI (z16_place)), .int (zI (z16_value)), .int (zI (z16_before)), .ref tx9, v16_8, v16_9, v16_10, v16_11, v16_12, v16_13])), (q_t, .inl (cT, 8192, .inl (fun j : Nat => zI (a_t (j : Int)))))] ++ va_pl L (pE P)) s.heap := hP
  have hl := lv_entry ([.ref h0, .ref xr]) (n := 2) (Nat.le_of_ble_eq_true rfl)
  rw [lg_entry_eq]
  generalize (lg_sl ([.ref h0, .ref xr]) ++ List.replicate (2 - (lg_sl ([.ref h0, .ref xr])).length) Slot.unset).toArray = ls at hl ⊢
  have hl : lv_has ls 2 [(0, .ref h0), (1, .ref xr)] := hl
  obtain ⟨H, hH⟩ : ∃ H, H = s.heap := ⟨_, rfl⟩
  rw [← hH] at hP
  have hS : va_S A s.heap H [] := by rw [hH]; exact hS
  rw [← hH]
  refine zW_cap (fun Q hQ => ?_)
  have hX_g9 := hX_g
  have hC_la := hX_la
  have hg00 := hX_g
  have hk00 := hX_k
  have hcx0 : CHG (fun z => z = xr) L P L P := CHG.refl _ _ _
  refine lv_aload_n hx hb dX16_row_0 rfl (lv_at hl 0 rfl) ?_
  refine va_ldcS hx hb hown hp0 dX16_row_1 ?_
  have hPc := hP.part (X := [(h0, .inr (14, [.ref q_t, .int (zI (z16_n)), .int (zI (z16_at)), .int (zI (z16_kind)), .int (zI (z16_place)), .int (zI (z16_value)), .int (zI (z16_before)), .ref tx9, v16_8, v16_9, v16_10, v16_11, v16_12, v16_13])), (q_t, .inl (cT, 8192, .inl (fun j : Nat => zI (a_t (j : Int)))))]) (cx := [(h0, .inr (14, [.ref q_t, .int (zI (z16_n)), .int (zI (z16_at)), .int (zI (z16_kind)), .int (zI (z16_place)), .int (zI (z16_value)), .int (zI (z16_before)), .ref tx9, v16_8, v16_9, v16_10, v16_11, v16_12, v16_13])), (q_t, .inl (cT, 8192, .inl (fun j : Nat => zI (a_t (j : Int)))))]) (pl := va_pl L (pE P)) [0, 1] rfl
  have hDc := hD.part (X := [(h0, .inr (14, [.ref q_t, .int (zI (z16_n)), .int (zI (z16_at)), .int (zI (z16_kind)), .int (zI (z16_place)), .int (zI (z16_value)), .int (zI (z16_before)), .ref tx9, v16_8, v16_9, v16_10, v16_11, v16_12, v16_13])), (q_t, .inl (cT, 8192, .inl (fun j : Nat => zI (a_t (j : Int)))))]) (cx := [(h0, .inr (14, [.ref q_t, .int (zI (z16_n)), .int (zI (z16_at)), .int (zI (z16_kind)), .int (zI (z16_place)), .int (zI (z16_value)), .int (zI (z16_before)), .ref tx9, v16_8, v16_9, v16_10, v16_11, v16_12, v16_13])), (q_t, .inl (cT, 8192, .inl (fun j : Nat => zI (a_t (j : Int)))))]) (pl := va_pl L (pE P)) [0, 1] (by decide) rfl
  have hKc := hK.sub (tys' := [(cT, .byte)]) [0] rfl
  have hFc := va_freeP (X := [(h0, .inr (14, [.ref q_t, .int (zI (z16_n)), .int (zI (z16_at)), .int (zI (z16_kind)), .int (zI (z16_place)), .int (zI (z16_value)), .int (zI (z16_before)), .ref tx9, v16_8, v16_9, v16_10, v16_11, v16_12, v16_13])), (q_t, .inl (cT, 8192, .inl (fun j : Nat => zI (a_t (j : Int)))))]) (cx := [(h0, .inr (14, [.ref q_t, .int (zI (z16_n)), .int (zI (z16_at)), .int (zI (z16_kind)), .int (zI (z16_place)), .int (zI (z16_value)), .int (zI (z16_before)), .ref tx9, v16_8, v16_9, v16_10, v16_11, v16_12, v16_13])), (q_t, .inl (cT, 8192, .inl (fun j : Nat => zI (a_t (j : Int)))))]) (pl := va_pl L (pE P)) hD hS hA [0, 1] rfl
  refine va_calli (va_runV (As := [.ref sa_RX16_179]) (rest := []) ⟨hx, hb, hml, hown, hts⟩ (c_X16_isK l dC dI h0 (.int (zI (z16_n))) (.int (zI (z16_at))) z16_kind (.int (zI (z16_place))) (.int (zI (z16_value))) (.int (zI (z16_before))) v16_8 v16_9 v16_10 v16_11 v16_12 v16_13 q_t cT a_t tx9 L P sa_RX16_9 sa_RX16_179 sv_RX16_179 4 ((fun j : Nat => ([115, 104, 111, 119] : List Int32).getD j 0)) (by omega) hR_a_t hX_tx (by omega) H.size sv_RX16_9) (cwV 1 hts g_X16_rowM_X16_isK rfl rfl rfl (by decide +kernel) ⟨(Nat.le_of_ble_eq_true rfl), (Nat.le_of_ble_eq_true rfl)⟩) ⟨fun a U g mk q => by obtain ⟨q0, q1, qP, qK, qD, e0, e1, e2⟩ := q; exact ⟨q0, q1, qP, va_K.moved (u := U) (U := U.calling g mk a) (Vm.Alike.refl U.vm) qK, qD, vs_S.moved (u := U) (U := U.calling g mk a) (Vm.Alike.refl U.vm) e0, vs_S.moved (u := U) (U := U.calling g mk a) (Vm.Alike.refl U.vm) e1, va_Z.moved (u := U) (U := U.calling g mk a) (Vm.Alike.refl U.vm) e2⟩, va_recv hKc hPc (ci := 14) (q0 := 0) rfl rfl, fun U hU hW => ⟨rfl, by rw [hU], by rw [hU]; exact hPc, va_K.moved hW.alike hKc, hDc.weaken (fun _ _ _ _ => trivial), by rw [hU]; exact vs_S.narrow (vs_S.moved hW.alike (vs_S.kept hp2 hS.2.1)) hFc, by rw [hU]; exact vs_S.narrow (vs_S.moved hW.alike (vs_S.kept hp1 hS.2.1)) hFc, by rw [hU]; exact va_Z.narrow (va_Z.moved hW.alike (va_Z.kept hp3 hS.2.1)) hFc⟩⟩ rfl rfl hl.1 rfl (lv_room (Nat.le_of_ble_eq_true rfl)) dX16_row_3 ⟨(Nat.zero_le _), (Nat.zero_le _)⟩) hS (fun q _ h => hFc q h) hFc (fun r_1 u t H1 locs ht hvm hw hB hz1 hk1 hS => ?_)
  obtain ⟨hP1, hK1, hD1⟩ := hB
  rw [ht] at hP1
  have hK1 := va_K.moved hvm.symm hK1
  obtain ⟨hP, hD⟩ := va_joinP (X := [(h0, .inr (14, [.ref q_t, .int (zI (z16_n)), .int (zI (z16_at)), .int (zI (z16_kind)), .int (zI (z16_place)), .int (zI (z16_value)), .int (zI (z16_before)), .ref tx9, v16_8, v16_9, v16_10, v16_11, v16_12, v16_13])), (q_t, .inl (cT, 8192, .inl (fun j : Nat => zI (a_t (j : Int)))))]) (cx := [(h0, .inr (14, [.ref q_t, .int (zI (z16_n)), .int (zI (z16_at)), .int (zI (z16_kind)), .int (zI (z16_place)), .int (zI (z16_value)), .int (zI (z16_before)), .ref tx9, v16_8, v16_9, v16_10, v16_11, v16_12, v16_13])), (q_t, .inl (cT, 8192, .inl (fun j : Nat => zI (a_t (j : Int)))))]) (wr := []) (rx := [(h0, .inr (14, [.ref q_t, .int (zI (z16_n)), .int (zI (z16_at)), .int (zI (z16_kind)), .int (zI (z16_place)), .int (zI (z16_value)), .int (zI (z16_before)), .ref tx9, v16_8, v16_9, v16_10, v16_11, v16_12, v16_13])), (q_t, .inl (cT, 8192, .inl (fun j : Nat => zI (a_t (j : Int)))))]) (pl := va_pl L (pE P)) (pl1 := va_pl L (pE P)) hP hD [0, 1] [] rfl rfl (by decide) (by decide) hk1 hFc hP1 hD1
  have hK := (hK.sub (tys' := [(cO, .object "java/lang/Object"), (cI, .int), (cZ, .boolean)]) [1, 2, 3] rfl).app hK1
  generalize H1 = H at hP hS ⊢
  have hP : va_P (dC, dI) vwQ ([(h0, .inr (14, [.ref q_t, .int (zI (z16_n)), .int (zI (z16_at)), .int (zI (z16_kind)), .int (zI (z16_place)), .int (zI (z16_value)), .int (zI (z16_before)), .ref tx9, v16_8, v16_9, v16_10, v16_11, v16_12, v16_13])), (q_t, .inl (cT, 8192, .inl (fun j : Nat => zI (a_t (j : Int)))))] ++ va_pl L (pE P)) H := hP
  have hD : va_D A ([(h0, .inr (14, [.ref q_t, .int (zI (z16_n)), .int (zI (z16_at)), .int (zI (z16_kind)), .int (zI (z16_place)), .int (zI (z16_value)), .int (zI (z16_before)), .ref tx9, v16_8, v16_9, v16_10, v16_11, v16_12, v16_13])), (q_t, .inl (cT, 8192, .inl (fun j : Nat => zI (a_t (j : Int)))))] ++ va_pl L (pE P)) := hD
  have hK : va_K (dC, dI) vwQ [(cO, .object "java/lang/Object"), (cI, .int), (cZ, .boolean), (cT, .byte)] s := hK
  refine W.widen (k := 0) (n := 0) (Nat.le_of_ble_eq_true rfl) (Nat.le_of_ble_eq_true rfl) ?_
  have hw_2 := hw
  obtain ⟨z_3, rfl, hzz_3⟩ := hw_2
  refine lv_if_eq (tgt := 26) hx hb dX16_row_6 (by decide) (fun b6 => ?_) (fun b6 => ?_)
  · have yb6 : (z_3 : Int) = (0 : Int) := (zI_eq (a := z_3) (b := 0) (by omega) (by omega) (by omega) (by omega)).mp b6
    refine lv_aload_n hx hb dX16_row_26 rfl (lv_at hl 1 rfl) ?_
    refine lv_aload_n hx hb dX16_row_27 rfl (lv_at hl 0 rfl) ?_
    refine lv_iconst (v := 2) hx hb dX16_row_28 (by decide) ?_
    have hPc := hP.part (X := [(h0, .inr (14, [.ref q_t, .int (zI (z16_n)), .int (zI (z16_at)), .int (zI (z16_kind)), .int (zI (z16_place)), .int (zI (z16_value)), .int (zI (z16_before)), .ref tx9, v16_8, v16_9, v16_10, v16_11, v16_12, v16_13])), (q_t, .inl (cT, 8192, .inl (fun j : Nat => zI (a_t (j : Int)))))]) (cx := [(h0, .inr (14, [.ref q_t, .int (zI (z16_n)), .int (zI (z16_at)), .int (zI (z16_kind)), .int (zI (z16_place)), .int (zI (z16_value)), .int (zI (z16_before)), .ref tx9, v16_8, v16_9, v16_10, v16_11, v16_12, v16_13])), (q_t, .inl (cT, 8192, .inl (fun j : Nat => zI (a_t (j : Int)))))]) (pl := va_pl L (pE P)) [0, 1] rfl
    have hDc := hD.part (X := [(h0, .inr (14, [.ref q_t, .int (zI (z16_n)), .int (zI (z16_at)), .int (zI (z16_kind)), .int (zI (z16_place)), .int (zI (z16_value)), .int (zI (z16_before)), .ref tx9, v16_8, v16_9, v16_10, v16_11, v16_12, v16_13])), (q_t, .inl (cT, 8192, .inl (fun j : Nat => zI (a_t (j : Int)))))]) (cx := [(h0, .inr (14, [.ref q_t, .int (zI (z16_n)), .int (zI (z16_at)), .int (zI (z16_kind)), .int (zI (z16_place)), .int (zI (z16_value)), .int (zI (z16_before)), .ref tx9, v16_8, v16_9, v16_10, v16_11, v16_12, v16_13])), (q_t, .inl (cT, 8192, .inl (fun j : Nat => zI (a_t (j : Int)))))]) (pl := va_pl L (pE P)) [0, 1] (by decide) rfl
    have hKc := hK.sub (tys' := [(cT, .byte)]) [3] rfl
    have hFc := va_freeP (X := [(h0, .inr (14, [.ref q_t, .int (zI (z16_n)), .int (zI (z16_at)), .int (zI (z16_kind)), .int (zI (z16_place)), .int (zI (z16_value)), .int (zI (z16_before)), .ref tx9, v16_8, v16_9, v16_10, v16_11, v16_12, v16_13])), (q_t, .inl (cT, 8192, .inl (fun j : Nat => zI (a_t (j : Int)))))]) (cx := [(h0, .inr (14, [.ref q_t, .int (zI (z16_n)), .int (zI (z16_at)), .int (zI (z16_kind)), .int (zI (z16_place)), .int (zI (z16_value)), .int (zI (z16_before)), .ref tx9, v16_8, v16_9, v16_10, v16_11, v16_12, v16_13])), (q_t, .inl (cT, 8192, .inl (fun j : Nat => zI (a_t (j : Int)))))]) (pl := va_pl L (pE P)) hD hS hA [0, 1] rfl
    refine W_knowS (fun hrmA => ?_)
    refine vx_calli (vx_runV (As := [.int 2]) (rest := [.ref xr]) ⟨hx, hb, hml, hown, hts⟩ (c_X16_wantIM l dC dI h0 z16_n z16_at z16_kind z16_place z16_value z16_before v16_8 v16_9 v16_10 v16_11 v16_12 v16_13 q_t cT a_t tx9 L P sa_RX16_9 2 (by omega) (by omega) (by omega) (by omega) (by omega) (by omega) hR_a_t hX_tx (by omega) hX_kv (by omega) H.size sv_RX16_9 sa_RX16_119 sv_RX16_119 sa_RX16_100 sv_RX16_100 sa_RX16_117 sv_RX16_117 sa_RX16_98 sv_RX16_98 H) (cwV 1 hts g_X16_rowM_X16_wantIM rfl rfl rfl (by decide +kernel) ⟨(Nat.le_of_ble_eq_true rfl), (Nat.le_of_ble_eq_true rfl)⟩) ⟨fun a U g mk q => by obtain ⟨q0, q1, qP, qK, qD, e0, e1, e2, e3, e4, e5, e6, e7, e8, e9, e10, e11, e12, e13, e14⟩ := q; exact ⟨q0, q1, qP, va_K.moved (u := U) (U := U.calling g mk a) (Vm.Alike.refl U.vm) qK, qD, vk_R.same (u := U) (U := U.calling g mk a) rfl e0, va_Z.moved (u := U) (U := U.calling g mk a) (Vm.Alike.refl U.vm) e1, vs_S.moved (u := U) (U := U.calling g mk a) (Vm.Alike.refl U.vm) e2, va_Nw.same rfl (u := U) (U := U.calling g mk a) rfl e3, vk_R.same (u := U) (U := U.calling g mk a) rfl e4, vs_S.moved (u := U) (U := U.calling g mk a) (Vm.Alike.refl U.vm) e5, vs_S.moved (u := U) (U := U.calling g mk a) (Vm.Alike.refl U.vm) e6, vk_R.same (u := U) (U := U.calling g mk a) rfl e7, vk_R.same (u := U) (U := U.calling g mk a) rfl e8, vs_S.moved (u := U) (U := U.calling g mk a) (Vm.Alike.refl U.vm) e9, vk_R.same (u := U) (U := U.calling g mk a) rfl e10, vs_S.moved (u := U) (U := U.calling g mk a) (Vm.Alike.refl U.vm) e11, e12, vx_Zq.moved (u := U) (U := U.calling g mk a) (Vm.Alike.refl U.vm) e13, vx_Zq.moved (u := U) (U := U.calling g mk a) (Vm.Alike.refl U.vm) e14⟩, va_recv hKc hPc (ci := 14) (q0 := 0) rfl rfl, fun U hU hW => ⟨rfl, by rw [hU], by rw [hU]; exact hPc, va_K.moved hW.alike hKc, hDc.weaken (fun _ _ _ _ => trivial), vk_R.warm hW hp4, by rw [hU]; exact va_Z.narrow (va_Z.moved hW.alike (va_Z.kept hp3 hS.2.1)) hFc, by rw [hU]; exact vs_S.narrow (vs_S.moved hW.alike (vs_S.kept hp2 hS.2.1)) hFc, va_Nw.warmC hW hp5, vk_R.warm hW hp6, by rw [hU]; exact vs_S.narrow (vs_S.moved hW.alike (vs_S.kept hp7 hS.2.1)) hFc, by rw [hU]; exact vs_S.narrow (vs_S.moved hW.alike (vs_S.kept hp8 hS.2.1)) hFc, vk_R.warm hW hp9, vk_R.warm hW hp10, by rw [hU]; exact vs_S.narrow (vs_S.moved hW.alike (vs_S.kept hp11 hS.2.1)) hFc, vk_R.warm hW hp12, by rw [hU]; exact vs_S.narrow (vs_S.moved hW.alike (vs_S.kept hp13 hS.2.1)) hFc, hU, by rw [hU]; exact vx_Zq.narrow (vx_Zq.moved hW.alike (vx_Zq.kept hp14 hS.2.1)) hFc, by rw [hU]; exact vx_Zq.narrow (vx_Zq.moved hW.alike (vx_Zq.kept hp15 hS.2.1)) hFc⟩⟩ rfl rfl hl.1 rfl (lv_room (Nat.le_of_ble_eq_true rfl)) dX16_row_29 ⟨(show 0 + ((13 * (z16_n - z16_at) + 20).toNat) ≤ (24 * (z16_n - z16_at) + 40).toNat from (by omega)), (show 0 + ((110 * (z16_n - z16_at) + 120).toNat) ≤ (170 * (z16_n - z16_at) + 190).toNat from (by omega))⟩) hS (fun q _ h => hFc q h) hFc (fun q _ h => hFc q h) (fun E ce q9 u t H1 locs ht hvm _ hB hz1 hk1 hS hce hcv hcl => ?_) (fun r_4 u t H1 locs ht hvm hw hB hz1 hk1 hS => ?_)
    · obtain ⟨rfl, zp_5, Ln_6, Pn_7, kc_8, ks_9, hxt_10, hP1, hD1⟩ := hB
      rw [ht] at hP1
      obtain ⟨hP, hD⟩ := va_joinP (X := [(h0, .inr (14, [.ref q_t, .int (zI (z16_n)), .int (zI (z16_at)), .int (zI (z16_kind)), .int (zI (z16_place)), .int (zI (z16_value)), .int (zI (z16_before)), .ref tx9, v16_8, v16_9, v16_10, v16_11, v16_12, v16_13])), (q_t, .inl (cT, 8192, .inl (fun j : Nat => zI (a_t (j : Int)))))]) (cx := [(h0, .inr (14, [.ref q_t, .int (zI (z16_n)), .int (zI (z16_at)), .int (zI (z16_kind)), .int (zI (z16_place)), .int (zI (z16_value)), .int (zI (z16_before)), .ref tx9, v16_8, v16_9, v16_10, v16_11, v16_12, v16_13])), (q_t, .inl (cT, 8192, .inl (fun j : Nat => zI (a_t (j : Int)))))]) (wr := []) (rx := [(q_t, .inl (cT, 8192, .inl (fun j : Nat => zI (a_t (j : Int))))), (q9, .inr (15, [.null, .null, .null, .null, .null, .int 0, .int (zI (zp_5))]))]) (pl := va_pl L (pE P)) (pl1 := va_pl Ln_6 (pE Pn_7)) hP hD [0, 1] [] rfl rfl (by decide) (by decide) hk1 hFc hP1 hD1
      have hrmC := hxt_10.1.1
      rw [ht] at hrmC
      refine vx_tightS (hrmA.trans hrmC) ?_
      have hrb := hxt_10.1.2
      generalize H1 = H at hP hS hce ⊢
      have hP : va_P (dC, dI) vwQ ([(q_t, .inl (cT, 8192, .inl (fun j : Nat => zI (a_t (j : Int))))), (q9, .inr (15, [.null, .null, .null, .null, .null, .int 0, .int (zI (zp_5))]))] ++ va_pl Ln_6 (pE Pn_7)) H := hP
      have hD : va_D A ([(q_t, .inl (cT, 8192, .inl (fun j : Nat => zI (a_t (j : Int))))), (q9, .inr (15, [.null, .null, .null, .null, .null, .int 0, .int (zI (zp_5))]))] ++ va_pl Ln_6 (pE Pn_7)) := hD
      have hzp : 0 ≤ zp_5 ∧ zp_5 ≤ 8192 := hxt_10.2.1
      subst hQ
      refine vx_knowS (fun hrm9 => ?_)
      refine vx_widen (k := ((24 * (z16_n - z16_at) + 40).toNat)) (n := ((170 * (z16_n - z16_at) + 190).toNat)) (by omega) (by omega) ?_
      exact vx_out (fun x9 h9 => (hnt x9 h9).elim) hlocks hce hcv hcl (fun t ht hvm => ⟨(), trivial, ⟨rfl, zp_5, Ln_6, Pn_7, (0 + kc_8), (0 + ks_9), ⟨⟨(by rw [ht, ← hp16]; exact hrm9), (by omega)⟩, ⟨(by omega), ⟨(KEG.refl [] L P).trans (hxt_10.2.2.1.keg hX_g9), hX_g9.txt hxt_10.2.2.1 hxt_10.2.2.2, (hcx0.cpa hg00.owa (fun z _ q => by rw [show z = xr from q, hk00]; decide)).trans (KEG.refl [] L P) (hxt_10.2.2.1.cpa hX_g9.owa)⟩⟩⟩, by rw [ht]; exact hP, hD⟩, hS.F ht⟩) hS.2.2 (Nat.le_refl _) (Nat.le_refl _)
    obtain ⟨z0_11, z1_12, z2_13, z3_14, z4_15, q5_16, Ln_17, Pn_18, kc_19, ks_20, hxt_20, hP1, hK1, hD1⟩ := hB
    rw [ht] at hP1
    have hK1 := va_K.moved hvm.symm hK1
    obtain ⟨hP, hD⟩ := va_joinP (X := [(h0, .inr (14, [.ref q_t, .int (zI (z16_n)), .int (zI (z16_at)), .int (zI (z16_kind)), .int (zI (z16_place)), .int (zI (z16_value)), .int (zI (z16_before)), .ref tx9, v16_8, v16_9, v16_10, v16_11, v16_12, v16_13])), (q_t, .inl (cT, 8192, .inl (fun j : Nat => zI (a_t (j : Int)))))]) (cx := [(h0, .inr (14, [.ref q_t, .int (zI (z16_n)), .int (zI (z16_at)), .int (zI (z16_kind)), .int (zI (z16_place)), .int (zI (z16_value)), .int (zI (z16_before)), .ref tx9, v16_8, v16_9, v16_10, v16_11, v16_12, v16_13])), (q_t, .inl (cT, 8192, .inl (fun j : Nat => zI (a_t (j : Int)))))]) (wr := []) (rx := [(h0, .inr (14, [.ref q_t, .int (zI (z16_n)), .int (zI (z0_11)), .int (zI (z1_12)), .int (zI (z2_13)), .int (zI (z3_14)), .int (zI (z4_15)), .ref q5_16, v16_8, v16_9, v16_10, v16_11, v16_12, v16_13])), (q_t, .inl (cT, 8192, .inl (fun j : Nat => zI (a_t (j : Int)))))]) (pl := va_pl L (pE P)) (pl1 := va_pl Ln_17 (pE Pn_18)) hP hD [0, 1] [] rfl rfl (by decide) (by decide) hk1 hFc hP1 hD1
    have hK := (hK.sub (tys' := [(cO, .object "java/lang/Object"), (cI, .int), (cZ, .boolean)]) [0, 1, 2] rfl).app hK1
    have hrmC := hxt_20.1.1
    rw [ht] at hrmC
    refine W_tightS (hrmA.trans hrmC) ?_
    have hrb := hxt_20.1.2
    generalize H1 = H at hP hS ⊢
    have hP : va_P (dC, dI) vwQ ([(h0, .inr (14, [.ref q_t, .int (zI (z16_n)), .int (zI (z0_11)), .int (zI (z1_12)), .int (zI (z2_13)), .int (zI (z3_14)), .int (zI (z4_15)), .ref q5_16, v16_8, v16_9, v16_10, v16_11, v16_12, v16_13])), (q_t, .inl (cT, 8192, .inl (fun j : Nat => zI (a_t (j : Int)))))] ++ va_pl Ln_17 (pE Pn_18)) H := hP
    have hD : va_D A ([(h0, .inr (14, [.ref q_t, .int (zI (z16_n)), .int (zI (z0_11)), .int (zI (z1_12)), .int (zI (z2_13)), .int (zI (z3_14)), .int (zI (z4_15)), .ref q5_16, v16_8, v16_9, v16_10, v16_11, v16_12, v16_13])), (q_t, .inl (cT, 8192, .inl (fun j : Nat => zI (a_t (j : Int)))))] ++ va_pl Ln_17 (pE Pn_18)) := hD
    have hK : va_K (dC, dI) vwQ [(cO, .object "java/lang/Object"), (cI, .int), (cZ, .boolean), (cT, .byte)] s := hK
    refine W.widen (k := (0 + kc_19)) (n := (0 + ks_20)) (by omega) (by omega) ?_
    have hw_21 := hw
    obtain ⟨rk_22, rk_23, rk_24, rk_25, rk_26, hu_26⟩ := hxt_20.2
    obtain ⟨z_27, rfl, hzz_27⟩ := hw_21
    have hkd_32 := hu_26.2.1
    have hX_kv := hkd_32.2
    have hu_28 := hu_26.2.2
    have hex_29 : EXT9 L P Ln_17 Pn_18 := hu_28.1
    have hke_30 : KEG [] L P Ln_17 Pn_18 := hex_29.keg hX_g9
    have hak_31 : GLF Ln_17 Pn_18 cO cI cZ sx_ed := hX_g9.txt hex_29 hu_28.2.1
    have hsm_33 := (hex_29 xr hX_x).2
    have : Pn_18.ro xr = P.ro xr := hsm_33.1 0
    have : Pn_18.rt xr = P.rt xr := hsm_33.1 1
    have : Pn_18.ra xr = P.ra xr := hsm_33.1 2
    have : Pn_18.rb xr = P.rb xr := hsm_33.1 3
    have : Pn_18.rA xr = P.rA xr := hsm_33.1 4
    have : Pn_18.rB xr = P.rB xr := hsm_33.1 5
    have : Pn_18.rg xr = P.rg xr := hsm_33.1 6
    have hq_34 : la ∈ Ln_17 ∧ Pn_18.kd la = 30 := hke_30.mem hC_la.1 hC_la.2.1 (by decide)
    have hq_35 : xr ∈ Ln_17 ∧ Pn_18.kd xr = 17 := hke_30.mem hX_x hX_k (by decide)
    have hE_36 : Pn_18.ek xr ≠ 1 := (by rw [hke_30.ek hX_x hX_k (by decide)]; exact hX_e)
    have hA_37 : KEG [] L P Ln_17 Pn_18 := (KEG.refl [] L P).trans hke_30
    have : Pn_18.lz la = P.lz la := (hex_29 la hC_la.1).2.1 0
    have hek_38 : Pn_18.ek la = 12 := (by rw [hke_30.ek hC_la.1 hC_la.2.1 (by decide)]; exact hC_la.2.2.1)
    have how_39 : Pn_18.ow la = la := ((hke_30.1 la hC_la.1 (by rw [hC_la.2.1]; decide)).2.2.2.1 hC_la.2.1 hC_la.2.2.2).1
    have hcz := (((hke_30.1 la hC_la.1 (by rw [hC_la.2.1]; decide)).2.2.2.1 hC_la.2.1 hC_la.2.2.2).2 (by simp)).1
    have hX_tx := hu_28.2.2
    have hcx_40 : CHG (fun z => z = xr) L P Ln_17 Pn_18 := hcx0.trans hex_29.chg (fun z m q => q.elim)
    have hzr9 := hzz_27.1.reg rfl
    have hr7 := (hak_31.rok hq_35.1 hq_35.2).n7
    obtain ⟨kp_41, gkp_41⟩ := va_pl_get (X := [(h0, .inr (14, [.ref q_t, .int (zI (z16_n)), .int (zI (z0_11)), .int (zI (z1_12)), .int (zI (z2_13)), .int (zI (z3_14)), .int (zI (z4_15)), .ref q5_16, v16_8, v16_9, v16_10, v16_11, v16_12, v16_13])), (q_t, .inl (cT, 8192, .inl (fun j : Nat => zI (a_t (j : Int)))))]) (f := pE Pn_18) hq_35.1
    have hkp_41 := gkp_41
    rw [pE_row hq_35.2] at hkp_41
    have hD0 := hD
    refine va_put (D := (dC, dI)) (ci := 21) (v := .int (zI (z_27))) (ty := .int) (C := RX17) (T := TX17) (N := 7) hx hb hts mem_X16_rowM_2 tyX17 tyX17_ok nmX17 hown hK hP hD hS kp_41 hkp_41 rfl 1 (by decide) (ow (k := 7) rfl) (fun _ h9 => h9) rfl (by decide +kernel) rfl rfl (by first | exact Nat.le_of_ble_eq_true rfl | exact (show (0 + kc_19) ≤ (24 * (z16_n - z16_at) + 40).toNat from (by omega)) | exact (show (0 + ks_20) ≤ (170 * (z16_n - z16_at) + 190).toNat from (by omega))) dX16_row_32 (fun H locs hP hD hS => ?_)
    obtain ⟨Pw_42, ePw_42⟩ : ∃ q9 : PO, q9 = Pn_18.rw9 1 xr (z_27) := ⟨_, rfl⟩
    have eU : (([(h0, .inr (14, [.ref q_t, .int (zI (z16_n)), .int (zI (z0_11)), .int (zI (z1_12)), .int (zI (z2_13)), .int (zI (z3_14)), .int (zI (z4_15)), .ref q5_16, v16_8, v16_9, v16_10, v16_11, v16_12, v16_13])), (q_t, .inl (cT, 8192, .inl (fun j : Nat => zI (a_t (j : Int)))))] : va_W) ++ va_pl Ln_17 (pE Pn_18)).set kp_41 (xr, rowE (Pn_18.ro xr) (z_27) (Pn_18.ra xr) (Pn_18.rb xr) (Pn_18.rA xr) (Pn_18.rB xr) (Pn_18.rg xr)) = ([(h0, .inr (14, [.ref q_t, .int (zI (z16_n)), .int (zI (z0_11)), .int (zI (z1_12)), .int (zI (z2_13)), .int (zI (z3_14)), .int (zI (z4_15)), .ref q5_16, v16_8, v16_9, v16_10, v16_11, v16_12, v16_13])), (q_t, .inl (cT, 8192, .inl (fun j : Nat => zI (a_t (j : Int)))))] : va_W) ++ va_pl Ln_17 (pE Pw_42) := (by rw [va_pl_set hD0 hq_35.1 gkp_41, ePw_42]; exact congrArg (fun f9 => ([(h0, .inr (14, [.ref q_t, .int (zI (z16_n)), .int (zI (z0_11)), .int (zI (z1_12)), .int (zI (z2_13)), .int (zI (z3_14)), .int (zI (z4_15)), .ref q5_16, v16_8, v16_9, v16_10, v16_11, v16_12, v16_13])), (q_t, .inl (cT, 8192, .inl (fun j : Nat => zI (a_t (j : Int)))))] : va_W) ++ va_pl Ln_17 f9) (put17_1 hq_35.2))
    have hP : va_P (dC, dI) vwQ ([(h0, .inr (14, [.ref q_t, .int (zI (z16_n)), .int (zI (z0_11)), .int (zI (z1_12)), .int (zI (z2_13)), .int (zI (z3_14)), .int (zI (z4_15)), .ref q5_16, v16_8, v16_9, v16_10, v16_11, v16_12, v16_13])), (q_t, .inl (cT, 8192, .inl (fun j : Nat => zI (a_t (j : Int)))))] ++ va_pl Ln_17 (pE Pw_42)) H := (by rw [← eU]; exact hP)
    have hD : va_D A ([(h0, .inr (14, [.ref q_t, .int (zI (z16_n)), .int (zI (z0_11)), .int (zI (z1_12)), .int (zI (z2_13)), .int (zI (z3_14)), .int (zI (z4_15)), .ref q5_16, v16_8, v16_9, v16_10, v16_11, v16_12, v16_13])), (q_t, .inl (cT, 8192, .inl (fun j : Nat => zI (a_t (j : Int)))))] ++ va_pl Ln_17 (pE Pw_42)) := (by rw [← eU]; exact hD)
    clear eU hD0 gkp_41 hkp_41
    have wPw_42 : RW1 xr Pn_18 Pw_42 := (by rw [ePw_42]; exact RW1.put _ _ _ _)
    have hy_43 : Pw_42.kd la = 30 := (by rw [ePw_42]; exact hq_34.2)
    have hy_44 : Pw_42.kd xr = 17 := (by rw [ePw_42]; exact hq_35.2)
    have : Pw_42.ro xr = Pn_18.ro xr := (by rw [ePw_42]; exact rw9_of _ (by decide))
    have : Pw_42.rt xr = z_27 := (by rw [ePw_42]; exact rw9_at _ _ _ _)
    have : Pw_42.ra xr = Pn_18.ra xr := (by rw [ePw_42]; exact rw9_of _ (by decide))
    have : Pw_42.rb xr = Pn_18.rb xr := (by rw [ePw_42]; exact rw9_of _ (by decide))
    have : Pw_42.rA xr = Pn_18.rA xr := (by rw [ePw_42]; exact rw9_of _ (by decide))
    have : Pw_42.rB xr = Pn_18.rB xr := (by rw [ePw_42]; exact rw9_of _ (by decide))
    have : Pw_42.rg xr = Pn_18.rg xr := (by rw [ePw_42]; exact rw9_of _ (by decide))
    have hW_45 : RW1 xr Pn_18 Pw_42 := wPw_42
    have hrw_48 : RWD Pn_18 Pw_42 := hW_45.rwd (Or.inl hq_35.2)
    have hak_47 : GLF Ln_17 Pw_42 cO cI cZ sx_ed := hak_31.row hW_45 hq_35.2 (ROK9.of (by omega) (by omega) (by omega) (by omega) (by omega) (by omega) (by omega) (uaZ (by omega)) (ubZ (by omega))) (fun e9 => by have q9 := hak_31.op21 hq_35.1 hq_35.2 e9; omega)
    have hke_46 : KEG [] Ln_17 Pn_18 Ln_17 Pw_42 := hrw_48.keg _ hq_34.2
    have hq_49 : la ∈ Ln_17 ∧ Pw_42.kd la = 30 := hke_46.mem hq_34.1 hq_34.2 (by decide)
    have hq_50 : xr ∈ Ln_17 ∧ Pw_42.kd xr = 17 := hke_46.mem hq_35.1 hq_35.2 (by decide)
    have hE_51 : Pw_42.ek xr ≠ 1 := (by rw [hke_46.ek hq_35.1 hq_35.2 (by decide)]; exact hE_36)
    have hA_52 : KEG [] L P Ln_17 Pw_42 := hA_37.trans hke_46
    have : Pw_42.lz la = Pn_18.lz la := hrw_48.lz hq_34.2
    have : Pw_42.cap la = Pn_18.cap la := hW_45.cap la
    have hek_53 : Pw_42.ek la = 12 := (by rw [hke_46.ek hq_34.1 hq_34.2 (by decide)]; exact hek_38)
    have how_54 : Pw_42.ow la = la := ((hke_46.1 la hq_34.1 (by rw [hq_34.2]; decide)).2.2.2.1 hq_34.2 how_39).1
    have hcz := (((hke_46.1 la hq_34.1 (by rw [hq_34.2]; decide)).2.2.2.1 hq_34.2 how_39).2 (by simp)).1
    have hX_tx := hX_tx.rw1 hW_45 (Or.inl hq_35.2)
    have hcx_55 : CHG (fun z => z = xr) L P Ln_17 Pw_42 := hcx_40.trans (hW_45.chg _) (fun z m q => q)
    refine lv_aload_n hx hb dX16_row_35 rfl (lv_at hl 0 rfl) ?_
    refine va_ldcS hx hb hown hp17 dX16_row_36 ?_
    have hPc := hP.part (X := [(h0, .inr (14, [.ref q_t, .int (zI (z16_n)), .int (zI (z0_11)), .int (zI (z1_12)), .int (zI (z2_13)), .int (zI (z3_14)), .int (zI (z4_15)), .ref q5_16, v16_8, v16_9, v16_10, v16_11, v16_12, v16_13])), (q_t, .inl (cT, 8192, .inl (fun j : Nat => zI (a_t (j : Int)))))]) (cx := [(h0, .inr (14, [.ref q_t, .int (zI (z16_n)), .int (zI (z0_11)), .int (zI (z1_12)), .int (zI (z2_13)), .int (zI (z3_14)), .int (zI (z4_15)), .ref q5_16, v16_8, v16_9, v16_10, v16_11, v16_12, v16_13])), (q_t, .inl (cT, 8192, .inl (fun j : Nat => zI (a_t (j : Int)))))]) (pl := va_pl Ln_17 (pE Pw_42)) [0, 1] rfl
    have hDc := hD.part (X := [(h0, .inr (14, [.ref q_t, .int (zI (z16_n)), .int (zI (z0_11)), .int (zI (z1_12)), .int (zI (z2_13)), .int (zI (z3_14)), .int (zI (z4_15)), .ref q5_16, v16_8, v16_9, v16_10, v16_11, v16_12, v16_13])), (q_t, .inl (cT, 8192, .inl (fun j : Nat => zI (a_t (j : Int)))))]) (cx := [(h0, .inr (14, [.ref q_t, .int (zI (z16_n)), .int (zI (z0_11)), .int (zI (z1_12)), .int (zI (z2_13)), .int (zI (z3_14)), .int (zI (z4_15)), .ref q5_16, v16_8, v16_9, v16_10, v16_11, v16_12, v16_13])), (q_t, .inl (cT, 8192, .inl (fun j : Nat => zI (a_t (j : Int)))))]) (pl := va_pl Ln_17 (pE Pw_42)) [0, 1] (by decide) rfl
    have hKc := hK.sub (tys' := [(cT, .byte)]) [3] rfl
    have hFc := va_freeP (X := [(h0, .inr (14, [.ref q_t, .int (zI (z16_n)), .int (zI (z0_11)), .int (zI (z1_12)), .int (zI (z2_13)), .int (zI (z3_14)), .int (zI (z4_15)), .ref q5_16, v16_8, v16_9, v16_10, v16_11, v16_12, v16_13])), (q_t, .inl (cT, 8192, .inl (fun j : Nat => zI (a_t (j : Int)))))]) (cx := [(h0, .inr (14, [.ref q_t, .int (zI (z16_n)), .int (zI (z0_11)), .int (zI (z1_12)), .int (zI (z2_13)), .int (zI (z3_14)), .int (zI (z4_15)), .ref q5_16, v16_8, v16_9, v16_10, v16_11, v16_12, v16_13])), (q_t, .inl (cT, 8192, .inl (fun j : Nat => zI (a_t (j : Int)))))]) (pl := va_pl Ln_17 (pE Pw_42)) hD hS hA [0, 1] rfl
    refine W_knowS (fun hrmA => ?_)
    refine vx_callv (vx_runV (As := [.ref sa_RX16_229]) (rest := []) ⟨hx, hb, hml, hown, hts⟩ (c_X16_wantSM l dC dI h0 z16_n z0_11 z1_12 z2_13 z3_14 z4_15 v16_8 v16_9 v16_10 v16_11 v16_12 v16_13 q_t cT a_t q5_16 Ln_17 Pw_42 sa_RX16_9 sa_RX16_229 sv_RX16_229 1 ((fun j : Nat => ([61] : List Int32).getD j 0)) (by omega) (by omega) (by omega) (by omega) (by omega) (by omega) hR_a_t hX_tx (by omega) (by omega) H.size sv_RX16_9 sa_RX16_119 sv_RX16_119 sa_RX16_100 sv_RX16_100 sa_RX16_117 sv_RX16_117 sa_RX16_98 sv_RX16_98 H) (cwV 1 hts g_X16_rowM_X16_wantSM rfl rfl rfl (by decide +kernel) ⟨(Nat.le_of_ble_eq_true rfl), (Nat.le_of_ble_eq_true rfl)⟩) ⟨fun a U g mk q => by obtain ⟨q0, q1, qP, qK, qD, e0, e1, e2, e3, e4, e5, e6, e7, e8, e9, e10, e11, e12, e13, e14, e15⟩ := q; exact ⟨q0, q1, qP, va_K.moved (u := U) (U := U.calling g mk a) (Vm.Alike.refl U.vm) qK, qD, vs_S.moved (u := U) (U := U.calling g mk a) (Vm.Alike.refl U.vm) e0, vs_S.moved (u := U) (U := U.calling g mk a) (Vm.Alike.refl U.vm) e1, va_Z.moved (u := U) (U := U.calling g mk a) (Vm.Alike.refl U.vm) e2, vk_R.same (u := U) (U := U.calling g mk a) rfl e3, va_Nw.same rfl (u := U) (U := U.calling g mk a) rfl e4, vk_R.same (u := U) (U := U.calling g mk a) rfl e5, vs_S.moved (u := U) (U := U.calling g mk a) (Vm.Alike.refl U.vm) e6, vs_S.moved (u := U) (U := U.calling g mk a) (Vm.Alike.refl U.vm) e7, vk_R.same (u := U) (U := U.calling g mk a) rfl e8, vk_R.same (u := U) (U := U.calling g mk a) rfl e9, vs_S.moved (u := U) (U := U.calling g mk a) (Vm.Alike.refl U.vm) e10, vk_R.same (u := U) (U := U.calling g mk a) rfl e11, vs_S.moved (u := U) (U := U.calling g mk a) (Vm.Alike.refl U.vm) e12, e13, vx_Zq.moved (u := U) (U := U.calling g mk a) (Vm.Alike.refl U.vm) e14, vx_Zq.moved (u := U) (U := U.calling g mk a) (Vm.Alike.refl U.vm) e15⟩, va_recv hKc hPc (ci := 14) (q0 := 0) rfl rfl, fun U hU hW => ⟨rfl, by rw [hU], by rw [hU]; exact hPc, va_K.moved hW.alike hKc, hDc.weaken (fun _ _ _ _ => trivial), by rw [hU]; exact vs_S.narrow (vs_S.moved hW.alike (vs_S.kept hp18 hS.2.1)) hFc, by rw [hU]; exact vs_S.narrow (vs_S.moved hW.alike (vs_S.kept hp2 hS.2.1)) hFc, by rw [hU]; exact va_Z.narrow (va_Z.moved hW.alike (va_Z.kept hp3 hS.2.1)) hFc, vk_R.warm hW hp4, va_Nw.warmC hW hp5, vk_R.warm hW hp6, by rw [hU]; exact vs_S.narrow (vs_S.moved hW.alike (vs_S.kept hp7 hS.2.1)) hFc, by rw [hU]; exact vs_S.narrow (vs_S.moved hW.alike (vs_S.kept hp8 hS.2.1)) hFc, vk_R.warm hW hp9, vk_R.warm hW hp10, by rw [hU]; exact vs_S.narrow (vs_S.moved hW.alike (vs_S.kept hp11 hS.2.1)) hFc, vk_R.warm hW hp12, by rw [hU]; exact vs_S.narrow (vs_S.moved hW.alike (vs_S.kept hp13 hS.2.1)) hFc, hU, by rw [hU]; exact vx_Zq.narrow (vx_Zq.moved hW.alike (vx_Zq.kept hp14 hS.2.1)) hFc, by rw [hU]; exact vx_Zq.narrow (vx_Zq.moved hW.alike (vx_Zq.kept hp15 hS.2.1)) hFc⟩⟩ rfl rfl hl.1 rfl (lv_room (Nat.le_of_ble_eq_true rfl)) dX16_row_38 ⟨(show (0 + kc_19) + ((13 * (z16_n - z0_11) + 20).toNat) ≤ (24 * (z16_n - z16_at) + 40).toNat from (by omega)), (show (0 + ks_20) + ((110 * (z16_n - z0_11) + 120).toNat) ≤ (170 * (z16_n - z16_at) + 190).toNat from (by omega))⟩) hS (fun q _ h => hFc q h) hFc (fun q _ h => hFc q h) (fun E ce q9 u t H1 locs ht hvm _ hB hz1 hk1 hS hce hcv hcl => ?_) (fun  u t H1 locs ht hvm hw hB hz1 hk1 hS => ?_)
    · obtain ⟨rfl, zp_56, Ln_57, Pn_58, kc_59, ks_60, hxt_61, hP1, hD1⟩ := hB
      rw [ht] at hP1
      obtain ⟨hP, hD⟩ := va_joinP (X := [(h0, .inr (14, [.ref q_t, .int (zI (z16_n)), .int (zI (z0_11)), .int (zI (z1_12)), .int (zI (z2_13)), .int (zI (z3_14)), .int (zI (z4_15)), .ref q5_16, v16_8, v16_9, v16_10, v16_11, v16_12, v16_13])), (q_t, .inl (cT, 8192, .inl (fun j : Nat => zI (a_t (j : Int)))))]) (cx := [(h0, .inr (14, [.ref q_t, .int (zI (z16_n)), .int (zI (z0_11)), .int (zI (z1_12)), .int (zI (z2_13)), .int (zI (z3_14)), .int (zI (z4_15)), .ref q5_16, v16_8, v16_9, v16_10, v16_11, v16_12, v16_13])), (q_t, .inl (cT, 8192, .inl (fun j : Nat => zI (a_t (j : Int)))))]) (wr := []) (rx := [(q_t, .inl (cT, 8192, .inl (fun j : Nat => zI (a_t (j : Int))))), (q9, .inr (15, [.null, .null, .null, .null, .null, .int 0, .int (zI (zp_56))]))]) (pl := va_pl Ln_17 (pE Pw_42)) (pl1 := va_pl Ln_57 (pE Pn_58)) hP hD [0, 1] [] rfl rfl (by decide) (by decide) hk1 hFc hP1 hD1
      have hrmC := hxt_61.1.1
      rw [ht] at hrmC
      refine vx_tightS (hrmA.trans hrmC) ?_
      have hrb := hxt_61.1.2
      generalize H1 = H at hP hS hce ⊢
      have hP : va_P (dC, dI) vwQ ([(q_t, .inl (cT, 8192, .inl (fun j : Nat => zI (a_t (j : Int))))), (q9, .inr (15, [.null, .null, .null, .null, .null, .int 0, .int (zI (zp_56))]))] ++ va_pl Ln_57 (pE Pn_58)) H := hP
      have hD : va_D A ([(q_t, .inl (cT, 8192, .inl (fun j : Nat => zI (a_t (j : Int))))), (q9, .inr (15, [.null, .null, .null, .null, .null, .int 0, .int (zI (zp_56))]))] ++ va_pl Ln_57 (pE Pn_58)) := hD
      have hzp : 0 ≤ zp_56 ∧ zp_56 ≤ 8192 := hxt_61.2.1
      subst hQ
      refine vx_knowS (fun hrm9 => ?_)
      refine vx_widen (k := ((24 * (z16_n - z16_at) + 40).toNat)) (n := ((170 * (z16_n - z16_at) + 190).toNat)) (by omega) (by omega) ?_
      exact vx_out (fun x9 h9 => (hnt x9 h9).elim) hlocks hce hcv hcl (fun t ht hvm => ⟨(), trivial, ⟨rfl, zp_56, Ln_57, Pn_58, ((0 + kc_19) + kc_59), ((0 + ks_20) + ks_60), ⟨⟨(by rw [ht, ← hp16]; exact hrm9), (by omega)⟩, ⟨(by omega), ⟨hA_52.trans (hxt_61.2.2.1.keg hak_47), hak_47.txt hxt_61.2.2.1 hxt_61.2.2.2, (hcx_55.cpa hg00.owa (fun z _ q => by rw [show z = xr from q, hk00]; decide)).trans hA_52 (hxt_61.2.2.1.cpa hak_47.owa)⟩⟩⟩, by rw [ht]; exact hP, hD⟩, hS.F ht⟩) hS.2.2 (Nat.le_refl _) (Nat.le_refl _)
    obtain ⟨z0_62, z1_63, z2_64, z3_65, z4_66, q5_67, Ln_68, Pn_69, kc_70, ks_71, hxt_71, hP1, hK1, hD1⟩ := hB
    rw [ht] at hP1
    have hK1 := va_K.moved hvm.symm hK1
    obtain ⟨hP, hD⟩ := va_joinP (X := [(h0, .inr (14, [.ref q_t, .int (zI (z16_n)), .int (zI (z0_11)), .int (zI (z1_12)), .int (zI (z2_13)), .int (zI (z3_14)), .int (zI (z4_15)), .ref q5_16, v16_8, v16_9, v16_10, v16_11, v16_12, v16_13])), (q_t, .inl (cT, 8192, .inl (fun j : Nat => zI (a_t (j : Int)))))]) (cx := [(h0, .inr (14, [.ref q_t, .int (zI (z16_n)), .int (zI (z0_11)), .int (zI (z1_12)), .int (zI (z2_13)), .int (zI (z3_14)), .int (zI (z4_15)), .ref q5_16, v16_8, v16_9, v16_10, v16_11, v16_12, v16_13])), (q_t, .inl (cT, 8192, .inl (fun j : Nat => zI (a_t (j : Int)))))]) (wr := []) (rx := [(h0, .inr (14, [.ref q_t, .int (zI (z16_n)), .int (zI (z0_62)), .int (zI (z1_63)), .int (zI (z2_64)), .int (zI (z3_65)), .int (zI (z4_66)), .ref q5_67, v16_8, v16_9, v16_10, v16_11, v16_12, v16_13])), (q_t, .inl (cT, 8192, .inl (fun j : Nat => zI (a_t (j : Int)))))]) (pl := va_pl Ln_17 (pE Pw_42)) (pl1 := va_pl Ln_68 (pE Pn_69)) hP hD [0, 1] [] rfl rfl (by decide) (by decide) hk1 hFc hP1 hD1
    have hK := (hK.sub (tys' := [(cO, .object "java/lang/Object"), (cI, .int), (cZ, .boolean)]) [0, 1, 2] rfl).app hK1
    have hrmC := hxt_71.1.1
    rw [ht] at hrmC
    refine W_tightS (hrmA.trans hrmC) ?_
    have hrb := hxt_71.1.2
    generalize H1 = H at hP hS ⊢
    have hP : va_P (dC, dI) vwQ ([(h0, .inr (14, [.ref q_t, .int (zI (z16_n)), .int (zI (z0_62)), .int (zI (z1_63)), .int (zI (z2_64)), .int (zI (z3_65)), .int (zI (z4_66)), .ref q5_67, v16_8, v16_9, v16_10, v16_11, v16_12, v16_13])), (q_t, .inl (cT, 8192, .inl (fun j : Nat => zI (a_t (j : Int)))))] ++ va_pl Ln_68 (pE Pn_69)) H := hP
    have hD : va_D A ([(h0, .inr (14, [.ref q_t, .int (zI (z16_n)), .int (zI (z0_62)), .int (zI (z1_63)), .int (zI (z2_64)), .int (zI (z3_65)), .int (zI (z4_66)), .ref q5_67, v16_8, v16_9, v16_10, v16_11, v16_12, v16_13])), (q_t, .inl (cT, 8192, .inl (fun j : Nat => zI (a_t (j : Int)))))] ++ va_pl Ln_68 (pE Pn_69)) := hD
    have hK : va_K (dC, dI) vwQ [(cO, .object "java/lang/Object"), (cI, .int), (cZ, .boolean), (cT, .byte)] s := hK
    refine W.widen (k := ((0 + kc_19) + kc_70)) (n := ((0 + ks_20) + ks_71)) (by omega) (by omega) ?_
    obtain ⟨rk_72, rk_73, rk_74, rk_75, rk_76, hu_76⟩ := hxt_71.2
    have hgo9 := hkd_32.go (by omega)
    have hkd_81 := hu_76.2.1
    have hX_kv := hkd_81.2
    have hu_77 := hu_76.2.2
    have hex_78 : EXT9 Ln_17 Pw_42 Ln_68 Pn_69 := hu_77.1
    have hke_79 : KEG [] Ln_17 Pw_42 Ln_68 Pn_69 := hex_78.keg hak_47
    have hak_80 : GLF Ln_68 Pn_69 cO cI cZ sx_ed := hak_47.txt hex_78 hu_77.2.1
    have hsm_82 := (hex_78 xr hq_50.1).2
    have : Pn_69.ro xr = Pw_42.ro xr := hsm_82.1 0
    have : Pn_69.rt xr = Pw_42.rt xr := hsm_82.1 1
    have : Pn_69.ra xr = Pw_42.ra xr := hsm_82.1 2
    have : Pn_69.rb xr = Pw_42.rb xr := hsm_82.1 3
    have : Pn_69.rA xr = Pw_42.rA xr := hsm_82.1 4
    have : Pn_69.rB xr = Pw_42.rB xr := hsm_82.1 5
    have : Pn_69.rg xr = Pw_42.rg xr := hsm_82.1 6
    have hq_83 : la ∈ Ln_68 ∧ Pn_69.kd la = 30 := hke_79.mem hq_49.1 hq_49.2 (by decide)
    have hq_84 : xr ∈ Ln_68 ∧ Pn_69.kd xr = 17 := hke_79.mem hq_50.1 hq_50.2 (by decide)
    have hE_85 : Pn_69.ek xr ≠ 1 := (by rw [hke_79.ek hq_50.1 hq_50.2 (by decide)]; exact hE_51)
    have hA_86 : KEG [] L P Ln_68 Pn_69 := hA_52.trans hke_79
    have : Pn_69.lz la = Pw_42.lz la := (hex_78 la hq_49.1).2.1 0
    have hek_87 : Pn_69.ek la = 12 := (by rw [hke_79.ek hq_49.1 hq_49.2 (by decide)]; exact hek_53)
    have how_88 : Pn_69.ow la = la := ((hke_79.1 la hq_49.1 (by rw [hq_49.2]; decide)).2.2.2.1 hq_49.2 how_54).1
    have hcz := (((hke_79.1 la hq_49.1 (by rw [hq_49.2]; decide)).2.2.2.1 hq_49.2 how_54).2 (by simp)).1
    have hX_tx := hu_77.2.2
    have hcx_89 : CHG (fun z => z = xr) L P Ln_68 Pn_69 := hcx_55.trans hex_78.chg (fun z m q => q.elim)
    refine lv_aload_n hx hb dX16_row_41 rfl (lv_at hl 0 rfl) ?_
    refine va_ldcS hx hb hown hp19 dX16_row_42 ?_
    have hPc := hP.part (X := [(h0, .inr (14, [.ref q_t, .int (zI (z16_n)), .int (zI (z0_62)), .int (zI (z1_63)), .int (zI (z2_64)), .int (zI (z3_65)), .int (zI (z4_66)), .ref q5_67, v16_8, v16_9, v16_10, v16_11, v16_12, v16_13])), (q_t, .inl (cT, 8192, .inl (fun j : Nat => zI (a_t (j : Int)))))]) (cx := [(h0, .inr (14, [.ref q_t, .int (zI (z16_n)), .int (zI (z0_62)), .int (zI (z1_63)), .int (zI (z2_64)), .int (zI (z3_65)), .int (zI (z4_66)), .ref q5_67, v16_8, v16_9, v16_10, v16_11, v16_12, v16_13])), (q_t, .inl (cT, 8192, .inl (fun j : Nat => zI (a_t (j : Int)))))]) (pl := va_pl Ln_68 (pE Pn_69)) [0, 1] rfl
    have hDc := hD.part (X := [(h0, .inr (14, [.ref q_t, .int (zI (z16_n)), .int (zI (z0_62)), .int (zI (z1_63)), .int (zI (z2_64)), .int (zI (z3_65)), .int (zI (z4_66)), .ref q5_67, v16_8, v16_9, v16_10, v16_11, v16_12, v16_13])), (q_t, .inl (cT, 8192, .inl (fun j : Nat => zI (a_t (j : Int)))))]) (cx := [(h0, .inr (14, [.ref q_t, .int (zI (z16_n)), .int (zI (z0_62)), .int (zI (z1_63)), .int (zI (z2_64)), .int (zI (z3_65)), .int (zI (z4_66)), .ref q5_67, v16_8, v16_9, v16_10, v16_11, v16_12, v16_13])), (q_t, .inl (cT, 8192, .inl (fun j : Nat => zI (a_t (j : Int)))))]) (pl := va_pl Ln_68 (pE Pn_69)) [0, 1] (by decide) rfl
    have hKc := hK.sub (tys' := [(cT, .byte)]) [3] rfl
    have hFc := va_freeP (X := [(h0, .inr (14, [.ref q_t, .int (zI (z16_n)), .int (zI (z0_62)), .int (zI (z1_63)), .int (zI (z2_64)), .int (zI (z3_65)), .int (zI (z4_66)), .ref q5_67, v16_8, v16_9, v16_10, v16_11, v16_12, v16_13])), (q_t, .inl (cT, 8192, .inl (fun j : Nat => zI (a_t (j : Int)))))]) (cx := [(h0, .inr (14, [.ref q_t, .int (zI (z16_n)), .int (zI (z0_62)), .int (zI (z1_63)), .int (zI (z2_64)), .int (zI (z3_65)), .int (zI (z4_66)), .ref q5_67, v16_8, v16_9, v16_10, v16_11, v16_12, v16_13])), (q_t, .inl (cT, 8192, .inl (fun j : Nat => zI (a_t (j : Int)))))]) (pl := va_pl Ln_68 (pE Pn_69)) hD hS hA [0, 1] rfl
    refine va_calli (va_runV (As := [.ref sa_RX16_231]) (rest := []) ⟨hx, hb, hml, hown, hts⟩ (c_X16_isK l dC dI h0 (.int (zI (z16_n))) (.int (zI (z0_62))) z1_63 (.int (zI (z2_64))) (.int (zI (z3_65))) (.int (zI (z4_66))) v16_8 v16_9 v16_10 v16_11 v16_12 v16_13 q_t cT a_t q5_67 Ln_68 Pn_69 sa_RX16_9 sa_RX16_231 sv_RX16_231 2 ((fun j : Nat => ([105, 110] : List Int32).getD j 0)) (by omega) hR_a_t hX_tx (by omega) H.size sv_RX16_9) (cwV 1 hts g_X16_rowM_X16_isK rfl rfl rfl (by decide +kernel) ⟨(Nat.le_of_ble_eq_true rfl), (Nat.le_of_ble_eq_true rfl)⟩) ⟨fun a U g mk q => by obtain ⟨q0, q1, qP, qK, qD, e0, e1, e2⟩ := q; exact ⟨q0, q1, qP, va_K.moved (u := U) (U := U.calling g mk a) (Vm.Alike.refl U.vm) qK, qD, vs_S.moved (u := U) (U := U.calling g mk a) (Vm.Alike.refl U.vm) e0, vs_S.moved (u := U) (U := U.calling g mk a) (Vm.Alike.refl U.vm) e1, va_Z.moved (u := U) (U := U.calling g mk a) (Vm.Alike.refl U.vm) e2⟩, va_recv hKc hPc (ci := 14) (q0 := 0) rfl rfl, fun U hU hW => ⟨rfl, by rw [hU], by rw [hU]; exact hPc, va_K.moved hW.alike hKc, hDc.weaken (fun _ _ _ _ => trivial), by rw [hU]; exact vs_S.narrow (vs_S.moved hW.alike (vs_S.kept hp2 hS.2.1)) hFc, by rw [hU]; exact vs_S.narrow (vs_S.moved hW.alike (vs_S.kept hp20 hS.2.1)) hFc, by rw [hU]; exact va_Z.narrow (va_Z.moved hW.alike (va_Z.kept hp3 hS.2.1)) hFc⟩⟩ rfl rfl hl.1 rfl (lv_room (Nat.le_of_ble_eq_true rfl)) dX16_row_44 ⟨(show ((0 + kc_19) + kc_70) + 0 ≤ (24 * (z16_n - z16_at) + 40).toNat from (by omega)), (show ((0 + ks_20) + ks_71) + 0 ≤ (170 * (z16_n - z16_at) + 190).toNat from (by omega))⟩) hS (fun q _ h => hFc q h) hFc (fun r_90 u t H1 locs ht hvm hw hB hz1 hk1 hS => ?_)
    obtain ⟨hP1, hK1, hD1⟩ := hB
    rw [ht] at hP1
    have hK1 := va_K.moved hvm.symm hK1
    obtain ⟨hP, hD⟩ := va_joinP (X := [(h0, .inr (14, [.ref q_t, .int (zI (z16_n)), .int (zI (z0_62)), .int (zI (z1_63)), .int (zI (z2_64)), .int (zI (z3_65)), .int (zI (z4_66)), .ref q5_67, v16_8, v16_9, v16_10, v16_11, v16_12, v16_13])), (q_t, .inl (cT, 8192, .inl (fun j : Nat => zI (a_t (j : Int)))))]) (cx := [(h0, .inr (14, [.ref q_t, .int (zI (z16_n)), .int (zI (z0_62)), .int (zI (z1_63)), .int (zI (z2_64)), .int (zI (z3_65)), .int (zI (z4_66)), .ref q5_67, v16_8, v16_9, v16_10, v16_11, v16_12, v16_13])), (q_t, .inl (cT, 8192, .inl (fun j : Nat => zI (a_t (j : Int)))))]) (wr := []) (rx := [(h0, .inr (14, [.ref q_t, .int (zI (z16_n)), .int (zI (z0_62)), .int (zI (z1_63)), .int (zI (z2_64)), .int (zI (z3_65)), .int (zI (z4_66)), .ref q5_67, v16_8, v16_9, v16_10, v16_11, v16_12, v16_13])), (q_t, .inl (cT, 8192, .inl (fun j : Nat => zI (a_t (j : Int)))))]) (pl := va_pl Ln_68 (pE Pn_69)) (pl1 := va_pl Ln_68 (pE Pn_69)) hP hD [0, 1] [] rfl rfl (by decide) (by decide) hk1 hFc hP1 hD1
    have hK := (hK.sub (tys' := [(cO, .object "java/lang/Object"), (cI, .int), (cZ, .boolean)]) [0, 1, 2] rfl).app hK1
    generalize H1 = H at hP hS ⊢
    have hP : va_P (dC, dI) vwQ ([(h0, .inr (14, [.ref q_t, .int (zI (z16_n)), .int (zI (z0_62)), .int (zI (z1_63)), .int (zI (z2_64)), .int (zI (z3_65)), .int (zI (z4_66)), .ref q5_67, v16_8, v16_9, v16_10, v16_11, v16_12, v16_13])), (q_t, .inl (cT, 8192, .inl (fun j : Nat => zI (a_t (j : Int)))))] ++ va_pl Ln_68 (pE Pn_69)) H := hP
    have hD : va_D A ([(h0, .inr (14, [.ref q_t, .int (zI (z16_n)), .int (zI (z0_62)), .int (zI (z1_63)), .int (zI (z2_64)), .int (zI (z3_65)), .int (zI (z4_66)), .ref q5_67, v16_8, v16_9, v16_10, v16_11, v16_12, v16_13])), (q_t, .inl (cT, 8192, .inl (fun j : Nat => zI (a_t (j : Int)))))] ++ va_pl Ln_68 (pE Pn_69)) := hD
    have hK : va_K (dC, dI) vwQ [(cO, .object "java/lang/Object"), (cI, .int), (cZ, .boolean), (cT, .byte)] s := hK
    refine W.widen (k := ((0 + kc_19) + kc_70)) (n := ((0 + ks_20) + ks_71)) (by omega) (by omega) ?_
    have hw_91 := hw
    obtain ⟨z_92, rfl, hzz_92⟩ := hw_91
    refine lv_if_eq (tgt := 61) hx hb dX16_row_47 (by decide) (fun b47 => ?_) (fun b47 => ?_)
    · have yb47 : (z_92 : Int) = (0 : Int) := (zI_eq (a := z_92) (b := 0) (by omega) (by omega) (by omega) (by omega)).mp b47
      refine lv_aload_n hx hb dX16_row_61 rfl (lv_at hl 0 rfl) ?_
      refine lv_aload_n hx hb dX16_row_62 rfl (lv_at hl 1 rfl) ?_
      refine lv_iconst (v := 0) hx hb dX16_row_63 (by decide) ?_
      have hX_g := hak_80
      have hX_x := hq_84.1
      have hX_k := hq_84.2
      have hX_la := (show la ∈ Ln_68 ∧ Pn_69.kd la = 30 ∧ Pn_69.ek la = 12 ∧ Pn_69.ow la = la from ⟨hq_83.1, hq_83.2, hek_87, how_88⟩)
      have hPc := hP.part (X := [(h0, .inr (14, [.ref q_t, .int (zI (z16_n)), .int (zI (z0_62)), .int (zI (z1_63)), .int (zI (z2_64)), .int (zI (z3_65)), .int (zI (z4_66)), .ref q5_67, v16_8, v16_9, v16_10, v16_11, v16_12, v16_13])), (q_t, .inl (cT, 8192, .inl (fun j : Nat => zI (a_t (j : Int)))))]) (cx := [(h0, .inr (14, [.ref q_t, .int (zI (z16_n)), .int (zI (z0_62)), .int (zI (z1_63)), .int (zI (z2_64)), .int (zI (z3_65)), .int (zI (z4_66)), .ref q5_67, v16_8, v16_9, v16_10, v16_11, v16_12, v16_13])), (q_t, .inl (cT, 8192, .inl (fun j : Nat => zI (a_t (j : Int)))))]) (pl := va_pl Ln_68 (pE Pn_69)) [0, 1] rfl
      have hDc := hD.part (X := [(h0, .inr (14, [.ref q_t, .int (zI (z16_n)), .int (zI (z0_62)), .int (zI (z1_63)), .int (zI (z2_64)), .int (zI (z3_65)), .int (zI (z4_66)), .ref q5_67, v16_8, v16_9, v16_10, v16_11, v16_12, v16_13])), (q_t, .inl (cT, 8192, .inl (fun j : Nat => zI (a_t (j : Int)))))]) (cx := [(h0, .inr (14, [.ref q_t, .int (zI (z16_n)), .int (zI (z0_62)), .int (zI (z1_63)), .int (zI (z2_64)), .int (zI (z3_65)), .int (zI (z4_66)), .ref q5_67, v16_8, v16_9, v16_10, v16_11, v16_12, v16_13])), (q_t, .inl (cT, 8192, .inl (fun j : Nat => zI (a_t (j : Int)))))]) (pl := va_pl Ln_68 (pE Pn_69)) [0, 1] (by decide) rfl
      have hKc := hK.sub (tys' := [(cT, .byte), (cO, .object "java/lang/Object"), (cI, .int), (cZ, .boolean)]) [3, 0, 1, 2] rfl
      have hFc := va_freeP (X := [(h0, .inr (14, [.ref q_t, .int (zI (z16_n)), .int (zI (z0_62)), .int (zI (z1_63)), .int (zI (z2_64)), .int (zI (z3_65)), .int (zI (z4_66)), .ref q5_67, v16_8, v16_9, v16_10, v16_11, v16_12, v16_13])), (q_t, .inl (cT, 8192, .inl (fun j : Nat => zI (a_t (j : Int)))))]) (cx := [(h0, .inr (14, [.ref q_t, .int (zI (z16_n)), .int (zI (z0_62)), .int (zI (z1_63)), .int (zI (z2_64)), .int (zI (z3_65)), .int (zI (z4_66)), .ref q5_67, v16_8, v16_9, v16_10, v16_11, v16_12, v16_13])), (q_t, .inl (cT, 8192, .inl (fun j : Nat => zI (a_t (j : Int)))))]) (pl := va_pl Ln_68 (pE Pn_69)) hD hS hA [0, 1] rfl
      refine W_knowS (fun hrmA => ?_)
      refine vx_callv (vx_runV (As := [.ref xr, .int 0]) (rest := []) ⟨hx, hb, hml, hown, hts⟩ (c_X16_opAM l dC dI cI cZ h0 z16_n z0_62 z1_63 z2_64 z3_65 z4_66 v16_8 v16_9 v16_10 v16_11 v16_12 v16_13 q_t cT a_t q5_67 Ln_68 Pn_69 sa_RX16_9 cO la sx_ed xr (by omega) (by omega) (by omega) (by omega) (by omega) (by omega) hR_a_t hX_g hX_la hX_x hX_k (by omega) hX_kv H.size sv_RX16_9 sa_RX16_119 sv_RX16_119 sa_RX16_100 sv_RX16_100 sa_RX16_117 sv_RX16_117 sa_RX16_98 sv_RX16_98 H) (cwV 2 hts g_X16_rowM_X16_opAM rfl rfl rfl (by decide +kernel) ⟨(Nat.le_of_ble_eq_true rfl), (Nat.le_of_ble_eq_true rfl)⟩) ⟨fun a U g mk q => by obtain ⟨q0, q1, qP, qK, qD, e0, e1, e2, e3, e4, e5, e6, e7, e8, e9, e10, e11, e12, e13, e14⟩ := q; exact ⟨q0, q1, qP, va_K.moved (u := U) (U := U.calling g mk a) (Vm.Alike.refl U.vm) qK, qD, vk_R.same (u := U) (U := U.calling g mk a) rfl e0, va_Z.moved (u := U) (U := U.calling g mk a) (Vm.Alike.refl U.vm) e1, vs_S.moved (u := U) (U := U.calling g mk a) (Vm.Alike.refl U.vm) e2, va_Nw.same rfl (u := U) (U := U.calling g mk a) rfl e3, vk_R.same (u := U) (U := U.calling g mk a) rfl e4, vs_S.moved (u := U) (U := U.calling g mk a) (Vm.Alike.refl U.vm) e5, vs_S.moved (u := U) (U := U.calling g mk a) (Vm.Alike.refl U.vm) e6, vk_R.same (u := U) (U := U.calling g mk a) rfl e7, vk_R.same (u := U) (U := U.calling g mk a) rfl e8, vs_S.moved (u := U) (U := U.calling g mk a) (Vm.Alike.refl U.vm) e9, vk_R.same (u := U) (U := U.calling g mk a) rfl e10, vs_S.moved (u := U) (U := U.calling g mk a) (Vm.Alike.refl U.vm) e11, e12, vx_Zq.moved (u := U) (U := U.calling g mk a) (Vm.Alike.refl U.vm) e13, vx_Zq.moved (u := U) (U := U.calling g mk a) (Vm.Alike.refl U.vm) e14⟩, va_recv hKc hPc (ci := 14) (q0 := 0) rfl rfl, fun U hU hW => ⟨rfl, by rw [hU], by rw [hU]; exact hPc, va_K.moved hW.alike hKc, hDc.weaken (fun _ _ _ _ => trivial), vk_R.warm hW hp4, by rw [hU]; exact va_Z.narrow (va_Z.moved hW.alike (va_Z.kept hp3 hS.2.1)) hFc, by rw [hU]; exact vs_S.narrow (vs_S.moved hW.alike (vs_S.kept hp2 hS.2.1)) hFc, va_Nw.warmC hW hp5, vk_R.warm hW hp6, by rw [hU]; exact vs_S.narrow (vs_S.moved hW.alike (vs_S.kept hp7 hS.2.1)) hFc, by rw [hU]; exact vs_S.narrow (vs_S.moved hW.alike (vs_S.kept hp8 hS.2.1)) hFc, vk_R.warm hW hp9, vk_R.warm hW hp10, by rw [hU]; exact vs_S.narrow (vs_S.moved hW.alike (vs_S.kept hp11 hS.2.1)) hFc, vk_R.warm hW hp12, by rw [hU]; exact vs_S.narrow (vs_S.moved hW.alike (vs_S.kept hp13 hS.2.1)) hFc, hU, by rw [hU]; exact vx_Zq.narrow (vx_Zq.moved hW.alike (vx_Zq.kept hp14 hS.2.1)) hFc, by rw [hU]; exact vx_Zq.narrow (vx_Zq.moved hW.alike (vx_Zq.kept hp15 hS.2.1)) hFc⟩⟩ rfl rfl hl.1 rfl (lv_room (Nat.le_of_ble_eq_true rfl)) dX16_row_64 ⟨(show ((0 + kc_19) + kc_70) + ((13 * (z16_n - z0_62) + 20).toNat) ≤ (24 * (z16_n - z16_at) + 40).toNat from (by omega)), (show ((0 + ks_20) + ks_71) + ((110 * (z16_n - z0_62) + 120).toNat) ≤ (170 * (z16_n - z16_at) + 190).toNat from (by omega))⟩) hS (fun q _ h => hFc q h) hFc (fun q _ h => hFc q h) (fun E ce q9 u t H1 locs ht hvm _ hB hz1 hk1 hS hce hcv hcl => ?_) (fun  u t H1 locs ht hvm hw hB hz1 hk1 hS => ?_)
      · obtain ⟨rfl, zp_93, Ln_94, Pn_95, kc_96, ks_97, hxt_98, hP1, hD1⟩ := hB
        rw [ht] at hP1
        obtain ⟨hP, hD⟩ := va_joinP (X := [(h0, .inr (14, [.ref q_t, .int (zI (z16_n)), .int (zI (z0_62)), .int (zI (z1_63)), .int (zI (z2_64)), .int (zI (z3_65)), .int (zI (z4_66)), .ref q5_67, v16_8, v16_9, v16_10, v16_11, v16_12, v16_13])), (q_t, .inl (cT, 8192, .inl (fun j : Nat => zI (a_t (j : Int)))))]) (cx := [(h0, .inr (14, [.ref q_t, .int (zI (z16_n)), .int (zI (z0_62)), .int (zI (z1_63)), .int (zI (z2_64)), .int (zI (z3_65)), .int (zI (z4_66)), .ref q5_67, v16_8, v16_9, v16_10, v16_11, v16_12, v16_13])), (q_t, .inl (cT, 8192, .inl (fun j : Nat => zI (a_t (j : Int)))))]) (wr := []) (rx := [(q_t, .inl (cT, 8192, .inl (fun j : Nat => zI (a_t (j : Int))))), (q9, .inr (15, [.null, .null, .null, .null, .null, .int 0, .int (zI (zp_93))]))]) (pl := va_pl Ln_68 (pE Pn_69)) (pl1 := va_pl Ln_94 (pE Pn_95)) hP hD [0, 1] [] rfl rfl (by decide) (by decide) hk1 hFc hP1 hD1
        have hrmC := hxt_98.1.1
        rw [ht] at hrmC
        refine vx_tightS (hrmA.trans hrmC) ?_
        have hrb := hxt_98.1.2
        generalize H1 = H at hP hS hce ⊢
        have hP : va_P (dC, dI) vwQ ([(q_t, .inl (cT, 8192, .inl (fun j : Nat => zI (a_t (j : Int))))), (q9, .inr (15, [.null, .null, .null, .null, .null, .int 0, .int (zI (zp_93))]))] ++ va_pl Ln_94 (pE Pn_95)) H := hP
        have hD : va_D A ([(q_t, .inl (cT, 8192, .inl (fun j : Nat => zI (a_t (j : Int))))), (q9, .inr (15, [.null, .null, .null, .null, .null, .int 0, .int (zI (zp_93))]))] ++ va_pl Ln_94 (pE Pn_95)) := hD
        have hzp : 0 ≤ zp_93 ∧ zp_93 ≤ 8192 := hxt_98.2.1
        subst hQ
        refine vx_knowS (fun hrm9 => ?_)
        refine vx_widen (k := ((24 * (z16_n - z16_at) + 40).toNat)) (n := ((170 * (z16_n - z16_at) + 190).toNat)) (by omega) (by omega) ?_
        exact vx_out (fun x9 h9 => (hnt x9 h9).elim) hlocks hce hcv hcl (fun t ht hvm => ⟨(), trivial, ⟨rfl, zp_93, Ln_94, Pn_95, (((0 + kc_19) + kc_70) + kc_96), (((0 + ks_20) + ks_71) + ks_97), ⟨⟨(by rw [ht, ← hp16]; exact hrm9), (by omega)⟩, ⟨(by omega), ⟨hA_86.trans hxt_98.2.2.1, hxt_98.2.2.2.1, (hcx_89.cpa hg00.owa (fun z _ q => by rw [show z = xr from q, hk00]; decide)).trans hA_86 hxt_98.2.2.2.2⟩⟩⟩, by rw [ht]; exact hP, hD⟩, hS.F ht⟩) hS.2.2 (Nat.le_refl _) (Nat.le_refl _)
      obtain ⟨z0_99, z1_100, z2_101, z3_102, z4_103, q5_104, Ln_105, Pn_106, kc_107, ks_108, hxt_108, hP1, hK1, hD1⟩ := hB
      rw [ht] at hP1
      have hK1 := va_K.moved hvm.symm hK1
      obtain ⟨hP, hD⟩ := va_joinP (X := [(h0, .inr (14, [.ref q_t, .int (zI (z16_n)), .int (zI (z0_62)), .int (zI (z1_63)), .int (zI (z2_64)), .int (zI (z3_65)), .int (zI (z4_66)), .ref q5_67, v16_8, v16_9, v16_10, v16_11, v16_12, v16_13])), (q_t, .inl (cT, 8192, .inl (fun j : Nat => zI (a_t (j : Int)))))]) (cx := [(h0, .inr (14, [.ref q_t, .int (zI (z16_n)), .int (zI (z0_62)), .int (zI (z1_63)), .int (zI (z2_64)), .int (zI (z3_65)), .int (zI (z4_66)), .ref q5_67, v16_8, v16_9, v16_10, v16_11, v16_12, v16_13])), (q_t, .inl (cT, 8192, .inl (fun j : Nat => zI (a_t (j : Int)))))]) (wr := []) (rx := [(h0, .inr (14, [.ref q_t, .int (zI (z16_n)), .int (zI (z0_99)), .int (zI (z1_100)), .int (zI (z2_101)), .int (zI (z3_102)), .int (zI (z4_103)), .ref q5_104, v16_8, v16_9, v16_10, v16_11, v16_12, v16_13])), (q_t, .inl (cT, 8192, .inl (fun j : Nat => zI (a_t (j : Int)))))]) (pl := va_pl Ln_68 (pE Pn_69)) (pl1 := va_pl Ln_105 (pE Pn_106)) hP hD [0, 1] [] rfl rfl (by decide) (by decide) hk1 hFc hP1 hD1
      have hK := (hK.sub (tys' := []) [] rfl).app hK1
      have hrmC := hxt_108.1.1
      rw [ht] at hrmC
      refine W_tightS (hrmA.trans hrmC) ?_
      have hrb := hxt_108.1.2
      generalize H1 = H at hP hS ⊢
      have hP : va_P (dC, dI) vwQ ([(h0, .inr (14, [.ref q_t, .int (zI (z16_n)), .int (zI (z0_99)), .int (zI (z1_100)), .int (zI (z2_101)), .int (zI (z3_102)), .int (zI (z4_103)), .ref q5_104, v16_8, v16_9, v16_10, v16_11, v16_12, v16_13])), (q_t, .inl (cT, 8192, .inl (fun j : Nat => zI (a_t (j : Int)))))] ++ va_pl Ln_105 (pE Pn_106)) H := hP
      have hD : va_D A ([(h0, .inr (14, [.ref q_t, .int (zI (z16_n)), .int (zI (z0_99)), .int (zI (z1_100)), .int (zI (z2_101)), .int (zI (z3_102)), .int (zI (z4_103)), .ref q5_104, v16_8, v16_9, v16_10, v16_11, v16_12, v16_13])), (q_t, .inl (cT, 8192, .inl (fun j : Nat => zI (a_t (j : Int)))))] ++ va_pl Ln_105 (pE Pn_106)) := hD
      have hK : va_K (dC, dI) vwQ [(cT, .byte), (cO, .object "java/lang/Object"), (cI, .int), (cZ, .boolean)] s := hK
      refine W.widen (k := (((0 + kc_19) + kc_70) + kc_107)) (n := (((0 + ks_20) + ks_71) + ks_108)) (by omega) (by omega) ?_
      obtain ⟨rk_109, rk_110, rk_111, rk_112, rk_113, hu_113⟩ := hxt_108.2
      have hu_114 := hu_113
      have hoc9 := hu_114.2.2.1.2
      have hoq9 : OPQ (Pn_106.rA xr) (Pn_106.ra xr) := hu_114.2.2.1.1
      have hgo9 := hkd_81.go (by omega)
      have hkd_115 := hu_114.2.2.2.2.2.1
      have hX_kv := hkd_115.2
      have hq_116 : la ∈ Ln_105 ∧ Pn_106.kd la = 30 := hu_114.1.mem hq_83.1 hq_83.2 (by decide)
      have hq_117 : xr ∈ Ln_105 ∧ Pn_106.kd xr = 17 := hu_114.1.mem hq_84.1 hq_84.2 (by decide)
      have hE_118 : Pn_106.ek xr ≠ 1 := (by rw [hu_114.1.ek hq_84.1 hq_84.2 (by decide)]; exact hE_85)
      have hA_119 : KEG [] L P Ln_105 Pn_106 := hA_86.trans hu_114.1
      have : Pn_106.lz la = Pn_69.lz la := (hu_114.2.2.2.1 la hq_83.1 (fun e9 => absurd e9 (kd_ne hq_83.2 hq_84.2 (by decide)))).2.1 0
      have hek_120 : Pn_106.ek la = 12 := (by rw [hu_114.1.ek hq_83.1 hq_83.2 (by decide)]; exact hek_87)
      have how_121 : Pn_106.ow la = la := ((hu_114.1.1 la hq_83.1 (by rw [hq_83.2]; decide)).2.2.2.1 hq_83.2 how_88).1
      have hcz := (((hu_114.1.1 la hq_83.1 (by rw [hq_83.2]; decide)).2.2.2.1 hq_83.2 how_88).2 (by simp)).1
      have hX_tx := hu_114.2.2.2.2.2.2.1
      have hxk9 := hu_114.2.2.2.2.2.2.2
      have hcx_122 : CHG (fun z => z = xr) L P Ln_105 Pn_106 := hcx_89.trans hu_114.2.2.2.1 (fun z m q => q)
      refine lv_aload_n hx hb dX16_row_67 rfl (lv_at hl 1 rfl) ?_
      refine lv_aload_n hx hb dX16_row_68 rfl (lv_at hl 0 rfl) ?_
      refine va_get (D := (dC, dI)) (ci := 14) (v := .int (zI (z1_100))) (C := RX16) (T := TX16) (N := 14) hx hb hts mem_X16_rowM_5 hown hK hP 0 rfl rfl 3 (by decide) (ow (k := 14) rfl) (fun _ h9 => h9) rfl dX16_row_69 ?_
      refine lv_iconst (v := 5) hx hb dX16_row_72 (by decide) ?_
      refine lv_icmp_ne (tgt := 86) hx hb dX16_row_73 (by decide) (fun b73 => ?_) (fun b73 => ?_)
      · have yb73 : ¬ (z1_100 : Int) = (5 : Int) := fun q => b73 ((zI_eq (a := z1_100) (b := 5) (by omega) (by omega) (by omega) (by omega)).mpr q)
        refine lv_iconst (v := 0) hx hb dX16_row_86 (by decide) ?_
        have hr7 := (hu_114.2.1.rok hq_117.1 hq_117.2).n7
        refine lv_topi (fun z ez => ?_)
        obtain rfl : z = zI (0) := ez
        obtain ⟨kp_123, gkp_123⟩ := va_pl_get (X := [(h0, .inr (14, [.ref q_t, .int (zI (z16_n)), .int (zI (z0_99)), .int (zI (z1_100)), .int (zI (z2_101)), .int (zI (z3_102)), .int (zI (z4_103)), .ref q5_104, v16_8, v16_9, v16_10, v16_11, v16_12, v16_13])), (q_t, .inl (cT, 8192, .inl (fun j : Nat => zI (a_t (j : Int)))))]) (f := pE Pn_106) hq_117.1
        have hkp_123 := gkp_123
        rw [pE_row hq_117.2] at hkp_123
        have hD0 := hD
        refine va_put (D := (dC, dI)) (ci := 21) (v := .int (zI (0))) (ty := .int) (C := RX17) (T := TX17) (N := 7) hx hb hts mem_X16_rowM_2 tyX17 tyX17_ok nmX17 hown hK hP hD hS kp_123 hkp_123 rfl 0 (by decide) (ow (k := 15) rfl) (fun _ h9 => h9) rfl (by decide +kernel) rfl rfl (by first | exact Nat.le_of_ble_eq_true rfl | exact (show (((0 + kc_19) + kc_70) + kc_107) ≤ (24 * (z16_n - z16_at) + 40).toNat from (by omega)) | exact (show (((0 + ks_20) + ks_71) + ks_108) ≤ (170 * (z16_n - z16_at) + 190).toNat from (by omega))) dX16_row_87 (fun H locs hP hD hS => ?_)
        obtain ⟨Pw_124, ePw_124⟩ : ∃ q9 : PO, q9 = Pn_106.rw9 0 xr (0) := ⟨_, rfl⟩
        have eU : (([(h0, .inr (14, [.ref q_t, .int (zI (z16_n)), .int (zI (z0_99)), .int (zI (z1_100)), .int (zI (z2_101)), .int (zI (z3_102)), .int (zI (z4_103)), .ref q5_104, v16_8, v16_9, v16_10, v16_11, v16_12, v16_13])), (q_t, .inl (cT, 8192, .inl (fun j : Nat => zI (a_t (j : Int)))))] : va_W) ++ va_pl Ln_105 (pE Pn_106)).set kp_123 (xr, rowE (0) (Pn_106.rt xr) (Pn_106.ra xr) (Pn_106.rb xr) (Pn_106.rA xr) (Pn_106.rB xr) (Pn_106.rg xr)) = ([(h0, .inr (14, [.ref q_t, .int (zI (z16_n)), .int (zI (z0_99)), .int (zI (z1_100)), .int (zI (z2_101)), .int (zI (z3_102)), .int (zI (z4_103)), .ref q5_104, v16_8, v16_9, v16_10, v16_11, v16_12, v16_13])), (q_t, .inl (cT, 8192, .inl (fun j : Nat => zI (a_t (j : Int)))))] : va_W) ++ va_pl Ln_105 (pE Pw_124) := (by rw [va_pl_set hD0 hq_117.1 gkp_123, ePw_124]; exact congrArg (fun f9 => ([(h0, .inr (14, [.ref q_t, .int (zI (z16_n)), .int (zI (z0_99)), .int (zI (z1_100)), .int (zI (z2_101)), .int (zI (z3_102)), .int (zI (z4_103)), .ref q5_104, v16_8, v16_9, v16_10, v16_11, v16_12, v16_13])), (q_t, .inl (cT, 8192, .inl (fun j : Nat => zI (a_t (j : Int)))))] : va_W) ++ va_pl Ln_105 f9) (put17_0 hq_117.2))
        have hP : va_P (dC, dI) vwQ ([(h0, .inr (14, [.ref q_t, .int (zI (z16_n)), .int (zI (z0_99)), .int (zI (z1_100)), .int (zI (z2_101)), .int (zI (z3_102)), .int (zI (z4_103)), .ref q5_104, v16_8, v16_9, v16_10, v16_11, v16_12, v16_13])), (q_t, .inl (cT, 8192, .inl (fun j : Nat => zI (a_t (j : Int)))))] ++ va_pl Ln_105 (pE Pw_124)) H := (by rw [← eU]; exact hP)
        have hD : va_D A ([(h0, .inr (14, [.ref q_t, .int (zI (z16_n)), .int (zI (z0_99)), .int (zI (z1_100)), .int (zI (z2_101)), .int (zI (z3_102)), .int (zI (z4_103)), .ref q5_104, v16_8, v16_9, v16_10, v16_11, v16_12, v16_13])), (q_t, .inl (cT, 8192, .inl (fun j : Nat => zI (a_t (j : Int)))))] ++ va_pl Ln_105 (pE Pw_124)) := (by rw [← eU]; exact hD)
        clear eU hD0 gkp_123 hkp_123
        have wPw_124 : RW1 xr Pn_106 Pw_124 := (by rw [ePw_124]; exact RW1.put _ _ _ _)
        have hy_125 : Pw_124.kd la = 30 := (by rw [ePw_124]; exact hq_116.2)
        have hy_126 : Pw_124.kd xr = 17 := (by rw [ePw_124]; exact hq_117.2)
        have : Pw_124.ro xr = 0 := (by rw [ePw_124]; exact rw9_at _ _ _ _)
        have : Pw_124.rt xr = Pn_106.rt xr := (by rw [ePw_124]; exact rw9_of _ (by decide))
        have : Pw_124.ra xr = Pn_106.ra xr := (by rw [ePw_124]; exact rw9_of _ (by decide))
        have : Pw_124.rb xr = Pn_106.rb xr := (by rw [ePw_124]; exact rw9_of _ (by decide))
        have : Pw_124.rA xr = Pn_106.rA xr := (by rw [ePw_124]; exact rw9_of _ (by decide))
        have : Pw_124.rB xr = Pn_106.rB xr := (by rw [ePw_124]; exact rw9_of _ (by decide))
        have : Pw_124.rg xr = Pn_106.rg xr := (by rw [ePw_124]; exact rw9_of _ (by decide))
        have hW_127 : RW1 xr Pn_106 Pw_124 := wPw_124
        have hrw_130 : RWD Pn_106 Pw_124 := hW_127.rwd (Or.inl hq_117.2)
        have hak_129 : GLF Ln_105 Pw_124 cO cI cZ sx_ed := hu_114.2.1.row hW_127 hq_117.2 (ROK9.of (by omega) (by omega) (by omega) (by omega) (by omega) (by omega) (by omega) (OPQ.ua (hoq9.to (by omega) (by omega))) (ubZ (by omega))) (fun e9 => by have q9 := hu_114.2.1.op21 hq_117.1 hq_117.2 e9; omega)
        have hke_128 : KEG [] Ln_105 Pn_106 Ln_105 Pw_124 := hrw_130.keg _ hq_116.2
        have hq_131 : la ∈ Ln_105 ∧ Pw_124.kd la = 30 := hke_128.mem hq_116.1 hq_116.2 (by decide)
        have hq_132 : xr ∈ Ln_105 ∧ Pw_124.kd xr = 17 := hke_128.mem hq_117.1 hq_117.2 (by decide)
        have hE_133 : Pw_124.ek xr ≠ 1 := (by rw [hke_128.ek hq_117.1 hq_117.2 (by decide)]; exact hE_118)
        have hA_134 : KEG [] L P Ln_105 Pw_124 := hA_119.trans hke_128
        have : Pw_124.lz la = Pn_106.lz la := hrw_130.lz hq_116.2
        have : Pw_124.cap la = Pn_106.cap la := hW_127.cap la
        have hek_135 : Pw_124.ek la = 12 := (by rw [hke_128.ek hq_116.1 hq_116.2 (by decide)]; exact hek_120)
        have how_136 : Pw_124.ow la = la := ((hke_128.1 la hq_116.1 (by rw [hq_116.2]; decide)).2.2.2.1 hq_116.2 how_121).1
        have hcz := (((hke_128.1 la hq_116.1 (by rw [hq_116.2]; decide)).2.2.2.1 hq_116.2 how_121).2 (by simp)).1
        have hX_tx := hX_tx.rw1 hW_127 (Or.inl hq_117.2)
        have hcx_137 : CHG (fun z => z = xr) L P Ln_105 Pw_124 := hcx_122.trans (hW_127.chg _) (fun z m q => q)
        refine lv_aload_n hx hb dX16_row_90 rfl (lv_at hl 1 rfl) ?_
        have hr7 := (hak_129.rok hq_132.1 hq_132.2).n7
        obtain ⟨kp_138, hkp_138⟩ := va_pl_get (X := [(h0, .inr (14, [.ref q_t, .int (zI (z16_n)), .int (zI (z0_99)), .int (zI (z1_100)), .int (zI (z2_101)), .int (zI (z3_102)), .int (zI (z4_103)), .ref q5_104, v16_8, v16_9, v16_10, v16_11, v16_12, v16_13])), (q_t, .inl (cT, 8192, .inl (fun j : Nat => zI (a_t (j : Int)))))]) (f := pE Pw_124) hq_132.1
        rw [pE_row hq_132.2] at hkp_138
        refine va_get (D := (dC, dI)) (ci := 21) (v := .int (zI (Pw_124.ro xr))) (C := RX17) (T := TX17) (N := 7) hx hb hts mem_X16_rowM_2 hown hK hP kp_138 hkp_138 rfl 0 (by decide) (ow (k := 15) rfl) (fun _ h9 => h9) rfl dX16_row_91 ?_
        refine lv_if_ne (tgt := 98) hx hb dX16_row_94 (by decide) (fun b94 => ?_) (fun b94 => ?_)
        · have yb94 : ¬ (Pw_124.ro xr : Int) = (0 : Int) := fun q => b94 ((zI_eq (a := Pw_124.ro xr) (b := 0) (by omega) (by omega) (by omega) (by omega)).mpr q)
          refine lv_aload_n hx hb dX16_row_98 rfl (lv_at hl 0 rfl) ?_
          have hPc := hP.part (X := [(h0, .inr (14, [.ref q_t, .int (zI (z16_n)), .int (zI (z0_99)), .int (zI (z1_100)), .int (zI (z2_101)), .int (zI (z3_102)), .int (zI (z4_103)), .ref q5_104, v16_8, v16_9, v16_10, v16_11, v16_12, v16_13])), (q_t, .inl (cT, 8192, .inl (fun j : Nat => zI (a_t (j : Int)))))]) (cx := [(h0, .inr (14, [.ref q_t, .int (zI (z16_n)), .int (zI (z0_99)), .int (zI (z1_100)), .int (zI (z2_101)), .int (zI (z3_102)), .int (zI (z4_103)), .ref q5_104, v16_8, v16_9, v16_10, v16_11, v16_12, v16_13])), (q_t, .inl (cT, 8192, .inl (fun j : Nat => zI (a_t (j : Int)))))]) (pl := va_pl Ln_105 (pE Pw_124)) [0, 1] rfl
          have hDc := hD.part (X := [(h0, .inr (14, [.ref q_t, .int (zI (z16_n)), .int (zI (z0_99)), .int (zI (z1_100)), .int (zI (z2_101)), .int (zI (z3_102)), .int (zI (z4_103)), .ref q5_104, v16_8, v16_9, v16_10, v16_11, v16_12, v16_13])), (q_t, .inl (cT, 8192, .inl (fun j : Nat => zI (a_t (j : Int)))))]) (cx := [(h0, .inr (14, [.ref q_t, .int (zI (z16_n)), .int (zI (z0_99)), .int (zI (z1_100)), .int (zI (z2_101)), .int (zI (z3_102)), .int (zI (z4_103)), .ref q5_104, v16_8, v16_9, v16_10, v16_11, v16_12, v16_13])), (q_t, .inl (cT, 8192, .inl (fun j : Nat => zI (a_t (j : Int)))))]) (pl := va_pl Ln_105 (pE Pw_124)) [0, 1] (by decide) rfl
          have hKc := hK.sub (tys' := [(cT, .byte)]) [0] rfl
          have hFc := va_freeP (X := [(h0, .inr (14, [.ref q_t, .int (zI (z16_n)), .int (zI (z0_99)), .int (zI (z1_100)), .int (zI (z2_101)), .int (zI (z3_102)), .int (zI (z4_103)), .ref q5_104, v16_8, v16_9, v16_10, v16_11, v16_12, v16_13])), (q_t, .inl (cT, 8192, .inl (fun j : Nat => zI (a_t (j : Int)))))]) (cx := [(h0, .inr (14, [.ref q_t, .int (zI (z16_n)), .int (zI (z0_99)), .int (zI (z1_100)), .int (zI (z2_101)), .int (zI (z3_102)), .int (zI (z4_103)), .ref q5_104, v16_8, v16_9, v16_10, v16_11, v16_12, v16_13])), (q_t, .inl (cT, 8192, .inl (fun j : Nat => zI (a_t (j : Int)))))]) (pl := va_pl Ln_105 (pE Pw_124)) hD hS hA [0, 1] rfl
          refine W_knowS (fun hrmA => ?_)
          refine va_callv (va_runV (As := []) (rest := []) ⟨hx, hb, hml, hown, hts⟩ (c_X16_nextM l dC dI h0 z16_n z0_99 z1_100 z2_101 z3_102 z4_103 (.ref q5_104) v16_8 v16_9 v16_10 v16_11 v16_12 v16_13 q_t cT a_t Ln_105 Pw_124 sa_RX16_9 (by omega) (by omega) (by omega) (by omega) (by omega) (by omega) hR_a_t (by omega) H.size sa_RX16_9 H sv_RX16_9 sa_RX16_119 sv_RX16_119 sa_RX16_100 sv_RX16_100 sa_RX16_117 sa_RX16_100 sv_RX16_117 sa_RX16_98 sv_RX16_98) (cwV 0 hts g_X16_rowM_X16_nextM rfl rfl rfl (by decide +kernel) ⟨(Nat.le_of_ble_eq_true rfl), (Nat.le_of_ble_eq_true rfl)⟩) ⟨fun a U g mk q => by obtain ⟨q0, q1, qP, qK, qD, e0, e1, e2, e3, e4, e5, e6, e7, e8, e9, e10, e11, e12⟩ := q; exact ⟨q0, q1, qP, va_K.moved (u := U) (U := U.calling g mk a) (Vm.Alike.refl U.vm) qK, qD, vk_R.same (u := U) (U := U.calling g mk a) rfl e0, e1, va_Z.moved (u := U) (U := U.calling g mk a) (Vm.Alike.refl U.vm) e2, vs_S.moved (u := U) (U := U.calling g mk a) (Vm.Alike.refl U.vm) e3, va_Nw.same rfl (u := U) (U := U.calling g mk a) rfl e4, vk_R.same (u := U) (U := U.calling g mk a) rfl e5, vs_S.moved (u := U) (U := U.calling g mk a) (Vm.Alike.refl U.vm) e6, vs_S.moved (u := U) (U := U.calling g mk a) (Vm.Alike.refl U.vm) e7, vk_R.same (u := U) (U := U.calling g mk a) rfl e8, vk_R.same (u := U) (U := U.calling g mk a) rfl e9, vs_S.moved (u := U) (U := U.calling g mk a) (Vm.Alike.refl U.vm) e10, vk_R.same (u := U) (U := U.calling g mk a) rfl e11, vs_S.moved (u := U) (U := U.calling g mk a) (Vm.Alike.refl U.vm) e12⟩, va_recv hKc hPc (ci := 14) (q0 := 0) rfl rfl, fun U hU hW => ⟨rfl, by rw [hU], by rw [hU]; exact hPc, va_K.moved hW.alike hKc, hDc.weaken (fun _ _ _ _ => trivial), vk_R.warm hW hp4, hU, by rw [hU]; exact va_Z.narrow (va_Z.moved hW.alike (va_Z.kept hp3 hS.2.1)) hFc, by rw [hU]; exact vs_S.narrow (vs_S.moved hW.alike (vs_S.kept hp2 hS.2.1)) hFc, va_Nw.warmC hW hp5, vk_R.warm hW hp6, by rw [hU]; exact vs_S.narrow (vs_S.moved hW.alike (vs_S.kept hp7 hS.2.1)) hFc, by rw [hU]; exact vs_S.narrow (vs_S.moved hW.alike (vs_S.kept hp8 hS.2.1)) hFc, vk_R.warm hW hp9, vk_R.warm hW hp10, by rw [hU]; exact vs_S.narrow (vs_S.moved hW.alike (vs_S.kept hp11 hS.2.1)) hFc, vk_R.warm hW hp12, by rw [hU]; exact vs_S.narrow (vs_S.moved hW.alike (vs_S.kept hp13 hS.2.1)) hFc⟩⟩ rfl rfl hl.1 rfl (lv_room (Nat.le_of_ble_eq_true rfl)) dX16_row_99 ⟨(show (((0 + kc_19) + kc_70) + kc_107) + ((z16_n - z0_99 + 20).toNat) ≤ (24 * (z16_n - z16_at) + 40).toNat from (by omega)), (show (((0 + ks_20) + ks_71) + ks_108) + ((10 * (z16_n - z0_99) + 120).toNat) ≤ (170 * (z16_n - z16_at) + 190).toNat from (by omega))⟩) hS (fun q _ h => hFc q h) hFc (fun  u t H1 locs ht hvm hw hB hz1 hk1 hS => ?_)
          obtain ⟨z0_139, z1_140, z2_141, z3_142, z4_143, q5_144, Ln_145, Pn_146, kc_147, ks_148, hxt_148, hP1, hK1, hD1⟩ := hB
          rw [ht] at hP1
          have hK1 := va_K.moved hvm.symm hK1
          obtain ⟨hP, hD⟩ := va_joinP (X := [(h0, .inr (14, [.ref q_t, .int (zI (z16_n)), .int (zI (z0_99)), .int (zI (z1_100)), .int (zI (z2_101)), .int (zI (z3_102)), .int (zI (z4_103)), .ref q5_104, v16_8, v16_9, v16_10, v16_11, v16_12, v16_13])), (q_t, .inl (cT, 8192, .inl (fun j : Nat => zI (a_t (j : Int)))))]) (cx := [(h0, .inr (14, [.ref q_t, .int (zI (z16_n)), .int (zI (z0_99)), .int (zI (z1_100)), .int (zI (z2_101)), .int (zI (z3_102)), .int (zI (z4_103)), .ref q5_104, v16_8, v16_9, v16_10, v16_11, v16_12, v16_13])), (q_t, .inl (cT, 8192, .inl (fun j : Nat => zI (a_t (j : Int)))))]) (wr := []) (rx := [(h0, .inr (14, [.ref q_t, .int (zI (z16_n)), .int (zI (z0_139)), .int (zI (z1_140)), .int (zI (z2_141)), .int (zI (z3_142)), .int (zI (z4_143)), .ref q5_144, v16_8, v16_9, v16_10, v16_11, v16_12, v16_13])), (q_t, .inl (cT, 8192, .inl (fun j : Nat => zI (a_t (j : Int)))))]) (pl := va_pl Ln_105 (pE Pw_124)) (pl1 := va_pl Ln_145 (pE Pn_146)) hP hD [0, 1] [] rfl rfl (by decide) (by decide) hk1 hFc hP1 hD1
          have hK := (hK.sub (tys' := [(cO, .object "java/lang/Object"), (cI, .int), (cZ, .boolean)]) [1, 2, 3] rfl).app hK1
          have hrmC := hxt_148.1.1
          rw [ht] at hrmC
          refine W_tightS (hrmA.trans hrmC) ?_
          have hrb := hxt_148.1.2
          generalize H1 = H at hP hS ⊢
          have hP : va_P (dC, dI) vwQ ([(h0, .inr (14, [.ref q_t, .int (zI (z16_n)), .int (zI (z0_139)), .int (zI (z1_140)), .int (zI (z2_141)), .int (zI (z3_142)), .int (zI (z4_143)), .ref q5_144, v16_8, v16_9, v16_10, v16_11, v16_12, v16_13])), (q_t, .inl (cT, 8192, .inl (fun j : Nat => zI (a_t (j : Int)))))] ++ va_pl Ln_145 (pE Pn_146)) H := hP
          have hD : va_D A ([(h0, .inr (14, [.ref q_t, .int (zI (z16_n)), .int (zI (z0_139)), .int (zI (z1_140)), .int (zI (z2_141)), .int (zI (z3_142)), .int (zI (z4_143)), .ref q5_144, v16_8, v16_9, v16_10, v16_11, v16_12, v16_13])), (q_t, .inl (cT, 8192, .inl (fun j : Nat => zI (a_t (j : Int)))))] ++ va_pl Ln_145 (pE Pn_146)) := hD
          have hK : va_K (dC, dI) vwQ [(cO, .object "java/lang/Object"), (cI, .int), (cZ, .boolean), (cT, .byte)] s := hK
          refine W.widen (k := ((((0 + kc_19) + kc_70) + kc_107) + kc_147)) (n := ((((0 + ks_20) + ks_71) + ks_108) + ks_148)) (by omega) (by omega) ?_
          obtain ⟨rk_149, rk_150, rk_151, rk_152, rk_153, hu_153⟩ := hxt_148.2
          have hgo9 := hkd_115.go (by omega)
          have hkd_158 := hu_153.2.1
          have hX_kv := hkd_158.2
          have hu_154 := hu_153.2.2
          have hex_155 : EXT9 Ln_105 Pw_124 Ln_145 Pn_146 := hu_154.1
          have hke_156 : KEG [] Ln_105 Pw_124 Ln_145 Pn_146 := hex_155.keg hak_129
          have hak_157 : GLF Ln_145 Pn_146 cO cI cZ sx_ed := hak_129.txt hex_155 hu_154.2.1
          have hsm_159 := (hex_155 xr hq_132.1).2
          have : Pn_146.ro xr = Pw_124.ro xr := hsm_159.1 0
          have : Pn_146.rt xr = Pw_124.rt xr := hsm_159.1 1
          have : Pn_146.ra xr = Pw_124.ra xr := hsm_159.1 2
          have : Pn_146.rb xr = Pw_124.rb xr := hsm_159.1 3
          have : Pn_146.rA xr = Pw_124.rA xr := hsm_159.1 4
          have : Pn_146.rB xr = Pw_124.rB xr := hsm_159.1 5
          have : Pn_146.rg xr = Pw_124.rg xr := hsm_159.1 6
          have hq_160 : la ∈ Ln_145 ∧ Pn_146.kd la = 30 := hke_156.mem hq_131.1 hq_131.2 (by decide)
          have hq_161 : xr ∈ Ln_145 ∧ Pn_146.kd xr = 17 := hke_156.mem hq_132.1 hq_132.2 (by decide)
          have hE_162 : Pn_146.ek xr ≠ 1 := (by rw [hke_156.ek hq_132.1 hq_132.2 (by decide)]; exact hE_133)
          have hA_163 : KEG [] L P Ln_145 Pn_146 := hA_134.trans hke_156
          have : Pn_146.lz la = Pw_124.lz la := (hex_155 la hq_131.1).2.1 0
          have hek_164 : Pn_146.ek la = 12 := (by rw [hke_156.ek hq_131.1 hq_131.2 (by decide)]; exact hek_135)
          have how_165 : Pn_146.ow la = la := ((hke_156.1 la hq_131.1 (by rw [hq_131.2]; decide)).2.2.2.1 hq_131.2 how_136).1
          have hcz := (((hke_156.1 la hq_131.1 (by rw [hq_131.2]; decide)).2.2.2.1 hq_131.2 how_136).2 (by simp)).1
          have hX_tx := hu_154.2.2.1
          have hxk9 := hu_154.2.2.2
          have hcx_166 : CHG (fun z => z = xr) L P Ln_145 Pn_146 := hcx_137.trans hex_155.chg (fun z m q => q.elim)
          refine lv_aload_n hx hb dX16_row_102 rfl (lv_at hl 0 rfl) ?_
          refine lv_aload_n hx hb dX16_row_103 rfl (lv_at hl 1 rfl) ?_
          refine lv_iconst (v := 1) hx hb dX16_row_104 (by decide) ?_
          have hX_g := hak_157
          have hX_x := hq_161.1
          have hX_k := hq_161.2
          have hX_la := (show la ∈ Ln_145 ∧ Pn_146.kd la = 30 ∧ Pn_146.ek la = 12 ∧ Pn_146.ow la = la from ⟨hq_160.1, hq_160.2, hek_164, how_165⟩)
          have hPc := hP.part (X := [(h0, .inr (14, [.ref q_t, .int (zI (z16_n)), .int (zI (z0_139)), .int (zI (z1_140)), .int (zI (z2_141)), .int (zI (z3_142)), .int (zI (z4_143)), .ref q5_144, v16_8, v16_9, v16_10, v16_11, v16_12, v16_13])), (q_t, .inl (cT, 8192, .inl (fun j : Nat => zI (a_t (j : Int)))))]) (cx := [(h0, .inr (14, [.ref q_t, .int (zI (z16_n)), .int (zI (z0_139)), .int (zI (z1_140)), .int (zI (z2_141)), .int (zI (z3_142)), .int (zI (z4_143)), .ref q5_144, v16_8, v16_9, v16_10, v16_11, v16_12, v16_13])), (q_t, .inl (cT, 8192, .inl (fun j : Nat => zI (a_t (j : Int)))))]) (pl := va_pl Ln_145 (pE Pn_146)) [0, 1] rfl
          have hDc := hD.part (X := [(h0, .inr (14, [.ref q_t, .int (zI (z16_n)), .int (zI (z0_139)), .int (zI (z1_140)), .int (zI (z2_141)), .int (zI (z3_142)), .int (zI (z4_143)), .ref q5_144, v16_8, v16_9, v16_10, v16_11, v16_12, v16_13])), (q_t, .inl (cT, 8192, .inl (fun j : Nat => zI (a_t (j : Int)))))]) (cx := [(h0, .inr (14, [.ref q_t, .int (zI (z16_n)), .int (zI (z0_139)), .int (zI (z1_140)), .int (zI (z2_141)), .int (zI (z3_142)), .int (zI (z4_143)), .ref q5_144, v16_8, v16_9, v16_10, v16_11, v16_12, v16_13])), (q_t, .inl (cT, 8192, .inl (fun j : Nat => zI (a_t (j : Int)))))]) (pl := va_pl Ln_145 (pE Pn_146)) [0, 1] (by decide) rfl
          have hKc := hK.sub (tys' := [(cT, .byte), (cO, .object "java/lang/Object"), (cI, .int), (cZ, .boolean)]) [3, 0, 1, 2] rfl
          have hFc := va_freeP (X := [(h0, .inr (14, [.ref q_t, .int (zI (z16_n)), .int (zI (z0_139)), .int (zI (z1_140)), .int (zI (z2_141)), .int (zI (z3_142)), .int (zI (z4_143)), .ref q5_144, v16_8, v16_9, v16_10, v16_11, v16_12, v16_13])), (q_t, .inl (cT, 8192, .inl (fun j : Nat => zI (a_t (j : Int)))))]) (cx := [(h0, .inr (14, [.ref q_t, .int (zI (z16_n)), .int (zI (z0_139)), .int (zI (z1_140)), .int (zI (z2_141)), .int (zI (z3_142)), .int (zI (z4_143)), .ref q5_144, v16_8, v16_9, v16_10, v16_11, v16_12, v16_13])), (q_t, .inl (cT, 8192, .inl (fun j : Nat => zI (a_t (j : Int)))))]) (pl := va_pl Ln_145 (pE Pn_146)) hD hS hA [0, 1] rfl
          refine W_knowS (fun hrmA => ?_)
          refine vx_callv (vx_runV (As := [.ref xr, .int 1]) (rest := []) ⟨hx, hb, hml, hown, hts⟩ (c_X16_opBM l dC dI cI cZ h0 z16_n z0_139 z1_140 z2_141 z3_142 z4_143 v16_8 v16_9 v16_10 v16_11 v16_12 v16_13 q_t cT a_t q5_144 Ln_145 Pn_146 sa_RX16_9 cO la sx_ed xr (by omega) (by omega) (by omega) (by omega) (by omega) (by omega) hR_a_t hX_g hX_la hX_x hX_k (by omega) hX_kv H.size sv_RX16_9 sa_RX16_119 sv_RX16_119 sa_RX16_100 sv_RX16_100 sa_RX16_117 sv_RX16_117 sa_RX16_98 sv_RX16_98 H) (cwV 2 hts g_X16_rowM_X16_opBM rfl rfl rfl (by decide +kernel) ⟨(Nat.le_of_ble_eq_true rfl), (Nat.le_of_ble_eq_true rfl)⟩) ⟨fun a U g mk q => by obtain ⟨q0, q1, qP, qK, qD, e0, e1, e2, e3, e4, e5, e6, e7, e8, e9, e10, e11, e12, e13, e14⟩ := q; exact ⟨q0, q1, qP, va_K.moved (u := U) (U := U.calling g mk a) (Vm.Alike.refl U.vm) qK, qD, vk_R.same (u := U) (U := U.calling g mk a) rfl e0, va_Z.moved (u := U) (U := U.calling g mk a) (Vm.Alike.refl U.vm) e1, vs_S.moved (u := U) (U := U.calling g mk a) (Vm.Alike.refl U.vm) e2, va_Nw.same rfl (u := U) (U := U.calling g mk a) rfl e3, vk_R.same (u := U) (U := U.calling g mk a) rfl e4, vs_S.moved (u := U) (U := U.calling g mk a) (Vm.Alike.refl U.vm) e5, vs_S.moved (u := U) (U := U.calling g mk a) (Vm.Alike.refl U.vm) e6, vk_R.same (u := U) (U := U.calling g mk a) rfl e7, vk_R.same (u := U) (U := U.calling g mk a) rfl e8, vs_S.moved (u := U) (U := U.calling g mk a) (Vm.Alike.refl U.vm) e9, vk_R.same (u := U) (U := U.calling g mk a) rfl e10, vs_S.moved (u := U) (U := U.calling g mk a) (Vm.Alike.refl U.vm) e11, e12, vx_Zq.moved (u := U) (U := U.calling g mk a) (Vm.Alike.refl U.vm) e13, vx_Zq.moved (u := U) (U := U.calling g mk a) (Vm.Alike.refl U.vm) e14⟩, va_recv hKc hPc (ci := 14) (q0 := 0) rfl rfl, fun U hU hW => ⟨rfl, by rw [hU], by rw [hU]; exact hPc, va_K.moved hW.alike hKc, hDc.weaken (fun _ _ _ _ => trivial), vk_R.warm hW hp4, by rw [hU]; exact va_Z.narrow (va_Z.moved hW.alike (va_Z.kept hp3 hS.2.1)) hFc, by rw [hU]; exact vs_S.narrow (vs_S.moved hW.alike (vs_S.kept hp2 hS.2.1)) hFc, va_Nw.warmC hW hp5, vk_R.warm hW hp6, by rw [hU]; exact vs_S.narrow (vs_S.moved hW.alike (vs_S.kept hp7 hS.2.1)) hFc, by rw [hU]; exact vs_S.narrow (vs_S.moved hW.alike (vs_S.kept hp8 hS.2.1)) hFc, vk_R.warm hW hp9, vk_R.warm hW hp10, by rw [hU]; exact vs_S.narrow (vs_S.moved hW.alike (vs_S.kept hp11 hS.2.1)) hFc, vk_R.warm hW hp12, by rw [hU]; exact vs_S.narrow (vs_S.moved hW.alike (vs_S.kept hp13 hS.2.1)) hFc, hU, by rw [hU]; exact vx_Zq.narrow (vx_Zq.moved hW.alike (vx_Zq.kept hp14 hS.2.1)) hFc, by rw [hU]; exact vx_Zq.narrow (vx_Zq.moved hW.alike (vx_Zq.kept hp15 hS.2.1)) hFc⟩⟩ rfl rfl hl.1 rfl (lv_room (Nat.le_of_ble_eq_true rfl)) dX16_row_105 ⟨(show ((((0 + kc_19) + kc_70) + kc_107) + kc_147) + ((13 * (z16_n - z0_139) + 20).toNat) ≤ (24 * (z16_n - z16_at) + 40).toNat from (by omega)), (show ((((0 + ks_20) + ks_71) + ks_108) + ks_148) + ((110 * (z16_n - z0_139) + 120).toNat) ≤ (170 * (z16_n - z16_at) + 190).toNat from (by omega))⟩) hS (fun q _ h => hFc q h) hFc (fun q _ h => hFc q h) (fun E ce q9 u t H1 locs ht hvm _ hB hz1 hk1 hS hce hcv hcl => ?_) (fun  u t H1 locs ht hvm hw hB hz1 hk1 hS => ?_)
          · obtain ⟨rfl, zp_167, Ln_168, Pn_169, kc_170, ks_171, hxt_172, hP1, hD1⟩ := hB
            rw [ht] at hP1
            obtain ⟨hP, hD⟩ := va_joinP (X := [(h0, .inr (14, [.ref q_t, .int (zI (z16_n)), .int (zI (z0_139)), .int (zI (z1_140)), .int (zI (z2_141)), .int (zI (z3_142)), .int (zI (z4_143)), .ref q5_144, v16_8, v16_9, v16_10, v16_11, v16_12, v16_13])), (q_t, .inl (cT, 8192, .inl (fun j : Nat => zI (a_t (j : Int)))))]) (cx := [(h0, .inr (14, [.ref q_t, .int (zI (z16_n)), .int (zI (z0_139)), .int (zI (z1_140)), .int (zI (z2_141)), .int (zI (z3_142)), .int (zI (z4_143)), .ref q5_144, v16_8, v16_9, v16_10, v16_11, v16_12, v16_13])), (q_t, .inl (cT, 8192, .inl (fun j : Nat => zI (a_t (j : Int)))))]) (wr := []) (rx := [(q_t, .inl (cT, 8192, .inl (fun j : Nat => zI (a_t (j : Int))))), (q9, .inr (15, [.null, .null, .null, .null, .null, .int 0, .int (zI (zp_167))]))]) (pl := va_pl Ln_145 (pE Pn_146)) (pl1 := va_pl Ln_168 (pE Pn_169)) hP hD [0, 1] [] rfl rfl (by decide) (by decide) hk1 hFc hP1 hD1
            have hrmC := hxt_172.1.1
            rw [ht] at hrmC
            refine vx_tightS (hrmA.trans hrmC) ?_
            have hrb := hxt_172.1.2
            generalize H1 = H at hP hS hce ⊢
            have hP : va_P (dC, dI) vwQ ([(q_t, .inl (cT, 8192, .inl (fun j : Nat => zI (a_t (j : Int))))), (q9, .inr (15, [.null, .null, .null, .null, .null, .int 0, .int (zI (zp_167))]))] ++ va_pl Ln_168 (pE Pn_169)) H := hP
            have hD : va_D A ([(q_t, .inl (cT, 8192, .inl (fun j : Nat => zI (a_t (j : Int))))), (q9, .inr (15, [.null, .null, .null, .null, .null, .int 0, .int (zI (zp_167))]))] ++ va_pl Ln_168 (pE Pn_169)) := hD
            have hzp : 0 ≤ zp_167 ∧ zp_167 ≤ 8192 := hxt_172.2.1
            subst hQ
            refine vx_knowS (fun hrm9 => ?_)
            refine vx_widen (k := ((24 * (z16_n - z16_at) + 40).toNat)) (n := ((170 * (z16_n - z16_at) + 190).toNat)) (by omega) (by omega) ?_
            exact vx_out (fun x9 h9 => (hnt x9 h9).elim) hlocks hce hcv hcl (fun t ht hvm => ⟨(), trivial, ⟨rfl, zp_167, Ln_168, Pn_169, (((((0 + kc_19) + kc_70) + kc_107) + kc_147) + kc_170), (((((0 + ks_20) + ks_71) + ks_108) + ks_148) + ks_171), ⟨⟨(by rw [ht, ← hp16]; exact hrm9), (by omega)⟩, ⟨(by omega), ⟨hA_163.trans hxt_172.2.2.1, hxt_172.2.2.2.1, (hcx_166.cpa hg00.owa (fun z _ q => by rw [show z = xr from q, hk00]; decide)).trans hA_163 hxt_172.2.2.2.2⟩⟩⟩, by rw [ht]; exact hP, hD⟩, hS.F ht⟩) hS.2.2 (Nat.le_refl _) (Nat.le_refl _)
          obtain ⟨z0_173, z1_174, z2_175, z3_176, z4_177, q5_178, Ln_179, Pn_180, kc_181, ks_182, hxt_182, hP1, hK1, hD1⟩ := hB
          rw [ht] at hP1
          have hK1 := va_K.moved hvm.symm hK1
          obtain ⟨hP, hD⟩ := va_joinP (X := [(h0, .inr (14, [.ref q_t, .int (zI (z16_n)), .int (zI (z0_139)), .int (zI (z1_140)), .int (zI (z2_141)), .int (zI (z3_142)), .int (zI (z4_143)), .ref q5_144, v16_8, v16_9, v16_10, v16_11, v16_12, v16_13])), (q_t, .inl (cT, 8192, .inl (fun j : Nat => zI (a_t (j : Int)))))]) (cx := [(h0, .inr (14, [.ref q_t, .int (zI (z16_n)), .int (zI (z0_139)), .int (zI (z1_140)), .int (zI (z2_141)), .int (zI (z3_142)), .int (zI (z4_143)), .ref q5_144, v16_8, v16_9, v16_10, v16_11, v16_12, v16_13])), (q_t, .inl (cT, 8192, .inl (fun j : Nat => zI (a_t (j : Int)))))]) (wr := []) (rx := [(h0, .inr (14, [.ref q_t, .int (zI (z16_n)), .int (zI (z0_173)), .int (zI (z1_174)), .int (zI (z2_175)), .int (zI (z3_176)), .int (zI (z4_177)), .ref q5_178, v16_8, v16_9, v16_10, v16_11, v16_12, v16_13])), (q_t, .inl (cT, 8192, .inl (fun j : Nat => zI (a_t (j : Int)))))]) (pl := va_pl Ln_145 (pE Pn_146)) (pl1 := va_pl Ln_179 (pE Pn_180)) hP hD [0, 1] [] rfl rfl (by decide) (by decide) hk1 hFc hP1 hD1
          have hK := (hK.sub (tys' := []) [] rfl).app hK1
          have hrmC := hxt_182.1.1
          rw [ht] at hrmC
          refine W_tightS (hrmA.trans hrmC) ?_
          have hrb := hxt_182.1.2
          generalize H1 = H at hP hS ⊢
          have hP : va_P (dC, dI) vwQ ([(h0, .inr (14, [.ref q_t, .int (zI (z16_n)), .int (zI (z0_173)), .int (zI (z1_174)), .int (zI (z2_175)), .int (zI (z3_176)), .int (zI (z4_177)), .ref q5_178, v16_8, v16_9, v16_10, v16_11, v16_12, v16_13])), (q_t, .inl (cT, 8192, .inl (fun j : Nat => zI (a_t (j : Int)))))] ++ va_pl Ln_179 (pE Pn_180)) H := hP
          have hD : va_D A ([(h0, .inr (14, [.ref q_t, .int (zI (z16_n)), .int (zI (z0_173)), .int (zI (z1_174)), .int (zI (z2_175)), .int (zI (z3_176)), .int (zI (z4_177)), .ref q5_178, v16_8, v16_9, v16_10, v16_11, v16_12, v16_13])), (q_t, .inl (cT, 8192, .inl (fun j : Nat => zI (a_t (j : Int)))))] ++ va_pl Ln_179 (pE Pn_180)) := hD
          have hK : va_K (dC, dI) vwQ [(cT, .byte), (cO, .object "java/lang/Object"), (cI, .int), (cZ, .boolean)] s := hK
          refine W.widen (k := (((((0 + kc_19) + kc_70) + kc_107) + kc_147) + kc_181)) (n := (((((0 + ks_20) + ks_71) + ks_108) + ks_148) + ks_182)) (by omega) (by omega) ?_
          obtain ⟨rk_183, rk_184, rk_185, rk_186, rk_187, hu_187⟩ := hxt_182.2
          have hu_188 := hu_187
          have hoc9 := hu_188.2.2.1.2
          have hoq9 : OPQ (Pn_180.rB xr) (Pn_180.rb xr) := hu_188.2.2.1.1
          have hgo9 := hkd_158.go (by omega)
          have hkd_189 := hu_188.2.2.2.2.2.1
          have hX_kv := hkd_189.2
          have hq_190 : la ∈ Ln_179 ∧ Pn_180.kd la = 30 := hu_188.1.mem hq_160.1 hq_160.2 (by decide)
          have hq_191 : xr ∈ Ln_179 ∧ Pn_180.kd xr = 17 := hu_188.1.mem hq_161.1 hq_161.2 (by decide)
          have hE_192 : Pn_180.ek xr ≠ 1 := (by rw [hu_188.1.ek hq_161.1 hq_161.2 (by decide)]; exact hE_162)
          have hA_193 : KEG [] L P Ln_179 Pn_180 := hA_163.trans hu_188.1
          have : Pn_180.lz la = Pn_146.lz la := (hu_188.2.2.2.1 la hq_160.1 (fun e9 => absurd e9 (kd_ne hq_160.2 hq_161.2 (by decide)))).2.1 0
          have hek_194 : Pn_180.ek la = 12 := (by rw [hu_188.1.ek hq_160.1 hq_160.2 (by decide)]; exact hek_164)
          have how_195 : Pn_180.ow la = la := ((hu_188.1.1 la hq_160.1 (by rw [hq_160.2]; decide)).2.2.2.1 hq_160.2 how_165).1
          have hcz := (((hu_188.1.1 la hq_160.1 (by rw [hq_160.2]; decide)).2.2.2.1 hq_160.2 how_165).2 (by simp)).1
          have hX_tx := hu_188.2.2.2.2.2.2.1
          have hxk9 := hu_188.2.2.2.2.2.2.2
          have hcx_196 : CHG (fun z => z = xr) L P Ln_179 Pn_180 := hcx_166.trans hu_188.2.2.2.1 (fun z m q => q)
          subst hQ
          refine W_knowS (fun hrm9 => ?_)
          refine W.widen (k := ((24 * (z16_n - z16_at) + 40).toNat)) (n := ((170 * (z16_n - z16_at) + 190).toNat)) (by omega) (by omega) ?_
          refine vx_ret ?_
          exact W.vret hx hb hr (fun t ht hW => ⟨⟨(), rfl, trivial, z0_173, z1_174, z2_175, z3_176, z4_177, q5_178, Ln_179, Pn_180, (((((0 + kc_19) + kc_70) + kc_107) + kc_147) + kc_181), (((((0 + ks_20) + ks_71) + ks_108) + ks_148) + ks_182), ⟨⟨(by rw [ht, ← hp16]; exact hrm9), (by omega)⟩, ⟨(by omega), (by omega), (by omega), (by omega), (by omega), ⟨hA_193, hu_188.2.1, ⟨(hkd_189.mono (by omega)).ms (by omega) (by omega) (by omega), by omega⟩, hcx_196, ⟨by omega, by omega, by omega⟩, hkd_189.mono (by omega), hX_tx⟩⟩⟩, by rw [ht]; exact hP, va_K.moved hW.alike hK, hD⟩, hS.F ht⟩) hS.2.2 dX16_row_108
        · have yb94 : (Pw_124.ro xr : Int) = (0 : Int) := (zI_eq (a := Pw_124.ro xr) (b := 0) (by omega) (by omega) (by omega) (by omega)).mp b94
          subst hQ
          refine W_knowS (fun hrm9 => ?_)
          refine W.widen (k := ((24 * (z16_n - z16_at) + 40).toNat)) (n := ((170 * (z16_n - z16_at) + 190).toNat)) (by omega) (by omega) ?_
          refine vx_ret ?_
          exact W.vret hx hb hr (fun t ht hW => ⟨⟨(), rfl, trivial, z0_99, z1_100, z2_101, z3_102, z4_103, q5_104, Ln_105, Pw_124, (((0 + kc_19) + kc_70) + kc_107), (((0 + ks_20) + ks_71) + ks_108), ⟨⟨(by rw [ht, ← hp16]; exact hrm9), (by omega)⟩, ⟨(by omega), (by omega), (by omega), (by omega), (by omega), ⟨hA_134, hak_129, ⟨(hkd_115.mono (by omega)).ms (by omega) (by omega) (by omega), by omega⟩, hcx_137, ⟨by omega, by omega, by omega⟩, hkd_115.mono (by omega), hX_tx⟩⟩⟩, by rw [ht]; exact hP, va_K.moved hW.alike hK, hD⟩, hS.F ht⟩) hS.2.2 dX16_row_97
      · have yb73 : (z1_100 : Int) = (5 : Int) := (zI_eq (a := z1_100) (b := 5) (by omega) (by omega) (by omega) (by omega)).mp b73
        by_cases hxs : q5_104 = sa_RX16_9
        · skip
          rw [hxs] at hP hD
          have hP : va_P (dC, dI) vwQ ([(h0, .inr (14, [.ref q_t, .int (zI (z16_n)), .int (zI (z0_99)), .int (zI (z1_100)), .int (zI (z2_101)), .int (zI (z3_102)), .int (zI (z4_103)), .ref sa_RX16_9, v16_8, v16_9, v16_10, v16_11, v16_12, v16_13])), (q_t, .inl (cT, 8192, .inl (fun j : Nat => zI (a_t (j : Int)))))] ++ va_pl Ln_105 (pE Pn_106)) H := hP
          have hD : va_D A ([(h0, .inr (14, [.ref q_t, .int (zI (z16_n)), .int (zI (z0_99)), .int (zI (z1_100)), .int (zI (z2_101)), .int (zI (z3_102)), .int (zI (z4_103)), .ref sa_RX16_9, v16_8, v16_9, v16_10, v16_11, v16_12, v16_13])), (q_t, .inl (cT, 8192, .inl (fun j : Nat => zI (a_t (j : Int)))))] ++ va_pl Ln_105 (pE Pn_106)) := hD
          refine lv_aload_n hx hb dX16_row_76 rfl (lv_at hl 0 rfl) ?_
          refine va_get (D := (dC, dI)) (ci := 14) (v := .ref sa_RX16_9) (C := RX16) (T := TX16) (N := 14) hx hb hts mem_X16_rowM_5 hown hK hP 0 rfl rfl 7 (by decide) (ow (k := 19) rfl) (fun _ h9 => h9) rfl dX16_row_77 ?_
          have hX_tf : sb_Fit (fun j : Nat => ([] : List Int32).getD j 0) := fitL (by decide)
          have hPc := hP.sub (ws' := []) [] rfl
          have hDc := hD.sub (ws' := []) [] (by decide) rfl
          have hKc := hK.sub (tys' := []) [] rfl
          have hFc := va_free (wc := []) hD hS hA [] rfl
          refine va_calli (va_runSN (As := [.ref sa_RX16_9]) (rest := [.ref xr]) ⟨hx, hb, hml, hown, hts⟩ (c_X19_operation l dC dI sa_RX16_9 sv_RX16_9 0 ((fun j : Nat => ([] : List Int32).getD j 0)) hX_tf (by omega) H.size sa_RX19_3 sa_RX19_11 sv_RX19_11 sv_RX19_3 sx_fm) ⟨va_cnB 1 hts (goodIn_sub mem_X16_rowM_8 gw_X19_operation) rfl rfl rfl hp26 (ow (k := 20) rfl) (by decide +kernel) ⟨(Nat.le_of_ble_eq_true rfl), (Nat.le_of_ble_eq_true rfl)⟩, (ow (k := 21) rfl), trivial⟩ ⟨fun a U g mk q => by obtain ⟨q0, q1, qP, qK, qD, e0, e1, e2, e3, e4, e5, e6, e7⟩ := q; exact ⟨q0, q1, qP, va_K.moved (u := U) (U := U.calling g mk a) (Vm.Alike.refl U.vm) qK, qD, vk_R.same (u := U) (U := U.calling g mk a) rfl e0, va_Z.moved (u := U) (U := U.calling g mk a) (Vm.Alike.refl U.vm) e1, vk_R.same (u := U) (U := U.calling g mk a) rfl e2, vs_S.moved (u := U) (U := U.calling g mk a) (Vm.Alike.refl U.vm) e3, vs_S.moved (u := U) (U := U.calling g mk a) (Vm.Alike.refl U.vm) e4, va_Nw.same rfl (u := U) (U := U.calling g mk a) rfl e5, vs_S.moved (u := U) (U := U.calling g mk a) (Vm.Alike.refl U.vm) e6, va_Z.moved (u := U) (U := U.calling g mk a) (Vm.Alike.refl U.vm) e7⟩, fun U hU hW => ⟨rfl, by rw [hU], by rw [hU]; exact hPc, va_K.moved hW.alike hKc, hDc.weaken (fun _ _ _ _ => trivial), vk_R.warm hW hp21, by rw [hU]; exact va_Z.narrow (va_Z.moved hW.alike (va_Z.kept hp3 hS.2.1)) hFc, vk_R.warm hW hp22, by rw [hU]; exact vs_S.narrow (vs_S.moved hW.alike (vs_S.kept hp23 hS.2.1)) hFc, by rw [hU]; exact vs_S.narrow (vs_S.moved hW.alike (vs_S.kept hp2 hS.2.1)) hFc, va_Nw.warmC hW hp5, by rw [hU]; exact vs_S.narrow (vs_S.moved hW.alike (vs_S.kept hp24 hS.2.1)) hFc, by rw [hU]; exact va_Z.narrow (va_Z.moved hW.alike (va_Z.kept hp25 hS.2.1)) hFc⟩⟩ rfl rfl hl.1 rfl (lv_room (Nat.le_of_ble_eq_true rfl)) dX16_row_80 ⟨(show (((0 + kc_19) + kc_70) + kc_107) + ((5 + ((0 : Int) + 2) / 9).toNat) ≤ (24 * (z16_n - z16_at) + 40).toNat from (by omega)), (show (((0 + ks_20) + ks_71) + ks_108) + ((5 * (0 : Int) + 40).toNat) ≤ (170 * (z16_n - z16_at) + 190).toNat from (by omega))⟩) hS (fun q _ h => hFc q h) hFc (fun r_197 u t H1 locs ht hvm hw hB hz1 hk1 hS => ?_)
          obtain ⟨hP1, hK1, hD1⟩ := hB
          rw [ht] at hP1
          have hK1 := va_K.moved hvm.symm hK1
          obtain ⟨hP, hD⟩ := va_joinQ (X := [(h0, .inr (14, [.ref q_t, .int (zI (z16_n)), .int (zI (z0_99)), .int (zI (z1_100)), .int (zI (z2_101)), .int (zI (z3_102)), .int (zI (z4_103)), .ref sa_RX16_9, v16_8, v16_9, v16_10, v16_11, v16_12, v16_13])), (q_t, .inl (cT, 8192, .inl (fun j : Nat => zI (a_t (j : Int)))))]) (cx := []) (wr := [(h0, .inr (14, [.ref q_t, .int (zI (z16_n)), .int (zI (z0_99)), .int (zI (z1_100)), .int (zI (z2_101)), .int (zI (z3_102)), .int (zI (z4_103)), .ref sa_RX16_9, v16_8, v16_9, v16_10, v16_11, v16_12, v16_13])), (q_t, .inl (cT, 8192, .inl (fun j : Nat => zI (a_t (j : Int)))))]) (w1 := []) (pl := va_pl Ln_105 (pE Pn_106)) hP hD [] [0, 1] rfl rfl (by decide) (by decide) hk1 hFc hP1 hD1
          have hK := (hK.sub (tys' := [(cT, .byte), (cO, .object "java/lang/Object"), (cI, .int), (cZ, .boolean)]) [0, 1, 2, 3] rfl).app hK1
          generalize H1 = H at hP hS ⊢
          have hP : va_P (dC, dI) vwQ ([(h0, .inr (14, [.ref q_t, .int (zI (z16_n)), .int (zI (z0_99)), .int (zI (z1_100)), .int (zI (z2_101)), .int (zI (z3_102)), .int (zI (z4_103)), .ref sa_RX16_9, v16_8, v16_9, v16_10, v16_11, v16_12, v16_13])), (q_t, .inl (cT, 8192, .inl (fun j : Nat => zI (a_t (j : Int)))))] ++ va_pl Ln_105 (pE Pn_106)) H := hP
          have hD : va_D A ([(h0, .inr (14, [.ref q_t, .int (zI (z16_n)), .int (zI (z0_99)), .int (zI (z1_100)), .int (zI (z2_101)), .int (zI (z3_102)), .int (zI (z4_103)), .ref sa_RX16_9, v16_8, v16_9, v16_10, v16_11, v16_12, v16_13])), (q_t, .inl (cT, 8192, .inl (fun j : Nat => zI (a_t (j : Int)))))] ++ va_pl Ln_105 (pE Pn_106)) := hD
          have hK : va_K (dC, dI) vwQ [(cT, .byte), (cO, .object "java/lang/Object"), (cI, .int), (cZ, .boolean)] s := hK
          refine W.widen (k := ((((0 + kc_19) + kc_70) + kc_107) + ((5 + ((0 : Int) + 2) / 9).toNat))) (n := ((((0 + ks_20) + ks_71) + ks_108) + ((5 * (0 : Int) + 40).toNat))) (by omega) (by omega) ?_
          have hw_198 := hw
          obtain ⟨z_199, rfl, hzz_199⟩ := hw_198
          refine lv_goto (tgt := 87) hx hb dX16_row_83 (by decide) ?_
          have hr7 := (hu_114.2.1.rok hq_117.1 hq_117.2).n7
          obtain ⟨kp_200, gkp_200⟩ := va_pl_get (X := [(h0, .inr (14, [.ref q_t, .int (zI (z16_n)), .int (zI (z0_99)), .int (zI (z1_100)), .int (zI (z2_101)), .int (zI (z3_102)), .int (zI (z4_103)), .ref sa_RX16_9, v16_8, v16_9, v16_10, v16_11, v16_12, v16_13])), (q_t, .inl (cT, 8192, .inl (fun j : Nat => zI (a_t (j : Int)))))]) (f := pE Pn_106) hq_117.1
          have hkp_200 := gkp_200
          rw [pE_row hq_117.2] at hkp_200
          have hD0 := hD
          refine va_put (D := (dC, dI)) (ci := 21) (v := .int (zI (z_199))) (ty := .int) (C := RX17) (T := TX17) (N := 7) hx hb hts mem_X16_rowM_2 tyX17 tyX17_ok nmX17 hown hK hP hD hS kp_200 hkp_200 rfl 0 (by decide) (ow (k := 15) rfl) (fun _ h9 => h9) rfl (by decide +kernel) rfl rfl (by first | exact Nat.le_of_ble_eq_true rfl | exact (show ((((0 + kc_19) + kc_70) + kc_107) + ((5 + ((0 : Int) + 2) / 9).toNat)) ≤ (24 * (z16_n - z16_at) + 40).toNat from (by omega)) | exact (show ((((0 + ks_20) + ks_71) + ks_108) + ((5 * (0 : Int) + 40).toNat)) ≤ (170 * (z16_n - z16_at) + 190).toNat from (by omega))) dX16_row_87 (fun H locs hP hD hS => ?_)
          obtain ⟨Pw_201, ePw_201⟩ : ∃ q9 : PO, q9 = Pn_106.rw9 0 xr (z_199) := ⟨_, rfl⟩
          have eU : (([(h0, .inr (14, [.ref q_t, .int (zI (z16_n)), .int (zI (z0_99)), .int (zI (z1_100)), .int (zI (z2_101)), .int (zI (z3_102)), .int (zI (z4_103)), .ref sa_RX16_9, v16_8, v16_9, v16_10, v16_11, v16_12, v16_13])), (q_t, .inl (cT, 8192, .inl (fun j : Nat => zI (a_t (j : Int)))))] : va_W) ++ va_pl Ln_105 (pE Pn_106)).set kp_200 (xr, rowE (z_199) (Pn_106.rt xr) (Pn_106.ra xr) (Pn_106.rb xr) (Pn_106.rA xr) (Pn_106.rB xr) (Pn_106.rg xr)) = ([(h0, .inr (14, [.ref q_t, .int (zI (z16_n)), .int (zI (z0_99)), .int (zI (z1_100)), .int (zI (z2_101)), .int (zI (z3_102)), .int (zI (z4_103)), .ref sa_RX16_9, v16_8, v16_9, v16_10, v16_11, v16_12, v16_13])), (q_t, .inl (cT, 8192, .inl (fun j : Nat => zI (a_t (j : Int)))))] : va_W) ++ va_pl Ln_105 (pE Pw_201) := (by rw [va_pl_set hD0 hq_117.1 gkp_200, ePw_201]; exact congrArg (fun f9 => ([(h0, .inr (14, [.ref q_t, .int (zI (z16_n)), .int (zI (z0_99)), .int (zI (z1_100)), .int (zI (z2_101)), .int (zI (z3_102)), .int (zI (z4_103)), .ref sa_RX16_9, v16_8, v16_9, v16_10, v16_11, v16_12, v16_13])), (q_t, .inl (cT, 8192, .inl (fun j : Nat => zI (a_t (j : Int)))))] : va_W) ++ va_pl Ln_105 f9) (put17_0 hq_117.2))
          have hP : va_P (dC, dI) vwQ ([(h0, .inr (14, [.ref q_t, .int (zI (z16_n)), .int (zI (z0_99)), .int (zI (z1_100)), .int (zI (z2_101)), .int (zI (z3_102)), .int (zI (z4_103)), .ref sa_RX16_9, v16_8, v16_9, v16_10, v16_11, v16_12, v16_13])), (q_t, .inl (cT, 8192, .inl (fun j : Nat => zI (a_t (j : Int)))))] ++ va_pl Ln_105 (pE Pw_201)) H := (by rw [← eU]; exact hP)
          have hD : va_D A ([(h0, .inr (14, [.ref q_t, .int (zI (z16_n)), .int (zI (z0_99)), .int (zI (z1_100)), .int (zI (z2_101)), .int (zI (z3_102)), .int (zI (z4_103)), .ref sa_RX16_9, v16_8, v16_9, v16_10, v16_11, v16_12, v16_13])), (q_t, .inl (cT, 8192, .inl (fun j : Nat => zI (a_t (j : Int)))))] ++ va_pl Ln_105 (pE Pw_201)) := (by rw [← eU]; exact hD)
          clear eU hD0 gkp_200 hkp_200
          have wPw_201 : RW1 xr Pn_106 Pw_201 := (by rw [ePw_201]; exact RW1.put _ _ _ _)
          have hy_202 : Pw_201.kd la = 30 := (by rw [ePw_201]; exact hq_116.2)
          have hy_203 : Pw_201.kd xr = 17 := (by rw [ePw_201]; exact hq_117.2)
          have : Pw_201.ro xr = z_199 := (by rw [ePw_201]; exact rw9_at _ _ _ _)
          have : Pw_201.rt xr = Pn_106.rt xr := (by rw [ePw_201]; exact rw9_of _ (by decide))
          have : Pw_201.ra xr = Pn_106.ra xr := (by rw [ePw_201]; exact rw9_of _ (by decide))
          have : Pw_201.rb xr = Pn_106.rb xr := (by rw [ePw_201]; exact rw9_of _ (by decide))
          have : Pw_201.rA xr = Pn_106.rA xr := (by rw [ePw_201]; exact rw9_of _ (by decide))
          have : Pw_201.rB xr = Pn_106.rB xr := (by rw [ePw_201]; exact rw9_of _ (by decide))
          have : Pw_201.rg xr = Pn_106.rg xr := (by rw [ePw_201]; exact rw9_of _ (by decide))
          have hW_204 : RW1 xr Pn_106 Pw_201 := wPw_201
          have hrw_207 : RWD Pn_106 Pw_201 := hW_204.rwd (Or.inl hq_117.2)
          have hak_206 : GLF Ln_105 Pw_201 cO cI cZ sx_ed := hu_114.2.1.row hW_204 hq_117.2 (ROK9.of (by omega) (by omega) (by omega) (by omega) (by omega) (by omega) (by omega) (OPQ.ua (hoq9.to (by omega) (by omega))) (ubZ (by omega))) (fun e9 => by have q9 := hu_114.2.1.op21 hq_117.1 hq_117.2 e9; omega)
          have hke_205 : KEG [] Ln_105 Pn_106 Ln_105 Pw_201 := hrw_207.keg _ hq_116.2
          have hq_208 : la ∈ Ln_105 ∧ Pw_201.kd la = 30 := hke_205.mem hq_116.1 hq_116.2 (by decide)
          have hq_209 : xr ∈ Ln_105 ∧ Pw_201.kd xr = 17 := hke_205.mem hq_117.1 hq_117.2 (by decide)
          have hE_210 : Pw_201.ek xr ≠ 1 := (by rw [hke_205.ek hq_117.1 hq_117.2 (by decide)]; exact hE_118)
          have hA_211 : KEG [] L P Ln_105 Pw_201 := hA_119.trans hke_205
          have : Pw_201.lz la = Pn_106.lz la := hrw_207.lz hq_116.2
          have : Pw_201.cap la = Pn_106.cap la := hW_204.cap la
          have hek_212 : Pw_201.ek la = 12 := (by rw [hke_205.ek hq_116.1 hq_116.2 (by decide)]; exact hek_120)
          have how_213 : Pw_201.ow la = la := ((hke_205.1 la hq_116.1 (by rw [hq_116.2]; decide)).2.2.2.1 hq_116.2 how_121).1
          have hcz := (((hke_205.1 la hq_116.1 (by rw [hq_116.2]; decide)).2.2.2.1 hq_116.2 how_121).2 (by simp)).1
          have hX_tx := hX_tx.rw1 hW_204 (Or.inl hq_117.2)
          have hcx_214 : CHG (fun z => z = xr) L P Ln_105 Pw_201 := hcx_122.trans (hW_204.chg _) (fun z m q => q)
          refine lv_aload_n hx hb dX16_row_90 rfl (lv_at hl 1 rfl) ?_
          have hr7 := (hak_206.rok hq_209.1 hq_209.2).n7
          obtain ⟨kp_215, hkp_215⟩ := va_pl_get (X := [(h0, .inr (14, [.ref q_t, .int (zI (z16_n)), .int (zI (z0_99)), .int (zI (z1_100)), .int (zI (z2_101)), .int (zI (z3_102)), .int (zI (z4_103)), .ref sa_RX16_9, v16_8, v16_9, v16_10, v16_11, v16_12, v16_13])), (q_t, .inl (cT, 8192, .inl (fun j : Nat => zI (a_t (j : Int)))))]) (f := pE Pw_201) hq_209.1
          rw [pE_row hq_209.2] at hkp_215
          refine va_get (D := (dC, dI)) (ci := 21) (v := .int (zI (Pw_201.ro xr))) (C := RX17) (T := TX17) (N := 7) hx hb hts mem_X16_rowM_2 hown hK hP kp_215 hkp_215 rfl 0 (by decide) (ow (k := 15) rfl) (fun _ h9 => h9) rfl dX16_row_91 ?_
          refine lv_if_ne (tgt := 98) hx hb dX16_row_94 (by decide) (fun b94 => ?_) (fun b94 => ?_)
          · have yb94 : ¬ (Pw_201.ro xr : Int) = (0 : Int) := fun q => b94 ((zI_eq (a := Pw_201.ro xr) (b := 0) (by omega) (by omega) (by omega) (by omega)).mpr q)
            refine lv_aload_n hx hb dX16_row_98 rfl (lv_at hl 0 rfl) ?_
            have hPc := hP.part (X := [(h0, .inr (14, [.ref q_t, .int (zI (z16_n)), .int (zI (z0_99)), .int (zI (z1_100)), .int (zI (z2_101)), .int (zI (z3_102)), .int (zI (z4_103)), .ref sa_RX16_9, v16_8, v16_9, v16_10, v16_11, v16_12, v16_13])), (q_t, .inl (cT, 8192, .inl (fun j : Nat => zI (a_t (j : Int)))))]) (cx := [(h0, .inr (14, [.ref q_t, .int (zI (z16_n)), .int (zI (z0_99)), .int (zI (z1_100)), .int (zI (z2_101)), .int (zI (z3_102)), .int (zI (z4_103)), .ref sa_RX16_9, v16_8, v16_9, v16_10, v16_11, v16_12, v16_13])), (q_t, .inl (cT, 8192, .inl (fun j : Nat => zI (a_t (j : Int)))))]) (pl := va_pl Ln_105 (pE Pw_201)) [0, 1] rfl
            have hDc := hD.part (X := [(h0, .inr (14, [.ref q_t, .int (zI (z16_n)), .int (zI (z0_99)), .int (zI (z1_100)), .int (zI (z2_101)), .int (zI (z3_102)), .int (zI (z4_103)), .ref sa_RX16_9, v16_8, v16_9, v16_10, v16_11, v16_12, v16_13])), (q_t, .inl (cT, 8192, .inl (fun j : Nat => zI (a_t (j : Int)))))]) (cx := [(h0, .inr (14, [.ref q_t, .int (zI (z16_n)), .int (zI (z0_99)), .int (zI (z1_100)), .int (zI (z2_101)), .int (zI (z3_102)), .int (zI (z4_103)), .ref sa_RX16_9, v16_8, v16_9, v16_10, v16_11, v16_12, v16_13])), (q_t, .inl (cT, 8192, .inl (fun j : Nat => zI (a_t (j : Int)))))]) (pl := va_pl Ln_105 (pE Pw_201)) [0, 1] (by decide) rfl
            have hKc := hK.sub (tys' := [(cT, .byte)]) [0] rfl
            have hFc := va_freeP (X := [(h0, .inr (14, [.ref q_t, .int (zI (z16_n)), .int (zI (z0_99)), .int (zI (z1_100)), .int (zI (z2_101)), .int (zI (z3_102)), .int (zI (z4_103)), .ref sa_RX16_9, v16_8, v16_9, v16_10, v16_11, v16_12, v16_13])), (q_t, .inl (cT, 8192, .inl (fun j : Nat => zI (a_t (j : Int)))))]) (cx := [(h0, .inr (14, [.ref q_t, .int (zI (z16_n)), .int (zI (z0_99)), .int (zI (z1_100)), .int (zI (z2_101)), .int (zI (z3_102)), .int (zI (z4_103)), .ref sa_RX16_9, v16_8, v16_9, v16_10, v16_11, v16_12, v16_13])), (q_t, .inl (cT, 8192, .inl (fun j : Nat => zI (a_t (j : Int)))))]) (pl := va_pl Ln_105 (pE Pw_201)) hD hS hA [0, 1] rfl
            refine W_knowS (fun hrmA => ?_)
            refine va_callv (va_runV (As := []) (rest := []) ⟨hx, hb, hml, hown, hts⟩ (c_X16_nextM l dC dI h0 z16_n z0_99 z1_100 z2_101 z3_102 z4_103 (.ref sa_RX16_9) v16_8 v16_9 v16_10 v16_11 v16_12 v16_13 q_t cT a_t Ln_105 Pw_201 sa_RX16_9 (by omega) (by omega) (by omega) (by omega) (by omega) (by omega) hR_a_t (by omega) H.size sa_RX16_9 H sv_RX16_9 sa_RX16_119 sv_RX16_119 sa_RX16_100 sv_RX16_100 sa_RX16_117 sa_RX16_100 sv_RX16_117 sa_RX16_98 sv_RX16_98) (cwV 0 hts g_X16_rowM_X16_nextM rfl rfl rfl (by decide +kernel) ⟨(Nat.le_of_ble_eq_true rfl), (Nat.le_of_ble_eq_true rfl)⟩) ⟨fun a U g mk q => by obtain ⟨q0, q1, qP, qK, qD, e0, e1, e2, e3, e4, e5, e6, e7, e8, e9, e10, e11, e12⟩ := q; exact ⟨q0, q1, qP, va_K.moved (u := U) (U := U.calling g mk a) (Vm.Alike.refl U.vm) qK, qD, vk_R.same (u := U) (U := U.calling g mk a) rfl e0, e1, va_Z.moved (u := U) (U := U.calling g mk a) (Vm.Alike.refl U.vm) e2, vs_S.moved (u := U) (U := U.calling g mk a) (Vm.Alike.refl U.vm) e3, va_Nw.same rfl (u := U) (U := U.calling g mk a) rfl e4, vk_R.same (u := U) (U := U.calling g mk a) rfl e5, vs_S.moved (u := U) (U := U.calling g mk a) (Vm.Alike.refl U.vm) e6, vs_S.moved (u := U) (U := U.calling g mk a) (Vm.Alike.refl U.vm) e7, vk_R.same (u := U) (U := U.calling g mk a) rfl e8, vk_R.same (u := U) (U := U.calling g mk a) rfl e9, vs_S.moved (u := U) (U := U.calling g mk a) (Vm.Alike.refl U.vm) e10, vk_R.same (u := U) (U := U.calling g mk a) rfl e11, vs_S.moved (u := U) (U := U.calling g mk a) (Vm.Alike.refl U.vm) e12⟩, va_recv hKc hPc (ci := 14) (q0 := 0) rfl rfl, fun U hU hW => ⟨rfl, by rw [hU], by rw [hU]; exact hPc, va_K.moved hW.alike hKc, hDc.weaken (fun _ _ _ _ => trivial), vk_R.warm hW hp4, hU, by rw [hU]; exact va_Z.narrow (va_Z.moved hW.alike (va_Z.kept hp3 hS.2.1)) hFc, by rw [hU]; exact vs_S.narrow (vs_S.moved hW.alike (vs_S.kept hp2 hS.2.1)) hFc, va_Nw.warmC hW hp5, vk_R.warm hW hp6, by rw [hU]; exact vs_S.narrow (vs_S.moved hW.alike (vs_S.kept hp7 hS.2.1)) hFc, by rw [hU]; exact vs_S.narrow (vs_S.moved hW.alike (vs_S.kept hp8 hS.2.1)) hFc, vk_R.warm hW hp9, vk_R.warm hW hp10, by rw [hU]; exact vs_S.narrow (vs_S.moved hW.alike (vs_S.kept hp11 hS.2.1)) hFc, vk_R.warm hW hp12, by rw [hU]; exact vs_S.narrow (vs_S.moved hW.alike (vs_S.kept hp13 hS.2.1)) hFc⟩⟩ rfl rfl hl.1 rfl (lv_room (Nat.le_of_ble_eq_true rfl)) dX16_row_99 ⟨(show ((((0 + kc_19) + kc_70) + kc_107) + ((5 + ((0 : Int) + 2) / 9).toNat)) + ((z16_n - z0_99 + 20).toNat) ≤ (24 * (z16_n - z16_at) + 40).toNat from (by omega)), (show ((((0 + ks_20) + ks_71) + ks_108) + ((5 * (0 : Int) + 40).toNat)) + ((10 * (z16_n - z0_99) + 120).toNat) ≤ (170 * (z16_n - z16_at) + 190).toNat from (by omega))⟩) hS (fun q _ h => hFc q h) hFc (fun  u t H1 locs ht hvm hw hB hz1 hk1 hS => ?_)
            obtain ⟨z0_216, z1_217, z2_218, z3_219, z4_220, q5_221, Ln_222, Pn_223, kc_224, ks_225, hxt_225, hP1, hK1, hD1⟩ := hB
            rw [ht] at hP1
            have hK1 := va_K.moved hvm.symm hK1
            obtain ⟨hP, hD⟩ := va_joinP (X := [(h0, .inr (14, [.ref q_t, .int (zI (z16_n)), .int (zI (z0_99)), .int (zI (z1_100)), .int (zI (z2_101)), .int (zI (z3_102)), .int (zI (z4_103)), .ref sa_RX16_9, v16_8, v16_9, v16_10, v16_11, v16_12, v16_13])), (q_t, .inl (cT, 8192, .inl (fun j : Nat => zI (a_t (j : Int)))))]) (cx := [(h0, .inr (14, [.ref q_t, .int (zI (z16_n)), .int (zI (z0_99)), .int (zI (z1_100)), .int (zI (z2_101)), .int (zI (z3_102)), .int (zI (z4_103)), .ref sa_RX16_9, v16_8, v16_9, v16_10, v16_11, v16_12, v16_13])), (q_t, .inl (cT, 8192, .inl (fun j : Nat => zI (a_t (j : Int)))))]) (wr := []) (rx := [(h0, .inr (14, [.ref q_t, .int (zI (z16_n)), .int (zI (z0_216)), .int (zI (z1_217)), .int (zI (z2_218)), .int (zI (z3_219)), .int (zI (z4_220)), .ref q5_221, v16_8, v16_9, v16_10, v16_11, v16_12, v16_13])), (q_t, .inl (cT, 8192, .inl (fun j : Nat => zI (a_t (j : Int)))))]) (pl := va_pl Ln_105 (pE Pw_201)) (pl1 := va_pl Ln_222 (pE Pn_223)) hP hD [0, 1] [] rfl rfl (by decide) (by decide) hk1 hFc hP1 hD1
            have hK := (hK.sub (tys' := [(cO, .object "java/lang/Object"), (cI, .int), (cZ, .boolean)]) [1, 2, 3] rfl).app hK1
            have hrmC := hxt_225.1.1
            rw [ht] at hrmC
            refine W_tightS (hrmA.trans hrmC) ?_
            have hrb := hxt_225.1.2
            generalize H1 = H at hP hS ⊢
            have hP : va_P (dC, dI) vwQ ([(h0, .inr (14, [.ref q_t, .int (zI (z16_n)), .int (zI (z0_216)), .int (zI (z1_217)), .int (zI (z2_218)), .int (zI (z3_219)), .int (zI (z4_220)), .ref q5_221, v16_8, v16_9, v16_10, v16_11, v16_12, v16_13])), (q_t, .inl (cT, 8192, .inl (fun j : Nat => zI (a_t (j : Int)))))] ++ va_pl Ln_222 (pE Pn_223)) H := hP
            have hD : va_D A ([(h0, .inr (14, [.ref q_t, .int (zI (z16_n)), .int (zI (z0_216)), .int (zI (z1_217)), .int (zI (z2_218)), .int (zI (z3_219)), .int (zI (z4_220)), .ref q5_221, v16_8, v16_9, v16_10, v16_11, v16_12, v16_13])), (q_t, .inl (cT, 8192, .inl (fun j : Nat => zI (a_t (j : Int)))))] ++ va_pl Ln_222 (pE Pn_223)) := hD
            have hK : va_K (dC, dI) vwQ [(cO, .object "java/lang/Object"), (cI, .int), (cZ, .boolean), (cT, .byte)] s := hK
            refine W.widen (k := (((((0 + kc_19) + kc_70) + kc_107) + ((5 + ((0 : Int) + 2) / 9).toNat)) + kc_224)) (n := (((((0 + ks_20) + ks_71) + ks_108) + ((5 * (0 : Int) + 40).toNat)) + ks_225)) (by omega) (by omega) ?_
            obtain ⟨rk_226, rk_227, rk_228, rk_229, rk_230, hu_230⟩ := hxt_225.2
            have hgo9 := hkd_115.go (by omega)
            have hkd_235 := hu_230.2.1
            have hX_kv := hkd_235.2
            have hu_231 := hu_230.2.2
            have hex_232 : EXT9 Ln_105 Pw_201 Ln_222 Pn_223 := hu_231.1
            have hke_233 : KEG [] Ln_105 Pw_201 Ln_222 Pn_223 := hex_232.keg hak_206
            have hak_234 : GLF Ln_222 Pn_223 cO cI cZ sx_ed := hak_206.txt hex_232 hu_231.2.1
            have hsm_236 := (hex_232 xr hq_209.1).2
            have : Pn_223.ro xr = Pw_201.ro xr := hsm_236.1 0
            have : Pn_223.rt xr = Pw_201.rt xr := hsm_236.1 1
            have : Pn_223.ra xr = Pw_201.ra xr := hsm_236.1 2
            have : Pn_223.rb xr = Pw_201.rb xr := hsm_236.1 3
            have : Pn_223.rA xr = Pw_201.rA xr := hsm_236.1 4
            have : Pn_223.rB xr = Pw_201.rB xr := hsm_236.1 5
            have : Pn_223.rg xr = Pw_201.rg xr := hsm_236.1 6
            have hq_237 : la ∈ Ln_222 ∧ Pn_223.kd la = 30 := hke_233.mem hq_208.1 hq_208.2 (by decide)
            have hq_238 : xr ∈ Ln_222 ∧ Pn_223.kd xr = 17 := hke_233.mem hq_209.1 hq_209.2 (by decide)
            have hE_239 : Pn_223.ek xr ≠ 1 := (by rw [hke_233.ek hq_209.1 hq_209.2 (by decide)]; exact hE_210)
            have hA_240 : KEG [] L P Ln_222 Pn_223 := hA_211.trans hke_233
            have : Pn_223.lz la = Pw_201.lz la := (hex_232 la hq_208.1).2.1 0
            have hek_241 : Pn_223.ek la = 12 := (by rw [hke_233.ek hq_208.1 hq_208.2 (by decide)]; exact hek_212)
            have how_242 : Pn_223.ow la = la := ((hke_233.1 la hq_208.1 (by rw [hq_208.2]; decide)).2.2.2.1 hq_208.2 how_213).1
            have hcz := (((hke_233.1 la hq_208.1 (by rw [hq_208.2]; decide)).2.2.2.1 hq_208.2 how_213).2 (by simp)).1
            have hX_tx := hu_231.2.2.1
            have hxk9 := hu_231.2.2.2
            have hcx_243 : CHG (fun z => z = xr) L P Ln_222 Pn_223 := hcx_214.trans hex_232.chg (fun z m q => q.elim)
            refine lv_aload_n hx hb dX16_row_102 rfl (lv_at hl 0 rfl) ?_
            refine lv_aload_n hx hb dX16_row_103 rfl (lv_at hl 1 rfl) ?_
            refine lv_iconst (v := 1) hx hb dX16_row_104 (by decide) ?_
            have hX_g := hak_234
            have hX_x := hq_238.1
            have hX_k := hq_238.2
            have hX_la := (show la ∈ Ln_222 ∧ Pn_223.kd la = 30 ∧ Pn_223.ek la = 12 ∧ Pn_223.ow la = la from ⟨hq_237.1, hq_237.2, hek_241, how_242⟩)
            have hPc := hP.part (X := [(h0, .inr (14, [.ref q_t, .int (zI (z16_n)), .int (zI (z0_216)), .int (zI (z1_217)), .int (zI (z2_218)), .int (zI (z3_219)), .int (zI (z4_220)), .ref q5_221, v16_8, v16_9, v16_10, v16_11, v16_12, v16_13])), (q_t, .inl (cT, 8192, .inl (fun j : Nat => zI (a_t (j : Int)))))]) (cx := [(h0, .inr (14, [.ref q_t, .int (zI (z16_n)), .int (zI (z0_216)), .int (zI (z1_217)), .int (zI (z2_218)), .int (zI (z3_219)), .int (zI (z4_220)), .ref q5_221, v16_8, v16_9, v16_10, v16_11, v16_12, v16_13])), (q_t, .inl (cT, 8192, .inl (fun j : Nat => zI (a_t (j : Int)))))]) (pl := va_pl Ln_222 (pE Pn_223)) [0, 1] rfl
            have hDc := hD.part (X := [(h0, .inr (14, [.ref q_t, .int (zI (z16_n)), .int (zI (z0_216)), .int (zI (z1_217)), .int (zI (z2_218)), .int (zI (z3_219)), .int (zI (z4_220)), .ref q5_221, v16_8, v16_9, v16_10, v16_11, v16_12, v16_13])), (q_t, .inl (cT, 8192, .inl (fun j : Nat => zI (a_t (j : Int)))))]) (cx := [(h0, .inr (14, [.ref q_t, .int (zI (z16_n)), .int (zI (z0_216)), .int (zI (z1_217)), .int (zI (z2_218)), .int (zI (z3_219)), .int (zI (z4_220)), .ref q5_221, v16_8, v16_9, v16_10, v16_11, v16_12, v16_13])), (q_t, .inl (cT, 8192, .inl (fun j : Nat => zI (a_t (j : Int)))))]) (pl := va_pl Ln_222 (pE Pn_223)) [0, 1] (by decide) rfl
            have hKc := hK.sub (tys' := [(cT, .byte), (cO, .object "java/lang/Object"), (cI, .int), (cZ, .boolean)]) [3, 0, 1, 2] rfl
            have hFc := va_freeP (X := [(h0, .inr (14, [.ref q_t, .int (zI (z16_n)), .int (zI (z0_216)), .int (zI (z1_217)), .int (zI (z2_218)), .int (zI (z3_219)), .int (zI (z4_220)), .ref q5_221, v16_8, v16_9, v16_10, v16_11, v16_12, v16_13])), (q_t, .inl (cT, 8192, .inl (fun j : Nat => zI (a_t (j : Int)))))]) (cx := [(h0, .inr (14, [.ref q_t, .int (zI (z16_n)), .int (zI (z0_216)), .int (zI (z1_217)), .int (zI (z2_218)), .int (zI (z3_219)), .int (zI (z4_220)), .ref q5_221, v16_8, v16_9, v16_10, v16_11, v16_12, v16_13])), (q_t, .inl (cT, 8192, .inl (fun j : Nat => zI (a_t (j : Int)))))]) (pl := va_pl Ln_222 (pE Pn_223)) hD hS hA [0, 1] rfl
            refine W_knowS (fun hrmA => ?_)
            refine vx_callv (vx_runV (As := [.ref xr, .int 1]) (rest := []) ⟨hx, hb, hml, hown, hts⟩ (c_X16_opBM l dC dI cI cZ h0 z16_n z0_216 z1_217 z2_218 z3_219 z4_220 v16_8 v16_9 v16_10 v16_11 v16_12 v16_13 q_t cT a_t q5_221 Ln_222 Pn_223 sa_RX16_9 cO la sx_ed xr (by omega) (by omega) (by omega) (by omega) (by omega) (by omega) hR_a_t hX_g hX_la hX_x hX_k (by omega) hX_kv H.size sv_RX16_9 sa_RX16_119 sv_RX16_119 sa_RX16_100 sv_RX16_100 sa_RX16_117 sv_RX16_117 sa_RX16_98 sv_RX16_98 H) (cwV 2 hts g_X16_rowM_X16_opBM rfl rfl rfl (by decide +kernel) ⟨(Nat.le_of_ble_eq_true rfl), (Nat.le_of_ble_eq_true rfl)⟩) ⟨fun a U g mk q => by obtain ⟨q0, q1, qP, qK, qD, e0, e1, e2, e3, e4, e5, e6, e7, e8, e9, e10, e11, e12, e13, e14⟩ := q; exact ⟨q0, q1, qP, va_K.moved (u := U) (U := U.calling g mk a) (Vm.Alike.refl U.vm) qK, qD, vk_R.same (u := U) (U := U.calling g mk a) rfl e0, va_Z.moved (u := U) (U := U.calling g mk a) (Vm.Alike.refl U.vm) e1, vs_S.moved (u := U) (U := U.calling g mk a) (Vm.Alike.refl U.vm) e2, va_Nw.same rfl (u := U) (U := U.calling g mk a) rfl e3, vk_R.same (u := U) (U := U.calling g mk a) rfl e4, vs_S.moved (u := U) (U := U.calling g mk a) (Vm.Alike.refl U.vm) e5, vs_S.moved (u := U) (U := U.calling g mk a) (Vm.Alike.refl U.vm) e6, vk_R.same (u := U) (U := U.calling g mk a) rfl e7, vk_R.same (u := U) (U := U.calling g mk a) rfl e8, vs_S.moved (u := U) (U := U.calling g mk a) (Vm.Alike.refl U.vm) e9, vk_R.same (u := U) (U := U.calling g mk a) rfl e10, vs_S.moved (u := U) (U := U.calling g mk a) (Vm.Alike.refl U.vm) e11, e12, vx_Zq.moved (u := U) (U := U.calling g mk a) (Vm.Alike.refl U.vm) e13, vx_Zq.moved (u := U) (U := U.calling g mk a) (Vm.Alike.refl U.vm) e14⟩, va_recv hKc hPc (ci := 14) (q0 := 0) rfl rfl, fun U hU hW => ⟨rfl, by rw [hU], by rw [hU]; exact hPc, va_K.moved hW.alike hKc, hDc.weaken (fun _ _ _ _ => trivial), vk_R.warm hW hp4, by rw [hU]; exact va_Z.narrow (va_Z.moved hW.alike (va_Z.kept hp3 hS.2.1)) hFc, by rw [hU]; exact vs_S.narrow (vs_S.moved hW.alike (vs_S.kept hp2 hS.2.1)) hFc, va_Nw.warmC hW hp5, vk_R.warm hW hp6, by rw [hU]; exact vs_S.narrow (vs_S.moved hW.alike (vs_S.kept hp7 hS.2.1)) hFc, by rw [hU]; exact vs_S.narrow (vs_S.moved hW.alike (vs_S.kept hp8 hS.2.1)) hFc, vk_R.warm hW hp9, vk_R.warm hW hp10, by rw [hU]; exact vs_S.narrow (vs_S.moved hW.alike (vs_S.kept hp11 hS.2.1)) hFc, vk_R.warm hW hp12, by rw [hU]; exact vs_S.narrow (vs_S.moved hW.alike (vs_S.kept hp13 hS.2.1)) hFc, hU, by rw [hU]; exact vx_Zq.narrow (vx_Zq.moved hW.alike (vx_Zq.kept hp14 hS.2.1)) hFc, by rw [hU]; exact vx_Zq.narrow (vx_Zq.moved hW.alike (vx_Zq.kept hp15 hS.2.1)) hFc⟩⟩ rfl rfl hl.1 rfl (lv_room (Nat.le_of_ble_eq_true rfl)) dX16_row_105 ⟨(show (((((0 + kc_19) + kc_70) + kc_107) + ((5 + ((0 : Int) + 2) / 9).toNat)) + kc_224) + ((13 * (z16_n - z0_216) + 20).toNat) ≤ (24 * (z16_n - z16_at) + 40).toNat from (by omega)), (show (((((0 + ks_20) + ks_71) + ks_108) + ((5 * (0 : Int) + 40).toNat)) + ks_225) + ((110 * (z16_n - z0_216) + 120).toNat) ≤ (170 * (z16_n - z16_at) + 190).toNat from (by omega))⟩) hS (fun q _ h => hFc q h) hFc (fun q _ h => hFc q h) (fun E ce q9 u t H1 locs ht hvm _ hB hz1 hk1 hS hce hcv hcl => ?_) (fun  u t H1 locs ht hvm hw hB hz1 hk1 hS => ?_)
            · obtain ⟨rfl, zp_244, Ln_245, Pn_246, kc_247, ks_248, hxt_249, hP1, hD1⟩ := hB
              rw [ht] at hP1
              obtain ⟨hP, hD⟩ := va_joinP (X := [(h0, .inr (14, [.ref q_t, .int (zI (z16_n)), .int (zI (z0_216)), .int (zI (z1_217)), .int (zI (z2_218)), .int (zI (z3_219)), .int (zI (z4_220)), .ref q5_221, v16_8, v16_9, v16_10, v16_11, v16_12, v16_13])), (q_t, .inl (cT, 8192, .inl (fun j : Nat => zI (a_t (j : Int)))))]) (cx := [(h0, .inr (14, [.ref q_t, .int (zI (z16_n)), .int (zI (z0_216)), .int (zI (z1_217)), .int (zI (z2_218)), .int (zI (z3_219)), .int (zI (z4_220)), .ref q5_221, v16_8, v16_9, v16_10, v16_11, v16_12, v16_13])), (q_t, .inl (cT, 8192, .inl (fun j : Nat => zI (a_t (j : Int)))))]) (wr := []) (rx := [(q_t, .inl (cT, 8192, .inl (fun j : Nat => zI (a_t (j : Int))))), (q9, .inr (15, [.null, .null, .null, .null, .null, .int 0, .int (zI (zp_244))]))]) (pl := va_pl Ln_222 (pE Pn_223)) (pl1 := va_pl Ln_245 (pE Pn_246)) hP hD [0, 1] [] rfl rfl (by decide) (by decide) hk1 hFc hP1 hD1
              have hrmC := hxt_249.1.1
              rw [ht] at hrmC
              refine vx_tightS (hrmA.trans hrmC) ?_
              have hrb := hxt_249.1.2
              generalize H1 = H at hP hS hce ⊢
              have hP : va_P (dC, dI) vwQ ([(q_t, .inl (cT, 8192, .inl (fun j : Nat => zI (a_t (j : Int))))), (q9, .inr (15, [.null, .null, .null, .null, .null, .int 0, .int (zI (zp_244))]))] ++ va_pl Ln_245 (pE Pn_246)) H := hP
              have hD : va_D A ([(q_t, .inl (cT, 8192, .inl (fun j : Nat => zI (a_t (j : Int))))), (q9, .inr (15, [.null, .null, .null, .null, .null, .int 0, .int (zI (zp_244))]))] ++ va_pl Ln_245 (pE Pn_246)) := hD
              have hzp : 0 ≤ zp_244 ∧ zp_244 ≤ 8192 := hxt_249.2.1
              subst hQ
              refine vx_knowS (fun hrm9 => ?_)
              refine vx_widen (k := ((24 * (z16_n - z16_at) + 40).toNat)) (n := ((170 * (z16_n - z16_at) + 190).toNat)) (by omega) (by omega) ?_
              exact vx_out (fun x9 h9 => (hnt x9 h9).elim) hlocks hce hcv hcl (fun t ht hvm => ⟨(), trivial, ⟨rfl, zp_244, Ln_245, Pn_246, ((((((0 + kc_19) + kc_70) + kc_107) + ((5 + ((0 : Int) + 2) / 9).toNat)) + kc_224) + kc_247), ((((((0 + ks_20) + ks_71) + ks_108) + ((5 * (0 : Int) + 40).toNat)) + ks_225) + ks_248), ⟨⟨(by rw [ht, ← hp16]; exact hrm9), (by omega)⟩, ⟨(by omega), ⟨hA_240.trans hxt_249.2.2.1, hxt_249.2.2.2.1, (hcx_243.cpa hg00.owa (fun z _ q => by rw [show z = xr from q, hk00]; decide)).trans hA_240 hxt_249.2.2.2.2⟩⟩⟩, by rw [ht]; exact hP, hD⟩, hS.F ht⟩) hS.2.2 (Nat.le_refl _) (Nat.le_refl _)
            obtain ⟨z0_250, z1_251, z2_252, z3_253, z4_254, q5_255, Ln_256, Pn_257, kc_258, ks_259, hxt_259, hP1, hK1, hD1⟩ := hB
            rw [ht] at hP1
            have hK1 := va_K.moved hvm.symm hK1
            obtain ⟨hP, hD⟩ := va_joinP (X := [(h0, .inr (14, [.ref q_t, .int (zI (z16_n)), .int (zI (z0_216)), .int (zI (z1_217)), .int (zI (z2_218)), .int (zI (z3_219)), .int (zI (z4_220)), .ref q5_221, v16_8, v16_9, v16_10, v16_11, v16_12, v16_13])), (q_t, .inl (cT, 8192, .inl (fun j : Nat => zI (a_t (j : Int)))))]) (cx := [(h0, .inr (14, [.ref q_t, .int (zI (z16_n)), .int (zI (z0_216)), .int (zI (z1_217)), .int (zI (z2_218)), .int (zI (z3_219)), .int (zI (z4_220)), .ref q5_221, v16_8, v16_9, v16_10, v16_11, v16_12, v16_13])), (q_t, .inl (cT, 8192, .inl (fun j : Nat => zI (a_t (j : Int)))))]) (wr := []) (rx := [(h0, .inr (14, [.ref q_t, .int (zI (z16_n)), .int (zI (z0_250)), .int (zI (z1_251)), .int (zI (z2_252)), .int (zI (z3_253)), .int (zI (z4_254)), .ref q5_255, v16_8, v16_9, v16_10, v16_11, v16_12, v16_13])), (q_t, .inl (cT, 8192, .inl (fun j : Nat => zI (a_t (j : Int)))))]) (pl := va_pl Ln_222 (pE Pn_223)) (pl1 := va_pl Ln_256 (pE Pn_257)) hP hD [0, 1] [] rfl rfl (by decide) (by decide) hk1 hFc hP1 hD1
            have hK := (hK.sub (tys' := []) [] rfl).app hK1
            have hrmC := hxt_259.1.1
            rw [ht] at hrmC
            refine W_tightS (hrmA.trans hrmC) ?_
            have hrb := hxt_259.1.2
            generalize H1 = H at hP hS ⊢
            have hP : va_P (dC, dI) vwQ ([(h0, .inr (14, [.ref q_t, .int (zI (z16_n)), .int (zI (z0_250)), .int (zI (z1_251)), .int (zI (z2_252)), .int (zI (z3_253)), .int (zI (z4_254)), .ref q5_255, v16_8, v16_9, v16_10, v16_11, v16_12, v16_13])), (q_t, .inl (cT, 8192, .inl (fun j : Nat => zI (a_t (j : Int)))))] ++ va_pl Ln_256 (pE Pn_257)) H := hP
            have hD : va_D A ([(h0, .inr (14, [.ref q_t, .int (zI (z16_n)), .int (zI (z0_250)), .int (zI (z1_251)), .int (zI (z2_252)), .int (zI (z3_253)), .int (zI (z4_254)), .ref q5_255, v16_8, v16_9, v16_10, v16_11, v16_12, v16_13])), (q_t, .inl (cT, 8192, .inl (fun j : Nat => zI (a_t (j : Int)))))] ++ va_pl Ln_256 (pE Pn_257)) := hD
            have hK : va_K (dC, dI) vwQ [(cT, .byte), (cO, .object "java/lang/Object"), (cI, .int), (cZ, .boolean)] s := hK
            refine W.widen (k := ((((((0 + kc_19) + kc_70) + kc_107) + ((5 + ((0 : Int) + 2) / 9).toNat)) + kc_224) + kc_258)) (n := ((((((0 + ks_20) + ks_71) + ks_108) + ((5 * (0 : Int) + 40).toNat)) + ks_225) + ks_259)) (by omega) (by omega) ?_
            obtain ⟨rk_260, rk_261, rk_262, rk_263, rk_264, hu_264⟩ := hxt_259.2
            have hu_265 := hu_264
            have hoc9 := hu_265.2.2.1.2
            have hoq9 : OPQ (Pn_257.rB xr) (Pn_257.rb xr) := hu_265.2.2.1.1
            have hgo9 := hkd_235.go (by omega)
            have hkd_266 := hu_265.2.2.2.2.2.1
            have hX_kv := hkd_266.2
            have hq_267 : la ∈ Ln_256 ∧ Pn_257.kd la = 30 := hu_265.1.mem hq_237.1 hq_237.2 (by decide)
            have hq_268 : xr ∈ Ln_256 ∧ Pn_257.kd xr = 17 := hu_265.1.mem hq_238.1 hq_238.2 (by decide)
            have hE_269 : Pn_257.ek xr ≠ 1 := (by rw [hu_265.1.ek hq_238.1 hq_238.2 (by decide)]; exact hE_239)
            have hA_270 : KEG [] L P Ln_256 Pn_257 := hA_240.trans hu_265.1
            have : Pn_257.lz la = Pn_223.lz la := (hu_265.2.2.2.1 la hq_237.1 (fun e9 => absurd e9 (kd_ne hq_237.2 hq_238.2 (by decide)))).2.1 0
            have hek_271 : Pn_257.ek la = 12 := (by rw [hu_265.1.ek hq_237.1 hq_237.2 (by decide)]; exact hek_241)
            have how_272 : Pn_257.ow la = la := ((hu_265.1.1 la hq_237.1 (by rw [hq_237.2]; decide)).2.2.2.1 hq_237.2 how_242).1
            have hcz := (((hu_265.1.1 la hq_237.1 (by rw [hq_237.2]; decide)).2.2.2.1 hq_237.2 how_242).2 (by simp)).1
            have hX_tx := hu_265.2.2.2.2.2.2.1
            have hxk9 := hu_265.2.2.2.2.2.2.2
            have hcx_273 : CHG (fun z => z = xr) L P Ln_256 Pn_257 := hcx_243.trans hu_265.2.2.2.1 (fun z m q => q)
            subst hQ
            refine W_knowS (fun hrm9 => ?_)
            refine W.widen (k := ((24 * (z16_n - z16_at) + 40).toNat)) (n := ((170 * (z16_n - z16_at) + 190).toNat)) (by omega) (by omega) ?_
            refine vx_ret ?_
            exact W.vret hx hb hr (fun t ht hW => ⟨⟨(), rfl, trivial, z0_250, z1_251, z2_252, z3_253, z4_254, q5_255, Ln_256, Pn_257, ((((((0 + kc_19) + kc_70) + kc_107) + ((5 + ((0 : Int) + 2) / 9).toNat)) + kc_224) + kc_258), ((((((0 + ks_20) + ks_71) + ks_108) + ((5 * (0 : Int) + 40).toNat)) + ks_225) + ks_259), ⟨⟨(by rw [ht, ← hp16]; exact hrm9), (by omega)⟩, ⟨(by omega), (by omega), (by omega), (by omega), (by omega), ⟨hA_270, hu_265.2.1, ⟨(hkd_266.mono (by omega)).ms (by omega) (by omega) (by omega), by omega⟩, hcx_273, ⟨by omega, by omega, by omega⟩, hkd_266.mono (by omega), hX_tx⟩⟩⟩, by rw [ht]; exact hP, va_K.moved hW.alike hK, hD⟩, hS.F ht⟩) hS.2.2 dX16_row_108
          · have yb94 : (Pw_201.ro xr : Int) = (0 : Int) := (zI_eq (a := Pw_201.ro xr) (b := 0) (by omega) (by omega) (by omega) (by omega)).mp b94
            subst hQ
            refine W_knowS (fun hrm9 => ?_)
            refine W.widen (k := ((24 * (z16_n - z16_at) + 40).toNat)) (n := ((170 * (z16_n - z16_at) + 190).toNat)) (by omega) (by omega) ?_
            refine vx_ret ?_
            exact W.vret hx hb hr (fun t ht hW => ⟨⟨(), rfl, trivial, z0_99, z1_100, z2_101, z3_102, z4_103, sa_RX16_9, Ln_105, Pw_201, ((((0 + kc_19) + kc_70) + kc_107) + ((5 + ((0 : Int) + 2) / 9).toNat)), ((((0 + ks_20) + ks_71) + ks_108) + ((5 * (0 : Int) + 40).toNat)), ⟨⟨(by rw [ht, ← hp16]; exact hrm9), (by omega)⟩, ⟨(by omega), (by omega), (by omega), (by omega), (by omega), ⟨hA_211, hak_206, ⟨(hkd_115.mono (by omega)).ms (by omega) (by omega) (by omega), by omega⟩, hcx_214, ⟨by omega, by omega, by omega⟩, hkd_115.mono (by omega), (Or.inl rfl)⟩⟩⟩, by rw [ht]; exact hP, va_K.moved hW.alike hK, hD⟩, hS.F ht⟩) hS.2.2 dX16_row_97
        · skip
          have hX_ts := hX_tx.resolve_left hxs
          have htn9 := hX_ts.2.2.2.2.2.1
          have hxk8 := hxk9 (by omega)
          have hX_tf : sb_Fit (fun j : Nat => zI (Pn_106.ia (Pn_106.le q5_104) (j : Int))) := az_fit hX_ts.2.2.2.2.2.2
          refine lv_aload_n hx hb dX16_row_76 rfl (lv_at hl 0 rfl) ?_
          refine va_get (D := (dC, dI)) (ci := 14) (v := .ref q5_104) (C := RX16) (T := TX16) (N := 14) hx hb hts mem_X16_rowM_5 hown hK hP 0 rfl rfl 7 (by decide) (ow (k := 19) rfl) (fun _ h9 => h9) rfl dX16_row_77 ?_
          have hPc := hP.sub (ws' := []) [] rfl
          have hDc := hD.sub (ws' := []) [] (by decide) rfl
          have hKc := hK.sub (tys' := []) [] rfl
          have hFc := va_free (wc := []) hD hS hA [] rfl
          refine va_calli (va_runSN (As := [.ref q5_104]) (rest := [.ref xr]) ⟨hx, hb, hml, hown, hts⟩ (c_X19_operation l dC dI q5_104 (Pn_106.le q5_104) (Pn_106.an (Pn_106.le q5_104)) ((fun j : Nat => zI (Pn_106.ia (Pn_106.le q5_104) (j : Int)))) hX_tf (by omega) H.size sa_RX19_3 sa_RX19_11 sv_RX19_11 sv_RX19_3 sx_fm) ⟨va_cnB 1 hts (goodIn_sub mem_X16_rowM_8 gw_X19_operation) rfl rfl rfl hp26 (ow (k := 20) rfl) (by decide +kernel) ⟨(Nat.le_of_ble_eq_true rfl), (Nat.le_of_ble_eq_true rfl)⟩, (ow (k := 21) rfl), trivial⟩ ⟨fun a U g mk q => by obtain ⟨q0, q1, qP, qK, qD, e0, e1, e2, e3, e4, e5, e6, e7⟩ := q; exact ⟨q0, q1, qP, va_K.moved (u := U) (U := U.calling g mk a) (Vm.Alike.refl U.vm) qK, qD, vk_R.same (u := U) (U := U.calling g mk a) rfl e0, va_Z.moved (u := U) (U := U.calling g mk a) (Vm.Alike.refl U.vm) e1, vk_R.same (u := U) (U := U.calling g mk a) rfl e2, vs_S.moved (u := U) (U := U.calling g mk a) (Vm.Alike.refl U.vm) e3, vs_S.moved (u := U) (U := U.calling g mk a) (Vm.Alike.refl U.vm) e4, va_Nw.same rfl (u := U) (U := U.calling g mk a) rfl e5, vs_S.moved (u := U) (U := U.calling g mk a) (Vm.Alike.refl U.vm) e6, va_Z.moved (u := U) (U := U.calling g mk a) (Vm.Alike.refl U.vm) e7⟩, fun U hU hW => ⟨rfl, by rw [hU], by rw [hU]; exact hPc, va_K.moved hW.alike hKc, hDc.weaken (fun _ _ _ _ => trivial), vk_R.warm hW hp21, by rw [hU]; exact va_Z.narrow (va_Z.moved hW.alike (va_Z.kept hp3 hS.2.1)) hFc, vk_R.warm hW hp22, by rw [hU]; exact vs_S.narrow (vs_S.moved hW.alike (vs_S.kept hp23 hS.2.1)) hFc, (by rw [hU]; exact vs_S.moved hW.alike (vs_ofP (ti := 0) hp1 hK hP hD rfl hX_ts rfl [] rfl (show ∀ i ∈ ([] : List Nat), i < 2 from by decide))), va_Nw.warmC hW hp5, by rw [hU]; exact vs_S.narrow (vs_S.moved hW.alike (vs_S.kept hp24 hS.2.1)) hFc, by rw [hU]; exact va_Z.narrow (va_Z.moved hW.alike (va_Z.kept hp25 hS.2.1)) hFc⟩⟩ rfl rfl hl.1 rfl (lv_room (Nat.le_of_ble_eq_true rfl)) dX16_row_80 ⟨(show (((0 + kc_19) + kc_70) + kc_107) + ((5 + ((Pn_106.an (Pn_106.le q5_104) : Int) + 2) / 9).toNat) ≤ (24 * (z16_n - z16_at) + 40).toNat from (by omega)), (show (((0 + ks_20) + ks_71) + ks_108) + ((5 * (Pn_106.an (Pn_106.le q5_104) : Int) + 40).toNat) ≤ (170 * (z16_n - z16_at) + 190).toNat from (by omega))⟩) hS (fun q _ h => hFc q h) hFc (fun r_274 u t H1 locs ht hvm hw hB hz1 hk1 hS => ?_)
          obtain ⟨hP1, hK1, hD1⟩ := hB
          rw [ht] at hP1
          have hK1 := va_K.moved hvm.symm hK1
          obtain ⟨hP, hD⟩ := va_joinQ (X := [(h0, .inr (14, [.ref q_t, .int (zI (z16_n)), .int (zI (z0_99)), .int (zI (z1_100)), .int (zI (z2_101)), .int (zI (z3_102)), .int (zI (z4_103)), .ref q5_104, v16_8, v16_9, v16_10, v16_11, v16_12, v16_13])), (q_t, .inl (cT, 8192, .inl (fun j : Nat => zI (a_t (j : Int)))))]) (cx := []) (wr := [(h0, .inr (14, [.ref q_t, .int (zI (z16_n)), .int (zI (z0_99)), .int (zI (z1_100)), .int (zI (z2_101)), .int (zI (z3_102)), .int (zI (z4_103)), .ref q5_104, v16_8, v16_9, v16_10, v16_11, v16_12, v16_13])), (q_t, .inl (cT, 8192, .inl (fun j : Nat => zI (a_t (j : Int)))))]) (w1 := []) (pl := va_pl Ln_105 (pE Pn_106)) hP hD [] [0, 1] rfl rfl (by decide) (by decide) hk1 hFc hP1 hD1
          have hK := (hK.sub (tys' := [(cT, .byte), (cO, .object "java/lang/Object"), (cI, .int), (cZ, .boolean)]) [0, 1, 2, 3] rfl).app hK1
          generalize H1 = H at hP hS ⊢
          have hP : va_P (dC, dI) vwQ ([(h0, .inr (14, [.ref q_t, .int (zI (z16_n)), .int (zI (z0_99)), .int (zI (z1_100)), .int (zI (z2_101)), .int (zI (z3_102)), .int (zI (z4_103)), .ref q5_104, v16_8, v16_9, v16_10, v16_11, v16_12, v16_13])), (q_t, .inl (cT, 8192, .inl (fun j : Nat => zI (a_t (j : Int)))))] ++ va_pl Ln_105 (pE Pn_106)) H := hP
          have hD : va_D A ([(h0, .inr (14, [.ref q_t, .int (zI (z16_n)), .int (zI (z0_99)), .int (zI (z1_100)), .int (zI (z2_101)), .int (zI (z3_102)), .int (zI (z4_103)), .ref q5_104, v16_8, v16_9, v16_10, v16_11, v16_12, v16_13])), (q_t, .inl (cT, 8192, .inl (fun j : Nat => zI (a_t (j : Int)))))] ++ va_pl Ln_105 (pE Pn_106)) := hD
          have hK : va_K (dC, dI) vwQ [(cT, .byte), (cO, .object "java/lang/Object"), (cI, .int), (cZ, .boolean)] s := hK
          refine W.widen (k := ((((0 + kc_19) + kc_70) + kc_107) + ((5 + ((Pn_106.an (Pn_106.le q5_104) : Int) + 2) / 9).toNat))) (n := ((((0 + ks_20) + ks_71) + ks_108) + ((5 * (Pn_106.an (Pn_106.le q5_104) : Int) + 40).toNat))) (by omega) (by omega) ?_
          have hw_275 := hw
          obtain ⟨z_276, rfl, hzz_276⟩ := hw_275
          refine lv_goto (tgt := 87) hx hb dX16_row_83 (by decide) ?_
          have hr7 := (hu_114.2.1.rok hq_117.1 hq_117.2).n7
          obtain ⟨kp_277, gkp_277⟩ := va_pl_get (X := [(h0, .inr (14, [.ref q_t, .int (zI (z16_n)), .int (zI (z0_99)), .int (zI (z1_100)), .int (zI (z2_101)), .int (zI (z3_102)), .int (zI (z4_103)), .ref q5_104, v16_8, v16_9, v16_10, v16_11, v16_12, v16_13])), (q_t, .inl (cT, 8192, .inl (fun j : Nat => zI (a_t (j : Int)))))]) (f := pE Pn_106) hq_117.1
          have hkp_277 := gkp_277
          rw [pE_row hq_117.2] at hkp_277
          have hD0 := hD
          refine va_put (D := (dC, dI)) (ci := 21) (v := .int (zI (z_276))) (ty := .int) (C := RX17) (T := TX17) (N := 7) hx hb hts mem_X16_rowM_2 tyX17 tyX17_ok nmX17 hown hK hP hD hS kp_277 hkp_277 rfl 0 (by decide) (ow (k := 15) rfl) (fun _ h9 => h9) rfl (by decide +kernel) rfl rfl (by first | exact Nat.le_of_ble_eq_true rfl | exact (show ((((0 + kc_19) + kc_70) + kc_107) + ((5 + ((Pn_106.an (Pn_106.le q5_104) : Int) + 2) / 9).toNat)) ≤ (24 * (z16_n - z16_at) + 40).toNat from (by omega)) | exact (show ((((0 + ks_20) + ks_71) + ks_108) + ((5 * (Pn_106.an (Pn_106.le q5_104) : Int) + 40).toNat)) ≤ (170 * (z16_n - z16_at) + 190).toNat from (by omega))) dX16_row_87 (fun H locs hP hD hS => ?_)
          obtain ⟨Pw_278, ePw_278⟩ : ∃ q9 : PO, q9 = Pn_106.rw9 0 xr (z_276) := ⟨_, rfl⟩
          have eU : (([(h0, .inr (14, [.ref q_t, .int (zI (z16_n)), .int (zI (z0_99)), .int (zI (z1_100)), .int (zI (z2_101)), .int (zI (z3_102)), .int (zI (z4_103)), .ref q5_104, v16_8, v16_9, v16_10, v16_11, v16_12, v16_13])), (q_t, .inl (cT, 8192, .inl (fun j : Nat => zI (a_t (j : Int)))))] : va_W) ++ va_pl Ln_105 (pE Pn_106)).set kp_277 (xr, rowE (z_276) (Pn_106.rt xr) (Pn_106.ra xr) (Pn_106.rb xr) (Pn_106.rA xr) (Pn_106.rB xr) (Pn_106.rg xr)) = ([(h0, .inr (14, [.ref q_t, .int (zI (z16_n)), .int (zI (z0_99)), .int (zI (z1_100)), .int (zI (z2_101)), .int (zI (z3_102)), .int (zI (z4_103)), .ref q5_104, v16_8, v16_9, v16_10, v16_11, v16_12, v16_13])), (q_t, .inl (cT, 8192, .inl (fun j : Nat => zI (a_t (j : Int)))))] : va_W) ++ va_pl Ln_105 (pE Pw_278) := (by rw [va_pl_set hD0 hq_117.1 gkp_277, ePw_278]; exact congrArg (fun f9 => ([(h0, .inr (14, [.ref q_t, .int (zI (z16_n)), .int (zI (z0_99)), .int (zI (z1_100)), .int (zI (z2_101)), .int (zI (z3_102)), .int (zI (z4_103)), .ref q5_104, v16_8, v16_9, v16_10, v16_11, v16_12, v16_13])), (q_t, .inl (cT, 8192, .inl (fun j : Nat => zI (a_t (j : Int)))))] : va_W) ++ va_pl Ln_105 f9) (put17_0 hq_117.2))
          have hP : va_P (dC, dI) vwQ ([(h0, .inr (14, [.ref q_t, .int (zI (z16_n)), .int (zI (z0_99)), .int (zI (z1_100)), .int (zI (z2_101)), .int (zI (z3_102)), .int (zI (z4_103)), .ref q5_104, v16_8, v16_9, v16_10, v16_11, v16_12, v16_13])), (q_t, .inl (cT, 8192, .inl (fun j : Nat => zI (a_t (j : Int)))))] ++ va_pl Ln_105 (pE Pw_278)) H := (by rw [← eU]; exact hP)
          have hD : va_D A ([(h0, .inr (14, [.ref q_t, .int (zI (z16_n)), .int (zI (z0_99)), .int (zI (z1_100)), .int (zI (z2_101)), .int (zI (z3_102)), .int (zI (z4_103)), .ref q5_104, v16_8, v16_9, v16_10, v16_11, v16_12, v16_13])), (q_t, .inl (cT, 8192, .inl (fun j : Nat => zI (a_t (j : Int)))))] ++ va_pl Ln_105 (pE Pw_278)) := (by rw [← eU]; exact hD)
          clear eU hD0 gkp_277 hkp_277
          have wPw_278 : RW1 xr Pn_106 Pw_278 := (by rw [ePw_278]; exact RW1.put _ _ _ _)
          have hy_279 : Pw_278.kd la = 30 := (by rw [ePw_278]; exact hq_116.2)
          have hy_280 : Pw_278.kd xr = 17 := (by rw [ePw_278]; exact hq_117.2)
          have : Pw_278.ro xr = z_276 := (by rw [ePw_278]; exact rw9_at _ _ _ _)
          have : Pw_278.rt xr = Pn_106.rt xr := (by rw [ePw_278]; exact rw9_of _ (by decide))
          have : Pw_278.ra xr = Pn_106.ra xr := (by rw [ePw_278]; exact rw9_of _ (by decide))
          have : Pw_278.rb xr = Pn_106.rb xr := (by rw [ePw_278]; exact rw9_of _ (by decide))
          have : Pw_278.rA xr = Pn_106.rA xr := (by rw [ePw_278]; exact rw9_of _ (by decide))
          have : Pw_278.rB xr = Pn_106.rB xr := (by rw [ePw_278]; exact rw9_of _ (by decide))
          have : Pw_278.rg xr = Pn_106.rg xr := (by rw [ePw_278]; exact rw9_of _ (by decide))
          have hW_281 : RW1 xr Pn_106 Pw_278 := wPw_278
          have hrw_284 : RWD Pn_106 Pw_278 := hW_281.rwd (Or.inl hq_117.2)
          have hak_283 : GLF Ln_105 Pw_278 cO cI cZ sx_ed := hu_114.2.1.row hW_281 hq_117.2 (ROK9.of (by omega) (by omega) (by omega) (by omega) (by omega) (by omega) (by omega) (OPQ.ua (hoq9.to (by omega) (by omega))) (ubZ (by omega))) (fun e9 => by have q9 := hu_114.2.1.op21 hq_117.1 hq_117.2 e9; omega)
          have hke_282 : KEG [] Ln_105 Pn_106 Ln_105 Pw_278 := hrw_284.keg _ hq_116.2
          have hq_285 : la ∈ Ln_105 ∧ Pw_278.kd la = 30 := hke_282.mem hq_116.1 hq_116.2 (by decide)
          have hq_286 : xr ∈ Ln_105 ∧ Pw_278.kd xr = 17 := hke_282.mem hq_117.1 hq_117.2 (by decide)
          have hE_287 : Pw_278.ek xr ≠ 1 := (by rw [hke_282.ek hq_117.1 hq_117.2 (by decide)]; exact hE_118)
          have hA_288 : KEG [] L P Ln_105 Pw_278 := hA_119.trans hke_282
          have : Pw_278.lz la = Pn_106.lz la := hrw_284.lz hq_116.2
          have : Pw_278.cap la = Pn_106.cap la := hW_281.cap la
          have hek_289 : Pw_278.ek la = 12 := (by rw [hke_282.ek hq_116.1 hq_116.2 (by decide)]; exact hek_120)
          have how_290 : Pw_278.ow la = la := ((hke_282.1 la hq_116.1 (by rw [hq_116.2]; decide)).2.2.2.1 hq_116.2 how_121).1
          have hcz := (((hke_282.1 la hq_116.1 (by rw [hq_116.2]; decide)).2.2.2.1 hq_116.2 how_121).2 (by simp)).1
          have hX_tx := hX_tx.rw1 hW_281 (Or.inl hq_117.2)
          have hcx_291 : CHG (fun z => z = xr) L P Ln_105 Pw_278 := hcx_122.trans (hW_281.chg _) (fun z m q => q)
          refine lv_aload_n hx hb dX16_row_90 rfl (lv_at hl 1 rfl) ?_
          have hr7 := (hak_283.rok hq_286.1 hq_286.2).n7
          obtain ⟨kp_292, hkp_292⟩ := va_pl_get (X := [(h0, .inr (14, [.ref q_t, .int (zI (z16_n)), .int (zI (z0_99)), .int (zI (z1_100)), .int (zI (z2_101)), .int (zI (z3_102)), .int (zI (z4_103)), .ref q5_104, v16_8, v16_9, v16_10, v16_11, v16_12, v16_13])), (q_t, .inl (cT, 8192, .inl (fun j : Nat => zI (a_t (j : Int)))))]) (f := pE Pw_278) hq_286.1
          rw [pE_row hq_286.2] at hkp_292
          refine va_get (D := (dC, dI)) (ci := 21) (v := .int (zI (Pw_278.ro xr))) (C := RX17) (T := TX17) (N := 7) hx hb hts mem_X16_rowM_2 hown hK hP kp_292 hkp_292 rfl 0 (by decide) (ow (k := 15) rfl) (fun _ h9 => h9) rfl dX16_row_91 ?_
          refine lv_if_ne (tgt := 98) hx hb dX16_row_94 (by decide) (fun b94 => ?_) (fun b94 => ?_)
          · have yb94 : ¬ (Pw_278.ro xr : Int) = (0 : Int) := fun q => b94 ((zI_eq (a := Pw_278.ro xr) (b := 0) (by omega) (by omega) (by omega) (by omega)).mpr q)
            refine lv_aload_n hx hb dX16_row_98 rfl (lv_at hl 0 rfl) ?_
            have hPc := hP.part (X := [(h0, .inr (14, [.ref q_t, .int (zI (z16_n)), .int (zI (z0_99)), .int (zI (z1_100)), .int (zI (z2_101)), .int (zI (z3_102)), .int (zI (z4_103)), .ref q5_104, v16_8, v16_9, v16_10, v16_11, v16_12, v16_13])), (q_t, .inl (cT, 8192, .inl (fun j : Nat => zI (a_t (j : Int)))))]) (cx := [(h0, .inr (14, [.ref q_t, .int (zI (z16_n)), .int (zI (z0_99)), .int (zI (z1_100)), .int (zI (z2_101)), .int (zI (z3_102)), .int (zI (z4_103)), .ref q5_104, v16_8, v16_9, v16_10, v16_11, v16_12, v16_13])), (q_t, .inl (cT, 8192, .inl (fun j : Nat => zI (a_t (j : Int)))))]) (pl := va_pl Ln_105 (pE Pw_278)) [0, 1] rfl
            have hDc := hD.part (X := [(h0, .inr (14, [.ref q_t, .int (zI (z16_n)), .int (zI (z0_99)), .int (zI (z1_100)), .int (zI (z2_101)), .int (zI (z3_102)), .int (zI (z4_103)), .ref q5_104, v16_8, v16_9, v16_10, v16_11, v16_12, v16_13])), (q_t, .inl (cT, 8192, .inl (fun j : Nat => zI (a_t (j : Int)))))]) (cx := [(h0, .inr (14, [.ref q_t, .int (zI (z16_n)), .int (zI (z0_99)), .int (zI (z1_100)), .int (zI (z2_101)), .int (zI (z3_102)), .int (zI (z4_103)), .ref q5_104, v16_8, v16_9, v16_10, v16_11, v16_12, v16_13])), (q_t, .inl (cT, 8192, .inl (fun j : Nat => zI (a_t (j : Int)))))]) (pl := va_pl Ln_105 (pE Pw_278)) [0, 1] (by decide) rfl
            have hKc := hK.sub (tys' := [(cT, .byte)]) [0] rfl
            have hFc := va_freeP (X := [(h0, .inr (14, [.ref q_t, .int (zI (z16_n)), .int (zI (z0_99)), .int (zI (z1_100)), .int (zI (z2_101)), .int (zI (z3_102)), .int (zI (z4_103)), .ref q5_104, v16_8, v16_9, v16_10, v16_11, v16_12, v16_13])), (q_t, .inl (cT, 8192, .inl (fun j : Nat => zI (a_t (j : Int)))))]) (cx := [(h0, .inr (14, [.ref q_t, .int (zI (z16_n)), .int (zI (z0_99)), .int (zI (z1_100)), .int (zI (z2_101)), .int (zI (z3_102)), .int (zI (z4_103)), .ref q5_104, v16_8, v16_9, v16_10, v16_11, v16_12, v16_13])), (q_t, .inl (cT, 8192, .inl (fun j : Nat => zI (a_t (j : Int)))))]) (pl := va_pl Ln_105 (pE Pw_278)) hD hS hA [0, 1] rfl
            refine W_knowS (fun hrmA => ?_)
            refine va_callv (va_runV (As := []) (rest := []) ⟨hx, hb, hml, hown, hts⟩ (c_X16_nextM l dC dI h0 z16_n z0_99 z1_100 z2_101 z3_102 z4_103 (.ref q5_104) v16_8 v16_9 v16_10 v16_11 v16_12 v16_13 q_t cT a_t Ln_105 Pw_278 sa_RX16_9 (by omega) (by omega) (by omega) (by omega) (by omega) (by omega) hR_a_t (by omega) H.size sa_RX16_9 H sv_RX16_9 sa_RX16_119 sv_RX16_119 sa_RX16_100 sv_RX16_100 sa_RX16_117 sa_RX16_100 sv_RX16_117 sa_RX16_98 sv_RX16_98) (cwV 0 hts g_X16_rowM_X16_nextM rfl rfl rfl (by decide +kernel) ⟨(Nat.le_of_ble_eq_true rfl), (Nat.le_of_ble_eq_true rfl)⟩) ⟨fun a U g mk q => by obtain ⟨q0, q1, qP, qK, qD, e0, e1, e2, e3, e4, e5, e6, e7, e8, e9, e10, e11, e12⟩ := q; exact ⟨q0, q1, qP, va_K.moved (u := U) (U := U.calling g mk a) (Vm.Alike.refl U.vm) qK, qD, vk_R.same (u := U) (U := U.calling g mk a) rfl e0, e1, va_Z.moved (u := U) (U := U.calling g mk a) (Vm.Alike.refl U.vm) e2, vs_S.moved (u := U) (U := U.calling g mk a) (Vm.Alike.refl U.vm) e3, va_Nw.same rfl (u := U) (U := U.calling g mk a) rfl e4, vk_R.same (u := U) (U := U.calling g mk a) rfl e5, vs_S.moved (u := U) (U := U.calling g mk a) (Vm.Alike.refl U.vm) e6, vs_S.moved (u := U) (U := U.calling g mk a) (Vm.Alike.refl U.vm) e7, vk_R.same (u := U) (U := U.calling g mk a) rfl e8, vk_R.same (u := U) (U := U.calling g mk a) rfl e9, vs_S.moved (u := U) (U := U.calling g mk a) (Vm.Alike.refl U.vm) e10, vk_R.same (u := U) (U := U.calling g mk a) rfl e11, vs_S.moved (u := U) (U := U.calling g mk a) (Vm.Alike.refl U.vm) e12⟩, va_recv hKc hPc (ci := 14) (q0 := 0) rfl rfl, fun U hU hW => ⟨rfl, by rw [hU], by rw [hU]; exact hPc, va_K.moved hW.alike hKc, hDc.weaken (fun _ _ _ _ => trivial), vk_R.warm hW hp4, hU, by rw [hU]; exact va_Z.narrow (va_Z.moved hW.alike (va_Z.kept hp3 hS.2.1)) hFc, by rw [hU]; exact vs_S.narrow (vs_S.moved hW.alike (vs_S.kept hp2 hS.2.1)) hFc, va_Nw.warmC hW hp5, vk_R.warm hW hp6, by rw [hU]; exact vs_S.narrow (vs_S.moved hW.alike (vs_S.kept hp7 hS.2.1)) hFc, by rw [hU]; exact vs_S.narrow (vs_S.moved hW.alike (vs_S.kept hp8 hS.2.1)) hFc, vk_R.warm hW hp9, vk_R.warm hW hp10, by rw [hU]; exact vs_S.narrow (vs_S.moved hW.alike (vs_S.kept hp11 hS.2.1)) hFc, vk_R.warm hW hp12, by rw [hU]; exact vs_S.narrow (vs_S.moved hW.alike (vs_S.kept hp13 hS.2.1)) hFc⟩⟩ rfl rfl hl.1 rfl (lv_room (Nat.le_of_ble_eq_true rfl)) dX16_row_99 ⟨(show ((((0 + kc_19) + kc_70) + kc_107) + ((5 + ((Pn_106.an (Pn_106.le q5_104) : Int) + 2) / 9).toNat)) + ((z16_n - z0_99 + 20).toNat) ≤ (24 * (z16_n - z16_at) + 40).toNat from (by omega)), (show ((((0 + ks_20) + ks_71) + ks_108) + ((5 * (Pn_106.an (Pn_106.le q5_104) : Int) + 40).toNat)) + ((10 * (z16_n - z0_99) + 120).toNat) ≤ (170 * (z16_n - z16_at) + 190).toNat from (by omega))⟩) hS (fun q _ h => hFc q h) hFc (fun  u t H1 locs ht hvm hw hB hz1 hk1 hS => ?_)
            obtain ⟨z0_293, z1_294, z2_295, z3_296, z4_297, q5_298, Ln_299, Pn_300, kc_301, ks_302, hxt_302, hP1, hK1, hD1⟩ := hB
            rw [ht] at hP1
            have hK1 := va_K.moved hvm.symm hK1
            obtain ⟨hP, hD⟩ := va_joinP (X := [(h0, .inr (14, [.ref q_t, .int (zI (z16_n)), .int (zI (z0_99)), .int (zI (z1_100)), .int (zI (z2_101)), .int (zI (z3_102)), .int (zI (z4_103)), .ref q5_104, v16_8, v16_9, v16_10, v16_11, v16_12, v16_13])), (q_t, .inl (cT, 8192, .inl (fun j : Nat => zI (a_t (j : Int)))))]) (cx := [(h0, .inr (14, [.ref q_t, .int (zI (z16_n)), .int (zI (z0_99)), .int (zI (z1_100)), .int (zI (z2_101)), .int (zI (z3_102)), .int (zI (z4_103)), .ref q5_104, v16_8, v16_9, v16_10, v16_11, v16_12, v16_13])), (q_t, .inl (cT, 8192, .inl (fun j : Nat => zI (a_t (j : Int)))))]) (wr := []) (rx := [(h0, .inr (14, [.ref q_t, .int (zI (z16_n)), .int (zI (z0_293)), .int (zI (z1_294)), .int (zI (z2_295)), .int (zI (z3_296)), .int (zI (z4_297)), .ref q5_298, v16_8, v16_9, v16_10, v16_11, v16_12, v16_13])), (q_t, .inl (cT, 8192, .inl (fun j : Nat => zI (a_t (j : Int)))))]) (pl := va_pl Ln_105 (pE Pw_278)) (pl1 := va_pl Ln_299 (pE Pn_300)) hP hD [0, 1] [] rfl rfl (by decide) (by decide) hk1 hFc hP1 hD1
            have hK := (hK.sub (tys' := [(cO, .object "java/lang/Object"), (cI, .int), (cZ, .boolean)]) [1, 2, 3] rfl).app hK1
            have hrmC := hxt_302.1.1
            rw [ht] at hrmC
            refine W_tightS (hrmA.trans hrmC) ?_
            have hrb := hxt_302.1.2
            generalize H1 = H at hP hS ⊢
            have hP : va_P (dC, dI) vwQ ([(h0, .inr (14, [.ref q_t, .int (zI (z16_n)), .int (zI (z0_293)), .int (zI (z1_294)), .int (zI (z2_295)), .int (zI (z3_296)), .int (zI (z4_297)), .ref q5_298, v16_8, v16_9, v16_10, v16_11, v16_12, v16_13])), (q_t, .inl (cT, 8192, .inl (fun j : Nat => zI (a_t (j : Int)))))] ++ va_pl Ln_299 (pE Pn_300)) H := hP
            have hD : va_D A ([(h0, .inr (14, [.ref q_t, .int (zI (z16_n)), .int (zI (z0_293)), .int (zI (z1_294)), .int (zI (z2_295)), .int (zI (z3_296)), .int (zI (z4_297)), .ref q5_298, v16_8, v16_9, v16_10, v16_11, v16_12, v16_13])), (q_t, .inl (cT, 8192, .inl (fun j : Nat => zI (a_t (j : Int)))))] ++ va_pl Ln_299 (pE Pn_300)) := hD
            have hK : va_K (dC, dI) vwQ [(cO, .object "java/lang/Object"), (cI, .int), (cZ, .boolean), (cT, .byte)] s := hK
            refine W.widen (k := (((((0 + kc_19) + kc_70) + kc_107) + ((5 + ((Pn_106.an (Pn_106.le q5_104) : Int) + 2) / 9).toNat)) + kc_301)) (n := (((((0 + ks_20) + ks_71) + ks_108) + ((5 * (Pn_106.an (Pn_106.le q5_104) : Int) + 40).toNat)) + ks_302)) (by omega) (by omega) ?_
            obtain ⟨rk_303, rk_304, rk_305, rk_306, rk_307, hu_307⟩ := hxt_302.2
            have hgo9 := hkd_115.go (by omega)
            have hkd_312 := hu_307.2.1
            have hX_kv := hkd_312.2
            have hu_308 := hu_307.2.2
            have hex_309 : EXT9 Ln_105 Pw_278 Ln_299 Pn_300 := hu_308.1
            have hke_310 : KEG [] Ln_105 Pw_278 Ln_299 Pn_300 := hex_309.keg hak_283
            have hak_311 : GLF Ln_299 Pn_300 cO cI cZ sx_ed := hak_283.txt hex_309 hu_308.2.1
            have hsm_313 := (hex_309 xr hq_286.1).2
            have : Pn_300.ro xr = Pw_278.ro xr := hsm_313.1 0
            have : Pn_300.rt xr = Pw_278.rt xr := hsm_313.1 1
            have : Pn_300.ra xr = Pw_278.ra xr := hsm_313.1 2
            have : Pn_300.rb xr = Pw_278.rb xr := hsm_313.1 3
            have : Pn_300.rA xr = Pw_278.rA xr := hsm_313.1 4
            have : Pn_300.rB xr = Pw_278.rB xr := hsm_313.1 5
            have : Pn_300.rg xr = Pw_278.rg xr := hsm_313.1 6
            have hq_314 : la ∈ Ln_299 ∧ Pn_300.kd la = 30 := hke_310.mem hq_285.1 hq_285.2 (by decide)
            have hq_315 : xr ∈ Ln_299 ∧ Pn_300.kd xr = 17 := hke_310.mem hq_286.1 hq_286.2 (by decide)
            have hE_316 : Pn_300.ek xr ≠ 1 := (by rw [hke_310.ek hq_286.1 hq_286.2 (by decide)]; exact hE_287)
            have hA_317 : KEG [] L P Ln_299 Pn_300 := hA_288.trans hke_310
            have : Pn_300.lz la = Pw_278.lz la := (hex_309 la hq_285.1).2.1 0
            have hek_318 : Pn_300.ek la = 12 := (by rw [hke_310.ek hq_285.1 hq_285.2 (by decide)]; exact hek_289)
            have how_319 : Pn_300.ow la = la := ((hke_310.1 la hq_285.1 (by rw [hq_285.2]; decide)).2.2.2.1 hq_285.2 how_290).1
            have hcz := (((hke_310.1 la hq_285.1 (by rw [hq_285.2]; decide)).2.2.2.1 hq_285.2 how_290).2 (by simp)).1
            have hX_tx := hu_308.2.2.1
            have hxk9 := hu_308.2.2.2
            have hcx_320 : CHG (fun z => z = xr) L P Ln_299 Pn_300 := hcx_291.trans hex_309.chg (fun z m q => q.elim)
            refine lv_aload_n hx hb dX16_row_102 rfl (lv_at hl 0 rfl) ?_
            refine lv_aload_n hx hb dX16_row_103 rfl (lv_at hl 1 rfl) ?_
            refine lv_iconst (v := 1) hx hb dX16_row_104 (by decide) ?_
            have hX_g := hak_311
            have hX_x := hq_315.1
            have hX_k := hq_315.2
            have hX_la := (show la ∈ Ln_299 ∧ Pn_300.kd la = 30 ∧ Pn_300.ek la = 12 ∧ Pn_300.ow la = la from ⟨hq_314.1, hq_314.2, hek_318, how_319⟩)
            have hPc := hP.part (X := [(h0, .inr (14, [.ref q_t, .int (zI (z16_n)), .int (zI (z0_293)), .int (zI (z1_294)), .int (zI (z2_295)), .int (zI (z3_296)), .int (zI (z4_297)), .ref q5_298, v16_8, v16_9, v16_10, v16_11, v16_12, v16_13])), (q_t, .inl (cT, 8192, .inl (fun j : Nat => zI (a_t (j : Int)))))]) (cx := [(h0, .inr (14, [.ref q_t, .int (zI (z16_n)), .int (zI (z0_293)), .int (zI (z1_294)), .int (zI (z2_295)), .int (zI (z3_296)), .int (zI (z4_297)), .ref q5_298, v16_8, v16_9, v16_10, v16_11, v16_12, v16_13])), (q_t, .inl (cT, 8192, .inl (fun j : Nat => zI (a_t (j : Int)))))]) (pl := va_pl Ln_299 (pE Pn_300)) [0, 1] rfl
            have hDc := hD.part (X := [(h0, .inr (14, [.ref q_t, .int (zI (z16_n)), .int (zI (z0_293)), .int (zI (z1_294)), .int (zI (z2_295)), .int (zI (z3_296)), .int (zI (z4_297)), .ref q5_298, v16_8, v16_9, v16_10, v16_11, v16_12, v16_13])), (q_t, .inl (cT, 8192, .inl (fun j : Nat => zI (a_t (j : Int)))))]) (cx := [(h0, .inr (14, [.ref q_t, .int (zI (z16_n)), .int (zI (z0_293)), .int (zI (z1_294)), .int (zI (z2_295)), .int (zI (z3_296)), .int (zI (z4_297)), .ref q5_298, v16_8, v16_9, v16_10, v16_11, v16_12, v16_13])), (q_t, .inl (cT, 8192, .inl (fun j : Nat => zI (a_t (j : Int)))))]) (pl := va_pl Ln_299 (pE Pn_300)) [0, 1] (by decide) rfl
            have hKc := hK.sub (tys' := [(cT, .byte), (cO, .object "java/lang/Object"), (cI, .int), (cZ, .boolean)]) [3, 0, 1, 2] rfl
            have hFc := va_freeP (X := [(h0, .inr (14, [.ref q_t, .int (zI (z16_n)), .int (zI (z0_293)), .int (zI (z1_294)), .int (zI (z2_295)), .int (zI (z3_296)), .int (zI (z4_297)), .ref q5_298, v16_8, v16_9, v16_10, v16_11, v16_12, v16_13])), (q_t, .inl (cT, 8192, .inl (fun j : Nat => zI (a_t (j : Int)))))]) (cx := [(h0, .inr (14, [.ref q_t, .int (zI (z16_n)), .int (zI (z0_293)), .int (zI (z1_294)), .int (zI (z2_295)), .int (zI (z3_296)), .int (zI (z4_297)), .ref q5_298, v16_8, v16_9, v16_10, v16_11, v16_12, v16_13])), (q_t, .inl (cT, 8192, .inl (fun j : Nat => zI (a_t (j : Int)))))]) (pl := va_pl Ln_299 (pE Pn_300)) hD hS hA [0, 1] rfl
            refine W_knowS (fun hrmA => ?_)
            refine vx_callv (vx_runV (As := [.ref xr, .int 1]) (rest := []) ⟨hx, hb, hml, hown, hts⟩ (c_X16_opBM l dC dI cI cZ h0 z16_n z0_293 z1_294 z2_295 z3_296 z4_297 v16_8 v16_9 v16_10 v16_11 v16_12 v16_13 q_t cT a_t q5_298 Ln_299 Pn_300 sa_RX16_9 cO la sx_ed xr (by omega) (by omega) (by omega) (by omega) (by omega) (by omega) hR_a_t hX_g hX_la hX_x hX_k (by omega) hX_kv H.size sv_RX16_9 sa_RX16_119 sv_RX16_119 sa_RX16_100 sv_RX16_100 sa_RX16_117 sv_RX16_117 sa_RX16_98 sv_RX16_98 H) (cwV 2 hts g_X16_rowM_X16_opBM rfl rfl rfl (by decide +kernel) ⟨(Nat.le_of_ble_eq_true rfl), (Nat.le_of_ble_eq_true rfl)⟩) ⟨fun a U g mk q => by obtain ⟨q0, q1, qP, qK, qD, e0, e1, e2, e3, e4, e5, e6, e7, e8, e9, e10, e11, e12, e13, e14⟩ := q; exact ⟨q0, q1, qP, va_K.moved (u := U) (U := U.calling g mk a) (Vm.Alike.refl U.vm) qK, qD, vk_R.same (u := U) (U := U.calling g mk a) rfl e0, va_Z.moved (u := U) (U := U.calling g mk a) (Vm.Alike.refl U.vm) e1, vs_S.moved (u := U) (U := U.calling g mk a) (Vm.Alike.refl U.vm) e2, va_Nw.same rfl (u := U) (U := U.calling g mk a) rfl e3, vk_R.same (u := U) (U := U.calling g mk a) rfl e4, vs_S.moved (u := U) (U := U.calling g mk a) (Vm.Alike.refl U.vm) e5, vs_S.moved (u := U) (U := U.calling g mk a) (Vm.Alike.refl U.vm) e6, vk_R.same (u := U) (U := U.calling g mk a) rfl e7, vk_R.same (u := U) (U := U.calling g mk a) rfl e8, vs_S.moved (u := U) (U := U.calling g mk a) (Vm.Alike.refl U.vm) e9, vk_R.same (u := U) (U := U.calling g mk a) rfl e10, vs_S.moved (u := U) (U := U.calling g mk a) (Vm.Alike.refl U.vm) e11, e12, vx_Zq.moved (u := U) (U := U.calling g mk a) (Vm.Alike.refl U.vm) e13, vx_Zq.moved (u := U) (U := U.calling g mk a) (Vm.Alike.refl U.vm) e14⟩, va_recv hKc hPc (ci := 14) (q0 := 0) rfl rfl, fun U hU hW => ⟨rfl, by rw [hU], by rw [hU]; exact hPc, va_K.moved hW.alike hKc, hDc.weaken (fun _ _ _ _ => trivial), vk_R.warm hW hp4, by rw [hU]; exact va_Z.narrow (va_Z.moved hW.alike (va_Z.kept hp3 hS.2.1)) hFc, by rw [hU]; exact vs_S.narrow (vs_S.moved hW.alike (vs_S.kept hp2 hS.2.1)) hFc, va_Nw.warmC hW hp5, vk_R.warm hW hp6, by rw [hU]; exact vs_S.narrow (vs_S.moved hW.alike (vs_S.kept hp7 hS.2.1)) hFc, by rw [hU]; exact vs_S.narrow (vs_S.moved hW.alike (vs_S.kept hp8 hS.2.1)) hFc, vk_R.warm hW hp9, vk_R.warm hW hp10, by rw [hU]; exact vs_S.narrow (vs_S.moved hW.alike (vs_S.kept hp11 hS.2.1)) hFc, vk_R.warm hW hp12, by rw [hU]; exact vs_S.narrow (vs_S.moved hW.alike (vs_S.kept hp13 hS.2.1)) hFc, hU, by rw [hU]; exact vx_Zq.narrow (vx_Zq.moved hW.alike (vx_Zq.kept hp14 hS.2.1)) hFc, by rw [hU]; exact vx_Zq.narrow (vx_Zq.moved hW.alike (vx_Zq.kept hp15 hS.2.1)) hFc⟩⟩ rfl rfl hl.1 rfl (lv_room (Nat.le_of_ble_eq_true rfl)) dX16_row_105 ⟨(show (((((0 + kc_19) + kc_70) + kc_107) + ((5 + ((Pn_106.an (Pn_106.le q5_104) : Int) + 2) / 9).toNat)) + kc_301) + ((13 * (z16_n - z0_293) + 20).toNat) ≤ (24 * (z16_n - z16_at) + 40).toNat from (by omega)), (show (((((0 + ks_20) + ks_71) + ks_108) + ((5 * (Pn_106.an (Pn_106.le q5_104) : Int) + 40).toNat)) + ks_302) + ((110 * (z16_n - z0_293) + 120).toNat) ≤ (170 * (z16_n - z16_at) + 190).toNat from (by omega))⟩) hS (fun q _ h => hFc q h) hFc (fun q _ h => hFc q h) (fun E ce q9 u t H1 locs ht hvm _ hB hz1 hk1 hS hce hcv hcl => ?_) (fun  u t H1 locs ht hvm hw hB hz1 hk1 hS => ?_)
            · obtain ⟨rfl, zp_321, Ln_322, Pn_323, kc_324, ks_325, hxt_326, hP1, hD1⟩ := hB
              rw [ht] at hP1
              obtain ⟨hP, hD⟩ := va_joinP (X := [(h0, .inr (14, [.ref q_t, .int (zI (z16_n)), .int (zI (z0_293)), .int (zI (z1_294)), .int (zI (z2_295)), .int (zI (z3_296)), .int (zI (z4_297)), .ref q5_298, v16_8, v16_9, v16_10, v16_11, v16_12, v16_13])), (q_t, .inl (cT, 8192, .inl (fun j : Nat => zI (a_t (j : Int)))))]) (cx := [(h0, .inr (14, [.ref q_t, .int (zI (z16_n)), .int (zI (z0_293)), .int (zI (z1_294)), .int (zI (z2_295)), .int (zI (z3_296)), .int (zI (z4_297)), .ref q5_298, v16_8, v16_9, v16_10, v16_11, v16_12, v16_13])), (q_t, .inl (cT, 8192, .inl (fun j : Nat => zI (a_t (j : Int)))))]) (wr := []) (rx := [(q_t, .inl (cT, 8192, .inl (fun j : Nat => zI (a_t (j : Int))))), (q9, .inr (15, [.null, .null, .null, .null, .null, .int 0, .int (zI (zp_321))]))]) (pl := va_pl Ln_299 (pE Pn_300)) (pl1 := va_pl Ln_322 (pE Pn_323)) hP hD [0, 1] [] rfl rfl (by decide) (by decide) hk1 hFc hP1 hD1
              have hrmC := hxt_326.1.1
              rw [ht] at hrmC
              refine vx_tightS (hrmA.trans hrmC) ?_
              have hrb := hxt_326.1.2
              generalize H1 = H at hP hS hce ⊢
              have hP : va_P (dC, dI) vwQ ([(q_t, .inl (cT, 8192, .inl (fun j : Nat => zI (a_t (j : Int))))), (q9, .inr (15, [.null, .null, .null, .null, .null, .int 0, .int (zI (zp_321))]))] ++ va_pl Ln_322 (pE Pn_323)) H := hP
              have hD : va_D A ([(q_t, .inl (cT, 8192, .inl (fun j : Nat => zI (a_t (j : Int))))), (q9, .inr (15, [.null, .null, .null, .null, .null, .int 0, .int (zI (zp_321))]))] ++ va_pl Ln_322 (pE Pn_323)) := hD
              have hzp : 0 ≤ zp_321 ∧ zp_321 ≤ 8192 := hxt_326.2.1
              subst hQ
              refine vx_knowS (fun hrm9 => ?_)
              refine vx_widen (k := ((24 * (z16_n - z16_at) + 40).toNat)) (n := ((170 * (z16_n - z16_at) + 190).toNat)) (by omega) (by omega) ?_
              exact vx_out (fun x9 h9 => (hnt x9 h9).elim) hlocks hce hcv hcl (fun t ht hvm => ⟨(), trivial, ⟨rfl, zp_321, Ln_322, Pn_323, ((((((0 + kc_19) + kc_70) + kc_107) + ((5 + ((Pn_106.an (Pn_106.le q5_104) : Int) + 2) / 9).toNat)) + kc_301) + kc_324), ((((((0 + ks_20) + ks_71) + ks_108) + ((5 * (Pn_106.an (Pn_106.le q5_104) : Int) + 40).toNat)) + ks_302) + ks_325), ⟨⟨(by rw [ht, ← hp16]; exact hrm9), (by omega)⟩, ⟨(by omega), ⟨hA_317.trans hxt_326.2.2.1, hxt_326.2.2.2.1, (hcx_320.cpa hg00.owa (fun z _ q => by rw [show z = xr from q, hk00]; decide)).trans hA_317 hxt_326.2.2.2.2⟩⟩⟩, by rw [ht]; exact hP, hD⟩, hS.F ht⟩) hS.2.2 (Nat.le_refl _) (Nat.le_refl _)
            obtain ⟨z0_327, z1_328, z2_329, z3_330, z4_331, q5_332, Ln_333, Pn_334, kc_335, ks_336, hxt_336, hP1, hK1, hD1⟩ := hB
            rw [ht] at hP1
            have hK1 := va_K.moved hvm.symm hK1
            obtain ⟨hP, hD⟩ := va_joinP (X := [(h0, .inr (14, [.ref q_t, .int (zI (z16_n)), .int (zI (z0_293)), .int (zI (z1_294)), .int (zI (z2_295)), .int (zI (z3_296)), .int (zI (z4_297)), .ref q5_298, v16_8, v16_9, v16_10, v16_11, v16_12, v16_13])), (q_t, .inl (cT, 8192, .inl (fun j : Nat => zI (a_t (j : Int)))))]) (cx := [(h0, .inr (14, [.ref q_t, .int (zI (z16_n)), .int (zI (z0_293)), .int (zI (z1_294)), .int (zI (z2_295)), .int (zI (z3_296)), .int (zI (z4_297)), .ref q5_298, v16_8, v16_9, v16_10, v16_11, v16_12, v16_13])), (q_t, .inl (cT, 8192, .inl (fun j : Nat => zI (a_t (j : Int)))))]) (wr := []) (rx := [(h0, .inr (14, [.ref q_t, .int (zI (z16_n)), .int (zI (z0_327)), .int (zI (z1_328)), .int (zI (z2_329)), .int (zI (z3_330)), .int (zI (z4_331)), .ref q5_332, v16_8, v16_9, v16_10, v16_11, v16_12, v16_13])), (q_t, .inl (cT, 8192, .inl (fun j : Nat => zI (a_t (j : Int)))))]) (pl := va_pl Ln_299 (pE Pn_300)) (pl1 := va_pl Ln_333 (pE Pn_334)) hP hD [0, 1] [] rfl rfl (by decide) (by decide) hk1 hFc hP1 hD1
            have hK := (hK.sub (tys' := []) [] rfl).app hK1
            have hrmC := hxt_336.1.1
            rw [ht] at hrmC
            refine W_tightS (hrmA.trans hrmC) ?_
            have hrb := hxt_336.1.2
            generalize H1 = H at hP hS ⊢
            have hP : va_P (dC, dI) vwQ ([(h0, .inr (14, [.ref q_t, .int (zI (z16_n)), .int (zI (z0_327)), .int (zI (z1_328)), .int (zI (z2_329)), .int (zI (z3_330)), .int (zI (z4_331)), .ref q5_332, v16_8, v16_9, v16_10, v16_11, v16_12, v16_13])), (q_t, .inl (cT, 8192, .inl (fun j : Nat => zI (a_t (j : Int)))))] ++ va_pl Ln_333 (pE Pn_334)) H := hP
            have hD : va_D A ([(h0, .inr (14, [.ref q_t, .int (zI (z16_n)), .int (zI (z0_327)), .int (zI (z1_328)), .int (zI (z2_329)), .int (zI (z3_330)), .int (zI (z4_331)), .ref q5_332, v16_8, v16_9, v16_10, v16_11, v16_12, v16_13])), (q_t, .inl (cT, 8192, .inl (fun j : Nat => zI (a_t (j : Int)))))] ++ va_pl Ln_333 (pE Pn_334)) := hD
            have hK : va_K (dC, dI) vwQ [(cT, .byte), (cO, .object "java/lang/Object"), (cI, .int), (cZ, .boolean)] s := hK
            refine W.widen (k := ((((((0 + kc_19) + kc_70) + kc_107) + ((5 + ((Pn_106.an (Pn_106.le q5_104) : Int) + 2) / 9).toNat)) + kc_301) + kc_335)) (n := ((((((0 + ks_20) + ks_71) + ks_108) + ((5 * (Pn_106.an (Pn_106.le q5_104) : Int) + 40).toNat)) + ks_302) + ks_336)) (by omega) (by omega) ?_
            obtain ⟨rk_337, rk_338, rk_339, rk_340, rk_341, hu_341⟩ := hxt_336.2
            have hu_342 := hu_341
            have hoc9 := hu_342.2.2.1.2
            have hoq9 : OPQ (Pn_334.rB xr) (Pn_334.rb xr) := hu_342.2.2.1.1
            have hgo9 := hkd_312.go (by omega)
            have hkd_343 := hu_342.2.2.2.2.2.1
            have hX_kv := hkd_343.2
            have hq_344 : la ∈ Ln_333 ∧ Pn_334.kd la = 30 := hu_342.1.mem hq_314.1 hq_314.2 (by decide)
            have hq_345 : xr ∈ Ln_333 ∧ Pn_334.kd xr = 17 := hu_342.1.mem hq_315.1 hq_315.2 (by decide)
            have hE_346 : Pn_334.ek xr ≠ 1 := (by rw [hu_342.1.ek hq_315.1 hq_315.2 (by decide)]; exact hE_316)
            have hA_347 : KEG [] L P Ln_333 Pn_334 := hA_317.trans hu_342.1
            have : Pn_334.lz la = Pn_300.lz la := (hu_342.2.2.2.1 la hq_314.1 (fun e9 => absurd e9 (kd_ne hq_314.2 hq_315.2 (by decide)))).2.1 0
            have hek_348 : Pn_334.ek la = 12 := (by rw [hu_342.1.ek hq_314.1 hq_314.2 (by decide)]; exact hek_318)
            have how_349 : Pn_334.ow la = la := ((hu_342.1.1 la hq_314.1 (by rw [hq_314.2]; decide)).2.2.2.1 hq_314.2 how_319).1
            have hcz := (((hu_342.1.1 la hq_314.1 (by rw [hq_314.2]; decide)).2.2.2.1 hq_314.2 how_319).2 (by simp)).1
            have hX_tx := hu_342.2.2.2.2.2.2.1
            have hxk9 := hu_342.2.2.2.2.2.2.2
            have hcx_350 : CHG (fun z => z = xr) L P Ln_333 Pn_334 := hcx_320.trans hu_342.2.2.2.1 (fun z m q => q)
            subst hQ
            refine W_knowS (fun hrm9 => ?_)
            refine W.widen (k := ((24 * (z16_n - z16_at) + 40).toNat)) (n := ((170 * (z16_n - z16_at) + 190).toNat)) (by omega) (by omega) ?_
            refine vx_ret ?_
            exact W.vret hx hb hr (fun t ht hW => ⟨⟨(), rfl, trivial, z0_327, z1_328, z2_329, z3_330, z4_331, q5_332, Ln_333, Pn_334, ((((((0 + kc_19) + kc_70) + kc_107) + ((5 + ((Pn_106.an (Pn_106.le q5_104) : Int) + 2) / 9).toNat)) + kc_301) + kc_335), ((((((0 + ks_20) + ks_71) + ks_108) + ((5 * (Pn_106.an (Pn_106.le q5_104) : Int) + 40).toNat)) + ks_302) + ks_336), ⟨⟨(by rw [ht, ← hp16]; exact hrm9), (by omega)⟩, ⟨(by omega), (by omega), (by omega), (by omega), (by omega), ⟨hA_347, hu_342.2.1, ⟨(hkd_343.mono (by omega)).ms (by omega) (by omega) (by omega), by omega⟩, hcx_350, ⟨by omega, by omega, by omega⟩, hkd_343.mono (by omega), hX_tx⟩⟩⟩, by rw [ht]; exact hP, va_K.moved hW.alike hK, hD⟩, hS.F ht⟩) hS.2.2 dX16_row_108
          · have yb94 : (Pw_278.ro xr : Int) = (0 : Int) := (zI_eq (a := Pw_278.ro xr) (b := 0) (by omega) (by omega) (by omega) (by omega)).mp b94
            subst hQ
            refine W_knowS (fun hrm9 => ?_)
            refine W.widen (k := ((24 * (z16_n - z16_at) + 40).toNat)) (n := ((170 * (z16_n - z16_at) + 190).toNat)) (by omega) (by omega) ?_
            refine vx_ret ?_
            exact W.vret hx hb hr (fun t ht hW => ⟨⟨(), rfl, trivial, z0_99, z1_100, z2_101, z3_102, z4_103, q5_104, Ln_105, Pw_278, ((((0 + kc_19) + kc_70) + kc_107) + ((5 + ((Pn_106.an (Pn_106.le q5_104) : Int) + 2) / 9).toNat)), ((((0 + ks_20) + ks_71) + ks_108) + ((5 * (Pn_106.an (Pn_106.le q5_104) : Int) + 40).toNat)), ⟨⟨(by rw [ht, ← hp16]; exact hrm9), (by omega)⟩, ⟨(by omega), (by omega), (by omega), (by omega), (by omega), ⟨hA_288, hak_283, ⟨(hkd_115.mono (by omega)).ms (by omega) (by omega) (by omega), by omega⟩, hcx_291, ⟨by omega, by omega, by omega⟩, hkd_115.mono (by omega), hX_tx⟩⟩⟩, by rw [ht]; exact hP, va_K.moved hW.alike hK, hD⟩, hS.F ht⟩) hS.2.2 dX16_row_97
    · have yb47 : ¬ (z_92 : Int) = (0 : Int) := fun q => b47 ((zI_eq (a := z_92) (b := 0) (by omega) (by omega) (by omega) (by omega)).mpr q)
      refine lv_aload_n hx hb dX16_row_50 rfl (lv_at hl 0 rfl) ?_
      have hPc := hP.part (X := [(h0, .inr (14, [.ref q_t, .int (zI (z16_n)), .int (zI (z0_62)), .int (zI (z1_63)), .int (zI (z2_64)), .int (zI (z3_65)), .int (zI (z4_66)), .ref q5_67, v16_8, v16_9, v16_10, v16_11, v16_12, v16_13])), (q_t, .inl (cT, 8192, .inl (fun j : Nat => zI (a_t (j : Int)))))]) (cx := [(h0, .inr (14, [.ref q_t, .int (zI (z16_n)), .int (zI (z0_62)), .int (zI (z1_63)), .int (zI (z2_64)), .int (zI (z3_65)), .int (zI (z4_66)), .ref q5_67, v16_8, v16_9, v16_10, v16_11, v16_12, v16_13])), (q_t, .inl (cT, 8192, .inl (fun j : Nat => zI (a_t (j : Int)))))]) (pl := va_pl Ln_68 (pE Pn_69)) [0, 1] rfl
      have hDc := hD.part (X := [(h0, .inr (14, [.ref q_t, .int (zI (z16_n)), .int (zI (z0_62)), .int (zI (z1_63)), .int (zI (z2_64)), .int (zI (z3_65)), .int (zI (z4_66)), .ref q5_67, v16_8, v16_9, v16_10, v16_11, v16_12, v16_13])), (q_t, .inl (cT, 8192, .inl (fun j : Nat => zI (a_t (j : Int)))))]) (cx := [(h0, .inr (14, [.ref q_t, .int (zI (z16_n)), .int (zI (z0_62)), .int (zI (z1_63)), .int (zI (z2_64)), .int (zI (z3_65)), .int (zI (z4_66)), .ref q5_67, v16_8, v16_9, v16_10, v16_11, v16_12, v16_13])), (q_t, .inl (cT, 8192, .inl (fun j : Nat => zI (a_t (j : Int)))))]) (pl := va_pl Ln_68 (pE Pn_69)) [0, 1] (by decide) rfl
      have hKc := hK.sub (tys' := [(cT, .byte)]) [3] rfl
      have hFc := va_freeP (X := [(h0, .inr (14, [.ref q_t, .int (zI (z16_n)), .int (zI (z0_62)), .int (zI (z1_63)), .int (zI (z2_64)), .int (zI (z3_65)), .int (zI (z4_66)), .ref q5_67, v16_8, v16_9, v16_10, v16_11, v16_12, v16_13])), (q_t, .inl (cT, 8192, .inl (fun j : Nat => zI (a_t (j : Int)))))]) (cx := [(h0, .inr (14, [.ref q_t, .int (zI (z16_n)), .int (zI (z0_62)), .int (zI (z1_63)), .int (zI (z2_64)), .int (zI (z3_65)), .int (zI (z4_66)), .ref q5_67, v16_8, v16_9, v16_10, v16_11, v16_12, v16_13])), (q_t, .inl (cT, 8192, .inl (fun j : Nat => zI (a_t (j : Int)))))]) (pl := va_pl Ln_68 (pE Pn_69)) hD hS hA [0, 1] rfl
      refine W_knowS (fun hrmA => ?_)
      refine va_callv (va_runV (As := []) (rest := []) ⟨hx, hb, hml, hown, hts⟩ (c_X16_nextM l dC dI h0 z16_n z0_62 z1_63 z2_64 z3_65 z4_66 (.ref q5_67) v16_8 v16_9 v16_10 v16_11 v16_12 v16_13 q_t cT a_t Ln_68 Pn_69 sa_RX16_9 (by omega) (by omega) (by omega) (by omega) (by omega) (by omega) hR_a_t (by omega) H.size sa_RX16_9 H sv_RX16_9 sa_RX16_119 sv_RX16_119 sa_RX16_100 sv_RX16_100 sa_RX16_117 sa_RX16_100 sv_RX16_117 sa_RX16_98 sv_RX16_98) (cwV 0 hts g_X16_rowM_X16_nextM rfl rfl rfl (by decide +kernel) ⟨(Nat.le_of_ble_eq_true rfl), (Nat.le_of_ble_eq_true rfl)⟩) ⟨fun a U g mk q => by obtain ⟨q0, q1, qP, qK, qD, e0, e1, e2, e3, e4, e5, e6, e7, e8, e9, e10, e11, e12⟩ := q; exact ⟨q0, q1, qP, va_K.moved (u := U) (U := U.calling g mk a) (Vm.Alike.refl U.vm) qK, qD, vk_R.same (u := U) (U := U.calling g mk a) rfl e0, e1, va_Z.moved (u := U) (U := U.calling g mk a) (Vm.Alike.refl U.vm) e2, vs_S.moved (u := U) (U := U.calling g mk a) (Vm.Alike.refl U.vm) e3, va_Nw.same rfl (u := U) (U := U.calling g mk a) rfl e4, vk_R.same (u := U) (U := U.calling g mk a) rfl e5, vs_S.moved (u := U) (U := U.calling g mk a) (Vm.Alike.refl U.vm) e6, vs_S.moved (u := U) (U := U.calling g mk a) (Vm.Alike.refl U.vm) e7, vk_R.same (u := U) (U := U.calling g mk a) rfl e8, vk_R.same (u := U) (U := U.calling g mk a) rfl e9, vs_S.moved (u := U) (U := U.calling g mk a) (Vm.Alike.refl U.vm) e10, vk_R.same (u := U) (U := U.calling g mk a) rfl e11, vs_S.moved (u := U) (U := U.calling g mk a) (Vm.Alike.refl U.vm) e12⟩, va_recv hKc hPc (ci := 14) (q0 := 0) rfl rfl, fun U hU hW => ⟨rfl, by rw [hU], by rw [hU]; exact hPc, va_K.moved hW.alike hKc, hDc.weaken (fun _ _ _ _ => trivial), vk_R.warm hW hp4, hU, by rw [hU]; exact va_Z.narrow (va_Z.moved hW.alike (va_Z.kept hp3 hS.2.1)) hFc, by rw [hU]; exact vs_S.narrow (vs_S.moved hW.alike (vs_S.kept hp2 hS.2.1)) hFc, va_Nw.warmC hW hp5, vk_R.warm hW hp6, by rw [hU]; exact vs_S.narrow (vs_S.moved hW.alike (vs_S.kept hp7 hS.2.1)) hFc, by rw [hU]; exact vs_S.narrow (vs_S.moved hW.alike (vs_S.kept hp8 hS.2.1)) hFc, vk_R.warm hW hp9, vk_R.warm hW hp10, by rw [hU]; exact vs_S.narrow (vs_S.moved hW.alike (vs_S.kept hp11 hS.2.1)) hFc, vk_R.warm hW hp12, by rw [hU]; exact vs_S.narrow (vs_S.moved hW.alike (vs_S.kept hp13 hS.2.1)) hFc⟩⟩ rfl rfl hl.1 rfl (lv_room (Nat.le_of_ble_eq_true rfl)) dX16_row_51 ⟨(show ((0 + kc_19) + kc_70) + ((z16_n - z0_62 + 20).toNat) ≤ (24 * (z16_n - z16_at) + 40).toNat from (by omega)), (show ((0 + ks_20) + ks_71) + ((10 * (z16_n - z0_62) + 120).toNat) ≤ (170 * (z16_n - z16_at) + 190).toNat from (by omega))⟩) hS (fun q _ h => hFc q h) hFc (fun  u t H1 locs ht hvm hw hB hz1 hk1 hS => ?_)
      obtain ⟨z0_351, z1_352, z2_353, z3_354, z4_355, q5_356, Ln_357, Pn_358, kc_359, ks_360, hxt_360, hP1, hK1, hD1⟩ := hB
      rw [ht] at hP1
      have hK1 := va_K.moved hvm.symm hK1
      obtain ⟨hP, hD⟩ := va_joinP (X := [(h0, .inr (14, [.ref q_t, .int (zI (z16_n)), .int (zI (z0_62)), .int (zI (z1_63)), .int (zI (z2_64)), .int (zI (z3_65)), .int (zI (z4_66)), .ref q5_67, v16_8, v16_9, v16_10, v16_11, v16_12, v16_13])), (q_t, .inl (cT, 8192, .inl (fun j : Nat => zI (a_t (j : Int)))))]) (cx := [(h0, .inr (14, [.ref q_t, .int (zI (z16_n)), .int (zI (z0_62)), .int (zI (z1_63)), .int (zI (z2_64)), .int (zI (z3_65)), .int (zI (z4_66)), .ref q5_67, v16_8, v16_9, v16_10, v16_11, v16_12, v16_13])), (q_t, .inl (cT, 8192, .inl (fun j : Nat => zI (a_t (j : Int)))))]) (wr := []) (rx := [(h0, .inr (14, [.ref q_t, .int (zI (z16_n)), .int (zI (z0_351)), .int (zI (z1_352)), .int (zI (z2_353)), .int (zI (z3_354)), .int (zI (z4_355)), .ref q5_356, v16_8, v16_9, v16_10, v16_11, v16_12, v16_13])), (q_t, .inl (cT, 8192, .inl (fun j : Nat => zI (a_t (j : Int)))))]) (pl := va_pl Ln_68 (pE Pn_69)) (pl1 := va_pl Ln_357 (pE Pn_358)) hP hD [0, 1] [] rfl rfl (by decide) (by decide) hk1 hFc hP1 hD1
      have hK := (hK.sub (tys' := [(cO, .object "java/lang/Object"), (cI, .int), (cZ, .boolean)]) [0, 1, 2] rfl).app hK1
      have hrmC := hxt_360.1.1
      rw [ht] at hrmC
      refine W_tightS (hrmA.trans hrmC) ?_
      have hrb := hxt_360.1.2
      generalize H1 = H at hP hS ⊢
      have hP : va_P (dC, dI) vwQ ([(h0, .inr (14, [.ref q_t, .int (zI (z16_n)), .int (zI (z0_351)), .int (zI (z1_352)), .int (zI (z2_353)), .int (zI (z3_354)), .int (zI (z4_355)), .ref q5_356, v16_8, v16_9, v16_10, v16_11, v16_12, v16_13])), (q_t, .inl (cT, 8192, .inl (fun j : Nat => zI (a_t (j : Int)))))] ++ va_pl Ln_357 (pE Pn_358)) H := hP
      have hD : va_D A ([(h0, .inr (14, [.ref q_t, .int (zI (z16_n)), .int (zI (z0_351)), .int (zI (z1_352)), .int (zI (z2_353)), .int (zI (z3_354)), .int (zI (z4_355)), .ref q5_356, v16_8, v16_9, v16_10, v16_11, v16_12, v16_13])), (q_t, .inl (cT, 8192, .inl (fun j : Nat => zI (a_t (j : Int)))))] ++ va_pl Ln_357 (pE Pn_358)) := hD
      have hK : va_K (dC, dI) vwQ [(cO, .object "java/lang/Object"), (cI, .int), (cZ, .boolean), (cT, .byte)] s := hK
      refine W.widen (k := (((0 + kc_19) + kc_70) + kc_359)) (n := (((0 + ks_20) + ks_71) + ks_360)) (by omega) (by omega) ?_
      obtain ⟨rk_361, rk_362, rk_363, rk_364, rk_365, hu_365⟩ := hxt_360.2
      have hgo9 := hkd_81.go (by omega)
      have hkd_370 := hu_365.2.1
      have hX_kv := hkd_370.2
      have hu_366 := hu_365.2.2
      have hex_367 : EXT9 Ln_68 Pn_69 Ln_357 Pn_358 := hu_366.1
      have hke_368 : KEG [] Ln_68 Pn_69 Ln_357 Pn_358 := hex_367.keg hak_80
      have hak_369 : GLF Ln_357 Pn_358 cO cI cZ sx_ed := hak_80.txt hex_367 hu_366.2.1
      have hsm_371 := (hex_367 xr hq_84.1).2
      have : Pn_358.ro xr = Pn_69.ro xr := hsm_371.1 0
      have : Pn_358.rt xr = Pn_69.rt xr := hsm_371.1 1
      have : Pn_358.ra xr = Pn_69.ra xr := hsm_371.1 2
      have : Pn_358.rb xr = Pn_69.rb xr := hsm_371.1 3
      have : Pn_358.rA xr = Pn_69.rA xr := hsm_371.1 4
      have : Pn_358.rB xr = Pn_69.rB xr := hsm_371.1 5
      have : Pn_358.rg xr = Pn_69.rg xr := hsm_371.1 6
      have hq_372 : la ∈ Ln_357 ∧ Pn_358.kd la = 30 := hke_368.mem hq_83.1 hq_83.2 (by decide)
      have hq_373 : xr ∈ Ln_357 ∧ Pn_358.kd xr = 17 := hke_368.mem hq_84.1 hq_84.2 (by decide)
      have hE_374 : Pn_358.ek xr ≠ 1 := (by rw [hke_368.ek hq_84.1 hq_84.2 (by decide)]; exact hE_85)
      have hA_375 : KEG [] L P Ln_357 Pn_358 := hA_86.trans hke_368
      have : Pn_358.lz la = Pn_69.lz la := (hex_367 la hq_83.1).2.1 0
      have hek_376 : Pn_358.ek la = 12 := (by rw [hke_368.ek hq_83.1 hq_83.2 (by decide)]; exact hek_87)
      have how_377 : Pn_358.ow la = la := ((hke_368.1 la hq_83.1 (by rw [hq_83.2]; decide)).2.2.2.1 hq_83.2 how_88).1
      have hcz := (((hke_368.1 la hq_83.1 (by rw [hq_83.2]; decide)).2.2.2.1 hq_83.2 how_88).2 (by simp)).1
      have hX_tx := hu_366.2.2.1
      have hxk9 := hu_366.2.2.2
      have hcx_378 : CHG (fun z => z = xr) L P Ln_357 Pn_358 := hcx_89.trans hex_367.chg (fun z m q => q.elim)
      refine lv_aload_n hx hb dX16_row_54 rfl (lv_at hl 1 rfl) ?_
      refine lv_bipush (v := 20) hx hb dX16_row_55 (by decide) ?_
      have hr7 := (hak_369.rok hq_373.1 hq_373.2).n7
      refine lv_topi (fun z ez => ?_)
      obtain rfl : z = zI (20) := ez
      obtain ⟨kp_379, gkp_379⟩ := va_pl_get (X := [(h0, .inr (14, [.ref q_t, .int (zI (z16_n)), .int (zI (z0_351)), .int (zI (z1_352)), .int (zI (z2_353)), .int (zI (z3_354)), .int (zI (z4_355)), .ref q5_356, v16_8, v16_9, v16_10, v16_11, v16_12, v16_13])), (q_t, .inl (cT, 8192, .inl (fun j : Nat => zI (a_t (j : Int)))))]) (f := pE Pn_358) hq_373.1
      have hkp_379 := gkp_379
      rw [pE_row hq_373.2] at hkp_379
      have hD0 := hD
      refine va_put (D := (dC, dI)) (ci := 21) (v := .int (zI (20))) (ty := .int) (C := RX17) (T := TX17) (N := 7) hx hb hts mem_X16_rowM_2 tyX17 tyX17_ok nmX17 hown hK hP hD hS kp_379 hkp_379 rfl 0 (by decide) (ow (k := 15) rfl) (fun _ h9 => h9) rfl (by decide +kernel) rfl rfl (by first | exact Nat.le_of_ble_eq_true rfl | exact (show (((0 + kc_19) + kc_70) + kc_359) ≤ (24 * (z16_n - z16_at) + 40).toNat from (by omega)) | exact (show (((0 + ks_20) + ks_71) + ks_360) ≤ (170 * (z16_n - z16_at) + 190).toNat from (by omega))) dX16_row_57 (fun H locs hP hD hS => ?_)
      obtain ⟨Pw_380, ePw_380⟩ : ∃ q9 : PO, q9 = Pn_358.rw9 0 xr (20) := ⟨_, rfl⟩
      have eU : (([(h0, .inr (14, [.ref q_t, .int (zI (z16_n)), .int (zI (z0_351)), .int (zI (z1_352)), .int (zI (z2_353)), .int (zI (z3_354)), .int (zI (z4_355)), .ref q5_356, v16_8, v16_9, v16_10, v16_11, v16_12, v16_13])), (q_t, .inl (cT, 8192, .inl (fun j : Nat => zI (a_t (j : Int)))))] : va_W) ++ va_pl Ln_357 (pE Pn_358)).set kp_379 (xr, rowE (20) (Pn_358.rt xr) (Pn_358.ra xr) (Pn_358.rb xr) (Pn_358.rA xr) (Pn_358.rB xr) (Pn_358.rg xr)) = ([(h0, .inr (14, [.ref q_t, .int (zI (z16_n)), .int (zI (z0_351)), .int (zI (z1_352)), .int (zI (z2_353)), .int (zI (z3_354)), .int (zI (z4_355)), .ref q5_356, v16_8, v16_9, v16_10, v16_11, v16_12, v16_13])), (q_t, .inl (cT, 8192, .inl (fun j : Nat => zI (a_t (j : Int)))))] : va_W) ++ va_pl Ln_357 (pE Pw_380) := (by rw [va_pl_set hD0 hq_373.1 gkp_379, ePw_380]; exact congrArg (fun f9 => ([(h0, .inr (14, [.ref q_t, .int (zI (z16_n)), .int (zI (z0_351)), .int (zI (z1_352)), .int (zI (z2_353)), .int (zI (z3_354)), .int (zI (z4_355)), .ref q5_356, v16_8, v16_9, v16_10, v16_11, v16_12, v16_13])), (q_t, .inl (cT, 8192, .inl (fun j : Nat => zI (a_t (j : Int)))))] : va_W) ++ va_pl Ln_357 f9) (put17_0 hq_373.2))
      have hP : va_P (dC, dI) vwQ ([(h0, .inr (14, [.ref q_t, .int (zI (z16_n)), .int (zI (z0_351)), .int (zI (z1_352)), .int (zI (z2_353)), .int (zI (z3_354)), .int (zI (z4_355)), .ref q5_356, v16_8, v16_9, v16_10, v16_11, v16_12, v16_13])), (q_t, .inl (cT, 8192, .inl (fun j : Nat => zI (a_t (j : Int)))))] ++ va_pl Ln_357 (pE Pw_380)) H := (by rw [← eU]; exact hP)
      have hD : va_D A ([(h0, .inr (14, [.ref q_t, .int (zI (z16_n)), .int (zI (z0_351)), .int (zI (z1_352)), .int (zI (z2_353)), .int (zI (z3_354)), .int (zI (z4_355)), .ref q5_356, v16_8, v16_9, v16_10, v16_11, v16_12, v16_13])), (q_t, .inl (cT, 8192, .inl (fun j : Nat => zI (a_t (j : Int)))))] ++ va_pl Ln_357 (pE Pw_380)) := (by rw [← eU]; exact hD)
      clear eU hD0 gkp_379 hkp_379
      have wPw_380 : RW1 xr Pn_358 Pw_380 := (by rw [ePw_380]; exact RW1.put _ _ _ _)
      have hy_381 : Pw_380.kd la = 30 := (by rw [ePw_380]; exact hq_372.2)
      have hy_382 : Pw_380.kd xr = 17 := (by rw [ePw_380]; exact hq_373.2)
      have : Pw_380.ro xr = 20 := (by rw [ePw_380]; exact rw9_at _ _ _ _)
      have : Pw_380.rt xr = Pn_358.rt xr := (by rw [ePw_380]; exact rw9_of _ (by decide))
      have : Pw_380.ra xr = Pn_358.ra xr := (by rw [ePw_380]; exact rw9_of _ (by decide))
      have : Pw_380.rb xr = Pn_358.rb xr := (by rw [ePw_380]; exact rw9_of _ (by decide))
      have : Pw_380.rA xr = Pn_358.rA xr := (by rw [ePw_380]; exact rw9_of _ (by decide))
      have : Pw_380.rB xr = Pn_358.rB xr := (by rw [ePw_380]; exact rw9_of _ (by decide))
      have : Pw_380.rg xr = Pn_358.rg xr := (by rw [ePw_380]; exact rw9_of _ (by decide))
      have hW_383 : RW1 xr Pn_358 Pw_380 := wPw_380
      have hrw_386 : RWD Pn_358 Pw_380 := hW_383.rwd (Or.inl hq_373.2)
      have hak_385 : GLF Ln_357 Pw_380 cO cI cZ sx_ed := hak_369.row hW_383 hq_373.2 (ROK9.of (by omega) (by omega) (by omega) (by omega) (by omega) (by omega) (by omega) (uaZ (by omega)) (ubZ (by omega))) (fun e9 => by have q9 := hak_369.op21 hq_373.1 hq_373.2 e9; omega)
      have hke_384 : KEG [] Ln_357 Pn_358 Ln_357 Pw_380 := hrw_386.keg _ hq_372.2
      have hq_387 : la ∈ Ln_357 ∧ Pw_380.kd la = 30 := hke_384.mem hq_372.1 hq_372.2 (by decide)
      have hq_388 : xr ∈ Ln_357 ∧ Pw_380.kd xr = 17 := hke_384.mem hq_373.1 hq_373.2 (by decide)
      have hE_389 : Pw_380.ek xr ≠ 1 := (by rw [hke_384.ek hq_373.1 hq_373.2 (by decide)]; exact hE_374)
      have hA_390 : KEG [] L P Ln_357 Pw_380 := hA_375.trans hke_384
      have : Pw_380.lz la = Pn_358.lz la := hrw_386.lz hq_372.2
      have : Pw_380.cap la = Pn_358.cap la := hW_383.cap la
      have hek_391 : Pw_380.ek la = 12 := (by rw [hke_384.ek hq_372.1 hq_372.2 (by decide)]; exact hek_376)
      have how_392 : Pw_380.ow la = la := ((hke_384.1 la hq_372.1 (by rw [hq_372.2]; decide)).2.2.2.1 hq_372.2 how_377).1
      have hcz := (((hke_384.1 la hq_372.1 (by rw [hq_372.2]; decide)).2.2.2.1 hq_372.2 how_377).2 (by simp)).1
      have hX_tx := hX_tx.rw1 hW_383 (Or.inl hq_373.2)
      have hcx_393 : CHG (fun z => z = xr) L P Ln_357 Pw_380 := hcx_378.trans (hW_383.chg _) (fun z m q => q)
      subst hQ
      have hK := hK.sub (tys' := [(cT, .byte), (cO, .object "java/lang/Object"), (cI, .int), (cZ, .boolean)]) [3, 0, 1, 2] rfl
      refine W_knowS (fun hrm9 => ?_)
      refine W.widen (k := ((24 * (z16_n - z16_at) + 40).toNat)) (n := ((170 * (z16_n - z16_at) + 190).toNat)) (by omega) (by omega) ?_
      refine vx_ret ?_
      exact W.vret hx hb hr (fun t ht hW => ⟨⟨(), rfl, trivial, z0_351, z1_352, z2_353, z3_354, z4_355, q5_356, Ln_357, Pw_380, (((0 + kc_19) + kc_70) + kc_359), (((0 + ks_20) + ks_71) + ks_360), ⟨⟨(by rw [ht, ← hp16]; exact hrm9), (by omega)⟩, ⟨(by omega), (by omega), (by omega), (by omega), (by omega), ⟨hA_390, hak_385, ⟨(hkd_370.mono (by omega)).ms (by omega) (by omega) (by omega), by omega⟩, hcx_393, ⟨by omega, by omega, by omega⟩, hkd_370.mono (by omega), hX_tx⟩⟩⟩, by rw [ht]; exact hP, va_K.moved hW.alike hK, hD⟩, hS.F ht⟩) hS.2.2 dX16_row_60
  · have yb6 : ¬ (z_3 : Int) = (0 : Int) := fun q => b6 ((zI_eq (a := z_3) (b := 0) (by omega) (by omega) (by omega) (by omega)).mpr q)
    refine lv_aload_n hx hb dX16_row_9 rfl (lv_at hl 0 rfl) ?_
    have hPc := hP.part (X := [(h0, .inr (14, [.ref q_t, .int (zI (z16_n)), .int (zI (z16_at)), .int (zI (z16_kind)), .int (zI (z16_place)), .int (zI (z16_value)), .int (zI (z16_before)), .ref tx9, v16_8, v16_9, v16_10, v16_11, v16_12, v16_13])), (q_t, .inl (cT, 8192, .inl (fun j : Nat => zI (a_t (j : Int)))))]) (cx := [(h0, .inr (14, [.ref q_t, .int (zI (z16_n)), .int (zI (z16_at)), .int (zI (z16_kind)), .int (zI (z16_place)), .int (zI (z16_value)), .int (zI (z16_before)), .ref tx9, v16_8, v16_9, v16_10, v16_11, v16_12, v16_13])), (q_t, .inl (cT, 8192, .inl (fun j : Nat => zI (a_t (j : Int)))))]) (pl := va_pl L (pE P)) [0, 1] rfl
    have hDc := hD.part (X := [(h0, .inr (14, [.ref q_t, .int (zI (z16_n)), .int (zI (z16_at)), .int (zI (z16_kind)), .int (zI (z16_place)), .int (zI (z16_value)), .int (zI (z16_before)), .ref tx9, v16_8, v16_9, v16_10, v16_11, v16_12, v16_13])), (q_t, .inl (cT, 8192, .inl (fun j : Nat => zI (a_t (j : Int)))))]) (cx := [(h0, .inr (14, [.ref q_t, .int (zI (z16_n)), .int (zI (z16_at)), .int (zI (z16_kind)), .int (zI (z16_place)), .int (zI (z16_value)), .int (zI (z16_before)), .ref tx9, v16_8, v16_9, v16_10, v16_11, v16_12, v16_13])), (q_t, .inl (cT, 8192, .inl (fun j : Nat => zI (a_t (j : Int)))))]) (pl := va_pl L (pE P)) [0, 1] (by decide) rfl
    have hKc := hK.sub (tys' := [(cT, .byte)]) [3] rfl
    have hFc := va_freeP (X := [(h0, .inr (14, [.ref q_t, .int (zI (z16_n)), .int (zI (z16_at)), .int (zI (z16_kind)), .int (zI (z16_place)), .int (zI (z16_value)), .int (zI (z16_before)), .ref tx9, v16_8, v16_9, v16_10, v16_11, v16_12, v16_13])), (q_t, .inl (cT, 8192, .inl (fun j : Nat => zI (a_t (j : Int)))))]) (cx := [(h0, .inr (14, [.ref q_t, .int (zI (z16_n)), .int (zI (z16_at)), .int (zI (z16_kind)), .int (zI (z16_place)), .int (zI (z16_value)), .int (zI (z16_before)), .ref tx9, v16_8, v16_9, v16_10, v16_11, v16_12, v16_13])), (q_t, .inl (cT, 8192, .inl (fun j : Nat => zI (a_t (j : Int)))))]) (pl := va_pl L (pE P)) hD hS hA [0, 1] rfl
    refine W_knowS (fun hrmA => ?_)
    refine va_callv (va_runV (As := []) (rest := []) ⟨hx, hb, hml, hown, hts⟩ (c_X16_nextM l dC dI h0 z16_n z16_at z16_kind z16_place z16_value z16_before (.ref tx9) v16_8 v16_9 v16_10 v16_11 v16_12 v16_13 q_t cT a_t L P sa_RX16_9 (by omega) (by omega) (by omega) (by omega) (by omega) (by omega) hR_a_t (by omega) H.size sa_RX16_9 H sv_RX16_9 sa_RX16_119 sv_RX16_119 sa_RX16_100 sv_RX16_100 sa_RX16_117 sa_RX16_100 sv_RX16_117 sa_RX16_98 sv_RX16_98) (cwV 0 hts g_X16_rowM_X16_nextM rfl rfl rfl (by decide +kernel) ⟨(Nat.le_of_ble_eq_true rfl), (Nat.le_of_ble_eq_true rfl)⟩) ⟨fun a U g mk q => by obtain ⟨q0, q1, qP, qK, qD, e0, e1, e2, e3, e4, e5, e6, e7, e8, e9, e10, e11, e12⟩ := q; exact ⟨q0, q1, qP, va_K.moved (u := U) (U := U.calling g mk a) (Vm.Alike.refl U.vm) qK, qD, vk_R.same (u := U) (U := U.calling g mk a) rfl e0, e1, va_Z.moved (u := U) (U := U.calling g mk a) (Vm.Alike.refl U.vm) e2, vs_S.moved (u := U) (U := U.calling g mk a) (Vm.Alike.refl U.vm) e3, va_Nw.same rfl (u := U) (U := U.calling g mk a) rfl e4, vk_R.same (u := U) (U := U.calling g mk a) rfl e5, vs_S.moved (u := U) (U := U.calling g mk a) (Vm.Alike.refl U.vm) e6, vs_S.moved (u := U) (U := U.calling g mk a) (Vm.Alike.refl U.vm) e7, vk_R.same (u := U) (U := U.calling g mk a) rfl e8, vk_R.same (u := U) (U := U.calling g mk a) rfl e9, vs_S.moved (u := U) (U := U.calling g mk a) (Vm.Alike.refl U.vm) e10, vk_R.same (u := U) (U := U.calling g mk a) rfl e11, vs_S.moved (u := U) (U := U.calling g mk a) (Vm.Alike.refl U.vm) e12⟩, va_recv hKc hPc (ci := 14) (q0 := 0) rfl rfl, fun U hU hW => ⟨rfl, by rw [hU], by rw [hU]; exact hPc, va_K.moved hW.alike hKc, hDc.weaken (fun _ _ _ _ => trivial), vk_R.warm hW hp4, hU, by rw [hU]; exact va_Z.narrow (va_Z.moved hW.alike (va_Z.kept hp3 hS.2.1)) hFc, by rw [hU]; exact vs_S.narrow (vs_S.moved hW.alike (vs_S.kept hp2 hS.2.1)) hFc, va_Nw.warmC hW hp5, vk_R.warm hW hp6, by rw [hU]; exact vs_S.narrow (vs_S.moved hW.alike (vs_S.kept hp7 hS.2.1)) hFc, by rw [hU]; exact vs_S.narrow (vs_S.moved hW.alike (vs_S.kept hp8 hS.2.1)) hFc, vk_R.warm hW hp9, vk_R.warm hW hp10, by rw [hU]; exact vs_S.narrow (vs_S.moved hW.alike (vs_S.kept hp11 hS.2.1)) hFc, vk_R.warm hW hp12, by rw [hU]; exact vs_S.narrow (vs_S.moved hW.alike (vs_S.kept hp13 hS.2.1)) hFc⟩⟩ rfl rfl hl.1 rfl (lv_room (Nat.le_of_ble_eq_true rfl)) dX16_row_10 ⟨(show 0 + ((z16_n - z16_at + 20).toNat) ≤ (24 * (z16_n - z16_at) + 40).toNat from (by omega)), (show 0 + ((10 * (z16_n - z16_at) + 120).toNat) ≤ (170 * (z16_n - z16_at) + 190).toNat from (by omega))⟩) hS (fun q _ h => hFc q h) hFc (fun  u t H1 locs ht hvm hw hB hz1 hk1 hS => ?_)
    obtain ⟨z0_394, z1_395, z2_396, z3_397, z4_398, q5_399, Ln_400, Pn_401, kc_402, ks_403, hxt_403, hP1, hK1, hD1⟩ := hB
    rw [ht] at hP1
    have hK1 := va_K.moved hvm.symm hK1
    obtain ⟨hP, hD⟩ := va_joinP (X := [(h0, .inr (14, [.ref q_t, .int (zI (z16_n)), .int (zI (z16_at)), .int (zI (z16_kind)), .int (zI (z16_place)), .int (zI (z16_value)), .int (zI (z16_before)), .ref tx9, v16_8, v16_9, v16_10, v16_11, v16_12, v16_13])), (q_t, .inl (cT, 8192, .inl (fun j : Nat => zI (a_t (j : Int)))))]) (cx := [(h0, .inr (14, [.ref q_t, .int (zI (z16_n)), .int (zI (z16_at)), .int (zI (z16_kind)), .int (zI (z16_place)), .int (zI (z16_value)), .int (zI (z16_before)), .ref tx9, v16_8, v16_9, v16_10, v16_11, v16_12, v16_13])), (q_t, .inl (cT, 8192, .inl (fun j : Nat => zI (a_t (j : Int)))))]) (wr := []) (rx := [(h0, .inr (14, [.ref q_t, .int (zI (z16_n)), .int (zI (z0_394)), .int (zI (z1_395)), .int (zI (z2_396)), .int (zI (z3_397)), .int (zI (z4_398)), .ref q5_399, v16_8, v16_9, v16_10, v16_11, v16_12, v16_13])), (q_t, .inl (cT, 8192, .inl (fun j : Nat => zI (a_t (j : Int)))))]) (pl := va_pl L (pE P)) (pl1 := va_pl Ln_400 (pE Pn_401)) hP hD [0, 1] [] rfl rfl (by decide) (by decide) hk1 hFc hP1 hD1
    have hK := (hK.sub (tys' := [(cO, .object "java/lang/Object"), (cI, .int), (cZ, .boolean)]) [0, 1, 2] rfl).app hK1
    have hrmC := hxt_403.1.1
    rw [ht] at hrmC
    refine W_tightS (hrmA.trans hrmC) ?_
    have hrb := hxt_403.1.2
    generalize H1 = H at hP hS ⊢
    have hP : va_P (dC, dI) vwQ ([(h0, .inr (14, [.ref q_t, .int (zI (z16_n)), .int (zI (z0_394)), .int (zI (z1_395)), .int (zI (z2_396)), .int (zI (z3_397)), .int (zI (z4_398)), .ref q5_399, v16_8, v16_9, v16_10, v16_11, v16_12, v16_13])), (q_t, .inl (cT, 8192, .inl (fun j : Nat => zI (a_t (j : Int)))))] ++ va_pl Ln_400 (pE Pn_401)) H := hP
    have hD : va_D A ([(h0, .inr (14, [.ref q_t, .int (zI (z16_n)), .int (zI (z0_394)), .int (zI (z1_395)), .int (zI (z2_396)), .int (zI (z3_397)), .int (zI (z4_398)), .ref q5_399, v16_8, v16_9, v16_10, v16_11, v16_12, v16_13])), (q_t, .inl (cT, 8192, .inl (fun j : Nat => zI (a_t (j : Int)))))] ++ va_pl Ln_400 (pE Pn_401)) := hD
    have hK : va_K (dC, dI) vwQ [(cO, .object "java/lang/Object"), (cI, .int), (cZ, .boolean), (cT, .byte)] s := hK
    refine W.widen (k := (0 + kc_402)) (n := (0 + ks_403)) (by omega) (by omega) ?_
    obtain ⟨rk_404, rk_405, rk_406, rk_407, rk_408, hu_408⟩ := hxt_403.2
    have hkd_413 := hu_408.2.1
    have hX_kv := hkd_413.2
    have hu_409 := hu_408.2.2
    have hex_410 : EXT9 L P Ln_400 Pn_401 := hu_409.1
    have hke_411 : KEG [] L P Ln_400 Pn_401 := hex_410.keg hX_g9
    have hak_412 : GLF Ln_400 Pn_401 cO cI cZ sx_ed := hX_g9.txt hex_410 hu_409.2.1
    have hsm_414 := (hex_410 xr hX_x).2
    have : Pn_401.ro xr = P.ro xr := hsm_414.1 0
    have : Pn_401.rt xr = P.rt xr := hsm_414.1 1
    have : Pn_401.ra xr = P.ra xr := hsm_414.1 2
    have : Pn_401.rb xr = P.rb xr := hsm_414.1 3
    have : Pn_401.rA xr = P.rA xr := hsm_414.1 4
    have : Pn_401.rB xr = P.rB xr := hsm_414.1 5
    have : Pn_401.rg xr = P.rg xr := hsm_414.1 6
    have hq_415 : la ∈ Ln_400 ∧ Pn_401.kd la = 30 := hke_411.mem hC_la.1 hC_la.2.1 (by decide)
    have hq_416 : xr ∈ Ln_400 ∧ Pn_401.kd xr = 17 := hke_411.mem hX_x hX_k (by decide)
    have hE_417 : Pn_401.ek xr ≠ 1 := (by rw [hke_411.ek hX_x hX_k (by decide)]; exact hX_e)
    have hA_418 : KEG [] L P Ln_400 Pn_401 := (KEG.refl [] L P).trans hke_411
    have : Pn_401.lz la = P.lz la := (hex_410 la hC_la.1).2.1 0
    have hek_419 : Pn_401.ek la = 12 := (by rw [hke_411.ek hC_la.1 hC_la.2.1 (by decide)]; exact hC_la.2.2.1)
    have how_420 : Pn_401.ow la = la := ((hke_411.1 la hC_la.1 (by rw [hC_la.2.1]; decide)).2.2.2.1 hC_la.2.1 hC_la.2.2.2).1
    have hcz := (((hke_411.1 la hC_la.1 (by rw [hC_la.2.1]; decide)).2.2.2.1 hC_la.2.1 hC_la.2.2.2).2 (by simp)).1
    have hX_tx := hu_409.2.2.1
    have hxk9 := hu_409.2.2.2
    have hcx_421 : CHG (fun z => z = xr) L P Ln_400 Pn_401 := hcx0.trans hex_410.chg (fun z m q => q.elim)
    refine lv_aload_n hx hb dX16_row_13 rfl (lv_at hl 1 rfl) ?_
    refine lv_bipush (v := 21) hx hb dX16_row_14 (by decide) ?_
    have hr7 := (hak_412.rok hq_416.1 hq_416.2).n7
    refine lv_topi (fun z ez => ?_)
    obtain rfl : z = zI (21) := ez
    obtain ⟨kp_422, gkp_422⟩ := va_pl_get (X := [(h0, .inr (14, [.ref q_t, .int (zI (z16_n)), .int (zI (z0_394)), .int (zI (z1_395)), .int (zI (z2_396)), .int (zI (z3_397)), .int (zI (z4_398)), .ref q5_399, v16_8, v16_9, v16_10, v16_11, v16_12, v16_13])), (q_t, .inl (cT, 8192, .inl (fun j : Nat => zI (a_t (j : Int)))))]) (f := pE Pn_401) hq_416.1
    have hkp_422 := gkp_422
    rw [pE_row hq_416.2] at hkp_422
    have hD0 := hD
    refine va_put (D := (dC, dI)) (ci := 21) (v := .int (zI (21))) (ty := .int) (C := RX17) (T := TX17) (N := 7) hx hb hts mem_X16_rowM_2 tyX17 tyX17_ok nmX17 hown hK hP hD hS kp_422 hkp_422 rfl 0 (by decide) (ow (k := 15) rfl) (fun _ h9 => h9) rfl (by decide +kernel) rfl rfl (by first | exact Nat.le_of_ble_eq_true rfl | exact (show (0 + kc_402) ≤ (24 * (z16_n - z16_at) + 40).toNat from (by omega)) | exact (show (0 + ks_403) ≤ (170 * (z16_n - z16_at) + 190).toNat from (by omega))) dX16_row_16 (fun H locs hP hD hS => ?_)
    obtain ⟨Pw_423, ePw_423⟩ : ∃ q9 : PO, q9 = Pn_401.rw9 0 xr (21) := ⟨_, rfl⟩
    have eU : (([(h0, .inr (14, [.ref q_t, .int (zI (z16_n)), .int (zI (z0_394)), .int (zI (z1_395)), .int (zI (z2_396)), .int (zI (z3_397)), .int (zI (z4_398)), .ref q5_399, v16_8, v16_9, v16_10, v16_11, v16_12, v16_13])), (q_t, .inl (cT, 8192, .inl (fun j : Nat => zI (a_t (j : Int)))))] : va_W) ++ va_pl Ln_400 (pE Pn_401)).set kp_422 (xr, rowE (21) (Pn_401.rt xr) (Pn_401.ra xr) (Pn_401.rb xr) (Pn_401.rA xr) (Pn_401.rB xr) (Pn_401.rg xr)) = ([(h0, .inr (14, [.ref q_t, .int (zI (z16_n)), .int (zI (z0_394)), .int (zI (z1_395)), .int (zI (z2_396)), .int (zI (z3_397)), .int (zI (z4_398)), .ref q5_399, v16_8, v16_9, v16_10, v16_11, v16_12, v16_13])), (q_t, .inl (cT, 8192, .inl (fun j : Nat => zI (a_t (j : Int)))))] : va_W) ++ va_pl Ln_400 (pE Pw_423) := (by rw [va_pl_set hD0 hq_416.1 gkp_422, ePw_423]; exact congrArg (fun f9 => ([(h0, .inr (14, [.ref q_t, .int (zI (z16_n)), .int (zI (z0_394)), .int (zI (z1_395)), .int (zI (z2_396)), .int (zI (z3_397)), .int (zI (z4_398)), .ref q5_399, v16_8, v16_9, v16_10, v16_11, v16_12, v16_13])), (q_t, .inl (cT, 8192, .inl (fun j : Nat => zI (a_t (j : Int)))))] : va_W) ++ va_pl Ln_400 f9) (put17_0 hq_416.2))
    have hP : va_P (dC, dI) vwQ ([(h0, .inr (14, [.ref q_t, .int (zI (z16_n)), .int (zI (z0_394)), .int (zI (z1_395)), .int (zI (z2_396)), .int (zI (z3_397)), .int (zI (z4_398)), .ref q5_399, v16_8, v16_9, v16_10, v16_11, v16_12, v16_13])), (q_t, .inl (cT, 8192, .inl (fun j : Nat => zI (a_t (j : Int)))))] ++ va_pl Ln_400 (pE Pw_423)) H := (by rw [← eU]; exact hP)
    have hD : va_D A ([(h0, .inr (14, [.ref q_t, .int (zI (z16_n)), .int (zI (z0_394)), .int (zI (z1_395)), .int (zI (z2_396)), .int (zI (z3_397)), .int (zI (z4_398)), .ref q5_399, v16_8, v16_9, v16_10, v16_11, v16_12, v16_13])), (q_t, .inl (cT, 8192, .inl (fun j : Nat => zI (a_t (j : Int)))))] ++ va_pl Ln_400 (pE Pw_423)) := (by rw [← eU]; exact hD)
    clear eU hD0 gkp_422 hkp_422
    have wPw_423 : RW1 xr Pn_401 Pw_423 := (by rw [ePw_423]; exact RW1.put _ _ _ _)
    have hy_424 : Pw_423.kd la = 30 := (by rw [ePw_423]; exact hq_415.2)
    have hy_425 : Pw_423.kd xr = 17 := (by rw [ePw_423]; exact hq_416.2)
    have : Pw_423.ro xr = 21 := (by rw [ePw_423]; exact rw9_at _ _ _ _)
    have : Pw_423.rt xr = Pn_401.rt xr := (by rw [ePw_423]; exact rw9_of _ (by decide))
    have : Pw_423.ra xr = Pn_401.ra xr := (by rw [ePw_423]; exact rw9_of _ (by decide))
    have : Pw_423.rb xr = Pn_401.rb xr := (by rw [ePw_423]; exact rw9_of _ (by decide))
    have : Pw_423.rA xr = Pn_401.rA xr := (by rw [ePw_423]; exact rw9_of _ (by decide))
    have : Pw_423.rB xr = Pn_401.rB xr := (by rw [ePw_423]; exact rw9_of _ (by decide))
    have : Pw_423.rg xr = Pn_401.rg xr := (by rw [ePw_423]; exact rw9_of _ (by decide))
    have hW_426 : RW1 xr Pn_401 Pw_423 := wPw_423
    have hrw_429 : RWD Pn_401 Pw_423 := hW_426.rwd (Or.inl hq_416.2)
    have hak_428 : GLF Ln_400 Pw_423 cO cI cZ sx_ed := hak_412.row hW_426 hq_416.2 (ROK9.of (by omega) (by omega) (by omega) (by omega) (by omega) (by omega) (by omega) (uaZ (by omega)) (ubZ (by omega))) (fun e9 => by have q9 := hak_412.op21 hq_416.1 hq_416.2 e9; omega)
    have hke_427 : KEG [] Ln_400 Pn_401 Ln_400 Pw_423 := hrw_429.keg _ hq_415.2
    have hq_430 : la ∈ Ln_400 ∧ Pw_423.kd la = 30 := hke_427.mem hq_415.1 hq_415.2 (by decide)
    have hq_431 : xr ∈ Ln_400 ∧ Pw_423.kd xr = 17 := hke_427.mem hq_416.1 hq_416.2 (by decide)
    have hE_432 : Pw_423.ek xr ≠ 1 := (by rw [hke_427.ek hq_416.1 hq_416.2 (by decide)]; exact hE_417)
    have hA_433 : KEG [] L P Ln_400 Pw_423 := hA_418.trans hke_427
    have : Pw_423.lz la = Pn_401.lz la := hrw_429.lz hq_415.2
    have : Pw_423.cap la = Pn_401.cap la := hW_426.cap la
    have hek_434 : Pw_423.ek la = 12 := (by rw [hke_427.ek hq_415.1 hq_415.2 (by decide)]; exact hek_419)
    have how_435 : Pw_423.ow la = la := ((hke_427.1 la hq_415.1 (by rw [hq_415.2]; decide)).2.2.2.1 hq_415.2 how_420).1
    have hcz := (((hke_427.1 la hq_415.1 (by rw [hq_415.2]; decide)).2.2.2.1 hq_415.2 how_420).2 (by simp)).1
    have hX_tx := hX_tx.rw1 hW_426 (Or.inl hq_416.2)
    have hcx_436 : CHG (fun z => z = xr) L P Ln_400 Pw_423 := hcx_421.trans (hW_426.chg _) (fun z m q => q)
    refine lv_aload_n hx hb dX16_row_19 rfl (lv_at hl 0 rfl) ?_
    refine lv_aload_n hx hb dX16_row_20 rfl (lv_at hl 1 rfl) ?_
    refine lv_iconst (v := 0) hx hb dX16_row_21 (by decide) ?_
    have hX_g := hak_428
    have hX_x := hq_431.1
    have hX_k := hq_431.2
    have hX_la := (show la ∈ Ln_400 ∧ Pw_423.kd la = 30 ∧ Pw_423.ek la = 12 ∧ Pw_423.ow la = la from ⟨hq_430.1, hq_430.2, hek_434, how_435⟩)
    have hPc := hP.part (X := [(h0, .inr (14, [.ref q_t, .int (zI (z16_n)), .int (zI (z0_394)), .int (zI (z1_395)), .int (zI (z2_396)), .int (zI (z3_397)), .int (zI (z4_398)), .ref q5_399, v16_8, v16_9, v16_10, v16_11, v16_12, v16_13])), (q_t, .inl (cT, 8192, .inl (fun j : Nat => zI (a_t (j : Int)))))]) (cx := [(h0, .inr (14, [.ref q_t, .int (zI (z16_n)), .int (zI (z0_394)), .int (zI (z1_395)), .int (zI (z2_396)), .int (zI (z3_397)), .int (zI (z4_398)), .ref q5_399, v16_8, v16_9, v16_10, v16_11, v16_12, v16_13])), (q_t, .inl (cT, 8192, .inl (fun j : Nat => zI (a_t (j : Int)))))]) (pl := va_pl Ln_400 (pE Pw_423)) [0, 1] rfl
    have hDc := hD.part (X := [(h0, .inr (14, [.ref q_t, .int (zI (z16_n)), .int (zI (z0_394)), .int (zI (z1_395)), .int (zI (z2_396)), .int (zI (z3_397)), .int (zI (z4_398)), .ref q5_399, v16_8, v16_9, v16_10, v16_11, v16_12, v16_13])), (q_t, .inl (cT, 8192, .inl (fun j : Nat => zI (a_t (j : Int)))))]) (cx := [(h0, .inr (14, [.ref q_t, .int (zI (z16_n)), .int (zI (z0_394)), .int (zI (z1_395)), .int (zI (z2_396)), .int (zI (z3_397)), .int (zI (z4_398)), .ref q5_399, v16_8, v16_9, v16_10, v16_11, v16_12, v16_13])), (q_t, .inl (cT, 8192, .inl (fun j : Nat => zI (a_t (j : Int)))))]) (pl := va_pl Ln_400 (pE Pw_423)) [0, 1] (by decide) rfl
    have hKc := hK.sub (tys' := [(cT, .byte), (cO, .object "java/lang/Object"), (cI, .int), (cZ, .boolean)]) [3, 0, 1, 2] rfl
    have hFc := va_freeP (X := [(h0, .inr (14, [.ref q_t, .int (zI (z16_n)), .int (zI (z0_394)), .int (zI (z1_395)), .int (zI (z2_396)), .int (zI (z3_397)), .int (zI (z4_398)), .ref q5_399, v16_8, v16_9, v16_10, v16_11, v16_12, v16_13])), (q_t, .inl (cT, 8192, .inl (fun j : Nat => zI (a_t (j : Int)))))]) (cx := [(h0, .inr (14, [.ref q_t, .int (zI (z16_n)), .int (zI (z0_394)), .int (zI (z1_395)), .int (zI (z2_396)), .int (zI (z3_397)), .int (zI (z4_398)), .ref q5_399, v16_8, v16_9, v16_10, v16_11, v16_12, v16_13])), (q_t, .inl (cT, 8192, .inl (fun j : Nat => zI (a_t (j : Int)))))]) (pl := va_pl Ln_400 (pE Pw_423)) hD hS hA [0, 1] rfl
    refine W_knowS (fun hrmA => ?_)
    refine vx_callv (vx_runV (As := [.ref xr, .int 0]) (rest := []) ⟨hx, hb, hml, hown, hts⟩ (c_X16_opAM l dC dI cI cZ h0 z16_n z0_394 z1_395 z2_396 z3_397 z4_398 v16_8 v16_9 v16_10 v16_11 v16_12 v16_13 q_t cT a_t q5_399 Ln_400 Pw_423 sa_RX16_9 cO la sx_ed xr (by omega) (by omega) (by omega) (by omega) (by omega) (by omega) hR_a_t hX_g hX_la hX_x hX_k (by omega) hX_kv H.size sv_RX16_9 sa_RX16_119 sv_RX16_119 sa_RX16_100 sv_RX16_100 sa_RX16_117 sv_RX16_117 sa_RX16_98 sv_RX16_98 H) (cwV 2 hts g_X16_rowM_X16_opAM rfl rfl rfl (by decide +kernel) ⟨(Nat.le_of_ble_eq_true rfl), (Nat.le_of_ble_eq_true rfl)⟩) ⟨fun a U g mk q => by obtain ⟨q0, q1, qP, qK, qD, e0, e1, e2, e3, e4, e5, e6, e7, e8, e9, e10, e11, e12, e13, e14⟩ := q; exact ⟨q0, q1, qP, va_K.moved (u := U) (U := U.calling g mk a) (Vm.Alike.refl U.vm) qK, qD, vk_R.same (u := U) (U := U.calling g mk a) rfl e0, va_Z.moved (u := U) (U := U.calling g mk a) (Vm.Alike.refl U.vm) e1, vs_S.moved (u := U) (U := U.calling g mk a) (Vm.Alike.refl U.vm) e2, va_Nw.same rfl (u := U) (U := U.calling g mk a) rfl e3, vk_R.same (u := U) (U := U.calling g mk a) rfl e4, vs_S.moved (u := U) (U := U.calling g mk a) (Vm.Alike.refl U.vm) e5, vs_S.moved (u := U) (U := U.calling g mk a) (Vm.Alike.refl U.vm) e6, vk_R.same (u := U) (U := U.calling g mk a) rfl e7, vk_R.same (u := U) (U := U.calling g mk a) rfl e8, vs_S.moved (u := U) (U := U.calling g mk a) (Vm.Alike.refl U.vm) e9, vk_R.same (u := U) (U := U.calling g mk a) rfl e10, vs_S.moved (u := U) (U := U.calling g mk a) (Vm.Alike.refl U.vm) e11, e12, vx_Zq.moved (u := U) (U := U.calling g mk a) (Vm.Alike.refl U.vm) e13, vx_Zq.moved (u := U) (U := U.calling g mk a) (Vm.Alike.refl U.vm) e14⟩, va_recv hKc hPc (ci := 14) (q0 := 0) rfl rfl, fun U hU hW => ⟨rfl, by rw [hU], by rw [hU]; exact hPc, va_K.moved hW.alike hKc, hDc.weaken (fun _ _ _ _ => trivial), vk_R.warm hW hp4, by rw [hU]; exact va_Z.narrow (va_Z.moved hW.alike (va_Z.kept hp3 hS.2.1)) hFc, by rw [hU]; exact vs_S.narrow (vs_S.moved hW.alike (vs_S.kept hp2 hS.2.1)) hFc, va_Nw.warmC hW hp5, vk_R.warm hW hp6, by rw [hU]; exact vs_S.narrow (vs_S.moved hW.alike (vs_S.kept hp7 hS.2.1)) hFc, by rw [hU]; exact vs_S.narrow (vs_S.moved hW.alike (vs_S.kept hp8 hS.2.1)) hFc, vk_R.warm hW hp9, vk_R.warm hW hp10, by rw [hU]; exact vs_S.narrow (vs_S.moved hW.alike (vs_S.kept hp11 hS.2.1)) hFc, vk_R.warm hW hp12, by rw [hU]; exact vs_S.narrow (vs_S.moved hW.alike (vs_S.kept hp13 hS.2.1)) hFc, hU, by rw [hU]; exact vx_Zq.narrow (vx_Zq.moved hW.alike (vx_Zq.kept hp14 hS.2.1)) hFc, by rw [hU]; exact vx_Zq.narrow (vx_Zq.moved hW.alike (vx_Zq.kept hp15 hS.2.1)) hFc⟩⟩ rfl rfl hl.1 rfl (lv_room (Nat.le_of_ble_eq_true rfl)) dX16_row_22 ⟨(show (0 + kc_402) + ((13 * (z16_n - z0_394) + 20).toNat) ≤ (24 * (z16_n - z16_at) + 40).toNat from (by omega)), (show (0 + ks_403) + ((110 * (z16_n - z0_394) + 120).toNat) ≤ (170 * (z16_n - z16_at) + 190).toNat from (by omega))⟩) hS (fun q _ h => hFc q h) hFc (fun q _ h => hFc q h) (fun E ce q9 u t H1 locs ht hvm _ hB hz1 hk1 hS hce hcv hcl => ?_) (fun  u t H1 locs ht hvm hw hB hz1 hk1 hS => ?_)
    · obtain ⟨rfl, zp_437, Ln_438, Pn_439, kc_440, ks_441, hxt_442, hP1, hD1⟩ := hB
      rw [ht] at hP1
      obtain ⟨hP, hD⟩ := va_joinP (X := [(h0, .inr (14, [.ref q_t, .int (zI (z16_n)), .int (zI (z0_394)), .int (zI (z1_395)), .int (zI (z2_396)), .int (zI (z3_397)), .int (zI (z4_398)), .ref q5_399, v16_8, v16_9, v16_10, v16_11, v16_12, v16_13])), (q_t, .inl (cT, 8192, .inl (fun j : Nat => zI (a_t (j : Int)))))]) (cx := [(h0, .inr (14, [.ref q_t, .int (zI (z16_n)), .int (zI (z0_394)), .int (zI (z1_395)), .int (zI (z2_396)), .int (zI (z3_397)), .int (zI (z4_398)), .ref q5_399, v16_8, v16_9, v16_10, v16_11, v16_12, v16_13])), (q_t, .inl (cT, 8192, .inl (fun j : Nat => zI (a_t (j : Int)))))]) (wr := []) (rx := [(q_t, .inl (cT, 8192, .inl (fun j : Nat => zI (a_t (j : Int))))), (q9, .inr (15, [.null, .null, .null, .null, .null, .int 0, .int (zI (zp_437))]))]) (pl := va_pl Ln_400 (pE Pw_423)) (pl1 := va_pl Ln_438 (pE Pn_439)) hP hD [0, 1] [] rfl rfl (by decide) (by decide) hk1 hFc hP1 hD1
      have hrmC := hxt_442.1.1
      rw [ht] at hrmC
      refine vx_tightS (hrmA.trans hrmC) ?_
      have hrb := hxt_442.1.2
      generalize H1 = H at hP hS hce ⊢
      have hP : va_P (dC, dI) vwQ ([(q_t, .inl (cT, 8192, .inl (fun j : Nat => zI (a_t (j : Int))))), (q9, .inr (15, [.null, .null, .null, .null, .null, .int 0, .int (zI (zp_437))]))] ++ va_pl Ln_438 (pE Pn_439)) H := hP
      have hD : va_D A ([(q_t, .inl (cT, 8192, .inl (fun j : Nat => zI (a_t (j : Int))))), (q9, .inr (15, [.null, .null, .null, .null, .null, .int 0, .int (zI (zp_437))]))] ++ va_pl Ln_438 (pE Pn_439)) := hD
      have hzp : 0 ≤ zp_437 ∧ zp_437 ≤ 8192 := hxt_442.2.1
      subst hQ
      refine vx_knowS (fun hrm9 => ?_)
      refine vx_widen (k := ((24 * (z16_n - z16_at) + 40).toNat)) (n := ((170 * (z16_n - z16_at) + 190).toNat)) (by omega) (by omega) ?_
      exact vx_out (fun x9 h9 => (hnt x9 h9).elim) hlocks hce hcv hcl (fun t ht hvm => ⟨(), trivial, ⟨rfl, zp_437, Ln_438, Pn_439, ((0 + kc_402) + kc_440), ((0 + ks_403) + ks_441), ⟨⟨(by rw [ht, ← hp16]; exact hrm9), (by omega)⟩, ⟨(by omega), ⟨hA_433.trans hxt_442.2.2.1, hxt_442.2.2.2.1, (hcx_436.cpa hg00.owa (fun z _ q => by rw [show z = xr from q, hk00]; decide)).trans hA_433 hxt_442.2.2.2.2⟩⟩⟩, by rw [ht]; exact hP, hD⟩, hS.F ht⟩) hS.2.2 (Nat.le_refl _) (Nat.le_refl _)
    obtain ⟨z0_443, z1_444, z2_445, z3_446, z4_447, q5_448, Ln_449, Pn_450, kc_451, ks_452, hxt_452, hP1, hK1, hD1⟩ := hB
    rw [ht] at hP1
    have hK1 := va_K.moved hvm.symm hK1
    obtain ⟨hP, hD⟩ := va_joinP (X := [(h0, .inr (14, [.ref q_t, .int (zI (z16_n)), .int (zI (z0_394)), .int (zI (z1_395)), .int (zI (z2_396)), .int (zI (z3_397)), .int (zI (z4_398)), .ref q5_399, v16_8, v16_9, v16_10, v16_11, v16_12, v16_13])), (q_t, .inl (cT, 8192, .inl (fun j : Nat => zI (a_t (j : Int)))))]) (cx := [(h0, .inr (14, [.ref q_t, .int (zI (z16_n)), .int (zI (z0_394)), .int (zI (z1_395)), .int (zI (z2_396)), .int (zI (z3_397)), .int (zI (z4_398)), .ref q5_399, v16_8, v16_9, v16_10, v16_11, v16_12, v16_13])), (q_t, .inl (cT, 8192, .inl (fun j : Nat => zI (a_t (j : Int)))))]) (wr := []) (rx := [(h0, .inr (14, [.ref q_t, .int (zI (z16_n)), .int (zI (z0_443)), .int (zI (z1_444)), .int (zI (z2_445)), .int (zI (z3_446)), .int (zI (z4_447)), .ref q5_448, v16_8, v16_9, v16_10, v16_11, v16_12, v16_13])), (q_t, .inl (cT, 8192, .inl (fun j : Nat => zI (a_t (j : Int)))))]) (pl := va_pl Ln_400 (pE Pw_423)) (pl1 := va_pl Ln_449 (pE Pn_450)) hP hD [0, 1] [] rfl rfl (by decide) (by decide) hk1 hFc hP1 hD1
    have hK := (hK.sub (tys' := []) [] rfl).app hK1
    have hrmC := hxt_452.1.1
    rw [ht] at hrmC
    refine W_tightS (hrmA.trans hrmC) ?_
    have hrb := hxt_452.1.2
    generalize H1 = H at hP hS ⊢
    have hP : va_P (dC, dI) vwQ ([(h0, .inr (14, [.ref q_t, .int (zI (z16_n)), .int (zI (z0_443)), .int (zI (z1_444)), .int (zI (z2_445)), .int (zI (z3_446)), .int (zI (z4_447)), .ref q5_448, v16_8, v16_9, v16_10, v16_11, v16_12, v16_13])), (q_t, .inl (cT, 8192, .inl (fun j : Nat => zI (a_t (j : Int)))))] ++ va_pl Ln_449 (pE Pn_450)) H := hP
    have hD : va_D A ([(h0, .inr (14, [.ref q_t, .int (zI (z16_n)), .int (zI (z0_443)), .int (zI (z1_444)), .int (zI (z2_445)), .int (zI (z3_446)), .int (zI (z4_447)), .ref q5_448, v16_8, v16_9, v16_10, v16_11, v16_12, v16_13])), (q_t, .inl (cT, 8192, .inl (fun j : Nat => zI (a_t (j : Int)))))] ++ va_pl Ln_449 (pE Pn_450)) := hD
    have hK : va_K (dC, dI) vwQ [(cT, .byte), (cO, .object "java/lang/Object"), (cI, .int), (cZ, .boolean)] s := hK
    refine W.widen (k := ((0 + kc_402) + kc_451)) (n := ((0 + ks_403) + ks_452)) (by omega) (by omega) ?_
    obtain ⟨rk_453, rk_454, rk_455, rk_456, rk_457, hu_457⟩ := hxt_452.2
    have hu_458 := hu_457
    have hoc9 := hu_458.2.2.1.2
    have hoq9 : OPQ (Pn_450.rA xr) (Pn_450.ra xr) := hu_458.2.2.1.1
    have hgo9 := hkd_413.go (by omega)
    have hkd_459 := hu_458.2.2.2.2.2.1
    have hX_kv := hkd_459.2
    have hq_460 : la ∈ Ln_449 ∧ Pn_450.kd la = 30 := hu_458.1.mem hq_430.1 hq_430.2 (by decide)
    have hq_461 : xr ∈ Ln_449 ∧ Pn_450.kd xr = 17 := hu_458.1.mem hq_431.1 hq_431.2 (by decide)
    have hE_462 : Pn_450.ek xr ≠ 1 := (by rw [hu_458.1.ek hq_431.1 hq_431.2 (by decide)]; exact hE_432)
    have hA_463 : KEG [] L P Ln_449 Pn_450 := hA_433.trans hu_458.1
    have : Pn_450.lz la = Pw_423.lz la := (hu_458.2.2.2.1 la hq_430.1 (fun e9 => absurd e9 (kd_ne hq_430.2 hq_431.2 (by decide)))).2.1 0
    have hek_464 : Pn_450.ek la = 12 := (by rw [hu_458.1.ek hq_430.1 hq_430.2 (by decide)]; exact hek_434)
    have how_465 : Pn_450.ow la = la := ((hu_458.1.1 la hq_430.1 (by rw [hq_430.2]; decide)).2.2.2.1 hq_430.2 how_435).1
    have hcz := (((hu_458.1.1 la hq_430.1 (by rw [hq_430.2]; decide)).2.2.2.1 hq_430.2 how_435).2 (by simp)).1
    have hX_tx := hu_458.2.2.2.2.2.2.1
    have hxk9 := hu_458.2.2.2.2.2.2.2
    have hcx_466 : CHG (fun z => z = xr) L P Ln_449 Pn_450 := hcx_436.trans hu_458.2.2.2.1 (fun z m q => q)
    subst hQ
    refine W_knowS (fun hrm9 => ?_)
    refine W.widen (k := ((24 * (z16_n - z16_at) + 40).toNat)) (n := ((170 * (z16_n - z16_at) + 190).toNat)) (by omega) (by omega) ?_
    refine vx_ret ?_
    exact W.vret hx hb hr (fun t ht hW => ⟨⟨(), rfl, trivial, z0_443, z1_444, z2_445, z3_446, z4_447, q5_448, Ln_449, Pn_450, ((0 + kc_402) + kc_451), ((0 + ks_403) + ks_452), ⟨⟨(by rw [ht, ← hp16]; exact hrm9), (by omega)⟩, ⟨(by omega), (by omega), (by omega), (by omega), (by omega), ⟨hA_463, hu_458.2.1, ⟨(hkd_459.mono (by omega)).ms (by omega) (by omega) (by omega), by omega⟩, hcx_466, ⟨by omega, by omega, by omega⟩, hkd_459.mono (by omega), hX_tx⟩⟩⟩, by rw [ht]; exact hP, va_K.moved hW.alike hK, hD⟩, hS.F ht⟩) hS.2.2 dX16_row_25
