theorem dX7_scan_0 : decode cX7_scan 0 = .ok (.aload_n 0, 1) := by decide +kernel
theorem dX7_scan_1 : decode cX7_scan 1 = .ok (.getfield 25, 3) := by decide +kernel
theorem dX7_scan_4 : decode cX7_scan 4 = .ok (.iconst 2, 1) := by decide +kernel
theorem dX7_scan_5 : decode cX7_scan 5 = .ok (.if_icmp .eq 11, 3) := by decide +kernel
theorem dX7_scan_16 : decode cX7_scan 16 = .ok (.iconst 1, 1) := by decide +kernel
theorem dX7_scan_17 : decode cX7_scan 17 = .ok (.goto 4, 3) := by decide +kernel
theorem dX7_scan_21 : decode cX7_scan 21 = .ok (.istore_n 1, 1) := by decide +kernel
theorem dX7_scan_22 : decode cX7_scan 22 = .ok (.aload_n 0, 1) := by decide +kernel
theorem dX7_scan_23 : decode cX7_scan 23 = .ok (.invokevirtual 97, 3) := by decide +kernel
theorem dX7_scan_26 : decode cX7_scan 26 = .ok (.aload_n 0, 1) := by decide +kernel
theorem dX7_scan_27 : decode cX7_scan 27 = .ok (.aload_n 0, 1) := by decide +kernel
theorem dX7_scan_28 : decode cX7_scan 28 = .ok (.getfield 22, 3) := by decide +kernel
theorem dX7_scan_31 : decode cX7_scan 31 = .ok (.putfield 28, 3) := by decide +kernel
theorem dX7_scan_34 : decode cX7_scan 34 = .ok (.aload_n 0, 1) := by decide +kernel
theorem dX7_scan_35 : decode cX7_scan 35 = .ok (.getfield 22, 3) := by decide +kernel
theorem dX7_scan_38 : decode cX7_scan 38 = .ok (.aload_n 0, 1) := by decide +kernel
theorem dX7_scan_39 : decode cX7_scan 39 = .ok (.getfield 19, 3) := by decide +kernel
theorem dX7_scan_42 : decode cX7_scan 42 = .ok (.if_icmp .lt 11, 3) := by decide +kernel
theorem dX7_scan_53 : decode cX7_scan 53 = .ok (.aload_n 0, 1) := by decide +kernel
theorem dX7_scan_54 : decode cX7_scan 54 = .ok (.aload_n 0, 1) := by decide +kernel
theorem dX7_scan_55 : decode cX7_scan 55 = .ok (.getfield 22, 3) := by decide +kernel
theorem dX7_scan_58 : decode cX7_scan 58 = .ok (.invokevirtual 100, 3) := by decide +kernel
theorem dX7_scan_61 : decode cX7_scan 61 = .ok (.ifCond .eq 10, 3) := by decide +kernel
theorem dX7_scan_71 : decode cX7_scan 71 = .ok (.aload_n 0, 1) := by decide +kernel
theorem dX7_scan_72 : decode cX7_scan 72 = .ok (.aload_n 0, 1) := by decide +kernel
theorem dX7_scan_73 : decode cX7_scan 73 = .ok (.getfield 22, 3) := by decide +kernel
theorem dX7_scan_76 : decode cX7_scan 76 = .ok (.invokevirtual 107, 3) := by decide +kernel
theorem dX7_scan_79 : decode cX7_scan 79 = .ok (.ifCond .ne 33, 3) := by decide +kernel
theorem dX7_scan_112 : decode cX7_scan 112 = .ok (.aload_n 0, 1) := by decide +kernel
theorem dX7_scan_113 : decode cX7_scan 113 = .ok (.invokevirtual 110, 3) := by decide +kernel
theorem dX7_scan_116 : decode cX7_scan 116 = .ok (.goto 7, 3) := by decide +kernel
theorem dX7_scan_123 : decode cX7_scan 123 = .ok (.return_, 1) := by decide +kernel
theorem dX7_scan_82 : decode cX7_scan 82 = .ok (.iload_n 1, 1) := by decide +kernel
theorem dX7_scan_83 : decode cX7_scan 83 = .ok (.ifCond .ne 36, 3) := by decide +kernel
theorem dX7_scan_119 : decode cX7_scan 119 = .ok (.aload_n 0, 1) := by decide +kernel
theorem dX7_scan_120 : decode cX7_scan 120 = .ok (.invokevirtual 113, 3) := by decide +kernel
theorem dX7_scan_64 : decode cX7_scan 64 = .ok (.aload_n 0, 1) := by decide +kernel
theorem dX7_scan_65 : decode cX7_scan 65 = .ok (.invokevirtual 104, 3) := by decide +kernel
theorem dX7_scan_68 : decode cX7_scan 68 = .ok (.goto 55, 3) := by decide +kernel
theorem dX7_scan_45 : decode cX7_scan 45 = .ok (.aload_n 0, 1) := by decide +kernel
theorem dX7_scan_46 : decode cX7_scan 46 = .ok (.iconst 1, 1) := by decide +kernel
theorem dX7_scan_47 : decode cX7_scan 47 = .ok (.putfield 25, 3) := by decide +kernel
theorem dX7_scan_50 : decode cX7_scan 50 = .ok (.goto 73, 3) := by decide +kernel
theorem dX7_scan_8 : decode cX7_scan 8 = .ok (.aload_n 0, 1) := by decide +kernel
theorem dX7_scan_9 : decode cX7_scan 9 = .ok (.getfield 25, 3) := by decide +kernel
theorem dX7_scan_12 : decode cX7_scan 12 = .ok (.iconst 3, 1) := by decide +kernel
theorem dX7_scan_13 : decode cX7_scan 13 = .ok (.if_icmp .ne 7, 3) := by decide +kernel
theorem dX7_scan_20 : decode cX7_scan 20 = .ok (.iconst 0, 1) := by decide +kernel
theorem dX7_scan_86 : decode cX7_scan 86 = .ok (.aload_n 0, 1) := by decide +kernel
theorem dX7_scan_87 : decode cX7_scan 87 = .ok (.aload_n 0, 1) := by decide +kernel
theorem dX7_scan_88 : decode cX7_scan 88 = .ok (.getfield 22, 3) := by decide +kernel
theorem dX7_scan_91 : decode cX7_scan 91 = .ok (.invokevirtual 93, 3) := by decide +kernel
theorem dX7_scan_94 : decode cX7_scan 94 = .ok (.bipush 45, 2) := by decide +kernel
theorem dX7_scan_96 : decode cX7_scan 96 = .ok (.if_icmp .ne 23, 3) := by decide +kernel
theorem dX7_scan_99 : decode cX7_scan 99 = .ok (.aload_n 0, 1) := by decide +kernel
theorem dX7_scan_100 : decode cX7_scan 100 = .ok (.aload_n 0, 1) := by decide +kernel
theorem dX7_scan_101 : decode cX7_scan 101 = .ok (.getfield 22, 3) := by decide +kernel
theorem dX7_scan_104 : decode cX7_scan 104 = .ok (.iconst 1, 1) := by decide +kernel
theorem dX7_scan_105 : decode cX7_scan 105 = .ok (.iadd, 1) := by decide +kernel
theorem dX7_scan_106 : decode cX7_scan 106 = .ok (.invokevirtual 107, 3) := by decide +kernel
theorem dX7_scan_109 : decode cX7_scan 109 = .ok (.ifCond .eq 10, 3) := by decide +kernel
def o_X7_scan : List Cond := [.fieldLink RX7 25 "SsaForge$Reader" "kind" "I", .methodLink RX7 97 yX7_skipBlanks, .instanceMethod yX7_skipBlanks, .selects RX7 yX7_skipBlanks yX7_skipBlanks, .initialized RX7, .fieldLink RX7 22 "SsaForge$Reader" "at" "I", .fieldLink RX7 28 "SsaForge$Reader" "place" "I", .fieldLink RX7 19 "SsaForge$Reader" "length" "I", .methodLink RX7 100 yX7_letterAt, .instanceMethod yX7_letterAt, .selects RX7 yX7_letterAt yX7_letterAt, .methodLink RX7 107 yX7_digitAt, .instanceMethod yX7_digitAt, .selects RX7 yX7_digitAt yX7_digitAt, .methodLink RX7 110 yX7_scanNumber, .instanceMethod yX7_scanNumber, .selects RX7 yX7_scanNumber yX7_scanNumber, .methodLink RX7 113 yX7_scanMark, .instanceMethod yX7_scanMark, .selects RX7 yX7_scanMark yX7_scanMark, .methodLink RX7 104 yX7_scanWord, .instanceMethod yX7_scanWord, .selects RX7 yX7_scanWord yX7_scanWord, .methodLink RX7 93 yX7_byteAt, .instanceMethod yX7_byteAt, .selects RX7 yX7_byteAt yX7_byteAt]
def v_X7_scan : List Cond := .code yX7_scan cX7_scan 2 none :: (o_X7_scan ++ (wsX70 ++ (v_X7_skipBlanks ++ (v_X7_letterAt ++ (v_X7_digitAt ++ (v_X7_scanNumber ++ (v_X7_scanMark ++ (v_X7_scanWord ++ (v_X7_byteAt ++ [])))))))))
theorem mow_X7_scan : ∀ w ∈ o_X7_scan, w ∈ v_X7_scan := fun _ h => List.mem_cons_of_mem _ (List.mem_append_left _ h)
theorem mem_X7_scan_0 : ∀ w ∈ wsX70, w ∈ v_X7_scan := fun _ h => List.mem_cons_of_mem _ (List.mem_append_right _ (List.mem_append_left _ h))
theorem mem_X7_scan_1 : ∀ w ∈ v_X7_skipBlanks, w ∈ v_X7_scan := fun _ h => List.mem_cons_of_mem _ (List.mem_append_right _ (List.mem_append_right _ (List.mem_append_left _ h)))
theorem mem_X7_scan_2 : ∀ w ∈ v_X7_letterAt, w ∈ v_X7_scan := fun _ h => List.mem_cons_of_mem _ (List.mem_append_right _ (List.mem_append_right _ (List.mem_append_right _ (List.mem_append_left _ h))))
theorem mem_X7_scan_3 : ∀ w ∈ v_X7_digitAt, w ∈ v_X7_scan := fun _ h => List.mem_cons_of_mem _ (List.mem_append_right _ (List.mem_append_right _ (List.mem_append_right _ (List.mem_append_right _ (List.mem_append_left _ h)))))
theorem mem_X7_scan_4 : ∀ w ∈ v_X7_scanNumber, w ∈ v_X7_scan := fun _ h => List.mem_cons_of_mem _ (List.mem_append_right _ (List.mem_append_right _ (List.mem_append_right _ (List.mem_append_right _ (List.mem_append_right _ (List.mem_append_left _ h))))))
theorem mem_X7_scan_5 : ∀ w ∈ v_X7_scanMark, w ∈ v_X7_scan := fun _ h => List.mem_cons_of_mem _ (List.mem_append_right _ (List.mem_append_right _ (List.mem_append_right _ (List.mem_append_right _ (List.mem_append_right _ (List.mem_append_right _ (List.mem_append_left _ h)))))))
theorem mem_X7_scan_6 : ∀ w ∈ v_X7_scanWord, w ∈ v_X7_scan := fun _ h => List.mem_cons_of_mem _ (List.mem_append_right _ (List.mem_append_right _ (List.mem_append_right _ (List.mem_append_right _ (List.mem_append_right _ (List.mem_append_right _ (List.mem_append_right _ (List.mem_append_left _ h))))))))
theorem mem_X7_scan_7 : ∀ w ∈ v_X7_byteAt, w ∈ v_X7_scan := fun _ h => List.mem_cons_of_mem _ (List.mem_append_right _ (List.mem_append_right _ (List.mem_append_right _ (List.mem_append_right _ (List.mem_append_right _ (List.mem_append_right _ (List.mem_append_right _ (List.mem_append_right _ (List.mem_append_left _ h)))))))))
set_option maxRecDepth 20000 in
theorem gw_X7_scan : v_X7_scan.all goodWord = true := by decide +kernel
set_option maxRecDepth 20000 in
theorem g_X7_scan_X7_skipBlanks : GoodIn v_X7_scan (wsV RX7 97 RX7 yX7_skipBlanks v_X7_skipBlanks) := goodIn_app (goodIn_sub (fun w h => mow_X7_scan w (by revert w h; decide +kernel)) (by decide +kernel)) (goodIn_sub mem_X7_scan_1 gw_X7_skipBlanks)
set_option maxRecDepth 20000 in
theorem g_X7_scan_X7_letterAt : GoodIn v_X7_scan (wsV RX7 100 RX7 yX7_letterAt v_X7_letterAt) := goodIn_app (goodIn_sub (fun w h => mow_X7_scan w (by revert w h; decide +kernel)) (by decide +kernel)) (goodIn_sub mem_X7_scan_2 gw_X7_letterAt)
set_option maxRecDepth 20000 in
theorem g_X7_scan_X7_digitAt : GoodIn v_X7_scan (wsV RX7 107 RX7 yX7_digitAt v_X7_digitAt) := goodIn_app (goodIn_sub (fun w h => mow_X7_scan w (by revert w h; decide +kernel)) (by decide +kernel)) (goodIn_sub mem_X7_scan_3 gw_X7_digitAt)
set_option maxRecDepth 20000 in
theorem g_X7_scan_X7_scanNumber : GoodIn v_X7_scan (wsV RX7 110 RX7 yX7_scanNumber v_X7_scanNumber) := goodIn_app (goodIn_sub (fun w h => mow_X7_scan w (by revert w h; decide +kernel)) (by decide +kernel)) (goodIn_sub mem_X7_scan_4 gw_X7_scanNumber)
set_option maxRecDepth 20000 in
theorem g_X7_scan_X7_scanMark : GoodIn v_X7_scan (wsV RX7 113 RX7 yX7_scanMark v_X7_scanMark) := goodIn_app (goodIn_sub (fun w h => mow_X7_scan w (by revert w h; decide +kernel)) (by decide +kernel)) (goodIn_sub mem_X7_scan_5 gw_X7_scanMark)
set_option maxRecDepth 20000 in
theorem g_X7_scan_X7_scanWord : GoodIn v_X7_scan (wsV RX7 104 RX7 yX7_scanWord v_X7_scanWord) := goodIn_app (goodIn_sub (fun w h => mow_X7_scan w (by revert w h; decide +kernel)) (by decide +kernel)) (goodIn_sub mem_X7_scan_6 gw_X7_scanWord)
set_option maxRecDepth 20000 in
theorem g_X7_scan_X7_byteAt : GoodIn v_X7_scan (wsV RX7 93 RX7 yX7_byteAt v_X7_byteAt) := goodIn_app (goodIn_sub (fun w h => mow_X7_scan w (by revert w h; decide +kernel)) (by decide +kernel)) (goodIn_sub mem_X7_scan_7 gw_X7_byteAt)
set_option maxHeartbeats 4000000 in
set_option maxRecDepth 100000 in
theorem c_X7_scan (l : Launch) (dC : Nat → ClassId) (dI : Nat → Nat → Nat) (h0 : Nat) (v12_0 : Value) (z12_length : Int) (z12_at : Int) (z12_kind : Int) (z12_place : Int) (z12_value : Int) (v12_7 : Value) (v12_8 : Value) (v12_9 : Value) (v12_10 : Value) (v12_11 : Value) (v12_12 : Value) (v12_13 : Value) (v12_14 : Value) (v12_15 : Value) (v12_16 : Value) (v12_17 : Value) (q_1201 : Nat) (cA_1201 : ClassId) (fa12_bytes : Nat → Int32) (hNz12_length : 0 ≤ z12_length ∧ z12_length ≤ 8192) (hNz12_at : 0 ≤ z12_at ∧ z12_at ≤ 8200) (hNz12_kind : 0 ≤ z12_kind ∧ z12_kind ≤ 13) (hNz12_place : 0 ≤ z12_place ∧ z12_place ≤ 8200) (hNz12_value : -2147483648 ≤ z12_value ∧ z12_value ≤ 2147483647) (hNat : z12_at ≤ 8194) (hX_V : RKV z12_kind z12_value) (sz : Nat) (sa_RX7_128 : Nat) (sv_RX7_128 : Nat) (sx_fm : Nat) (sa_RX7_134 : Nat) (sv_RX7_134 : Nat) (sa_RX7_136 : Nat) (sv_RX7_136 : Nat) (sa_RX7_138 : Nat) (sv_RX7_138 : Nat) (sa_RX7_140 : Nat) (sv_RX7_140 : Nat) (sa_RX7_142 : Nat) (sv_RX7_142 : Nat) : Met l yX7_scan v_X7_scan ({ frames := 7, cells := 0, slots := 0, locals := 148 }) (va_Pc [.ref h0] (fun U => U.heap.size = sz ∧ va_P (dC, dI) vwP [(h0, .inr (7, [v12_0, .ref q_1201, .int (zI (z12_length)), .int (zI (z12_at)), .int (zI (z12_kind)), .int (zI (z12_place)), .int (zI (z12_value)), v12_7, v12_8, v12_9, v12_10, v12_11, v12_12, v12_13, v12_14, v12_15, v12_16, v12_17])), (q_1201, .inl (cA_1201, 8192, .inl fa12_bytes))] U.heap ∧ va_K (dC, dI) vwP [(cA_1201, .byte)] U ∧ va_D (fun _ => True) [(h0, .inr (7, [v12_0, .ref q_1201, .int (zI (z12_length)), .int (zI (z12_at)), .int (zI (z12_kind)), .int (zI (z12_place)), .int (zI (z12_value)), v12_7, v12_8, v12_9, v12_10, v12_11, v12_12, v12_13, v12_14, v12_15, v12_16, v12_17])), (q_1201, .inl (cA_1201, 8192, .inl fa12_bytes))] ∧ vk_R RX7 128 "in" sa_RX7_128 U ∧ vs_S sa_RX7_128 sv_RX7_128 2 (fun j : Nat => ([105, 110] : List Int32).getD j 0) (va_A [(h0, .inr (7, [v12_0, .ref q_1201, .int (zI (z12_length)), .int (zI (z12_at)), .int (zI (z12_kind)), .int (zI (z12_place)), .int (zI (z12_value)), v12_7, v12_8, v12_9, v12_10, v12_11, v12_12, v12_13, v12_14, v12_15, v12_16, v12_17])), (q_1201, .inl (cA_1201, 8192, .inl fa12_bytes))] sz) U U.heap ∧ va_Z "java/lang/String" "COMPACT_STRINGS" "Z" (.int 1) (va_A [(h0, .inr (7, [v12_0, .ref q_1201, .int (zI (z12_length)), .int (zI (z12_at)), .int (zI (z12_kind)), .int (zI (z12_place)), .int (zI (z12_value)), v12_7, v12_8, v12_9, v12_10, v12_11, v12_12, v12_13, v12_14, v12_15, v12_16, v12_17])), (q_1201, .inl (cA_1201, 8192, .inl fa12_bytes))] sz) U U.heap ∧ va_Z "jdk/internal/util/Preconditions" "SIOOBE_FORMATTER" "Ljava/util/function/BiFunction;" (.ref sx_fm) (va_A [(h0, .inr (7, [v12_0, .ref q_1201, .int (zI (z12_length)), .int (zI (z12_at)), .int (zI (z12_kind)), .int (zI (z12_place)), .int (zI (z12_value)), v12_7, v12_8, v12_9, v12_10, v12_11, v12_12, v12_13, v12_14, v12_15, v12_16, v12_17])), (q_1201, .inl (cA_1201, 8192, .inl fa12_bytes))] sz) U U.heap ∧ vk_R RX7 134 "show" sa_RX7_134 U ∧ vs_S sa_RX7_134 sv_RX7_134 4 (fun j : Nat => ([115, 104, 111, 119] : List Int32).getD j 0) (va_A [(h0, .inr (7, [v12_0, .ref q_1201, .int (zI (z12_length)), .int (zI (z12_at)), .int (zI (z12_kind)), .int (zI (z12_place)), .int (zI (z12_value)), v12_7, v12_8, v12_9, v12_10, v12_11, v12_12, v12_13, v12_14, v12_15, v12_16, v12_17])), (q_1201, .inl (cA_1201, 8192, .inl fa12_bytes))] sz) U U.heap ∧ vk_R RX7 136 "if" sa_RX7_136 U ∧ vs_S sa_RX7_136 sv_RX7_136 2 (fun j : Nat => ([105, 102] : List Int32).getD j 0) (va_A [(h0, .inr (7, [v12_0, .ref q_1201, .int (zI (z12_length)), .int (zI (z12_at)), .int (zI (z12_kind)), .int (zI (z12_place)), .int (zI (z12_value)), v12_7, v12_8, v12_9, v12_10, v12_11, v12_12, v12_13, v12_14, v12_15, v12_16, v12_17])), (q_1201, .inl (cA_1201, 8192, .inl fa12_bytes))] sz) U U.heap ∧ vk_R RX7 138 "jump" sa_RX7_138 U ∧ vs_S sa_RX7_138 sv_RX7_138 4 (fun j : Nat => ([106, 117, 109, 112] : List Int32).getD j 0) (va_A [(h0, .inr (7, [v12_0, .ref q_1201, .int (zI (z12_length)), .int (zI (z12_at)), .int (zI (z12_kind)), .int (zI (z12_place)), .int (zI (z12_value)), v12_7, v12_8, v12_9, v12_10, v12_11, v12_12, v12_13, v12_14, v12_15, v12_16, v12_17])), (q_1201, .inl (cA_1201, 8192, .inl fa12_bytes))] sz) U U.heap ∧ vk_R RX7 140 "ret" sa_RX7_140 U ∧ vs_S sa_RX7_140 sv_RX7_140 3 (fun j : Nat => ([114, 101, 116] : List Int32).getD j 0) (va_A [(h0, .inr (7, [v12_0, .ref q_1201, .int (zI (z12_length)), .int (zI (z12_at)), .int (zI (z12_kind)), .int (zI (z12_place)), .int (zI (z12_value)), v12_7, v12_8, v12_9, v12_10, v12_11, v12_12, v12_13, v12_14, v12_15, v12_16, v12_17])), (q_1201, .inl (cA_1201, 8192, .inl fa12_bytes))] sz) U U.heap ∧ vk_R RX7 142 "phi" sa_RX7_142 U ∧ vs_S sa_RX7_142 sv_RX7_142 3 (fun j : Nat => ([112, 104, 105] : List Int32).getD j 0) (va_A [(h0, .inr (7, [v12_0, .ref q_1201, .int (zI (z12_length)), .int (zI (z12_at)), .int (zI (z12_kind)), .int (zI (z12_place)), .int (zI (z12_value)), v12_7, v12_8, v12_9, v12_10, v12_11, v12_12, v12_13, v12_14, v12_15, v12_16, v12_17])), (q_1201, .inl (cA_1201, 8192, .inl fa12_bytes))] sz) U U.heap)) (va_Qv (fun _ : Unit => True) (fun (_ : Unit) (t : State) => ∃ (z0_9 : Int) (z1_9 : Int) (z2_9 : Int) (z3_9 : Int), ((0 ≤ z0_9 ∧ z0_9 ≤ 8200) ∧ (0 ≤ z1_9 ∧ z1_9 ≤ 13) ∧ (0 ≤ z2_9 ∧ z2_9 ≤ 8200) ∧ (-2147483648 ≤ z3_9 ∧ z3_9 ≤ 2147483647) ∧ (RKV z1_9 z3_9 ∧ z0_9 ≤ 8194 ∧ z2_9 ≤ 8194)) ∧ va_P (dC, dI) vwP [(h0, .inr (7, [v12_0, .ref q_1201, .int (zI (z12_length)), .int (zI (z0_9)), .int (zI (z1_9)), .int (zI (z2_9)), .int (zI (z3_9)), v12_7, v12_8, v12_9, v12_10, v12_11, v12_12, v12_13, v12_14, v12_15, v12_16, v12_17])), (q_1201, .inl (cA_1201, 8192, .inl fa12_bytes))] t.heap ∧ va_K (dC, dI) vwP [(cA_1201, .byte)] t ∧ va_D (va_A [(h0, .inr (7, [v12_0, .ref q_1201, .int (zI (z12_length)), .int (zI (z12_at)), .int (zI (z12_kind)), .int (zI (z12_place)), .int (zI (z12_value)), v12_7, v12_8, v12_9, v12_10, v12_11, v12_12, v12_13, v12_14, v12_15, v12_16, v12_17])), (q_1201, .inl (cA_1201, 8192, .inl fa12_bytes))] sz) [(h0, .inr (7, [v12_0, .ref q_1201, .int (zI (z12_length)), .int (zI (z0_9)), .int (zI (z1_9)), .int (zI (z2_9)), .int (zI (z3_9)), v12_7, v12_8, v12_9, v12_10, v12_11, v12_12, v12_13, v12_14, v12_15, v12_16, v12_17])), (q_1201, .inl (cA_1201, 8192, .inl fa12_bytes))]) (va_A [(h0, .inr (7, [v12_0, .ref q_1201, .int (zI (z12_length)), .int (zI (z12_at)), .int (zI (z12_kind)), .int (zI (z12_place)), .int (zI (z12_value)), v12_7, v12_8, v12_9, v12_10, v12_11, v12_12, v12_13, v12_14, v12_15, v12_16, v12_17])), (q_1201, .inl (cA_1201, 8192, .inl fa12_bytes))] sz)) 0 0 (va_A [(h0, .inr (7, [v12_0, .ref q_1201, .int (zI (z12_length)), .int (zI (z12_at)), .int (zI (z12_kind)), .int (zI (z12_place)), .int (zI (z12_value)), v12_7, v12_8, v12_9, v12_10, v12_11, v12_12, v12_13, v12_14, v12_15, v12_16, v12_17])), (q_1201, .inl (cA_1201, 8192, .inl fa12_bytes))] sz) := by
  refine Met.ofW (cc := cX7_scan) (maxL := 2) (ret := none) (by decide) rfl ?_
  intro p e s m args below meth c s₁ B hml hv
  obtain ⟨rfl, hsz, hP, hK, hD0, hp0, hp1, hp2, hp3, hp4, hp5, hp6, hp7, hp8, hp9, hp10, hp11, hp12, hp13⟩ := hv
  have hx := B.exec
  have hb := B.bytes
  have hr := B.returns
  have hts := atoms_spec (ws := v_X7_scan) B.pre
  have hown : s.vm.findClass RX7 = some m.cls := findClass_of_methodNamed B.named
  have hlocks := B.notSynchronized
  have ow : ∀ {k : Nat} {w : Cond}, o_X7_scan[k]? = some w → w.before ([.ref h0] : List Value).toArray s = true := fun h => hts _ (mow_X7_scan _ (List.mem_of_getElem? h))
  subst hsz
  have hD := hD0.self (sz := s.heap.size)
  generalize hAe : va_A [(h0, .inr (7, [v12_0, .ref q_1201, .int (zI (z12_length)), .int (zI (z12_at)), .int (zI (z12_kind)), .int (zI (z12_place)), .int (zI (z12_value)), v12_7, v12_8, v12_9, v12_10, v12_11, v12_12, v12_13, v12_14, v12_15, v12_16, v12_17])), (q_1201, .inl (cA_1201, 8192, .inl fa12_bytes))] s.heap.size = A at hD hp1 hp2 hp3 hp5 hp7 hp9 hp11 hp13 ⊢
  have hA : ∀ q : Nat, s.heap.size ≤ q → A q := fun q h => by rw [← hAe]; exact Or.inr h
  have hS : va_S A s.heap s.heap [] := va_S.rf
  have hP : va_P (dC, dI) vwP [(h0, .inr (7, [v12_0, .ref q_1201, .int (zI (z12_length)), .int (zI (z12_at)), .int (zI (z12_kind)), .int (zI (z12_place)), .int (zI (z12_value)), v12_7, v12_8, v12_9, v12_10, v12_11, v12_12, v12_13, v12_14, v12_15, v12_16, v12_17])), (q_1201, .inl (cA_1201, 8192, .inl fa12_bytes))] s.heap := hP
  have hl := lv_entry ([.ref h0]) (n := 2) (Nat.le_of_ble_eq_true rfl)
  rw [lg_entry_eq]
  generalize (lg_sl ([.ref h0]) ++ List.replicate (2 - (lg_sl ([.ref h0])).length) Slot.unset).toArray = ls at hl ⊢
  have hl : lv_has ls 2 [(0, .ref h0)] := hl
  obtain ⟨H, hH⟩ : ∃ H, H = s.heap := ⟨_, rfl⟩
  rw [← hH] at hP
  have hS : va_S A s.heap H [] := by rw [hH]; exact hS
  rw [← hH]
  refine zW_cap (fun Q hQ => ?_)
  refine lv_aload_n hx hb dX7_scan_0 rfl (lv_at hl 0 rfl) ?_
  refine va_get (D := (dC, dI)) (ci := 7) (v := .int (zI (z12_kind))) (C := RX7) (T := TX7) (N := 18) hx hb hts mem_X7_scan_0 hown hK hP 0 rfl rfl 4 (by decide) (ow (k := 0) rfl) (fun _ h9 => h9) rfl dX7_scan_1 ?_
  refine lv_iconst (v := 2) hx hb dX7_scan_4 (by decide) ?_
  refine lv_icmp_eq (tgt := 16) hx hb dX7_scan_5 (by decide) (fun b5 => ?_) (fun b5 => ?_)
  · have yb5 : (z12_kind : Int) = (2 : Int) := (zI_eq (a := z12_kind) (b := 2) (by omega) (by omega) (by omega) (by omega)).mp b5
    refine lv_iconst (v := 1) hx hb dX7_scan_16 (by decide) ?_
    refine lv_goto (tgt := 21) hx hb dX7_scan_17 (by decide) ?_
    refine lv_istore_n (lv' := [(1, .int 1), (0, .ref h0)]) hx hb dX7_scan_21 rfl hl (by decide) rfl (fun ls hl => ?_)
    refine lv_aload_n hx hb dX7_scan_22 rfl (lv_at hl 1 rfl) ?_
    have hPc := hP.sub (ws' := [(h0, .inr (7, [v12_0, .ref q_1201, .int (zI (z12_length)), .int (zI (z12_at)), .int (zI (z12_kind)), .int (zI (z12_place)), .int (zI (z12_value)), v12_7, v12_8, v12_9, v12_10, v12_11, v12_12, v12_13, v12_14, v12_15, v12_16, v12_17])), (q_1201, .inl (cA_1201, 8192, .inl fa12_bytes))]) [0, 1] rfl
    have hDc := hD.sub (ws' := [(h0, .inr (7, [v12_0, .ref q_1201, .int (zI (z12_length)), .int (zI (z12_at)), .int (zI (z12_kind)), .int (zI (z12_place)), .int (zI (z12_value)), v12_7, v12_8, v12_9, v12_10, v12_11, v12_12, v12_13, v12_14, v12_15, v12_16, v12_17])), (q_1201, .inl (cA_1201, 8192, .inl fa12_bytes))]) [0, 1] (by decide) rfl
    have hKc := hK.sub (tys' := [(cA_1201, .byte)]) [0] rfl
    have hFc := va_free (wc := [(h0, .inr (7, [v12_0, .ref q_1201, .int (zI (z12_length)), .int (zI (z12_at)), .int (zI (z12_kind)), .int (zI (z12_place)), .int (zI (z12_value)), v12_7, v12_8, v12_9, v12_10, v12_11, v12_12, v12_13, v12_14, v12_15, v12_16, v12_17])), (q_1201, .inl (cA_1201, 8192, .inl fa12_bytes))]) hD hS hA [0, 1] rfl
    refine va_callv (va_runV (As := []) (rest := []) ⟨hx, hb, hml, hown, hts⟩ (c_X7_skipBlanks l dC dI h0 v12_0 z12_length z12_at (.int (zI (z12_kind))) (.int (zI (z12_place))) (.int (zI (z12_value))) v12_7 v12_8 v12_9 v12_10 v12_11 v12_12 v12_13 v12_14 v12_15 v12_16 v12_17 q_1201 cA_1201 fa12_bytes (by omega) (by omega) (by omega) H.size) (cwV 0 hts g_X7_scan_X7_skipBlanks rfl rfl rfl (by decide +kernel) ⟨(Nat.le_of_ble_eq_true rfl), (Nat.le_of_ble_eq_true rfl)⟩) ⟨fun a U g mk q => by obtain ⟨q0, q1, qP, qK, qD⟩ := q; exact ⟨q0, q1, qP, va_K.moved (u := U) (U := U.calling g mk a) (Vm.Alike.refl U.vm) qK, qD⟩, va_recv hKc hPc (ci := 7) (q0 := 0) rfl rfl, fun U hU hW => ⟨rfl, by rw [hU], by rw [hU]; exact hPc, va_K.moved hW.alike hKc, hDc.weaken (fun _ _ _ _ => trivial)⟩⟩ rfl rfl hl.1 rfl (lv_room (Nat.le_of_ble_eq_true rfl)) dX7_scan_23 ⟨(Nat.le_of_ble_eq_true rfl), (Nat.le_of_ble_eq_true rfl)⟩) hS (fun q _ h => hFc q h) hFc (fun  u t H1 locs ht hvm hw hB hz1 hk1 hS => ?_)
    obtain ⟨z0_2001, hxt_2001, hP1, hK1, hD1⟩ := hB
    rw [ht] at hP1
    have hK1 := va_K.moved hvm.symm hK1
    obtain ⟨hP, hD⟩ := va_join (wr := []) (w1 := [(h0, .inr (7, [v12_0, .ref q_1201, .int (zI (z12_length)), .int (zI (z0_2001)), .int (zI (z12_kind)), .int (zI (z12_place)), .int (zI (z12_value)), v12_7, v12_8, v12_9, v12_10, v12_11, v12_12, v12_13, v12_14, v12_15, v12_16, v12_17])), (q_1201, .inl (cA_1201, 8192, .inl fa12_bytes))]) hP hD [0, 1] [] rfl rfl (by decide) (by decide) hk1 hFc hP1 hD1
    have hK := (hK.sub (tys' := []) [] rfl).app hK1
    generalize H1 = H at hP hS ⊢
    have hP : va_P (dC, dI) vwP [(h0, .inr (7, [v12_0, .ref q_1201, .int (zI (z12_length)), .int (zI (z0_2001)), .int (zI (z12_kind)), .int (zI (z12_place)), .int (zI (z12_value)), v12_7, v12_8, v12_9, v12_10, v12_11, v12_12, v12_13, v12_14, v12_15, v12_16, v12_17])), (q_1201, .inl (cA_1201, 8192, .inl fa12_bytes))] H := hP
    have hD : va_D A [(h0, .inr (7, [v12_0, .ref q_1201, .int (zI (z12_length)), .int (zI (z0_2001)), .int (zI (z12_kind)), .int (zI (z12_place)), .int (zI (z12_value)), v12_7, v12_8, v12_9, v12_10, v12_11, v12_12, v12_13, v12_14, v12_15, v12_16, v12_17])), (q_1201, .inl (cA_1201, 8192, .inl fa12_bytes))] := hD
    have hK : va_K (dC, dI) vwP [(cA_1201, .byte)] s := hK
    refine W.widen (k := 0) (n := 0) (Nat.le_of_ble_eq_true rfl) (Nat.le_of_ble_eq_true rfl) ?_
    obtain ⟨rk_2002, hu_2002⟩ := hxt_2001
    refine lv_aload_n hx hb dX7_scan_26 rfl (lv_at hl 1 rfl) ?_
    refine lv_aload_n hx hb dX7_scan_27 rfl (lv_at hl 1 rfl) ?_
    refine va_get (D := (dC, dI)) (ci := 7) (v := .int (zI (z0_2001))) (C := RX7) (T := TX7) (N := 18) hx hb hts mem_X7_scan_0 hown hK hP 0 rfl rfl 3 (by decide) (ow (k := 5) rfl) (fun _ h9 => h9) rfl dX7_scan_28 ?_
    refine va_put (D := (dC, dI)) (ci := 7) (v := .int (zI (z0_2001))) (ty := .int) (C := RX7) (T := TX7) (N := 18) hx hb hts mem_X7_scan_0 tyX7 tyX7_ok nmX7 hown hK hP hD hS 0 rfl rfl 5 (by decide) (ow (k := 6) rfl) (fun _ h9 => h9) rfl (by decide +kernel) rfl rfl (Nat.le_of_ble_eq_true rfl) dX7_scan_31 (fun H locs hP hD hS => ?_)
    have hP : va_P (dC, dI) vwP [(h0, .inr (7, [v12_0, .ref q_1201, .int (zI (z12_length)), .int (zI (z0_2001)), .int (zI (z12_kind)), .int (zI (z0_2001)), .int (zI (z12_value)), v12_7, v12_8, v12_9, v12_10, v12_11, v12_12, v12_13, v12_14, v12_15, v12_16, v12_17])), (q_1201, .inl (cA_1201, 8192, .inl fa12_bytes))] H := hP
    have hD : va_D A [(h0, .inr (7, [v12_0, .ref q_1201, .int (zI (z12_length)), .int (zI (z0_2001)), .int (zI (z12_kind)), .int (zI (z0_2001)), .int (zI (z12_value)), v12_7, v12_8, v12_9, v12_10, v12_11, v12_12, v12_13, v12_14, v12_15, v12_16, v12_17])), (q_1201, .inl (cA_1201, 8192, .inl fa12_bytes))] := hD
    refine lv_aload_n hx hb dX7_scan_34 rfl (lv_at hl 1 rfl) ?_
    refine va_get (D := (dC, dI)) (ci := 7) (v := .int (zI (z0_2001))) (C := RX7) (T := TX7) (N := 18) hx hb hts mem_X7_scan_0 hown hK hP 0 rfl rfl 3 (by decide) (ow (k := 5) rfl) (fun _ h9 => h9) rfl dX7_scan_35 ?_
    refine lv_aload_n hx hb dX7_scan_38 rfl (lv_at hl 1 rfl) ?_
    refine va_get (D := (dC, dI)) (ci := 7) (v := .int (zI (z12_length))) (C := RX7) (T := TX7) (N := 18) hx hb hts mem_X7_scan_0 hown hK hP 0 rfl rfl 2 (by decide) (ow (k := 7) rfl) (fun _ h9 => h9) rfl dX7_scan_39 ?_
    refine lv_icmp_lt (tgt := 53) hx hb dX7_scan_42 (by decide) (fun b42 => ?_) (fun b42 => ?_)
    · have yb42 : (z0_2001 : Int) < (z12_length : Int) := (zI_lt (a := z0_2001) (b := z12_length) (by omega) (by omega) (by omega) (by omega)).mp b42
      refine lv_aload_n hx hb dX7_scan_53 rfl (lv_at hl 1 rfl) ?_
      refine lv_aload_n hx hb dX7_scan_54 rfl (lv_at hl 1 rfl) ?_
      refine va_get (D := (dC, dI)) (ci := 7) (v := .int (zI (z0_2001))) (C := RX7) (T := TX7) (N := 18) hx hb hts mem_X7_scan_0 hown hK hP 0 rfl rfl 3 (by decide) (ow (k := 5) rfl) (fun _ h9 => h9) rfl dX7_scan_55 ?_
      have hPc := hP.sub (ws' := [(h0, .inr (7, [v12_0, .ref q_1201, .int (zI (z12_length)), .int (zI (z0_2001)), .int (zI (z12_kind)), .int (zI (z0_2001)), .int (zI (z12_value)), v12_7, v12_8, v12_9, v12_10, v12_11, v12_12, v12_13, v12_14, v12_15, v12_16, v12_17])), (q_1201, .inl (cA_1201, 8192, .inl fa12_bytes))]) [0, 1] rfl
      have hDc := hD.sub (ws' := [(h0, .inr (7, [v12_0, .ref q_1201, .int (zI (z12_length)), .int (zI (z0_2001)), .int (zI (z12_kind)), .int (zI (z0_2001)), .int (zI (z12_value)), v12_7, v12_8, v12_9, v12_10, v12_11, v12_12, v12_13, v12_14, v12_15, v12_16, v12_17])), (q_1201, .inl (cA_1201, 8192, .inl fa12_bytes))]) [0, 1] (by decide) rfl
      have hKc := hK.sub (tys' := [(cA_1201, .byte)]) [0] rfl
      have hFc := va_free (wc := [(h0, .inr (7, [v12_0, .ref q_1201, .int (zI (z12_length)), .int (zI (z0_2001)), .int (zI (z12_kind)), .int (zI (z0_2001)), .int (zI (z12_value)), v12_7, v12_8, v12_9, v12_10, v12_11, v12_12, v12_13, v12_14, v12_15, v12_16, v12_17])), (q_1201, .inl (cA_1201, 8192, .inl fa12_bytes))]) hD hS hA [0, 1] rfl
      refine va_calli (va_runV (As := [.int (zI (z0_2001))]) (rest := []) ⟨hx, hb, hml, hown, hts⟩ (c_X7_letterAt l dC dI h0 v12_0 z12_length (.int (zI (z0_2001))) (.int (zI (z12_kind))) (.int (zI (z0_2001))) (.int (zI (z12_value))) v12_7 v12_8 v12_9 v12_10 v12_11 v12_12 v12_13 v12_14 v12_15 v12_16 v12_17 q_1201 cA_1201 fa12_bytes z0_2001 (by omega) (by omega) H.size) (cwV 1 hts g_X7_scan_X7_letterAt rfl rfl rfl (by decide +kernel) ⟨(Nat.le_of_ble_eq_true rfl), (Nat.le_of_ble_eq_true rfl)⟩) ⟨fun a U g mk q => by obtain ⟨q0, q1, qP, qK, qD⟩ := q; exact ⟨q0, q1, qP, va_K.moved (u := U) (U := U.calling g mk a) (Vm.Alike.refl U.vm) qK, qD⟩, va_recv hKc hPc (ci := 7) (q0 := 0) rfl rfl, fun U hU hW => ⟨rfl, by rw [hU], by rw [hU]; exact hPc, va_K.moved hW.alike hKc, hDc.weaken (fun _ _ _ _ => trivial)⟩⟩ rfl rfl hl.1 rfl (lv_room (Nat.le_of_ble_eq_true rfl)) dX7_scan_58 ⟨(Nat.le_of_ble_eq_true rfl), (Nat.le_of_ble_eq_true rfl)⟩) hS (fun q _ h => hFc q h) hFc (fun r_2003 u t H1 locs ht hvm hw hB hz1 hk1 hS => ?_)
      obtain ⟨hP1, hK1, hD1⟩ := hB
      rw [ht] at hP1
      have hK1 := va_K.moved hvm.symm hK1
      obtain ⟨hP, hD⟩ := va_join (wr := []) (w1 := [(h0, .inr (7, [v12_0, .ref q_1201, .int (zI (z12_length)), .int (zI (z0_2001)), .int (zI (z12_kind)), .int (zI (z0_2001)), .int (zI (z12_value)), v12_7, v12_8, v12_9, v12_10, v12_11, v12_12, v12_13, v12_14, v12_15, v12_16, v12_17])), (q_1201, .inl (cA_1201, 8192, .inl fa12_bytes))]) hP hD [0, 1] [] rfl rfl (by decide) (by decide) hk1 hFc hP1 hD1
      have hK := (hK.sub (tys' := []) [] rfl).app hK1
      generalize H1 = H at hP hS ⊢
      have hP : va_P (dC, dI) vwP [(h0, .inr (7, [v12_0, .ref q_1201, .int (zI (z12_length)), .int (zI (z0_2001)), .int (zI (z12_kind)), .int (zI (z0_2001)), .int (zI (z12_value)), v12_7, v12_8, v12_9, v12_10, v12_11, v12_12, v12_13, v12_14, v12_15, v12_16, v12_17])), (q_1201, .inl (cA_1201, 8192, .inl fa12_bytes))] H := hP
      have hD : va_D A [(h0, .inr (7, [v12_0, .ref q_1201, .int (zI (z12_length)), .int (zI (z0_2001)), .int (zI (z12_kind)), .int (zI (z0_2001)), .int (zI (z12_value)), v12_7, v12_8, v12_9, v12_10, v12_11, v12_12, v12_13, v12_14, v12_15, v12_16, v12_17])), (q_1201, .inl (cA_1201, 8192, .inl fa12_bytes))] := hD
      have hK : va_K (dC, dI) vwP [(cA_1201, .byte)] s := hK
      refine W.widen (k := 0) (n := 0) (Nat.le_of_ble_eq_true rfl) (Nat.le_of_ble_eq_true rfl) ?_
      have hw_2004 := hw
      obtain ⟨z_2005, rfl, hzz_2005⟩ := hw_2004
      refine lv_if_eq (tgt := 71) hx hb dX7_scan_61 (by decide) (fun b61 => ?_) (fun b61 => ?_)
      · have yb61 : (z_2005 : Int) = (0 : Int) := (zI_eq (a := z_2005) (b := 0) (by omega) (by omega) (by omega) (by omega)).mp b61
        refine lv_aload_n hx hb dX7_scan_71 rfl (lv_at hl 1 rfl) ?_
        refine lv_aload_n hx hb dX7_scan_72 rfl (lv_at hl 1 rfl) ?_
        refine va_get (D := (dC, dI)) (ci := 7) (v := .int (zI (z0_2001))) (C := RX7) (T := TX7) (N := 18) hx hb hts mem_X7_scan_0 hown hK hP 0 rfl rfl 3 (by decide) (ow (k := 5) rfl) (fun _ h9 => h9) rfl dX7_scan_73 ?_
        have hPc := hP.sub (ws' := [(h0, .inr (7, [v12_0, .ref q_1201, .int (zI (z12_length)), .int (zI (z0_2001)), .int (zI (z12_kind)), .int (zI (z0_2001)), .int (zI (z12_value)), v12_7, v12_8, v12_9, v12_10, v12_11, v12_12, v12_13, v12_14, v12_15, v12_16, v12_17])), (q_1201, .inl (cA_1201, 8192, .inl fa12_bytes))]) [0, 1] rfl
        have hDc := hD.sub (ws' := [(h0, .inr (7, [v12_0, .ref q_1201, .int (zI (z12_length)), .int (zI (z0_2001)), .int (zI (z12_kind)), .int (zI (z0_2001)), .int (zI (z12_value)), v12_7, v12_8, v12_9, v12_10, v12_11, v12_12, v12_13, v12_14, v12_15, v12_16, v12_17])), (q_1201, .inl (cA_1201, 8192, .inl fa12_bytes))]) [0, 1] (by decide) rfl
        have hKc := hK.sub (tys' := [(cA_1201, .byte)]) [0] rfl
        have hFc := va_free (wc := [(h0, .inr (7, [v12_0, .ref q_1201, .int (zI (z12_length)), .int (zI (z0_2001)), .int (zI (z12_kind)), .int (zI (z0_2001)), .int (zI (z12_value)), v12_7, v12_8, v12_9, v12_10, v12_11, v12_12, v12_13, v12_14, v12_15, v12_16, v12_17])), (q_1201, .inl (cA_1201, 8192, .inl fa12_bytes))]) hD hS hA [0, 1] rfl
        refine va_calli (va_runV (As := [.int (zI (z0_2001))]) (rest := []) ⟨hx, hb, hml, hown, hts⟩ (c_X7_digitAt l dC dI h0 v12_0 z12_length (.int (zI (z0_2001))) (.int (zI (z12_kind))) (.int (zI (z0_2001))) (.int (zI (z12_value))) v12_7 v12_8 v12_9 v12_10 v12_11 v12_12 v12_13 v12_14 v12_15 v12_16 v12_17 q_1201 cA_1201 fa12_bytes z0_2001 (by omega) (by omega) H.size) (cwV 1 hts g_X7_scan_X7_digitAt rfl rfl rfl (by decide +kernel) ⟨(Nat.le_of_ble_eq_true rfl), (Nat.le_of_ble_eq_true rfl)⟩) ⟨fun a U g mk q => by obtain ⟨q0, q1, qP, qK, qD⟩ := q; exact ⟨q0, q1, qP, va_K.moved (u := U) (U := U.calling g mk a) (Vm.Alike.refl U.vm) qK, qD⟩, va_recv hKc hPc (ci := 7) (q0 := 0) rfl rfl, fun U hU hW => ⟨rfl, by rw [hU], by rw [hU]; exact hPc, va_K.moved hW.alike hKc, hDc.weaken (fun _ _ _ _ => trivial)⟩⟩ rfl rfl hl.1 rfl (lv_room (Nat.le_of_ble_eq_true rfl)) dX7_scan_76 ⟨(Nat.le_of_ble_eq_true rfl), (Nat.le_of_ble_eq_true rfl)⟩) hS (fun q _ h => hFc q h) hFc (fun r_2006 u t H1 locs ht hvm hw hB hz1 hk1 hS => ?_)
        obtain ⟨hP1, hK1, hD1⟩ := hB
        rw [ht] at hP1
        have hK1 := va_K.moved hvm.symm hK1
        obtain ⟨hP, hD⟩ := va_join (wr := []) (w1 := [(h0, .inr (7, [v12_0, .ref q_1201, .int (zI (z12_length)), .int (zI (z0_2001)), .int (zI (z12_kind)), .int (zI (z0_2001)), .int (zI (z12_value)), v12_7, v12_8, v12_9, v12_10, v12_11, v12_12, v12_13, v12_14, v12_15, v12_16, v12_17])), (q_1201, .inl (cA_1201, 8192, .inl fa12_bytes))]) hP hD [0, 1] [] rfl rfl (by decide) (by decide) hk1 hFc hP1 hD1
        have hK := (hK.sub (tys' := []) [] rfl).app hK1
        generalize H1 = H at hP hS ⊢
        have hP : va_P (dC, dI) vwP [(h0, .inr (7, [v12_0, .ref q_1201, .int (zI (z12_length)), .int (zI (z0_2001)), .int (zI (z12_kind)), .int (zI (z0_2001)), .int (zI (z12_value)), v12_7, v12_8, v12_9, v12_10, v12_11, v12_12, v12_13, v12_14, v12_15, v12_16, v12_17])), (q_1201, .inl (cA_1201, 8192, .inl fa12_bytes))] H := hP
        have hD : va_D A [(h0, .inr (7, [v12_0, .ref q_1201, .int (zI (z12_length)), .int (zI (z0_2001)), .int (zI (z12_kind)), .int (zI (z0_2001)), .int (zI (z12_value)), v12_7, v12_8, v12_9, v12_10, v12_11, v12_12, v12_13, v12_14, v12_15, v12_16, v12_17])), (q_1201, .inl (cA_1201, 8192, .inl fa12_bytes))] := hD
        have hK : va_K (dC, dI) vwP [(cA_1201, .byte)] s := hK
        refine W.widen (k := 0) (n := 0) (Nat.le_of_ble_eq_true rfl) (Nat.le_of_ble_eq_true rfl) ?_
        obtain rfl : r_2006 = (zI (dgF fa12_bytes z12_length (z0_2001))) := hw
        have := dgF_spec fa12_bytes z12_length (z0_2001)
        have := btF_rng fa12_bytes z12_length (z0_2001)
        refine lv_if_ne (tgt := 112) hx hb dX7_scan_79 (by decide) (fun b79 => ?_) (fun b79 => ?_)
        · have yb79 : ¬ (dgF fa12_bytes z12_length (z0_2001) : Int) = (0 : Int) := fun q => b79 ((zI_eq (a := dgF fa12_bytes z12_length (z0_2001)) (b := 0) (by omega) (by omega) (by omega) (by omega)).mpr q)
          refine lv_aload_n hx hb dX7_scan_112 rfl (lv_at hl 1 rfl) ?_
          have hPc := hP.sub (ws' := [(h0, .inr (7, [v12_0, .ref q_1201, .int (zI (z12_length)), .int (zI (z0_2001)), .int (zI (z12_kind)), .int (zI (z0_2001)), .int (zI (z12_value)), v12_7, v12_8, v12_9, v12_10, v12_11, v12_12, v12_13, v12_14, v12_15, v12_16, v12_17])), (q_1201, .inl (cA_1201, 8192, .inl fa12_bytes))]) [0, 1] rfl
          have hDc := hD.sub (ws' := [(h0, .inr (7, [v12_0, .ref q_1201, .int (zI (z12_length)), .int (zI (z0_2001)), .int (zI (z12_kind)), .int (zI (z0_2001)), .int (zI (z12_value)), v12_7, v12_8, v12_9, v12_10, v12_11, v12_12, v12_13, v12_14, v12_15, v12_16, v12_17])), (q_1201, .inl (cA_1201, 8192, .inl fa12_bytes))]) [0, 1] (by decide) rfl
          have hKc := hK.sub (tys' := [(cA_1201, .byte)]) [0] rfl
          have hFc := va_free (wc := [(h0, .inr (7, [v12_0, .ref q_1201, .int (zI (z12_length)), .int (zI (z0_2001)), .int (zI (z12_kind)), .int (zI (z0_2001)), .int (zI (z12_value)), v12_7, v12_8, v12_9, v12_10, v12_11, v12_12, v12_13, v12_14, v12_15, v12_16, v12_17])), (q_1201, .inl (cA_1201, 8192, .inl fa12_bytes))]) hD hS hA [0, 1] rfl
          refine va_callv (va_runV (As := []) (rest := []) ⟨hx, hb, hml, hown, hts⟩ (c_X7_scanNumber l dC dI h0 v12_0 z12_length z0_2001 z12_kind (.int (zI (z0_2001))) z12_value v12_7 v12_8 v12_9 v12_10 v12_11 v12_12 v12_13 v12_14 v12_15 v12_16 v12_17 q_1201 cA_1201 fa12_bytes (by omega) (by omega) (by omega) (by omega) (by omega) H.size) (cwV 0 hts g_X7_scan_X7_scanNumber rfl rfl rfl (by decide +kernel) ⟨(Nat.le_of_ble_eq_true rfl), (Nat.le_of_ble_eq_true rfl)⟩) ⟨fun a U g mk q => by obtain ⟨q0, q1, qP, qK, qD⟩ := q; exact ⟨q0, q1, qP, va_K.moved (u := U) (U := U.calling g mk a) (Vm.Alike.refl U.vm) qK, qD⟩, va_recv hKc hPc (ci := 7) (q0 := 0) rfl rfl, fun U hU hW => ⟨rfl, by rw [hU], by rw [hU]; exact hPc, va_K.moved hW.alike hKc, hDc.weaken (fun _ _ _ _ => trivial)⟩⟩ rfl rfl hl.1 rfl (lv_room (Nat.le_of_ble_eq_true rfl)) dX7_scan_113 ⟨(Nat.le_of_ble_eq_true rfl), (Nat.le_of_ble_eq_true rfl)⟩) hS (fun q _ h => hFc q h) hFc (fun  u t H1 locs ht hvm hw hB hz1 hk1 hS => ?_)
          obtain ⟨z0_2007, z1_2008, z2_2009, hxt_2009, hP1, hK1, hD1⟩ := hB
          rw [ht] at hP1
          have hK1 := va_K.moved hvm.symm hK1
          obtain ⟨hP, hD⟩ := va_join (wr := []) (w1 := [(h0, .inr (7, [v12_0, .ref q_1201, .int (zI (z12_length)), .int (zI (z0_2007)), .int (zI (z1_2008)), .int (zI (z0_2001)), .int (zI (z2_2009)), v12_7, v12_8, v12_9, v12_10, v12_11, v12_12, v12_13, v12_14, v12_15, v12_16, v12_17])), (q_1201, .inl (cA_1201, 8192, .inl fa12_bytes))]) hP hD [0, 1] [] rfl rfl (by decide) (by decide) hk1 hFc hP1 hD1
          have hK := (hK.sub (tys' := []) [] rfl).app hK1
          generalize H1 = H at hP hS ⊢
          have hP : va_P (dC, dI) vwP [(h0, .inr (7, [v12_0, .ref q_1201, .int (zI (z12_length)), .int (zI (z0_2007)), .int (zI (z1_2008)), .int (zI (z0_2001)), .int (zI (z2_2009)), v12_7, v12_8, v12_9, v12_10, v12_11, v12_12, v12_13, v12_14, v12_15, v12_16, v12_17])), (q_1201, .inl (cA_1201, 8192, .inl fa12_bytes))] H := hP
          have hD : va_D A [(h0, .inr (7, [v12_0, .ref q_1201, .int (zI (z12_length)), .int (zI (z0_2007)), .int (zI (z1_2008)), .int (zI (z0_2001)), .int (zI (z2_2009)), v12_7, v12_8, v12_9, v12_10, v12_11, v12_12, v12_13, v12_14, v12_15, v12_16, v12_17])), (q_1201, .inl (cA_1201, 8192, .inl fa12_bytes))] := hD
          have hK : va_K (dC, dI) vwP [(cA_1201, .byte)] s := hK
          refine W.widen (k := 0) (n := 0) (Nat.le_of_ble_eq_true rfl) (Nat.le_of_ble_eq_true rfl) ?_
          obtain ⟨rk_2010, rk_2011, rk_2012, hu_2012⟩ := hxt_2009
          refine lv_goto (tgt := 123) hx hb dX7_scan_116 (by decide) ?_
          subst hQ
          refine W.widen (k := 0) (n := 0) (Nat.le_of_ble_eq_true rfl) (Nat.le_of_ble_eq_true rfl) ?_
          exact W.vret hx hb hr (fun t ht hW => ⟨⟨(), rfl, trivial, z0_2007, z1_2008, z0_2001, z2_2009, ⟨(by omega), (by omega), (by omega), (by omega), ⟨(by first | exact hu_2012.1 | (unfold RKV; omega)), by omega, by omega⟩⟩, by rw [ht]; exact hP, va_K.moved hW.alike hK, hD⟩, hS.F ht⟩) hS.2.2 dX7_scan_123
        · have yb79 : (dgF fa12_bytes z12_length (z0_2001) : Int) = (0 : Int) := (zI_eq (a := dgF fa12_bytes z12_length (z0_2001)) (b := 0) (by omega) (by omega) (by omega) (by omega)).mp b79
          refine lv_iload_n hx hb dX7_scan_82 rfl (lv_at hl 0 rfl) ?_
          refine lv_if_ne (tgt := 119) hx hb dX7_scan_83 (by decide) (fun _ => ?_) (fun h9 => absurd h9 (by decide))
          refine lv_aload_n hx hb dX7_scan_119 rfl (lv_at hl 1 rfl) ?_
          have hPc := hP.sub (ws' := [(h0, .inr (7, [v12_0, .ref q_1201, .int (zI (z12_length)), .int (zI (z0_2001)), .int (zI (z12_kind)), .int (zI (z0_2001)), .int (zI (z12_value)), v12_7, v12_8, v12_9, v12_10, v12_11, v12_12, v12_13, v12_14, v12_15, v12_16, v12_17])), (q_1201, .inl (cA_1201, 8192, .inl fa12_bytes))]) [0, 1] rfl
          have hDc := hD.sub (ws' := [(h0, .inr (7, [v12_0, .ref q_1201, .int (zI (z12_length)), .int (zI (z0_2001)), .int (zI (z12_kind)), .int (zI (z0_2001)), .int (zI (z12_value)), v12_7, v12_8, v12_9, v12_10, v12_11, v12_12, v12_13, v12_14, v12_15, v12_16, v12_17])), (q_1201, .inl (cA_1201, 8192, .inl fa12_bytes))]) [0, 1] (by decide) rfl
          have hKc := hK.sub (tys' := [(cA_1201, .byte)]) [0] rfl
          have hFc := va_free (wc := [(h0, .inr (7, [v12_0, .ref q_1201, .int (zI (z12_length)), .int (zI (z0_2001)), .int (zI (z12_kind)), .int (zI (z0_2001)), .int (zI (z12_value)), v12_7, v12_8, v12_9, v12_10, v12_11, v12_12, v12_13, v12_14, v12_15, v12_16, v12_17])), (q_1201, .inl (cA_1201, 8192, .inl fa12_bytes))]) hD hS hA [0, 1] rfl
          refine va_callv (va_runV (As := []) (rest := []) ⟨hx, hb, hml, hown, hts⟩ (c_X7_scanMark l dC dI h0 v12_0 z12_length z0_2001 z12_kind (.int (zI (z0_2001))) z12_value v12_7 v12_8 v12_9 v12_10 v12_11 v12_12 v12_13 v12_14 v12_15 v12_16 v12_17 q_1201 cA_1201 fa12_bytes (by omega) (by omega) (by omega) (by omega) (by omega) H.size) (cwV 0 hts g_X7_scan_X7_scanMark rfl rfl rfl (by decide +kernel) ⟨(Nat.le_of_ble_eq_true rfl), (Nat.le_of_ble_eq_true rfl)⟩) ⟨fun a U g mk q => by obtain ⟨q0, q1, qP, qK, qD⟩ := q; exact ⟨q0, q1, qP, va_K.moved (u := U) (U := U.calling g mk a) (Vm.Alike.refl U.vm) qK, qD⟩, va_recv hKc hPc (ci := 7) (q0 := 0) rfl rfl, fun U hU hW => ⟨rfl, by rw [hU], by rw [hU]; exact hPc, va_K.moved hW.alike hKc, hDc.weaken (fun _ _ _ _ => trivial)⟩⟩ rfl rfl hl.1 rfl (lv_room (Nat.le_of_ble_eq_true rfl)) dX7_scan_120 ⟨(Nat.le_of_ble_eq_true rfl), (Nat.le_of_ble_eq_true rfl)⟩) hS (fun q _ h => hFc q h) hFc (fun  u t H1 locs ht hvm hw hB hz1 hk1 hS => ?_)
          obtain ⟨z0_2013, z1_2014, z2_2015, hxt_2015, hP1, hK1, hD1⟩ := hB
          rw [ht] at hP1
          have hK1 := va_K.moved hvm.symm hK1
          obtain ⟨hP, hD⟩ := va_join (wr := []) (w1 := [(h0, .inr (7, [v12_0, .ref q_1201, .int (zI (z12_length)), .int (zI (z0_2013)), .int (zI (z1_2014)), .int (zI (z0_2001)), .int (zI (z2_2015)), v12_7, v12_8, v12_9, v12_10, v12_11, v12_12, v12_13, v12_14, v12_15, v12_16, v12_17])), (q_1201, .inl (cA_1201, 8192, .inl fa12_bytes))]) hP hD [0, 1] [] rfl rfl (by decide) (by decide) hk1 hFc hP1 hD1
          have hK := (hK.sub (tys' := []) [] rfl).app hK1
          generalize H1 = H at hP hS ⊢
          have hP : va_P (dC, dI) vwP [(h0, .inr (7, [v12_0, .ref q_1201, .int (zI (z12_length)), .int (zI (z0_2013)), .int (zI (z1_2014)), .int (zI (z0_2001)), .int (zI (z2_2015)), v12_7, v12_8, v12_9, v12_10, v12_11, v12_12, v12_13, v12_14, v12_15, v12_16, v12_17])), (q_1201, .inl (cA_1201, 8192, .inl fa12_bytes))] H := hP
          have hD : va_D A [(h0, .inr (7, [v12_0, .ref q_1201, .int (zI (z12_length)), .int (zI (z0_2013)), .int (zI (z1_2014)), .int (zI (z0_2001)), .int (zI (z2_2015)), v12_7, v12_8, v12_9, v12_10, v12_11, v12_12, v12_13, v12_14, v12_15, v12_16, v12_17])), (q_1201, .inl (cA_1201, 8192, .inl fa12_bytes))] := hD
          have hK : va_K (dC, dI) vwP [(cA_1201, .byte)] s := hK
          refine W.widen (k := 0) (n := 0) (Nat.le_of_ble_eq_true rfl) (Nat.le_of_ble_eq_true rfl) ?_
          obtain ⟨rk_2016, rk_2017, rk_2018, hu_2018⟩ := hxt_2015
          subst hQ
          refine W.widen (k := 0) (n := 0) (Nat.le_of_ble_eq_true rfl) (Nat.le_of_ble_eq_true rfl) ?_
          exact W.vret hx hb hr (fun t ht hW => ⟨⟨(), rfl, trivial, z0_2013, z1_2014, z0_2001, z2_2015, ⟨(by omega), (by omega), (by omega), (by omega), ⟨(by first | exact hu_2018.1 | (unfold RKV; omega)), by omega, by omega⟩⟩, by rw [ht]; exact hP, va_K.moved hW.alike hK, hD⟩, hS.F ht⟩) hS.2.2 dX7_scan_123
      · have yb61 : ¬ (z_2005 : Int) = (0 : Int) := fun q => b61 ((zI_eq (a := z_2005) (b := 0) (by omega) (by omega) (by omega) (by omega)).mpr q)
        refine lv_aload_n hx hb dX7_scan_64 rfl (lv_at hl 1 rfl) ?_
        have hPc := hP.sub (ws' := [(h0, .inr (7, [v12_0, .ref q_1201, .int (zI (z12_length)), .int (zI (z0_2001)), .int (zI (z12_kind)), .int (zI (z0_2001)), .int (zI (z12_value)), v12_7, v12_8, v12_9, v12_10, v12_11, v12_12, v12_13, v12_14, v12_15, v12_16, v12_17])), (q_1201, .inl (cA_1201, 8192, .inl fa12_bytes))]) [0, 1] rfl
        have hDc := hD.sub (ws' := [(h0, .inr (7, [v12_0, .ref q_1201, .int (zI (z12_length)), .int (zI (z0_2001)), .int (zI (z12_kind)), .int (zI (z0_2001)), .int (zI (z12_value)), v12_7, v12_8, v12_9, v12_10, v12_11, v12_12, v12_13, v12_14, v12_15, v12_16, v12_17])), (q_1201, .inl (cA_1201, 8192, .inl fa12_bytes))]) [0, 1] (by decide) rfl
        have hKc := hK.sub (tys' := [(cA_1201, .byte)]) [0] rfl
        have hFc := va_free (wc := [(h0, .inr (7, [v12_0, .ref q_1201, .int (zI (z12_length)), .int (zI (z0_2001)), .int (zI (z12_kind)), .int (zI (z0_2001)), .int (zI (z12_value)), v12_7, v12_8, v12_9, v12_10, v12_11, v12_12, v12_13, v12_14, v12_15, v12_16, v12_17])), (q_1201, .inl (cA_1201, 8192, .inl fa12_bytes))]) hD hS hA [0, 1] rfl
        refine va_callv (va_runV (As := []) (rest := []) ⟨hx, hb, hml, hown, hts⟩ (c_X7_scanWord l dC dI h0 v12_0 z12_length z0_2001 z12_kind z0_2001 z12_value v12_7 v12_8 v12_9 v12_10 v12_11 v12_12 v12_13 v12_14 v12_15 v12_16 v12_17 q_1201 cA_1201 fa12_bytes (by omega) (by omega) (by omega) (by omega) (by omega) (by omega) (by omega) H.size sa_RX7_128 sv_RX7_128 sx_fm sa_RX7_134 sv_RX7_134 sa_RX7_136 sv_RX7_136 sa_RX7_138 sv_RX7_138 sa_RX7_140 sv_RX7_140 sa_RX7_142 sv_RX7_142) (cwV 0 hts g_X7_scan_X7_scanWord rfl rfl rfl (by decide +kernel) ⟨(Nat.le_of_ble_eq_true rfl), (Nat.le_of_ble_eq_true rfl)⟩) ⟨fun a U g mk q => by obtain ⟨q0, q1, qP, qK, qD, e0, e1, e2, e3, e4, e5, e6, e7, e8, e9, e10, e11, e12, e13⟩ := q; exact ⟨q0, q1, qP, va_K.moved (u := U) (U := U.calling g mk a) (Vm.Alike.refl U.vm) qK, qD, vk_R.same (u := U) (U := U.calling g mk a) rfl e0, vs_S.moved (u := U) (U := U.calling g mk a) (Vm.Alike.refl U.vm) e1, va_Z.moved (u := U) (U := U.calling g mk a) (Vm.Alike.refl U.vm) e2, va_Z.moved (u := U) (U := U.calling g mk a) (Vm.Alike.refl U.vm) e3, vk_R.same (u := U) (U := U.calling g mk a) rfl e4, vs_S.moved (u := U) (U := U.calling g mk a) (Vm.Alike.refl U.vm) e5, vk_R.same (u := U) (U := U.calling g mk a) rfl e6, vs_S.moved (u := U) (U := U.calling g mk a) (Vm.Alike.refl U.vm) e7, vk_R.same (u := U) (U := U.calling g mk a) rfl e8, vs_S.moved (u := U) (U := U.calling g mk a) (Vm.Alike.refl U.vm) e9, vk_R.same (u := U) (U := U.calling g mk a) rfl e10, vs_S.moved (u := U) (U := U.calling g mk a) (Vm.Alike.refl U.vm) e11, vk_R.same (u := U) (U := U.calling g mk a) rfl e12, vs_S.moved (u := U) (U := U.calling g mk a) (Vm.Alike.refl U.vm) e13⟩, va_recv hKc hPc (ci := 7) (q0 := 0) rfl rfl, fun U hU hW => ⟨rfl, by rw [hU], by rw [hU]; exact hPc, va_K.moved hW.alike hKc, hDc.weaken (fun _ _ _ _ => trivial), vk_R.warm hW hp0, by rw [hU]; exact vs_S.narrow (vs_S.moved hW.alike (vs_S.kept hp1 hS.2.1)) hFc, by rw [hU]; exact va_Z.narrow (va_Z.moved hW.alike (va_Z.kept hp2 hS.2.1)) hFc, by rw [hU]; exact va_Z.narrow (va_Z.moved hW.alike (va_Z.kept hp3 hS.2.1)) hFc, vk_R.warm hW hp4, by rw [hU]; exact vs_S.narrow (vs_S.moved hW.alike (vs_S.kept hp5 hS.2.1)) hFc, vk_R.warm hW hp6, by rw [hU]; exact vs_S.narrow (vs_S.moved hW.alike (vs_S.kept hp7 hS.2.1)) hFc, vk_R.warm hW hp8, by rw [hU]; exact vs_S.narrow (vs_S.moved hW.alike (vs_S.kept hp9 hS.2.1)) hFc, vk_R.warm hW hp10, by rw [hU]; exact vs_S.narrow (vs_S.moved hW.alike (vs_S.kept hp11 hS.2.1)) hFc, vk_R.warm hW hp12, by rw [hU]; exact vs_S.narrow (vs_S.moved hW.alike (vs_S.kept hp13 hS.2.1)) hFc⟩⟩ rfl rfl hl.1 rfl (lv_room (Nat.le_of_ble_eq_true rfl)) dX7_scan_65 ⟨(Nat.le_of_ble_eq_true rfl), (Nat.le_of_ble_eq_true rfl)⟩) hS (fun q _ h => hFc q h) hFc (fun  u t H1 locs ht hvm hw hB hz1 hk1 hS => ?_)
        obtain ⟨z0_2019, z1_2020, z2_2021, hxt_2021, hP1, hK1, hD1⟩ := hB
        rw [ht] at hP1
        have hK1 := va_K.moved hvm.symm hK1
        obtain ⟨hP, hD⟩ := va_join (wr := []) (w1 := [(h0, .inr (7, [v12_0, .ref q_1201, .int (zI (z12_length)), .int (zI (z0_2019)), .int (zI (z1_2020)), .int (zI (z0_2001)), .int (zI (z2_2021)), v12_7, v12_8, v12_9, v12_10, v12_11, v12_12, v12_13, v12_14, v12_15, v12_16, v12_17])), (q_1201, .inl (cA_1201, 8192, .inl fa12_bytes))]) hP hD [0, 1] [] rfl rfl (by decide) (by decide) hk1 hFc hP1 hD1
        have hK := (hK.sub (tys' := []) [] rfl).app hK1
        generalize H1 = H at hP hS ⊢
        have hP : va_P (dC, dI) vwP [(h0, .inr (7, [v12_0, .ref q_1201, .int (zI (z12_length)), .int (zI (z0_2019)), .int (zI (z1_2020)), .int (zI (z0_2001)), .int (zI (z2_2021)), v12_7, v12_8, v12_9, v12_10, v12_11, v12_12, v12_13, v12_14, v12_15, v12_16, v12_17])), (q_1201, .inl (cA_1201, 8192, .inl fa12_bytes))] H := hP
        have hD : va_D A [(h0, .inr (7, [v12_0, .ref q_1201, .int (zI (z12_length)), .int (zI (z0_2019)), .int (zI (z1_2020)), .int (zI (z0_2001)), .int (zI (z2_2021)), v12_7, v12_8, v12_9, v12_10, v12_11, v12_12, v12_13, v12_14, v12_15, v12_16, v12_17])), (q_1201, .inl (cA_1201, 8192, .inl fa12_bytes))] := hD
        have hK : va_K (dC, dI) vwP [(cA_1201, .byte)] s := hK
        refine W.widen (k := 0) (n := 0) (Nat.le_of_ble_eq_true rfl) (Nat.le_of_ble_eq_true rfl) ?_
        obtain ⟨rk_2022, rk_2023, rk_2024, hu_2024⟩ := hxt_2021
        refine lv_goto (tgt := 123) hx hb dX7_scan_68 (by decide) ?_
        subst hQ
        refine W.widen (k := 0) (n := 0) (Nat.le_of_ble_eq_true rfl) (Nat.le_of_ble_eq_true rfl) ?_
        exact W.vret hx hb hr (fun t ht hW => ⟨⟨(), rfl, trivial, z0_2019, z1_2020, z0_2001, z2_2021, ⟨(by omega), (by omega), (by omega), (by omega), ⟨(by first | exact hu_2024.1 | (unfold RKV; omega)), by omega, by omega⟩⟩, by rw [ht]; exact hP, va_K.moved hW.alike hK, hD⟩, hS.F ht⟩) hS.2.2 dX7_scan_123
    · have yb42 : ¬ (z0_2001 : Int) < (z12_length : Int) := fun q => b42 ((zI_lt (a := z0_2001) (b := z12_length) (by omega) (by omega) (by omega) (by omega)).mpr q)
      refine lv_aload_n hx hb dX7_scan_45 rfl (lv_at hl 1 rfl) ?_
      refine lv_iconst (v := 1) hx hb dX7_scan_46 (by decide) ?_
      refine va_put (D := (dC, dI)) (ci := 7) (v := .int 1) (ty := .int) (C := RX7) (T := TX7) (N := 18) hx hb hts mem_X7_scan_0 tyX7 tyX7_ok nmX7 hown hK hP hD hS 0 rfl rfl 4 (by decide) (ow (k := 0) rfl) (fun _ h9 => h9) rfl (by decide +kernel) rfl rfl (Nat.le_of_ble_eq_true rfl) dX7_scan_47 (fun H locs hP hD hS => ?_)
      have hP : va_P (dC, dI) vwP [(h0, .inr (7, [v12_0, .ref q_1201, .int (zI (z12_length)), .int (zI (z0_2001)), .int 1, .int (zI (z0_2001)), .int (zI (z12_value)), v12_7, v12_8, v12_9, v12_10, v12_11, v12_12, v12_13, v12_14, v12_15, v12_16, v12_17])), (q_1201, .inl (cA_1201, 8192, .inl fa12_bytes))] H := hP
      have hD : va_D A [(h0, .inr (7, [v12_0, .ref q_1201, .int (zI (z12_length)), .int (zI (z0_2001)), .int 1, .int (zI (z0_2001)), .int (zI (z12_value)), v12_7, v12_8, v12_9, v12_10, v12_11, v12_12, v12_13, v12_14, v12_15, v12_16, v12_17])), (q_1201, .inl (cA_1201, 8192, .inl fa12_bytes))] := hD
      refine lv_goto (tgt := 123) hx hb dX7_scan_50 (by decide) ?_
      subst hQ
      refine W.widen (k := 0) (n := 0) (Nat.le_of_ble_eq_true rfl) (Nat.le_of_ble_eq_true rfl) ?_
      exact W.vret hx hb hr (fun t ht hW => ⟨⟨(), rfl, trivial, z0_2001, 1, z0_2001, z12_value, ⟨(by omega), (by omega), (by omega), (by omega), ⟨(by first | exact hu_2024.1 | (unfold RKV; omega)), by omega, by omega⟩⟩, by rw [ht]; exact hP, va_K.moved hW.alike hK, hD⟩, hS.F ht⟩) hS.2.2 dX7_scan_123
  · have yb5 : ¬ (z12_kind : Int) = (2 : Int) := fun q => b5 ((zI_eq (a := z12_kind) (b := 2) (by omega) (by omega) (by omega) (by omega)).mpr q)
    refine lv_aload_n hx hb dX7_scan_8 rfl (lv_at hl 0 rfl) ?_
    refine va_get (D := (dC, dI)) (ci := 7) (v := .int (zI (z12_kind))) (C := RX7) (T := TX7) (N := 18) hx hb hts mem_X7_scan_0 hown hK hP 0 rfl rfl 4 (by decide) (ow (k := 0) rfl) (fun _ h9 => h9) rfl dX7_scan_9 ?_
    refine lv_iconst (v := 3) hx hb dX7_scan_12 (by decide) ?_
    refine lv_icmp_ne (tgt := 20) hx hb dX7_scan_13 (by decide) (fun b13 => ?_) (fun b13 => ?_)
    · have yb13 : ¬ (z12_kind : Int) = (3 : Int) := fun q => b13 ((zI_eq (a := z12_kind) (b := 3) (by omega) (by omega) (by omega) (by omega)).mpr q)
      refine lv_iconst (v := 0) hx hb dX7_scan_20 (by decide) ?_
      refine lv_istore_n (lv' := [(1, .int 0), (0, .ref h0)]) hx hb dX7_scan_21 rfl hl (by decide) rfl (fun ls hl => ?_)
      refine lv_aload_n hx hb dX7_scan_22 rfl (lv_at hl 1 rfl) ?_
      have hPc := hP.sub (ws' := [(h0, .inr (7, [v12_0, .ref q_1201, .int (zI (z12_length)), .int (zI (z12_at)), .int (zI (z12_kind)), .int (zI (z12_place)), .int (zI (z12_value)), v12_7, v12_8, v12_9, v12_10, v12_11, v12_12, v12_13, v12_14, v12_15, v12_16, v12_17])), (q_1201, .inl (cA_1201, 8192, .inl fa12_bytes))]) [0, 1] rfl
      have hDc := hD.sub (ws' := [(h0, .inr (7, [v12_0, .ref q_1201, .int (zI (z12_length)), .int (zI (z12_at)), .int (zI (z12_kind)), .int (zI (z12_place)), .int (zI (z12_value)), v12_7, v12_8, v12_9, v12_10, v12_11, v12_12, v12_13, v12_14, v12_15, v12_16, v12_17])), (q_1201, .inl (cA_1201, 8192, .inl fa12_bytes))]) [0, 1] (by decide) rfl
      have hKc := hK.sub (tys' := [(cA_1201, .byte)]) [0] rfl
      have hFc := va_free (wc := [(h0, .inr (7, [v12_0, .ref q_1201, .int (zI (z12_length)), .int (zI (z12_at)), .int (zI (z12_kind)), .int (zI (z12_place)), .int (zI (z12_value)), v12_7, v12_8, v12_9, v12_10, v12_11, v12_12, v12_13, v12_14, v12_15, v12_16, v12_17])), (q_1201, .inl (cA_1201, 8192, .inl fa12_bytes))]) hD hS hA [0, 1] rfl
      refine va_callv (va_runV (As := []) (rest := []) ⟨hx, hb, hml, hown, hts⟩ (c_X7_skipBlanks l dC dI h0 v12_0 z12_length z12_at (.int (zI (z12_kind))) (.int (zI (z12_place))) (.int (zI (z12_value))) v12_7 v12_8 v12_9 v12_10 v12_11 v12_12 v12_13 v12_14 v12_15 v12_16 v12_17 q_1201 cA_1201 fa12_bytes (by omega) (by omega) (by omega) H.size) (cwV 0 hts g_X7_scan_X7_skipBlanks rfl rfl rfl (by decide +kernel) ⟨(Nat.le_of_ble_eq_true rfl), (Nat.le_of_ble_eq_true rfl)⟩) ⟨fun a U g mk q => by obtain ⟨q0, q1, qP, qK, qD⟩ := q; exact ⟨q0, q1, qP, va_K.moved (u := U) (U := U.calling g mk a) (Vm.Alike.refl U.vm) qK, qD⟩, va_recv hKc hPc (ci := 7) (q0 := 0) rfl rfl, fun U hU hW => ⟨rfl, by rw [hU], by rw [hU]; exact hPc, va_K.moved hW.alike hKc, hDc.weaken (fun _ _ _ _ => trivial)⟩⟩ rfl rfl hl.1 rfl (lv_room (Nat.le_of_ble_eq_true rfl)) dX7_scan_23 ⟨(Nat.le_of_ble_eq_true rfl), (Nat.le_of_ble_eq_true rfl)⟩) hS (fun q _ h => hFc q h) hFc (fun  u t H1 locs ht hvm hw hB hz1 hk1 hS => ?_)
      obtain ⟨z0_2025, hxt_2025, hP1, hK1, hD1⟩ := hB
      rw [ht] at hP1
      have hK1 := va_K.moved hvm.symm hK1
      obtain ⟨hP, hD⟩ := va_join (wr := []) (w1 := [(h0, .inr (7, [v12_0, .ref q_1201, .int (zI (z12_length)), .int (zI (z0_2025)), .int (zI (z12_kind)), .int (zI (z12_place)), .int (zI (z12_value)), v12_7, v12_8, v12_9, v12_10, v12_11, v12_12, v12_13, v12_14, v12_15, v12_16, v12_17])), (q_1201, .inl (cA_1201, 8192, .inl fa12_bytes))]) hP hD [0, 1] [] rfl rfl (by decide) (by decide) hk1 hFc hP1 hD1
      have hK := (hK.sub (tys' := []) [] rfl).app hK1
      generalize H1 = H at hP hS ⊢
      have hP : va_P (dC, dI) vwP [(h0, .inr (7, [v12_0, .ref q_1201, .int (zI (z12_length)), .int (zI (z0_2025)), .int (zI (z12_kind)), .int (zI (z12_place)), .int (zI (z12_value)), v12_7, v12_8, v12_9, v12_10, v12_11, v12_12, v12_13, v12_14, v12_15, v12_16, v12_17])), (q_1201, .inl (cA_1201, 8192, .inl fa12_bytes))] H := hP
      have hD : va_D A [(h0, .inr (7, [v12_0, .ref q_1201, .int (zI (z12_length)), .int (zI (z0_2025)), .int (zI (z12_kind)), .int (zI (z12_place)), .int (zI (z12_value)), v12_7, v12_8, v12_9, v12_10, v12_11, v12_12, v12_13, v12_14, v12_15, v12_16, v12_17])), (q_1201, .inl (cA_1201, 8192, .inl fa12_bytes))] := hD
      have hK : va_K (dC, dI) vwP [(cA_1201, .byte)] s := hK
      refine W.widen (k := 0) (n := 0) (Nat.le_of_ble_eq_true rfl) (Nat.le_of_ble_eq_true rfl) ?_
      obtain ⟨rk_2026, hu_2026⟩ := hxt_2025
      refine lv_aload_n hx hb dX7_scan_26 rfl (lv_at hl 1 rfl) ?_
      refine lv_aload_n hx hb dX7_scan_27 rfl (lv_at hl 1 rfl) ?_
      refine va_get (D := (dC, dI)) (ci := 7) (v := .int (zI (z0_2025))) (C := RX7) (T := TX7) (N := 18) hx hb hts mem_X7_scan_0 hown hK hP 0 rfl rfl 3 (by decide) (ow (k := 5) rfl) (fun _ h9 => h9) rfl dX7_scan_28 ?_
      refine va_put (D := (dC, dI)) (ci := 7) (v := .int (zI (z0_2025))) (ty := .int) (C := RX7) (T := TX7) (N := 18) hx hb hts mem_X7_scan_0 tyX7 tyX7_ok nmX7 hown hK hP hD hS 0 rfl rfl 5 (by decide) (ow (k := 6) rfl) (fun _ h9 => h9) rfl (by decide +kernel) rfl rfl (Nat.le_of_ble_eq_true rfl) dX7_scan_31 (fun H locs hP hD hS => ?_)
      have hP : va_P (dC, dI) vwP [(h0, .inr (7, [v12_0, .ref q_1201, .int (zI (z12_length)), .int (zI (z0_2025)), .int (zI (z12_kind)), .int (zI (z0_2025)), .int (zI (z12_value)), v12_7, v12_8, v12_9, v12_10, v12_11, v12_12, v12_13, v12_14, v12_15, v12_16, v12_17])), (q_1201, .inl (cA_1201, 8192, .inl fa12_bytes))] H := hP
      have hD : va_D A [(h0, .inr (7, [v12_0, .ref q_1201, .int (zI (z12_length)), .int (zI (z0_2025)), .int (zI (z12_kind)), .int (zI (z0_2025)), .int (zI (z12_value)), v12_7, v12_8, v12_9, v12_10, v12_11, v12_12, v12_13, v12_14, v12_15, v12_16, v12_17])), (q_1201, .inl (cA_1201, 8192, .inl fa12_bytes))] := hD
      refine lv_aload_n hx hb dX7_scan_34 rfl (lv_at hl 1 rfl) ?_
      refine va_get (D := (dC, dI)) (ci := 7) (v := .int (zI (z0_2025))) (C := RX7) (T := TX7) (N := 18) hx hb hts mem_X7_scan_0 hown hK hP 0 rfl rfl 3 (by decide) (ow (k := 5) rfl) (fun _ h9 => h9) rfl dX7_scan_35 ?_
      refine lv_aload_n hx hb dX7_scan_38 rfl (lv_at hl 1 rfl) ?_
      refine va_get (D := (dC, dI)) (ci := 7) (v := .int (zI (z12_length))) (C := RX7) (T := TX7) (N := 18) hx hb hts mem_X7_scan_0 hown hK hP 0 rfl rfl 2 (by decide) (ow (k := 7) rfl) (fun _ h9 => h9) rfl dX7_scan_39 ?_
      refine lv_icmp_lt (tgt := 53) hx hb dX7_scan_42 (by decide) (fun b42 => ?_) (fun b42 => ?_)
      · have yb42 : (z0_2025 : Int) < (z12_length : Int) := (zI_lt (a := z0_2025) (b := z12_length) (by omega) (by omega) (by omega) (by omega)).mp b42
        refine lv_aload_n hx hb dX7_scan_53 rfl (lv_at hl 1 rfl) ?_
        refine lv_aload_n hx hb dX7_scan_54 rfl (lv_at hl 1 rfl) ?_
        refine va_get (D := (dC, dI)) (ci := 7) (v := .int (zI (z0_2025))) (C := RX7) (T := TX7) (N := 18) hx hb hts mem_X7_scan_0 hown hK hP 0 rfl rfl 3 (by decide) (ow (k := 5) rfl) (fun _ h9 => h9) rfl dX7_scan_55 ?_
        have hPc := hP.sub (ws' := [(h0, .inr (7, [v12_0, .ref q_1201, .int (zI (z12_length)), .int (zI (z0_2025)), .int (zI (z12_kind)), .int (zI (z0_2025)), .int (zI (z12_value)), v12_7, v12_8, v12_9, v12_10, v12_11, v12_12, v12_13, v12_14, v12_15, v12_16, v12_17])), (q_1201, .inl (cA_1201, 8192, .inl fa12_bytes))]) [0, 1] rfl
        have hDc := hD.sub (ws' := [(h0, .inr (7, [v12_0, .ref q_1201, .int (zI (z12_length)), .int (zI (z0_2025)), .int (zI (z12_kind)), .int (zI (z0_2025)), .int (zI (z12_value)), v12_7, v12_8, v12_9, v12_10, v12_11, v12_12, v12_13, v12_14, v12_15, v12_16, v12_17])), (q_1201, .inl (cA_1201, 8192, .inl fa12_bytes))]) [0, 1] (by decide) rfl
        have hKc := hK.sub (tys' := [(cA_1201, .byte)]) [0] rfl
        have hFc := va_free (wc := [(h0, .inr (7, [v12_0, .ref q_1201, .int (zI (z12_length)), .int (zI (z0_2025)), .int (zI (z12_kind)), .int (zI (z0_2025)), .int (zI (z12_value)), v12_7, v12_8, v12_9, v12_10, v12_11, v12_12, v12_13, v12_14, v12_15, v12_16, v12_17])), (q_1201, .inl (cA_1201, 8192, .inl fa12_bytes))]) hD hS hA [0, 1] rfl
        refine va_calli (va_runV (As := [.int (zI (z0_2025))]) (rest := []) ⟨hx, hb, hml, hown, hts⟩ (c_X7_letterAt l dC dI h0 v12_0 z12_length (.int (zI (z0_2025))) (.int (zI (z12_kind))) (.int (zI (z0_2025))) (.int (zI (z12_value))) v12_7 v12_8 v12_9 v12_10 v12_11 v12_12 v12_13 v12_14 v12_15 v12_16 v12_17 q_1201 cA_1201 fa12_bytes z0_2025 (by omega) (by omega) H.size) (cwV 1 hts g_X7_scan_X7_letterAt rfl rfl rfl (by decide +kernel) ⟨(Nat.le_of_ble_eq_true rfl), (Nat.le_of_ble_eq_true rfl)⟩) ⟨fun a U g mk q => by obtain ⟨q0, q1, qP, qK, qD⟩ := q; exact ⟨q0, q1, qP, va_K.moved (u := U) (U := U.calling g mk a) (Vm.Alike.refl U.vm) qK, qD⟩, va_recv hKc hPc (ci := 7) (q0 := 0) rfl rfl, fun U hU hW => ⟨rfl, by rw [hU], by rw [hU]; exact hPc, va_K.moved hW.alike hKc, hDc.weaken (fun _ _ _ _ => trivial)⟩⟩ rfl rfl hl.1 rfl (lv_room (Nat.le_of_ble_eq_true rfl)) dX7_scan_58 ⟨(Nat.le_of_ble_eq_true rfl), (Nat.le_of_ble_eq_true rfl)⟩) hS (fun q _ h => hFc q h) hFc (fun r_2027 u t H1 locs ht hvm hw hB hz1 hk1 hS => ?_)
        obtain ⟨hP1, hK1, hD1⟩ := hB
        rw [ht] at hP1
        have hK1 := va_K.moved hvm.symm hK1
        obtain ⟨hP, hD⟩ := va_join (wr := []) (w1 := [(h0, .inr (7, [v12_0, .ref q_1201, .int (zI (z12_length)), .int (zI (z0_2025)), .int (zI (z12_kind)), .int (zI (z0_2025)), .int (zI (z12_value)), v12_7, v12_8, v12_9, v12_10, v12_11, v12_12, v12_13, v12_14, v12_15, v12_16, v12_17])), (q_1201, .inl (cA_1201, 8192, .inl fa12_bytes))]) hP hD [0, 1] [] rfl rfl (by decide) (by decide) hk1 hFc hP1 hD1
        have hK := (hK.sub (tys' := []) [] rfl).app hK1
        generalize H1 = H at hP hS ⊢
        have hP : va_P (dC, dI) vwP [(h0, .inr (7, [v12_0, .ref q_1201, .int (zI (z12_length)), .int (zI (z0_2025)), .int (zI (z12_kind)), .int (zI (z0_2025)), .int (zI (z12_value)), v12_7, v12_8, v12_9, v12_10, v12_11, v12_12, v12_13, v12_14, v12_15, v12_16, v12_17])), (q_1201, .inl (cA_1201, 8192, .inl fa12_bytes))] H := hP
        have hD : va_D A [(h0, .inr (7, [v12_0, .ref q_1201, .int (zI (z12_length)), .int (zI (z0_2025)), .int (zI (z12_kind)), .int (zI (z0_2025)), .int (zI (z12_value)), v12_7, v12_8, v12_9, v12_10, v12_11, v12_12, v12_13, v12_14, v12_15, v12_16, v12_17])), (q_1201, .inl (cA_1201, 8192, .inl fa12_bytes))] := hD
        have hK : va_K (dC, dI) vwP [(cA_1201, .byte)] s := hK
        refine W.widen (k := 0) (n := 0) (Nat.le_of_ble_eq_true rfl) (Nat.le_of_ble_eq_true rfl) ?_
        have hw_2028 := hw
        obtain ⟨z_2029, rfl, hzz_2029⟩ := hw_2028
        refine lv_if_eq (tgt := 71) hx hb dX7_scan_61 (by decide) (fun b61 => ?_) (fun b61 => ?_)
        · have yb61 : (z_2029 : Int) = (0 : Int) := (zI_eq (a := z_2029) (b := 0) (by omega) (by omega) (by omega) (by omega)).mp b61
          refine lv_aload_n hx hb dX7_scan_71 rfl (lv_at hl 1 rfl) ?_
          refine lv_aload_n hx hb dX7_scan_72 rfl (lv_at hl 1 rfl) ?_
          refine va_get (D := (dC, dI)) (ci := 7) (v := .int (zI (z0_2025))) (C := RX7) (T := TX7) (N := 18) hx hb hts mem_X7_scan_0 hown hK hP 0 rfl rfl 3 (by decide) (ow (k := 5) rfl) (fun _ h9 => h9) rfl dX7_scan_73 ?_
          have hPc := hP.sub (ws' := [(h0, .inr (7, [v12_0, .ref q_1201, .int (zI (z12_length)), .int (zI (z0_2025)), .int (zI (z12_kind)), .int (zI (z0_2025)), .int (zI (z12_value)), v12_7, v12_8, v12_9, v12_10, v12_11, v12_12, v12_13, v12_14, v12_15, v12_16, v12_17])), (q_1201, .inl (cA_1201, 8192, .inl fa12_bytes))]) [0, 1] rfl
          have hDc := hD.sub (ws' := [(h0, .inr (7, [v12_0, .ref q_1201, .int (zI (z12_length)), .int (zI (z0_2025)), .int (zI (z12_kind)), .int (zI (z0_2025)), .int (zI (z12_value)), v12_7, v12_8, v12_9, v12_10, v12_11, v12_12, v12_13, v12_14, v12_15, v12_16, v12_17])), (q_1201, .inl (cA_1201, 8192, .inl fa12_bytes))]) [0, 1] (by decide) rfl
          have hKc := hK.sub (tys' := [(cA_1201, .byte)]) [0] rfl
          have hFc := va_free (wc := [(h0, .inr (7, [v12_0, .ref q_1201, .int (zI (z12_length)), .int (zI (z0_2025)), .int (zI (z12_kind)), .int (zI (z0_2025)), .int (zI (z12_value)), v12_7, v12_8, v12_9, v12_10, v12_11, v12_12, v12_13, v12_14, v12_15, v12_16, v12_17])), (q_1201, .inl (cA_1201, 8192, .inl fa12_bytes))]) hD hS hA [0, 1] rfl
          refine va_calli (va_runV (As := [.int (zI (z0_2025))]) (rest := []) ⟨hx, hb, hml, hown, hts⟩ (c_X7_digitAt l dC dI h0 v12_0 z12_length (.int (zI (z0_2025))) (.int (zI (z12_kind))) (.int (zI (z0_2025))) (.int (zI (z12_value))) v12_7 v12_8 v12_9 v12_10 v12_11 v12_12 v12_13 v12_14 v12_15 v12_16 v12_17 q_1201 cA_1201 fa12_bytes z0_2025 (by omega) (by omega) H.size) (cwV 1 hts g_X7_scan_X7_digitAt rfl rfl rfl (by decide +kernel) ⟨(Nat.le_of_ble_eq_true rfl), (Nat.le_of_ble_eq_true rfl)⟩) ⟨fun a U g mk q => by obtain ⟨q0, q1, qP, qK, qD⟩ := q; exact ⟨q0, q1, qP, va_K.moved (u := U) (U := U.calling g mk a) (Vm.Alike.refl U.vm) qK, qD⟩, va_recv hKc hPc (ci := 7) (q0 := 0) rfl rfl, fun U hU hW => ⟨rfl, by rw [hU], by rw [hU]; exact hPc, va_K.moved hW.alike hKc, hDc.weaken (fun _ _ _ _ => trivial)⟩⟩ rfl rfl hl.1 rfl (lv_room (Nat.le_of_ble_eq_true rfl)) dX7_scan_76 ⟨(Nat.le_of_ble_eq_true rfl), (Nat.le_of_ble_eq_true rfl)⟩) hS (fun q _ h => hFc q h) hFc (fun r_2030 u t H1 locs ht hvm hw hB hz1 hk1 hS => ?_)
          obtain ⟨hP1, hK1, hD1⟩ := hB
          rw [ht] at hP1
          have hK1 := va_K.moved hvm.symm hK1
          obtain ⟨hP, hD⟩ := va_join (wr := []) (w1 := [(h0, .inr (7, [v12_0, .ref q_1201, .int (zI (z12_length)), .int (zI (z0_2025)), .int (zI (z12_kind)), .int (zI (z0_2025)), .int (zI (z12_value)), v12_7, v12_8, v12_9, v12_10, v12_11, v12_12, v12_13, v12_14, v12_15, v12_16, v12_17])), (q_1201, .inl (cA_1201, 8192, .inl fa12_bytes))]) hP hD [0, 1] [] rfl rfl (by decide) (by decide) hk1 hFc hP1 hD1
          have hK := (hK.sub (tys' := []) [] rfl).app hK1
          generalize H1 = H at hP hS ⊢
          have hP : va_P (dC, dI) vwP [(h0, .inr (7, [v12_0, .ref q_1201, .int (zI (z12_length)), .int (zI (z0_2025)), .int (zI (z12_kind)), .int (zI (z0_2025)), .int (zI (z12_value)), v12_7, v12_8, v12_9, v12_10, v12_11, v12_12, v12_13, v12_14, v12_15, v12_16, v12_17])), (q_1201, .inl (cA_1201, 8192, .inl fa12_bytes))] H := hP
          have hD : va_D A [(h0, .inr (7, [v12_0, .ref q_1201, .int (zI (z12_length)), .int (zI (z0_2025)), .int (zI (z12_kind)), .int (zI (z0_2025)), .int (zI (z12_value)), v12_7, v12_8, v12_9, v12_10, v12_11, v12_12, v12_13, v12_14, v12_15, v12_16, v12_17])), (q_1201, .inl (cA_1201, 8192, .inl fa12_bytes))] := hD
          have hK : va_K (dC, dI) vwP [(cA_1201, .byte)] s := hK
          refine W.widen (k := 0) (n := 0) (Nat.le_of_ble_eq_true rfl) (Nat.le_of_ble_eq_true rfl) ?_
          obtain rfl : r_2030 = (zI (dgF fa12_bytes z12_length (z0_2025))) := hw
          have := dgF_spec fa12_bytes z12_length (z0_2025)
          have := btF_rng fa12_bytes z12_length (z0_2025)
          refine lv_if_ne (tgt := 112) hx hb dX7_scan_79 (by decide) (fun b79 => ?_) (fun b79 => ?_)
          · have yb79 : ¬ (dgF fa12_bytes z12_length (z0_2025) : Int) = (0 : Int) := fun q => b79 ((zI_eq (a := dgF fa12_bytes z12_length (z0_2025)) (b := 0) (by omega) (by omega) (by omega) (by omega)).mpr q)
            refine lv_aload_n hx hb dX7_scan_112 rfl (lv_at hl 1 rfl) ?_
            have hPc := hP.sub (ws' := [(h0, .inr (7, [v12_0, .ref q_1201, .int (zI (z12_length)), .int (zI (z0_2025)), .int (zI (z12_kind)), .int (zI (z0_2025)), .int (zI (z12_value)), v12_7, v12_8, v12_9, v12_10, v12_11, v12_12, v12_13, v12_14, v12_15, v12_16, v12_17])), (q_1201, .inl (cA_1201, 8192, .inl fa12_bytes))]) [0, 1] rfl
            have hDc := hD.sub (ws' := [(h0, .inr (7, [v12_0, .ref q_1201, .int (zI (z12_length)), .int (zI (z0_2025)), .int (zI (z12_kind)), .int (zI (z0_2025)), .int (zI (z12_value)), v12_7, v12_8, v12_9, v12_10, v12_11, v12_12, v12_13, v12_14, v12_15, v12_16, v12_17])), (q_1201, .inl (cA_1201, 8192, .inl fa12_bytes))]) [0, 1] (by decide) rfl
            have hKc := hK.sub (tys' := [(cA_1201, .byte)]) [0] rfl
            have hFc := va_free (wc := [(h0, .inr (7, [v12_0, .ref q_1201, .int (zI (z12_length)), .int (zI (z0_2025)), .int (zI (z12_kind)), .int (zI (z0_2025)), .int (zI (z12_value)), v12_7, v12_8, v12_9, v12_10, v12_11, v12_12, v12_13, v12_14, v12_15, v12_16, v12_17])), (q_1201, .inl (cA_1201, 8192, .inl fa12_bytes))]) hD hS hA [0, 1] rfl
            refine va_callv (va_runV (As := []) (rest := []) ⟨hx, hb, hml, hown, hts⟩ (c_X7_scanNumber l dC dI h0 v12_0 z12_length z0_2025 z12_kind (.int (zI (z0_2025))) z12_value v12_7 v12_8 v12_9 v12_10 v12_11 v12_12 v12_13 v12_14 v12_15 v12_16 v12_17 q_1201 cA_1201 fa12_bytes (by omega) (by omega) (by omega) (by omega) (by omega) H.size) (cwV 0 hts g_X7_scan_X7_scanNumber rfl rfl rfl (by decide +kernel) ⟨(Nat.le_of_ble_eq_true rfl), (Nat.le_of_ble_eq_true rfl)⟩) ⟨fun a U g mk q => by obtain ⟨q0, q1, qP, qK, qD⟩ := q; exact ⟨q0, q1, qP, va_K.moved (u := U) (U := U.calling g mk a) (Vm.Alike.refl U.vm) qK, qD⟩, va_recv hKc hPc (ci := 7) (q0 := 0) rfl rfl, fun U hU hW => ⟨rfl, by rw [hU], by rw [hU]; exact hPc, va_K.moved hW.alike hKc, hDc.weaken (fun _ _ _ _ => trivial)⟩⟩ rfl rfl hl.1 rfl (lv_room (Nat.le_of_ble_eq_true rfl)) dX7_scan_113 ⟨(Nat.le_of_ble_eq_true rfl), (Nat.le_of_ble_eq_true rfl)⟩) hS (fun q _ h => hFc q h) hFc (fun  u t H1 locs ht hvm hw hB hz1 hk1 hS => ?_)
            obtain ⟨z0_2031, z1_2032, z2_2033, hxt_2033, hP1, hK1, hD1⟩ := hB
            rw [ht] at hP1
            have hK1 := va_K.moved hvm.symm hK1
            obtain ⟨hP, hD⟩ := va_join (wr := []) (w1 := [(h0, .inr (7, [v12_0, .ref q_1201, .int (zI (z12_length)), .int (zI (z0_2031)), .int (zI (z1_2032)), .int (zI (z0_2025)), .int (zI (z2_2033)), v12_7, v12_8, v12_9, v12_10, v12_11, v12_12, v12_13, v12_14, v12_15, v12_16, v12_17])), (q_1201, .inl (cA_1201, 8192, .inl fa12_bytes))]) hP hD [0, 1] [] rfl rfl (by decide) (by decide) hk1 hFc hP1 hD1
            have hK := (hK.sub (tys' := []) [] rfl).app hK1
            generalize H1 = H at hP hS ⊢
            have hP : va_P (dC, dI) vwP [(h0, .inr (7, [v12_0, .ref q_1201, .int (zI (z12_length)), .int (zI (z0_2031)), .int (zI (z1_2032)), .int (zI (z0_2025)), .int (zI (z2_2033)), v12_7, v12_8, v12_9, v12_10, v12_11, v12_12, v12_13, v12_14, v12_15, v12_16, v12_17])), (q_1201, .inl (cA_1201, 8192, .inl fa12_bytes))] H := hP
            have hD : va_D A [(h0, .inr (7, [v12_0, .ref q_1201, .int (zI (z12_length)), .int (zI (z0_2031)), .int (zI (z1_2032)), .int (zI (z0_2025)), .int (zI (z2_2033)), v12_7, v12_8, v12_9, v12_10, v12_11, v12_12, v12_13, v12_14, v12_15, v12_16, v12_17])), (q_1201, .inl (cA_1201, 8192, .inl fa12_bytes))] := hD
            have hK : va_K (dC, dI) vwP [(cA_1201, .byte)] s := hK
            refine W.widen (k := 0) (n := 0) (Nat.le_of_ble_eq_true rfl) (Nat.le_of_ble_eq_true rfl) ?_
            obtain ⟨rk_2034, rk_2035, rk_2036, hu_2036⟩ := hxt_2033
            refine lv_goto (tgt := 123) hx hb dX7_scan_116 (by decide) ?_
            subst hQ
            refine W.widen (k := 0) (n := 0) (Nat.le_of_ble_eq_true rfl) (Nat.le_of_ble_eq_true rfl) ?_
            exact W.vret hx hb hr (fun t ht hW => ⟨⟨(), rfl, trivial, z0_2031, z1_2032, z0_2025, z2_2033, ⟨(by omega), (by omega), (by omega), (by omega), ⟨(by first | exact hu_2036.1 | (unfold RKV; omega)), by omega, by omega⟩⟩, by rw [ht]; exact hP, va_K.moved hW.alike hK, hD⟩, hS.F ht⟩) hS.2.2 dX7_scan_123
          · have yb79 : (dgF fa12_bytes z12_length (z0_2025) : Int) = (0 : Int) := (zI_eq (a := dgF fa12_bytes z12_length (z0_2025)) (b := 0) (by omega) (by omega) (by omega) (by omega)).mp b79
            refine lv_iload_n hx hb dX7_scan_82 rfl (lv_at hl 0 rfl) ?_
            refine lv_if_ne (tgt := 119) hx hb dX7_scan_83 (by decide) (fun h9 => absurd h9 (by decide)) (fun _ => ?_)
            refine lv_aload_n hx hb dX7_scan_86 rfl (lv_at hl 1 rfl) ?_
            refine lv_aload_n hx hb dX7_scan_87 rfl (lv_at hl 1 rfl) ?_
            refine va_get (D := (dC, dI)) (ci := 7) (v := .int (zI (z0_2025))) (C := RX7) (T := TX7) (N := 18) hx hb hts mem_X7_scan_0 hown hK hP 0 rfl rfl 3 (by decide) (ow (k := 5) rfl) (fun _ h9 => h9) rfl dX7_scan_88 ?_
            have hPc := hP.sub (ws' := [(h0, .inr (7, [v12_0, .ref q_1201, .int (zI (z12_length)), .int (zI (z0_2025)), .int (zI (z12_kind)), .int (zI (z0_2025)), .int (zI (z12_value)), v12_7, v12_8, v12_9, v12_10, v12_11, v12_12, v12_13, v12_14, v12_15, v12_16, v12_17])), (q_1201, .inl (cA_1201, 8192, .inl fa12_bytes))]) [0, 1] rfl
            have hDc := hD.sub (ws' := [(h0, .inr (7, [v12_0, .ref q_1201, .int (zI (z12_length)), .int (zI (z0_2025)), .int (zI (z12_kind)), .int (zI (z0_2025)), .int (zI (z12_value)), v12_7, v12_8, v12_9, v12_10, v12_11, v12_12, v12_13, v12_14, v12_15, v12_16, v12_17])), (q_1201, .inl (cA_1201, 8192, .inl fa12_bytes))]) [0, 1] (by decide) rfl
            have hKc := hK.sub (tys' := [(cA_1201, .byte)]) [0] rfl
            have hFc := va_free (wc := [(h0, .inr (7, [v12_0, .ref q_1201, .int (zI (z12_length)), .int (zI (z0_2025)), .int (zI (z12_kind)), .int (zI (z0_2025)), .int (zI (z12_value)), v12_7, v12_8, v12_9, v12_10, v12_11, v12_12, v12_13, v12_14, v12_15, v12_16, v12_17])), (q_1201, .inl (cA_1201, 8192, .inl fa12_bytes))]) hD hS hA [0, 1] rfl
            refine va_calli (va_runV (As := [.int (zI (z0_2025))]) (rest := []) ⟨hx, hb, hml, hown, hts⟩ (c_X7_byteAt l dC dI h0 v12_0 z12_length (.int (zI (z0_2025))) (.int (zI (z12_kind))) (.int (zI (z0_2025))) (.int (zI (z12_value))) v12_7 v12_8 v12_9 v12_10 v12_11 v12_12 v12_13 v12_14 v12_15 v12_16 v12_17 q_1201 cA_1201 fa12_bytes z0_2025 (by omega) (by omega) H.size) (cwV 1 hts g_X7_scan_X7_byteAt rfl rfl rfl (by decide +kernel) ⟨(Nat.le_of_ble_eq_true rfl), (Nat.le_of_ble_eq_true rfl)⟩) ⟨fun a U g mk q => by obtain ⟨q0, q1, qP, qK, qD⟩ := q; exact ⟨q0, q1, qP, va_K.moved (u := U) (U := U.calling g mk a) (Vm.Alike.refl U.vm) qK, qD⟩, va_recv hKc hPc (ci := 7) (q0 := 0) rfl rfl, fun U hU hW => ⟨rfl, by rw [hU], by rw [hU]; exact hPc, va_K.moved hW.alike hKc, hDc.weaken (fun _ _ _ _ => trivial)⟩⟩ rfl rfl hl.1 rfl (lv_room (Nat.le_of_ble_eq_true rfl)) dX7_scan_91 ⟨(Nat.le_of_ble_eq_true rfl), (Nat.le_of_ble_eq_true rfl)⟩) hS (fun q _ h => hFc q h) hFc (fun r_2037 u t H1 locs ht hvm hw hB hz1 hk1 hS => ?_)
            obtain ⟨hP1, hK1, hD1⟩ := hB
            rw [ht] at hP1
            have hK1 := va_K.moved hvm.symm hK1
            obtain ⟨hP, hD⟩ := va_join (wr := []) (w1 := [(h0, .inr (7, [v12_0, .ref q_1201, .int (zI (z12_length)), .int (zI (z0_2025)), .int (zI (z12_kind)), .int (zI (z0_2025)), .int (zI (z12_value)), v12_7, v12_8, v12_9, v12_10, v12_11, v12_12, v12_13, v12_14, v12_15, v12_16, v12_17])), (q_1201, .inl (cA_1201, 8192, .inl fa12_bytes))]) hP hD [0, 1] [] rfl rfl (by decide) (by decide) hk1 hFc hP1 hD1
            have hK := (hK.sub (tys' := []) [] rfl).app hK1
            generalize H1 = H at hP hS ⊢
            have hP : va_P (dC, dI) vwP [(h0, .inr (7, [v12_0, .ref q_1201, .int (zI (z12_length)), .int (zI (z0_2025)), .int (zI (z12_kind)), .int (zI (z0_2025)), .int (zI (z12_value)), v12_7, v12_8, v12_9, v12_10, v12_11, v12_12, v12_13, v12_14, v12_15, v12_16, v12_17])), (q_1201, .inl (cA_1201, 8192, .inl fa12_bytes))] H := hP
            have hD : va_D A [(h0, .inr (7, [v12_0, .ref q_1201, .int (zI (z12_length)), .int (zI (z0_2025)), .int (zI (z12_kind)), .int (zI (z0_2025)), .int (zI (z12_value)), v12_7, v12_8, v12_9, v12_10, v12_11, v12_12, v12_13, v12_14, v12_15, v12_16, v12_17])), (q_1201, .inl (cA_1201, 8192, .inl fa12_bytes))] := hD
            have hK : va_K (dC, dI) vwP [(cA_1201, .byte)] s := hK
            refine W.widen (k := 0) (n := 0) (Nat.le_of_ble_eq_true rfl) (Nat.le_of_ble_eq_true rfl) ?_
            obtain rfl : r_2037 = (zI (btF fa12_bytes z12_length (z0_2025))) := hw
            have := btF_rng fa12_bytes z12_length (z0_2025)
            refine lv_bipush (v := 45) hx hb dX7_scan_94 (by decide) ?_
            refine lv_icmp_ne (tgt := 119) hx hb dX7_scan_96 (by decide) (fun b96 => ?_) (fun b96 => ?_)
            · have yb96 : ¬ (btF fa12_bytes z12_length (z0_2025) : Int) = (45 : Int) := fun q => b96 ((zI_eq (a := btF fa12_bytes z12_length (z0_2025)) (b := 45) (by omega) (by omega) (by omega) (by omega)).mpr q)
              refine lv_aload_n hx hb dX7_scan_119 rfl (lv_at hl 1 rfl) ?_
              have hPc := hP.sub (ws' := [(h0, .inr (7, [v12_0, .ref q_1201, .int (zI (z12_length)), .int (zI (z0_2025)), .int (zI (z12_kind)), .int (zI (z0_2025)), .int (zI (z12_value)), v12_7, v12_8, v12_9, v12_10, v12_11, v12_12, v12_13, v12_14, v12_15, v12_16, v12_17])), (q_1201, .inl (cA_1201, 8192, .inl fa12_bytes))]) [0, 1] rfl
              have hDc := hD.sub (ws' := [(h0, .inr (7, [v12_0, .ref q_1201, .int (zI (z12_length)), .int (zI (z0_2025)), .int (zI (z12_kind)), .int (zI (z0_2025)), .int (zI (z12_value)), v12_7, v12_8, v12_9, v12_10, v12_11, v12_12, v12_13, v12_14, v12_15, v12_16, v12_17])), (q_1201, .inl (cA_1201, 8192, .inl fa12_bytes))]) [0, 1] (by decide) rfl
              have hKc := hK.sub (tys' := [(cA_1201, .byte)]) [0] rfl
              have hFc := va_free (wc := [(h0, .inr (7, [v12_0, .ref q_1201, .int (zI (z12_length)), .int (zI (z0_2025)), .int (zI (z12_kind)), .int (zI (z0_2025)), .int (zI (z12_value)), v12_7, v12_8, v12_9, v12_10, v12_11, v12_12, v12_13, v12_14, v12_15, v12_16, v12_17])), (q_1201, .inl (cA_1201, 8192, .inl fa12_bytes))]) hD hS hA [0, 1] rfl
              refine va_callv (va_runV (As := []) (rest := []) ⟨hx, hb, hml, hown, hts⟩ (c_X7_scanMark l dC dI h0 v12_0 z12_length z0_2025 z12_kind (.int (zI (z0_2025))) z12_value v12_7 v12_8 v12_9 v12_10 v12_11 v12_12 v12_13 v12_14 v12_15 v12_16 v12_17 q_1201 cA_1201 fa12_bytes (by omega) (by omega) (by omega) (by omega) (by omega) H.size) (cwV 0 hts g_X7_scan_X7_scanMark rfl rfl rfl (by decide +kernel) ⟨(Nat.le_of_ble_eq_true rfl), (Nat.le_of_ble_eq_true rfl)⟩) ⟨fun a U g mk q => by obtain ⟨q0, q1, qP, qK, qD⟩ := q; exact ⟨q0, q1, qP, va_K.moved (u := U) (U := U.calling g mk a) (Vm.Alike.refl U.vm) qK, qD⟩, va_recv hKc hPc (ci := 7) (q0 := 0) rfl rfl, fun U hU hW => ⟨rfl, by rw [hU], by rw [hU]; exact hPc, va_K.moved hW.alike hKc, hDc.weaken (fun _ _ _ _ => trivial)⟩⟩ rfl rfl hl.1 rfl (lv_room (Nat.le_of_ble_eq_true rfl)) dX7_scan_120 ⟨(Nat.le_of_ble_eq_true rfl), (Nat.le_of_ble_eq_true rfl)⟩) hS (fun q _ h => hFc q h) hFc (fun  u t H1 locs ht hvm hw hB hz1 hk1 hS => ?_)
              obtain ⟨z0_2038, z1_2039, z2_2040, hxt_2040, hP1, hK1, hD1⟩ := hB
              rw [ht] at hP1
              have hK1 := va_K.moved hvm.symm hK1
              obtain ⟨hP, hD⟩ := va_join (wr := []) (w1 := [(h0, .inr (7, [v12_0, .ref q_1201, .int (zI (z12_length)), .int (zI (z0_2038)), .int (zI (z1_2039)), .int (zI (z0_2025)), .int (zI (z2_2040)), v12_7, v12_8, v12_9, v12_10, v12_11, v12_12, v12_13, v12_14, v12_15, v12_16, v12_17])), (q_1201, .inl (cA_1201, 8192, .inl fa12_bytes))]) hP hD [0, 1] [] rfl rfl (by decide) (by decide) hk1 hFc hP1 hD1
              have hK := (hK.sub (tys' := []) [] rfl).app hK1
              generalize H1 = H at hP hS ⊢
              have hP : va_P (dC, dI) vwP [(h0, .inr (7, [v12_0, .ref q_1201, .int (zI (z12_length)), .int (zI (z0_2038)), .int (zI (z1_2039)), .int (zI (z0_2025)), .int (zI (z2_2040)), v12_7, v12_8, v12_9, v12_10, v12_11, v12_12, v12_13, v12_14, v12_15, v12_16, v12_17])), (q_1201, .inl (cA_1201, 8192, .inl fa12_bytes))] H := hP
              have hD : va_D A [(h0, .inr (7, [v12_0, .ref q_1201, .int (zI (z12_length)), .int (zI (z0_2038)), .int (zI (z1_2039)), .int (zI (z0_2025)), .int (zI (z2_2040)), v12_7, v12_8, v12_9, v12_10, v12_11, v12_12, v12_13, v12_14, v12_15, v12_16, v12_17])), (q_1201, .inl (cA_1201, 8192, .inl fa12_bytes))] := hD
              have hK : va_K (dC, dI) vwP [(cA_1201, .byte)] s := hK
              refine W.widen (k := 0) (n := 0) (Nat.le_of_ble_eq_true rfl) (Nat.le_of_ble_eq_true rfl) ?_
              obtain ⟨rk_2041, rk_2042, rk_2043, hu_2043⟩ := hxt_2040
              subst hQ
              refine W.widen (k := 0) (n := 0) (Nat.le_of_ble_eq_true rfl) (Nat.le_of_ble_eq_true rfl) ?_
              exact W.vret hx hb hr (fun t ht hW => ⟨⟨(), rfl, trivial, z0_2038, z1_2039, z0_2025, z2_2040, ⟨(by omega), (by omega), (by omega), (by omega), ⟨(by first | exact hu_2043.1 | (unfold RKV; omega)), by omega, by omega⟩⟩, by rw [ht]; exact hP, va_K.moved hW.alike hK, hD⟩, hS.F ht⟩) hS.2.2 dX7_scan_123
            · have yb96 : (btF fa12_bytes z12_length (z0_2025) : Int) = (45 : Int) := (zI_eq (a := btF fa12_bytes z12_length (z0_2025)) (b := 45) (by omega) (by omega) (by omega) (by omega)).mp b96
              refine lv_aload_n hx hb dX7_scan_99 rfl (lv_at hl 1 rfl) ?_
              refine lv_aload_n hx hb dX7_scan_100 rfl (lv_at hl 1 rfl) ?_
              refine va_get (D := (dC, dI)) (ci := 7) (v := .int (zI (z0_2025))) (C := RX7) (T := TX7) (N := 18) hx hb hts mem_X7_scan_0 hown hK hP 0 rfl rfl 3 (by decide) (ow (k := 5) rfl) (fun _ h9 => h9) rfl dX7_scan_101 ?_
              refine lv_iconst (v := 1) hx hb dX7_scan_104 (by decide) ?_
              refine lv_iadd hx hb dX7_scan_105 ?_
              refine lv_topi (fun z ez => ?_)
              obtain rfl : z = zI (z0_2025 + 1) := ez.trans (zI_add (z0_2025) (1))
              have hPc := hP.sub (ws' := [(h0, .inr (7, [v12_0, .ref q_1201, .int (zI (z12_length)), .int (zI (z0_2025)), .int (zI (z12_kind)), .int (zI (z0_2025)), .int (zI (z12_value)), v12_7, v12_8, v12_9, v12_10, v12_11, v12_12, v12_13, v12_14, v12_15, v12_16, v12_17])), (q_1201, .inl (cA_1201, 8192, .inl fa12_bytes))]) [0, 1] rfl
              have hDc := hD.sub (ws' := [(h0, .inr (7, [v12_0, .ref q_1201, .int (zI (z12_length)), .int (zI (z0_2025)), .int (zI (z12_kind)), .int (zI (z0_2025)), .int (zI (z12_value)), v12_7, v12_8, v12_9, v12_10, v12_11, v12_12, v12_13, v12_14, v12_15, v12_16, v12_17])), (q_1201, .inl (cA_1201, 8192, .inl fa12_bytes))]) [0, 1] (by decide) rfl
              have hKc := hK.sub (tys' := [(cA_1201, .byte)]) [0] rfl
              have hFc := va_free (wc := [(h0, .inr (7, [v12_0, .ref q_1201, .int (zI (z12_length)), .int (zI (z0_2025)), .int (zI (z12_kind)), .int (zI (z0_2025)), .int (zI (z12_value)), v12_7, v12_8, v12_9, v12_10, v12_11, v12_12, v12_13, v12_14, v12_15, v12_16, v12_17])), (q_1201, .inl (cA_1201, 8192, .inl fa12_bytes))]) hD hS hA [0, 1] rfl
              refine va_calli (va_runV (As := [.int (zI (z0_2025 + 1))]) (rest := []) ⟨hx, hb, hml, hown, hts⟩ (c_X7_digitAt l dC dI h0 v12_0 z12_length (.int (zI (z0_2025))) (.int (zI (z12_kind))) (.int (zI (z0_2025))) (.int (zI (z12_value))) v12_7 v12_8 v12_9 v12_10 v12_11 v12_12 v12_13 v12_14 v12_15 v12_16 v12_17 q_1201 cA_1201 fa12_bytes (z0_2025 + 1) (by omega) (by omega) H.size) (cwV 1 hts g_X7_scan_X7_digitAt rfl rfl rfl (by decide +kernel) ⟨(Nat.le_of_ble_eq_true rfl), (Nat.le_of_ble_eq_true rfl)⟩) ⟨fun a U g mk q => by obtain ⟨q0, q1, qP, qK, qD⟩ := q; exact ⟨q0, q1, qP, va_K.moved (u := U) (U := U.calling g mk a) (Vm.Alike.refl U.vm) qK, qD⟩, va_recv hKc hPc (ci := 7) (q0 := 0) rfl rfl, fun U hU hW => ⟨rfl, by rw [hU], by rw [hU]; exact hPc, va_K.moved hW.alike hKc, hDc.weaken (fun _ _ _ _ => trivial)⟩⟩ rfl rfl hl.1 rfl (lv_room (Nat.le_of_ble_eq_true rfl)) dX7_scan_106 ⟨(Nat.le_of_ble_eq_true rfl), (Nat.le_of_ble_eq_true rfl)⟩) hS (fun q _ h => hFc q h) hFc (fun r_2044 u t H1 locs ht hvm hw hB hz1 hk1 hS => ?_)
              obtain ⟨hP1, hK1, hD1⟩ := hB
              rw [ht] at hP1
              have hK1 := va_K.moved hvm.symm hK1
              obtain ⟨hP, hD⟩ := va_join (wr := []) (w1 := [(h0, .inr (7, [v12_0, .ref q_1201, .int (zI (z12_length)), .int (zI (z0_2025)), .int (zI (z12_kind)), .int (zI (z0_2025)), .int (zI (z12_value)), v12_7, v12_8, v12_9, v12_10, v12_11, v12_12, v12_13, v12_14, v12_15, v12_16, v12_17])), (q_1201, .inl (cA_1201, 8192, .inl fa12_bytes))]) hP hD [0, 1] [] rfl rfl (by decide) (by decide) hk1 hFc hP1 hD1
              have hK := (hK.sub (tys' := []) [] rfl).app hK1
              generalize H1 = H at hP hS ⊢
              have hP : va_P (dC, dI) vwP [(h0, .inr (7, [v12_0, .ref q_1201, .int (zI (z12_length)), .int (zI (z0_2025)), .int (zI (z12_kind)), .int (zI (z0_2025)), .int (zI (z12_value)), v12_7, v12_8, v12_9, v12_10, v12_11, v12_12, v12_13, v12_14, v12_15, v12_16, v12_17])), (q_1201, .inl (cA_1201, 8192, .inl fa12_bytes))] H := hP
              have hD : va_D A [(h0, .inr (7, [v12_0, .ref q_1201, .int (zI (z12_length)), .int (zI (z0_2025)), .int (zI (z12_kind)), .int (zI (z0_2025)), .int (zI (z12_value)), v12_7, v12_8, v12_9, v12_10, v12_11, v12_12, v12_13, v12_14, v12_15, v12_16, v12_17])), (q_1201, .inl (cA_1201, 8192, .inl fa12_bytes))] := hD
              have hK : va_K (dC, dI) vwP [(cA_1201, .byte)] s := hK
              refine W.widen (k := 0) (n := 0) (Nat.le_of_ble_eq_true rfl) (Nat.le_of_ble_eq_true rfl) ?_
              obtain rfl : r_2044 = (zI (dgF fa12_bytes z12_length (z0_2025 + 1))) := hw
              have := dgF_spec fa12_bytes z12_length (z0_2025 + 1)
              have := btF_rng fa12_bytes z12_length (z0_2025 + 1)
              refine lv_if_eq (tgt := 119) hx hb dX7_scan_109 (by decide) (fun b109 => ?_) (fun b109 => ?_)
              · have yb109 : (dgF fa12_bytes z12_length (z0_2025 + 1) : Int) = (0 : Int) := (zI_eq (a := dgF fa12_bytes z12_length (z0_2025 + 1)) (b := 0) (by omega) (by omega) (by omega) (by omega)).mp b109
                refine lv_aload_n hx hb dX7_scan_119 rfl (lv_at hl 1 rfl) ?_
                have hPc := hP.sub (ws' := [(h0, .inr (7, [v12_0, .ref q_1201, .int (zI (z12_length)), .int (zI (z0_2025)), .int (zI (z12_kind)), .int (zI (z0_2025)), .int (zI (z12_value)), v12_7, v12_8, v12_9, v12_10, v12_11, v12_12, v12_13, v12_14, v12_15, v12_16, v12_17])), (q_1201, .inl (cA_1201, 8192, .inl fa12_bytes))]) [0, 1] rfl
                have hDc := hD.sub (ws' := [(h0, .inr (7, [v12_0, .ref q_1201, .int (zI (z12_length)), .int (zI (z0_2025)), .int (zI (z12_kind)), .int (zI (z0_2025)), .int (zI (z12_value)), v12_7, v12_8, v12_9, v12_10, v12_11, v12_12, v12_13, v12_14, v12_15, v12_16, v12_17])), (q_1201, .inl (cA_1201, 8192, .inl fa12_bytes))]) [0, 1] (by decide) rfl
                have hKc := hK.sub (tys' := [(cA_1201, .byte)]) [0] rfl
                have hFc := va_free (wc := [(h0, .inr (7, [v12_0, .ref q_1201, .int (zI (z12_length)), .int (zI (z0_2025)), .int (zI (z12_kind)), .int (zI (z0_2025)), .int (zI (z12_value)), v12_7, v12_8, v12_9, v12_10, v12_11, v12_12, v12_13, v12_14, v12_15, v12_16, v12_17])), (q_1201, .inl (cA_1201, 8192, .inl fa12_bytes))]) hD hS hA [0, 1] rfl
                refine va_callv (va_runV (As := []) (rest := []) ⟨hx, hb, hml, hown, hts⟩ (c_X7_scanMark l dC dI h0 v12_0 z12_length z0_2025 z12_kind (.int (zI (z0_2025))) z12_value v12_7 v12_8 v12_9 v12_10 v12_11 v12_12 v12_13 v12_14 v12_15 v12_16 v12_17 q_1201 cA_1201 fa12_bytes (by omega) (by omega) (by omega) (by omega) (by omega) H.size) (cwV 0 hts g_X7_scan_X7_scanMark rfl rfl rfl (by decide +kernel) ⟨(Nat.le_of_ble_eq_true rfl), (Nat.le_of_ble_eq_true rfl)⟩) ⟨fun a U g mk q => by obtain ⟨q0, q1, qP, qK, qD⟩ := q; exact ⟨q0, q1, qP, va_K.moved (u := U) (U := U.calling g mk a) (Vm.Alike.refl U.vm) qK, qD⟩, va_recv hKc hPc (ci := 7) (q0 := 0) rfl rfl, fun U hU hW => ⟨rfl, by rw [hU], by rw [hU]; exact hPc, va_K.moved hW.alike hKc, hDc.weaken (fun _ _ _ _ => trivial)⟩⟩ rfl rfl hl.1 rfl (lv_room (Nat.le_of_ble_eq_true rfl)) dX7_scan_120 ⟨(Nat.le_of_ble_eq_true rfl), (Nat.le_of_ble_eq_true rfl)⟩) hS (fun q _ h => hFc q h) hFc (fun  u t H1 locs ht hvm hw hB hz1 hk1 hS => ?_)
                obtain ⟨z0_2045, z1_2046, z2_2047, hxt_2047, hP1, hK1, hD1⟩ := hB
                rw [ht] at hP1
                have hK1 := va_K.moved hvm.symm hK1
                obtain ⟨hP, hD⟩ := va_join (wr := []) (w1 := [(h0, .inr (7, [v12_0, .ref q_1201, .int (zI (z12_length)), .int (zI (z0_2045)), .int (zI (z1_2046)), .int (zI (z0_2025)), .int (zI (z2_2047)), v12_7, v12_8, v12_9, v12_10, v12_11, v12_12, v12_13, v12_14, v12_15, v12_16, v12_17])), (q_1201, .inl (cA_1201, 8192, .inl fa12_bytes))]) hP hD [0, 1] [] rfl rfl (by decide) (by decide) hk1 hFc hP1 hD1
                have hK := (hK.sub (tys' := []) [] rfl).app hK1
                generalize H1 = H at hP hS ⊢
                have hP : va_P (dC, dI) vwP [(h0, .inr (7, [v12_0, .ref q_1201, .int (zI (z12_length)), .int (zI (z0_2045)), .int (zI (z1_2046)), .int (zI (z0_2025)), .int (zI (z2_2047)), v12_7, v12_8, v12_9, v12_10, v12_11, v12_12, v12_13, v12_14, v12_15, v12_16, v12_17])), (q_1201, .inl (cA_1201, 8192, .inl fa12_bytes))] H := hP
                have hD : va_D A [(h0, .inr (7, [v12_0, .ref q_1201, .int (zI (z12_length)), .int (zI (z0_2045)), .int (zI (z1_2046)), .int (zI (z0_2025)), .int (zI (z2_2047)), v12_7, v12_8, v12_9, v12_10, v12_11, v12_12, v12_13, v12_14, v12_15, v12_16, v12_17])), (q_1201, .inl (cA_1201, 8192, .inl fa12_bytes))] := hD
                have hK : va_K (dC, dI) vwP [(cA_1201, .byte)] s := hK
                refine W.widen (k := 0) (n := 0) (Nat.le_of_ble_eq_true rfl) (Nat.le_of_ble_eq_true rfl) ?_
                obtain ⟨rk_2048, rk_2049, rk_2050, hu_2050⟩ := hxt_2047
                subst hQ
                refine W.widen (k := 0) (n := 0) (Nat.le_of_ble_eq_true rfl) (Nat.le_of_ble_eq_true rfl) ?_
                exact W.vret hx hb hr (fun t ht hW => ⟨⟨(), rfl, trivial, z0_2045, z1_2046, z0_2025, z2_2047, ⟨(by omega), (by omega), (by omega), (by omega), ⟨(by first | exact hu_2050.1 | (unfold RKV; omega)), by omega, by omega⟩⟩, by rw [ht]; exact hP, va_K.moved hW.alike hK, hD⟩, hS.F ht⟩) hS.2.2 dX7_scan_123
              · have yb109 : ¬ (dgF fa12_bytes z12_length (z0_2025 + 1) : Int) = (0 : Int) := fun q => b109 ((zI_eq (a := dgF fa12_bytes z12_length (z0_2025 + 1)) (b := 0) (by omega) (by omega) (by omega) (by omega)).mpr q)
                refine lv_aload_n hx hb dX7_scan_112 rfl (lv_at hl 1 rfl) ?_
                have hPc := hP.sub (ws' := [(h0, .inr (7, [v12_0, .ref q_1201, .int (zI (z12_length)), .int (zI (z0_2025)), .int (zI (z12_kind)), .int (zI (z0_2025)), .int (zI (z12_value)), v12_7, v12_8, v12_9, v12_10, v12_11, v12_12, v12_13, v12_14, v12_15, v12_16, v12_17])), (q_1201, .inl (cA_1201, 8192, .inl fa12_bytes))]) [0, 1] rfl
                have hDc := hD.sub (ws' := [(h0, .inr (7, [v12_0, .ref q_1201, .int (zI (z12_length)), .int (zI (z0_2025)), .int (zI (z12_kind)), .int (zI (z0_2025)), .int (zI (z12_value)), v12_7, v12_8, v12_9, v12_10, v12_11, v12_12, v12_13, v12_14, v12_15, v12_16, v12_17])), (q_1201, .inl (cA_1201, 8192, .inl fa12_bytes))]) [0, 1] (by decide) rfl
                have hKc := hK.sub (tys' := [(cA_1201, .byte)]) [0] rfl
                have hFc := va_free (wc := [(h0, .inr (7, [v12_0, .ref q_1201, .int (zI (z12_length)), .int (zI (z0_2025)), .int (zI (z12_kind)), .int (zI (z0_2025)), .int (zI (z12_value)), v12_7, v12_8, v12_9, v12_10, v12_11, v12_12, v12_13, v12_14, v12_15, v12_16, v12_17])), (q_1201, .inl (cA_1201, 8192, .inl fa12_bytes))]) hD hS hA [0, 1] rfl
                refine va_callv (va_runV (As := []) (rest := []) ⟨hx, hb, hml, hown, hts⟩ (c_X7_scanNumber l dC dI h0 v12_0 z12_length z0_2025 z12_kind (.int (zI (z0_2025))) z12_value v12_7 v12_8 v12_9 v12_10 v12_11 v12_12 v12_13 v12_14 v12_15 v12_16 v12_17 q_1201 cA_1201 fa12_bytes (by omega) (by omega) (by omega) (by omega) (by omega) H.size) (cwV 0 hts g_X7_scan_X7_scanNumber rfl rfl rfl (by decide +kernel) ⟨(Nat.le_of_ble_eq_true rfl), (Nat.le_of_ble_eq_true rfl)⟩) ⟨fun a U g mk q => by obtain ⟨q0, q1, qP, qK, qD⟩ := q; exact ⟨q0, q1, qP, va_K.moved (u := U) (U := U.calling g mk a) (Vm.Alike.refl U.vm) qK, qD⟩, va_recv hKc hPc (ci := 7) (q0 := 0) rfl rfl, fun U hU hW => ⟨rfl, by rw [hU], by rw [hU]; exact hPc, va_K.moved hW.alike hKc, hDc.weaken (fun _ _ _ _ => trivial)⟩⟩ rfl rfl hl.1 rfl (lv_room (Nat.le_of_ble_eq_true rfl)) dX7_scan_113 ⟨(Nat.le_of_ble_eq_true rfl), (Nat.le_of_ble_eq_true rfl)⟩) hS (fun q _ h => hFc q h) hFc (fun  u t H1 locs ht hvm hw hB hz1 hk1 hS => ?_)
                obtain ⟨z0_2051, z1_2052, z2_2053, hxt_2053, hP1, hK1, hD1⟩ := hB
                rw [ht] at hP1
                have hK1 := va_K.moved hvm.symm hK1
                obtain ⟨hP, hD⟩ := va_join (wr := []) (w1 := [(h0, .inr (7, [v12_0, .ref q_1201, .int (zI (z12_length)), .int (zI (z0_2051)), .int (zI (z1_2052)), .int (zI (z0_2025)), .int (zI (z2_2053)), v12_7, v12_8, v12_9, v12_10, v12_11, v12_12, v12_13, v12_14, v12_15, v12_16, v12_17])), (q_1201, .inl (cA_1201, 8192, .inl fa12_bytes))]) hP hD [0, 1] [] rfl rfl (by decide) (by decide) hk1 hFc hP1 hD1
                have hK := (hK.sub (tys' := []) [] rfl).app hK1
                generalize H1 = H at hP hS ⊢
                have hP : va_P (dC, dI) vwP [(h0, .inr (7, [v12_0, .ref q_1201, .int (zI (z12_length)), .int (zI (z0_2051)), .int (zI (z1_2052)), .int (zI (z0_2025)), .int (zI (z2_2053)), v12_7, v12_8, v12_9, v12_10, v12_11, v12_12, v12_13, v12_14, v12_15, v12_16, v12_17])), (q_1201, .inl (cA_1201, 8192, .inl fa12_bytes))] H := hP
                have hD : va_D A [(h0, .inr (7, [v12_0, .ref q_1201, .int (zI (z12_length)), .int (zI (z0_2051)), .int (zI (z1_2052)), .int (zI (z0_2025)), .int (zI (z2_2053)), v12_7, v12_8, v12_9, v12_10, v12_11, v12_12, v12_13, v12_14, v12_15, v12_16, v12_17])), (q_1201, .inl (cA_1201, 8192, .inl fa12_bytes))] := hD
                have hK : va_K (dC, dI) vwP [(cA_1201, .byte)] s := hK
                refine W.widen (k := 0) (n := 0) (Nat.le_of_ble_eq_true rfl) (Nat.le_of_ble_eq_true rfl) ?_
                obtain ⟨rk_2054, rk_2055, rk_2056, hu_2056⟩ := hxt_2053
                refine lv_goto (tgt := 123) hx hb dX7_scan_116 (by decide) ?_
                subst hQ
                refine W.widen (k := 0) (n := 0) (Nat.le_of_ble_eq_true rfl) (Nat.le_of_ble_eq_true rfl) ?_
                exact W.vret hx hb hr (fun t ht hW => ⟨⟨(), rfl, trivial, z0_2051, z1_2052, z0_2025, z2_2053, ⟨(by omega), (by omega), (by omega), (by omega), ⟨(by first | exact hu_2056.1 | (unfold RKV; omega)), by omega, by omega⟩⟩, by rw [ht]; exact hP, va_K.moved hW.alike hK, hD⟩, hS.F ht⟩) hS.2.2 dX7_scan_123
        · have yb61 : ¬ (z_2029 : Int) = (0 : Int) := fun q => b61 ((zI_eq (a := z_2029) (b := 0) (by omega) (by omega) (by omega) (by omega)).mpr q)
          refine lv_aload_n hx hb dX7_scan_64 rfl (lv_at hl 1 rfl) ?_
          have hPc := hP.sub (ws' := [(h0, .inr (7, [v12_0, .ref q_1201, .int (zI (z12_length)), .int (zI (z0_2025)), .int (zI (z12_kind)), .int (zI (z0_2025)), .int (zI (z12_value)), v12_7, v12_8, v12_9, v12_10, v12_11, v12_12, v12_13, v12_14, v12_15, v12_16, v12_17])), (q_1201, .inl (cA_1201, 8192, .inl fa12_bytes))]) [0, 1] rfl
          have hDc := hD.sub (ws' := [(h0, .inr (7, [v12_0, .ref q_1201, .int (zI (z12_length)), .int (zI (z0_2025)), .int (zI (z12_kind)), .int (zI (z0_2025)), .int (zI (z12_value)), v12_7, v12_8, v12_9, v12_10, v12_11, v12_12, v12_13, v12_14, v12_15, v12_16, v12_17])), (q_1201, .inl (cA_1201, 8192, .inl fa12_bytes))]) [0, 1] (by decide) rfl
          have hKc := hK.sub (tys' := [(cA_1201, .byte)]) [0] rfl
          have hFc := va_free (wc := [(h0, .inr (7, [v12_0, .ref q_1201, .int (zI (z12_length)), .int (zI (z0_2025)), .int (zI (z12_kind)), .int (zI (z0_2025)), .int (zI (z12_value)), v12_7, v12_8, v12_9, v12_10, v12_11, v12_12, v12_13, v12_14, v12_15, v12_16, v12_17])), (q_1201, .inl (cA_1201, 8192, .inl fa12_bytes))]) hD hS hA [0, 1] rfl
          refine va_callv (va_runV (As := []) (rest := []) ⟨hx, hb, hml, hown, hts⟩ (c_X7_scanWord l dC dI h0 v12_0 z12_length z0_2025 z12_kind z0_2025 z12_value v12_7 v12_8 v12_9 v12_10 v12_11 v12_12 v12_13 v12_14 v12_15 v12_16 v12_17 q_1201 cA_1201 fa12_bytes (by omega) (by omega) (by omega) (by omega) (by omega) (by omega) (by omega) H.size sa_RX7_128 sv_RX7_128 sx_fm sa_RX7_134 sv_RX7_134 sa_RX7_136 sv_RX7_136 sa_RX7_138 sv_RX7_138 sa_RX7_140 sv_RX7_140 sa_RX7_142 sv_RX7_142) (cwV 0 hts g_X7_scan_X7_scanWord rfl rfl rfl (by decide +kernel) ⟨(Nat.le_of_ble_eq_true rfl), (Nat.le_of_ble_eq_true rfl)⟩) ⟨fun a U g mk q => by obtain ⟨q0, q1, qP, qK, qD, e0, e1, e2, e3, e4, e5, e6, e7, e8, e9, e10, e11, e12, e13⟩ := q; exact ⟨q0, q1, qP, va_K.moved (u := U) (U := U.calling g mk a) (Vm.Alike.refl U.vm) qK, qD, vk_R.same (u := U) (U := U.calling g mk a) rfl e0, vs_S.moved (u := U) (U := U.calling g mk a) (Vm.Alike.refl U.vm) e1, va_Z.moved (u := U) (U := U.calling g mk a) (Vm.Alike.refl U.vm) e2, va_Z.moved (u := U) (U := U.calling g mk a) (Vm.Alike.refl U.vm) e3, vk_R.same (u := U) (U := U.calling g mk a) rfl e4, vs_S.moved (u := U) (U := U.calling g mk a) (Vm.Alike.refl U.vm) e5, vk_R.same (u := U) (U := U.calling g mk a) rfl e6, vs_S.moved (u := U) (U := U.calling g mk a) (Vm.Alike.refl U.vm) e7, vk_R.same (u := U) (U := U.calling g mk a) rfl e8, vs_S.moved (u := U) (U := U.calling g mk a) (Vm.Alike.refl U.vm) e9, vk_R.same (u := U) (U := U.calling g mk a) rfl e10, vs_S.moved (u := U) (U := U.calling g mk a) (Vm.Alike.refl U.vm) e11, vk_R.same (u := U) (U := U.calling g mk a) rfl e12, vs_S.moved (u := U) (U := U.calling g mk a) (Vm.Alike.refl U.vm) e13⟩, va_recv hKc hPc (ci := 7) (q0 := 0) rfl rfl, fun U hU hW => ⟨rfl, by rw [hU], by rw [hU]; exact hPc, va_K.moved hW.alike hKc, hDc.weaken (fun _ _ _ _ => trivial), vk_R.warm hW hp0, by rw [hU]; exact vs_S.narrow (vs_S.moved hW.alike (vs_S.kept hp1 hS.2.1)) hFc, by rw [hU]; exact va_Z.narrow (va_Z.moved hW.alike (va_Z.kept hp2 hS.2.1)) hFc, by rw [hU]; exact va_Z.narrow (va_Z.moved hW.alike (va_Z.kept hp3 hS.2.1)) hFc, vk_R.warm hW hp4, by rw [hU]; exact vs_S.narrow (vs_S.moved hW.alike (vs_S.kept hp5 hS.2.1)) hFc, vk_R.warm hW hp6, by rw [hU]; exact vs_S.narrow (vs_S.moved hW.alike (vs_S.kept hp7 hS.2.1)) hFc, vk_R.warm hW hp8, by rw [hU]; exact vs_S.narrow (vs_S.moved hW.alike (vs_S.kept hp9 hS.2.1)) hFc, vk_R.warm hW hp10, by rw [hU]; exact vs_S.narrow (vs_S.moved hW.alike (vs_S.kept hp11 hS.2.1)) hFc, vk_R.warm hW hp12, by rw [hU]; exact vs_S.narrow (vs_S.moved hW.alike (vs_S.kept hp13 hS.2.1)) hFc⟩⟩ rfl rfl hl.1 rfl (lv_room (Nat.le_of_ble_eq_true rfl)) dX7_scan_65 ⟨(Nat.le_of_ble_eq_true rfl), (Nat.le_of_ble_eq_true rfl)⟩) hS (fun q _ h => hFc q h) hFc (fun  u t H1 locs ht hvm hw hB hz1 hk1 hS => ?_)
          obtain ⟨z0_2057, z1_2058, z2_2059, hxt_2059, hP1, hK1, hD1⟩ := hB
          rw [ht] at hP1
          have hK1 := va_K.moved hvm.symm hK1
          obtain ⟨hP, hD⟩ := va_join (wr := []) (w1 := [(h0, .inr (7, [v12_0, .ref q_1201, .int (zI (z12_length)), .int (zI (z0_2057)), .int (zI (z1_2058)), .int (zI (z0_2025)), .int (zI (z2_2059)), v12_7, v12_8, v12_9, v12_10, v12_11, v12_12, v12_13, v12_14, v12_15, v12_16, v12_17])), (q_1201, .inl (cA_1201, 8192, .inl fa12_bytes))]) hP hD [0, 1] [] rfl rfl (by decide) (by decide) hk1 hFc hP1 hD1
          have hK := (hK.sub (tys' := []) [] rfl).app hK1
          generalize H1 = H at hP hS ⊢
          have hP : va_P (dC, dI) vwP [(h0, .inr (7, [v12_0, .ref q_1201, .int (zI (z12_length)), .int (zI (z0_2057)), .int (zI (z1_2058)), .int (zI (z0_2025)), .int (zI (z2_2059)), v12_7, v12_8, v12_9, v12_10, v12_11, v12_12, v12_13, v12_14, v12_15, v12_16, v12_17])), (q_1201, .inl (cA_1201, 8192, .inl fa12_bytes))] H := hP
          have hD : va_D A [(h0, .inr (7, [v12_0, .ref q_1201, .int (zI (z12_length)), .int (zI (z0_2057)), .int (zI (z1_2058)), .int (zI (z0_2025)), .int (zI (z2_2059)), v12_7, v12_8, v12_9, v12_10, v12_11, v12_12, v12_13, v12_14, v12_15, v12_16, v12_17])), (q_1201, .inl (cA_1201, 8192, .inl fa12_bytes))] := hD
          have hK : va_K (dC, dI) vwP [(cA_1201, .byte)] s := hK
          refine W.widen (k := 0) (n := 0) (Nat.le_of_ble_eq_true rfl) (Nat.le_of_ble_eq_true rfl) ?_
          obtain ⟨rk_2060, rk_2061, rk_2062, hu_2062⟩ := hxt_2059
          refine lv_goto (tgt := 123) hx hb dX7_scan_68 (by decide) ?_
          subst hQ
          refine W.widen (k := 0) (n := 0) (Nat.le_of_ble_eq_true rfl) (Nat.le_of_ble_eq_true rfl) ?_
          exact W.vret hx hb hr (fun t ht hW => ⟨⟨(), rfl, trivial, z0_2057, z1_2058, z0_2025, z2_2059, ⟨(by omega), (by omega), (by omega), (by omega), ⟨(by first | exact hu_2062.1 | (unfold RKV; omega)), by omega, by omega⟩⟩, by rw [ht]; exact hP, va_K.moved hW.alike hK, hD⟩, hS.F ht⟩) hS.2.2 dX7_scan_123
      · have yb42 : ¬ (z0_2025 : Int) < (z12_length : Int) := fun q => b42 ((zI_lt (a := z0_2025) (b := z12_length) (by omega) (by omega) (by omega) (by omega)).mpr q)
        refine lv_aload_n hx hb dX7_scan_45 rfl (lv_at hl 1 rfl) ?_
        refine lv_iconst (v := 1) hx hb dX7_scan_46 (by decide) ?_
        refine va_put (D := (dC, dI)) (ci := 7) (v := .int 1) (ty := .int) (C := RX7) (T := TX7) (N := 18) hx hb hts mem_X7_scan_0 tyX7 tyX7_ok nmX7 hown hK hP hD hS 0 rfl rfl 4 (by decide) (ow (k := 0) rfl) (fun _ h9 => h9) rfl (by decide +kernel) rfl rfl (Nat.le_of_ble_eq_true rfl) dX7_scan_47 (fun H locs hP hD hS => ?_)
        have hP : va_P (dC, dI) vwP [(h0, .inr (7, [v12_0, .ref q_1201, .int (zI (z12_length)), .int (zI (z0_2025)), .int 1, .int (zI (z0_2025)), .int (zI (z12_value)), v12_7, v12_8, v12_9, v12_10, v12_11, v12_12, v12_13, v12_14, v12_15, v12_16, v12_17])), (q_1201, .inl (cA_1201, 8192, .inl fa12_bytes))] H := hP
        have hD : va_D A [(h0, .inr (7, [v12_0, .ref q_1201, .int (zI (z12_length)), .int (zI (z0_2025)), .int 1, .int (zI (z0_2025)), .int (zI (z12_value)), v12_7, v12_8, v12_9, v12_10, v12_11, v12_12, v12_13, v12_14, v12_15, v12_16, v12_17])), (q_1201, .inl (cA_1201, 8192, .inl fa12_bytes))] := hD
        refine lv_goto (tgt := 123) hx hb dX7_scan_50 (by decide) ?_
        subst hQ
        refine W.widen (k := 0) (n := 0) (Nat.le_of_ble_eq_true rfl) (Nat.le_of_ble_eq_true rfl) ?_
        exact W.vret hx hb hr (fun t ht hW => ⟨⟨(), rfl, trivial, z0_2025, 1, z0_2025, z12_value, ⟨(by omega), (by omega), (by omega), (by omega), ⟨(by first | exact hu_2062.1 | (unfold RKV; omega)), by omega, by omega⟩⟩, by rw [ht]; exact hP, va_K.moved hW.alike hK, hD⟩, hS.F ht⟩) hS.2.2 dX7_scan_123
    · have yb13 : (z12_kind : Int) = (3 : Int) := (zI_eq (a := z12_kind) (b := 3) (by omega) (by omega) (by omega) (by omega)).mp b13
      refine lv_iconst (v := 1) hx hb dX7_scan_16 (by decide) ?_
      refine lv_goto (tgt := 21) hx hb dX7_scan_17 (by decide) ?_
      refine lv_istore_n (lv' := [(1, .int 1), (0, .ref h0)]) hx hb dX7_scan_21 rfl hl (by decide) rfl (fun ls hl => ?_)
      refine lv_aload_n hx hb dX7_scan_22 rfl (lv_at hl 1 rfl) ?_
      have hPc := hP.sub (ws' := [(h0, .inr (7, [v12_0, .ref q_1201, .int (zI (z12_length)), .int (zI (z12_at)), .int (zI (z12_kind)), .int (zI (z12_place)), .int (zI (z12_value)), v12_7, v12_8, v12_9, v12_10, v12_11, v12_12, v12_13, v12_14, v12_15, v12_16, v12_17])), (q_1201, .inl (cA_1201, 8192, .inl fa12_bytes))]) [0, 1] rfl
      have hDc := hD.sub (ws' := [(h0, .inr (7, [v12_0, .ref q_1201, .int (zI (z12_length)), .int (zI (z12_at)), .int (zI (z12_kind)), .int (zI (z12_place)), .int (zI (z12_value)), v12_7, v12_8, v12_9, v12_10, v12_11, v12_12, v12_13, v12_14, v12_15, v12_16, v12_17])), (q_1201, .inl (cA_1201, 8192, .inl fa12_bytes))]) [0, 1] (by decide) rfl
      have hKc := hK.sub (tys' := [(cA_1201, .byte)]) [0] rfl
      have hFc := va_free (wc := [(h0, .inr (7, [v12_0, .ref q_1201, .int (zI (z12_length)), .int (zI (z12_at)), .int (zI (z12_kind)), .int (zI (z12_place)), .int (zI (z12_value)), v12_7, v12_8, v12_9, v12_10, v12_11, v12_12, v12_13, v12_14, v12_15, v12_16, v12_17])), (q_1201, .inl (cA_1201, 8192, .inl fa12_bytes))]) hD hS hA [0, 1] rfl
      refine va_callv (va_runV (As := []) (rest := []) ⟨hx, hb, hml, hown, hts⟩ (c_X7_skipBlanks l dC dI h0 v12_0 z12_length z12_at (.int (zI (z12_kind))) (.int (zI (z12_place))) (.int (zI (z12_value))) v12_7 v12_8 v12_9 v12_10 v12_11 v12_12 v12_13 v12_14 v12_15 v12_16 v12_17 q_1201 cA_1201 fa12_bytes (by omega) (by omega) (by omega) H.size) (cwV 0 hts g_X7_scan_X7_skipBlanks rfl rfl rfl (by decide +kernel) ⟨(Nat.le_of_ble_eq_true rfl), (Nat.le_of_ble_eq_true rfl)⟩) ⟨fun a U g mk q => by obtain ⟨q0, q1, qP, qK, qD⟩ := q; exact ⟨q0, q1, qP, va_K.moved (u := U) (U := U.calling g mk a) (Vm.Alike.refl U.vm) qK, qD⟩, va_recv hKc hPc (ci := 7) (q0 := 0) rfl rfl, fun U hU hW => ⟨rfl, by rw [hU], by rw [hU]; exact hPc, va_K.moved hW.alike hKc, hDc.weaken (fun _ _ _ _ => trivial)⟩⟩ rfl rfl hl.1 rfl (lv_room (Nat.le_of_ble_eq_true rfl)) dX7_scan_23 ⟨(Nat.le_of_ble_eq_true rfl), (Nat.le_of_ble_eq_true rfl)⟩) hS (fun q _ h => hFc q h) hFc (fun  u t H1 locs ht hvm hw hB hz1 hk1 hS => ?_)
      obtain ⟨z0_2063, hxt_2063, hP1, hK1, hD1⟩ := hB
      rw [ht] at hP1
      have hK1 := va_K.moved hvm.symm hK1
      obtain ⟨hP, hD⟩ := va_join (wr := []) (w1 := [(h0, .inr (7, [v12_0, .ref q_1201, .int (zI (z12_length)), .int (zI (z0_2063)), .int (zI (z12_kind)), .int (zI (z12_place)), .int (zI (z12_value)), v12_7, v12_8, v12_9, v12_10, v12_11, v12_12, v12_13, v12_14, v12_15, v12_16, v12_17])), (q_1201, .inl (cA_1201, 8192, .inl fa12_bytes))]) hP hD [0, 1] [] rfl rfl (by decide) (by decide) hk1 hFc hP1 hD1
      have hK := (hK.sub (tys' := []) [] rfl).app hK1
      generalize H1 = H at hP hS ⊢
      have hP : va_P (dC, dI) vwP [(h0, .inr (7, [v12_0, .ref q_1201, .int (zI (z12_length)), .int (zI (z0_2063)), .int (zI (z12_kind)), .int (zI (z12_place)), .int (zI (z12_value)), v12_7, v12_8, v12_9, v12_10, v12_11, v12_12, v12_13, v12_14, v12_15, v12_16, v12_17])), (q_1201, .inl (cA_1201, 8192, .inl fa12_bytes))] H := hP
      have hD : va_D A [(h0, .inr (7, [v12_0, .ref q_1201, .int (zI (z12_length)), .int (zI (z0_2063)), .int (zI (z12_kind)), .int (zI (z12_place)), .int (zI (z12_value)), v12_7, v12_8, v12_9, v12_10, v12_11, v12_12, v12_13, v12_14, v12_15, v12_16, v12_17])), (q_1201, .inl (cA_1201, 8192, .inl fa12_bytes))] := hD
      have hK : va_K (dC, dI) vwP [(cA_1201, .byte)] s := hK
      refine W.widen (k := 0) (n := 0) (Nat.le_of_ble_eq_true rfl) (Nat.le_of_ble_eq_true rfl) ?_
      obtain ⟨rk_2064, hu_2064⟩ := hxt_2063
      refine lv_aload_n hx hb dX7_scan_26 rfl (lv_at hl 1 rfl) ?_
      refine lv_aload_n hx hb dX7_scan_27 rfl (lv_at hl 1 rfl) ?_
      refine va_get (D := (dC, dI)) (ci := 7) (v := .int (zI (z0_2063))) (C := RX7) (T := TX7) (N := 18) hx hb hts mem_X7_scan_0 hown hK hP 0 rfl rfl 3 (by decide) (ow (k := 5) rfl) (fun _ h9 => h9) rfl dX7_scan_28 ?_
      refine va_put (D := (dC, dI)) (ci := 7) (v := .int (zI (z0_2063))) (ty := .int) (C := RX7) (T := TX7) (N := 18) hx hb hts mem_X7_scan_0 tyX7 tyX7_ok nmX7 hown hK hP hD hS 0 rfl rfl 5 (by decide) (ow (k := 6) rfl) (fun _ h9 => h9) rfl (by decide +kernel) rfl rfl (Nat.le_of_ble_eq_true rfl) dX7_scan_31 (fun H locs hP hD hS => ?_)
      have hP : va_P (dC, dI) vwP [(h0, .inr (7, [v12_0, .ref q_1201, .int (zI (z12_length)), .int (zI (z0_2063)), .int (zI (z12_kind)), .int (zI (z0_2063)), .int (zI (z12_value)), v12_7, v12_8, v12_9, v12_10, v12_11, v12_12, v12_13, v12_14, v12_15, v12_16, v12_17])), (q_1201, .inl (cA_1201, 8192, .inl fa12_bytes))] H := hP
      have hD : va_D A [(h0, .inr (7, [v12_0, .ref q_1201, .int (zI (z12_length)), .int (zI (z0_2063)), .int (zI (z12_kind)), .int (zI (z0_2063)), .int (zI (z12_value)), v12_7, v12_8, v12_9, v12_10, v12_11, v12_12, v12_13, v12_14, v12_15, v12_16, v12_17])), (q_1201, .inl (cA_1201, 8192, .inl fa12_bytes))] := hD
      refine lv_aload_n hx hb dX7_scan_34 rfl (lv_at hl 1 rfl) ?_
      refine va_get (D := (dC, dI)) (ci := 7) (v := .int (zI (z0_2063))) (C := RX7) (T := TX7) (N := 18) hx hb hts mem_X7_scan_0 hown hK hP 0 rfl rfl 3 (by decide) (ow (k := 5) rfl) (fun _ h9 => h9) rfl dX7_scan_35 ?_
      refine lv_aload_n hx hb dX7_scan_38 rfl (lv_at hl 1 rfl) ?_
      refine va_get (D := (dC, dI)) (ci := 7) (v := .int (zI (z12_length))) (C := RX7) (T := TX7) (N := 18) hx hb hts mem_X7_scan_0 hown hK hP 0 rfl rfl 2 (by decide) (ow (k := 7) rfl) (fun _ h9 => h9) rfl dX7_scan_39 ?_
      refine lv_icmp_lt (tgt := 53) hx hb dX7_scan_42 (by decide) (fun b42 => ?_) (fun b42 => ?_)
      · have yb42 : (z0_2063 : Int) < (z12_length : Int) := (zI_lt (a := z0_2063) (b := z12_length) (by omega) (by omega) (by omega) (by omega)).mp b42
        refine lv_aload_n hx hb dX7_scan_53 rfl (lv_at hl 1 rfl) ?_
        refine lv_aload_n hx hb dX7_scan_54 rfl (lv_at hl 1 rfl) ?_
        refine va_get (D := (dC, dI)) (ci := 7) (v := .int (zI (z0_2063))) (C := RX7) (T := TX7) (N := 18) hx hb hts mem_X7_scan_0 hown hK hP 0 rfl rfl 3 (by decide) (ow (k := 5) rfl) (fun _ h9 => h9) rfl dX7_scan_55 ?_
        have hPc := hP.sub (ws' := [(h0, .inr (7, [v12_0, .ref q_1201, .int (zI (z12_length)), .int (zI (z0_2063)), .int (zI (z12_kind)), .int (zI (z0_2063)), .int (zI (z12_value)), v12_7, v12_8, v12_9, v12_10, v12_11, v12_12, v12_13, v12_14, v12_15, v12_16, v12_17])), (q_1201, .inl (cA_1201, 8192, .inl fa12_bytes))]) [0, 1] rfl
        have hDc := hD.sub (ws' := [(h0, .inr (7, [v12_0, .ref q_1201, .int (zI (z12_length)), .int (zI (z0_2063)), .int (zI (z12_kind)), .int (zI (z0_2063)), .int (zI (z12_value)), v12_7, v12_8, v12_9, v12_10, v12_11, v12_12, v12_13, v12_14, v12_15, v12_16, v12_17])), (q_1201, .inl (cA_1201, 8192, .inl fa12_bytes))]) [0, 1] (by decide) rfl
        have hKc := hK.sub (tys' := [(cA_1201, .byte)]) [0] rfl
        have hFc := va_free (wc := [(h0, .inr (7, [v12_0, .ref q_1201, .int (zI (z12_length)), .int (zI (z0_2063)), .int (zI (z12_kind)), .int (zI (z0_2063)), .int (zI (z12_value)), v12_7, v12_8, v12_9, v12_10, v12_11, v12_12, v12_13, v12_14, v12_15, v12_16, v12_17])), (q_1201, .inl (cA_1201, 8192, .inl fa12_bytes))]) hD hS hA [0, 1] rfl
        refine va_calli (va_runV (As := [.int (zI (z0_2063))]) (rest := []) ⟨hx, hb, hml, hown, hts⟩ (c_X7_letterAt l dC dI h0 v12_0 z12_length (.int (zI (z0_2063))) (.int (zI (z12_kind))) (.int (zI (z0_2063))) (.int (zI (z12_value))) v12_7 v12_8 v12_9 v12_10 v12_11 v12_12 v12_13 v12_14 v12_15 v12_16 v12_17 q_1201 cA_1201 fa12_bytes z0_2063 (by omega) (by omega) H.size) (cwV 1 hts g_X7_scan_X7_letterAt rfl rfl rfl (by decide +kernel) ⟨(Nat.le_of_ble_eq_true rfl), (Nat.le_of_ble_eq_true rfl)⟩) ⟨fun a U g mk q => by obtain ⟨q0, q1, qP, qK, qD⟩ := q; exact ⟨q0, q1, qP, va_K.moved (u := U) (U := U.calling g mk a) (Vm.Alike.refl U.vm) qK, qD⟩, va_recv hKc hPc (ci := 7) (q0 := 0) rfl rfl, fun U hU hW => ⟨rfl, by rw [hU], by rw [hU]; exact hPc, va_K.moved hW.alike hKc, hDc.weaken (fun _ _ _ _ => trivial)⟩⟩ rfl rfl hl.1 rfl (lv_room (Nat.le_of_ble_eq_true rfl)) dX7_scan_58 ⟨(Nat.le_of_ble_eq_true rfl), (Nat.le_of_ble_eq_true rfl)⟩) hS (fun q _ h => hFc q h) hFc (fun r_2065 u t H1 locs ht hvm hw hB hz1 hk1 hS => ?_)
        obtain ⟨hP1, hK1, hD1⟩ := hB
        rw [ht] at hP1
        have hK1 := va_K.moved hvm.symm hK1
        obtain ⟨hP, hD⟩ := va_join (wr := []) (w1 := [(h0, .inr (7, [v12_0, .ref q_1201, .int (zI (z12_length)), .int (zI (z0_2063)), .int (zI (z12_kind)), .int (zI (z0_2063)), .int (zI (z12_value)), v12_7, v12_8, v12_9, v12_10, v12_11, v12_12, v12_13, v12_14, v12_15, v12_16, v12_17])), (q_1201, .inl (cA_1201, 8192, .inl fa12_bytes))]) hP hD [0, 1] [] rfl rfl (by decide) (by decide) hk1 hFc hP1 hD1
        have hK := (hK.sub (tys' := []) [] rfl).app hK1
        generalize H1 = H at hP hS ⊢
        have hP : va_P (dC, dI) vwP [(h0, .inr (7, [v12_0, .ref q_1201, .int (zI (z12_length)), .int (zI (z0_2063)), .int (zI (z12_kind)), .int (zI (z0_2063)), .int (zI (z12_value)), v12_7, v12_8, v12_9, v12_10, v12_11, v12_12, v12_13, v12_14, v12_15, v12_16, v12_17])), (q_1201, .inl (cA_1201, 8192, .inl fa12_bytes))] H := hP
        have hD : va_D A [(h0, .inr (7, [v12_0, .ref q_1201, .int (zI (z12_length)), .int (zI (z0_2063)), .int (zI (z12_kind)), .int (zI (z0_2063)), .int (zI (z12_value)), v12_7, v12_8, v12_9, v12_10, v12_11, v12_12, v12_13, v12_14, v12_15, v12_16, v12_17])), (q_1201, .inl (cA_1201, 8192, .inl fa12_bytes))] := hD
        have hK : va_K (dC, dI) vwP [(cA_1201, .byte)] s := hK
        refine W.widen (k := 0) (n := 0) (Nat.le_of_ble_eq_true rfl) (Nat.le_of_ble_eq_true rfl) ?_
        have hw_2066 := hw
        obtain ⟨z_2067, rfl, hzz_2067⟩ := hw_2066
        refine lv_if_eq (tgt := 71) hx hb dX7_scan_61 (by decide) (fun b61 => ?_) (fun b61 => ?_)
        · have yb61 : (z_2067 : Int) = (0 : Int) := (zI_eq (a := z_2067) (b := 0) (by omega) (by omega) (by omega) (by omega)).mp b61
          refine lv_aload_n hx hb dX7_scan_71 rfl (lv_at hl 1 rfl) ?_
          refine lv_aload_n hx hb dX7_scan_72 rfl (lv_at hl 1 rfl) ?_
          refine va_get (D := (dC, dI)) (ci := 7) (v := .int (zI (z0_2063))) (C := RX7) (T := TX7) (N := 18) hx hb hts mem_X7_scan_0 hown hK hP 0 rfl rfl 3 (by decide) (ow (k := 5) rfl) (fun _ h9 => h9) rfl dX7_scan_73 ?_
          have hPc := hP.sub (ws' := [(h0, .inr (7, [v12_0, .ref q_1201, .int (zI (z12_length)), .int (zI (z0_2063)), .int (zI (z12_kind)), .int (zI (z0_2063)), .int (zI (z12_value)), v12_7, v12_8, v12_9, v12_10, v12_11, v12_12, v12_13, v12_14, v12_15, v12_16, v12_17])), (q_1201, .inl (cA_1201, 8192, .inl fa12_bytes))]) [0, 1] rfl
          have hDc := hD.sub (ws' := [(h0, .inr (7, [v12_0, .ref q_1201, .int (zI (z12_length)), .int (zI (z0_2063)), .int (zI (z12_kind)), .int (zI (z0_2063)), .int (zI (z12_value)), v12_7, v12_8, v12_9, v12_10, v12_11, v12_12, v12_13, v12_14, v12_15, v12_16, v12_17])), (q_1201, .inl (cA_1201, 8192, .inl fa12_bytes))]) [0, 1] (by decide) rfl
          have hKc := hK.sub (tys' := [(cA_1201, .byte)]) [0] rfl
          have hFc := va_free (wc := [(h0, .inr (7, [v12_0, .ref q_1201, .int (zI (z12_length)), .int (zI (z0_2063)), .int (zI (z12_kind)), .int (zI (z0_2063)), .int (zI (z12_value)), v12_7, v12_8, v12_9, v12_10, v12_11, v12_12, v12_13, v12_14, v12_15, v12_16, v12_17])), (q_1201, .inl (cA_1201, 8192, .inl fa12_bytes))]) hD hS hA [0, 1] rfl
          refine va_calli (va_runV (As := [.int (zI (z0_2063))]) (rest := []) ⟨hx, hb, hml, hown, hts⟩ (c_X7_digitAt l dC dI h0 v12_0 z12_length (.int (zI (z0_2063))) (.int (zI (z12_kind))) (.int (zI (z0_2063))) (.int (zI (z12_value))) v12_7 v12_8 v12_9 v12_10 v12_11 v12_12 v12_13 v12_14 v12_15 v12_16 v12_17 q_1201 cA_1201 fa12_bytes z0_2063 (by omega) (by omega) H.size) (cwV 1 hts g_X7_scan_X7_digitAt rfl rfl rfl (by decide +kernel) ⟨(Nat.le_of_ble_eq_true rfl), (Nat.le_of_ble_eq_true rfl)⟩) ⟨fun a U g mk q => by obtain ⟨q0, q1, qP, qK, qD⟩ := q; exact ⟨q0, q1, qP, va_K.moved (u := U) (U := U.calling g mk a) (Vm.Alike.refl U.vm) qK, qD⟩, va_recv hKc hPc (ci := 7) (q0 := 0) rfl rfl, fun U hU hW => ⟨rfl, by rw [hU], by rw [hU]; exact hPc, va_K.moved hW.alike hKc, hDc.weaken (fun _ _ _ _ => trivial)⟩⟩ rfl rfl hl.1 rfl (lv_room (Nat.le_of_ble_eq_true rfl)) dX7_scan_76 ⟨(Nat.le_of_ble_eq_true rfl), (Nat.le_of_ble_eq_true rfl)⟩) hS (fun q _ h => hFc q h) hFc (fun r_2068 u t H1 locs ht hvm hw hB hz1 hk1 hS => ?_)
          obtain ⟨hP1, hK1, hD1⟩ := hB
          rw [ht] at hP1
          have hK1 := va_K.moved hvm.symm hK1
          obtain ⟨hP, hD⟩ := va_join (wr := []) (w1 := [(h0, .inr (7, [v12_0, .ref q_1201, .int (zI (z12_length)), .int (zI (z0_2063)), .int (zI (z12_kind)), .int (zI (z0_2063)), .int (zI (z12_value)), v12_7, v12_8, v12_9, v12_10, v12_11, v12_12, v12_13, v12_14, v12_15, v12_16, v12_17])), (q_1201, .inl (cA_1201, 8192, .inl fa12_bytes))]) hP hD [0, 1] [] rfl rfl (by decide) (by decide) hk1 hFc hP1 hD1
          have hK := (hK.sub (tys' := []) [] rfl).app hK1
          generalize H1 = H at hP hS ⊢
          have hP : va_P (dC, dI) vwP [(h0, .inr (7, [v12_0, .ref q_1201, .int (zI (z12_length)), .int (zI (z0_2063)), .int (zI (z12_kind)), .int (zI (z0_2063)), .int (zI (z12_value)), v12_7, v12_8, v12_9, v12_10, v12_11, v12_12, v12_13, v12_14, v12_15, v12_16, v12_17])), (q_1201, .inl (cA_1201, 8192, .inl fa12_bytes))] H := hP
          have hD : va_D A [(h0, .inr (7, [v12_0, .ref q_1201, .int (zI (z12_length)), .int (zI (z0_2063)), .int (zI (z12_kind)), .int (zI (z0_2063)), .int (zI (z12_value)), v12_7, v12_8, v12_9, v12_10, v12_11, v12_12, v12_13, v12_14, v12_15, v12_16, v12_17])), (q_1201, .inl (cA_1201, 8192, .inl fa12_bytes))] := hD
          have hK : va_K (dC, dI) vwP [(cA_1201, .byte)] s := hK
          refine W.widen (k := 0) (n := 0) (Nat.le_of_ble_eq_true rfl) (Nat.le_of_ble_eq_true rfl) ?_
          obtain rfl : r_2068 = (zI (dgF fa12_bytes z12_length (z0_2063))) := hw
          have := dgF_spec fa12_bytes z12_length (z0_2063)
          have := btF_rng fa12_bytes z12_length (z0_2063)
          refine lv_if_ne (tgt := 112) hx hb dX7_scan_79 (by decide) (fun b79 => ?_) (fun b79 => ?_)
          · have yb79 : ¬ (dgF fa12_bytes z12_length (z0_2063) : Int) = (0 : Int) := fun q => b79 ((zI_eq (a := dgF fa12_bytes z12_length (z0_2063)) (b := 0) (by omega) (by omega) (by omega) (by omega)).mpr q)
            refine lv_aload_n hx hb dX7_scan_112 rfl (lv_at hl 1 rfl) ?_
            have hPc := hP.sub (ws' := [(h0, .inr (7, [v12_0, .ref q_1201, .int (zI (z12_length)), .int (zI (z0_2063)), .int (zI (z12_kind)), .int (zI (z0_2063)), .int (zI (z12_value)), v12_7, v12_8, v12_9, v12_10, v12_11, v12_12, v12_13, v12_14, v12_15, v12_16, v12_17])), (q_1201, .inl (cA_1201, 8192, .inl fa12_bytes))]) [0, 1] rfl
            have hDc := hD.sub (ws' := [(h0, .inr (7, [v12_0, .ref q_1201, .int (zI (z12_length)), .int (zI (z0_2063)), .int (zI (z12_kind)), .int (zI (z0_2063)), .int (zI (z12_value)), v12_7, v12_8, v12_9, v12_10, v12_11, v12_12, v12_13, v12_14, v12_15, v12_16, v12_17])), (q_1201, .inl (cA_1201, 8192, .inl fa12_bytes))]) [0, 1] (by decide) rfl
            have hKc := hK.sub (tys' := [(cA_1201, .byte)]) [0] rfl
            have hFc := va_free (wc := [(h0, .inr (7, [v12_0, .ref q_1201, .int (zI (z12_length)), .int (zI (z0_2063)), .int (zI (z12_kind)), .int (zI (z0_2063)), .int (zI (z12_value)), v12_7, v12_8, v12_9, v12_10, v12_11, v12_12, v12_13, v12_14, v12_15, v12_16, v12_17])), (q_1201, .inl (cA_1201, 8192, .inl fa12_bytes))]) hD hS hA [0, 1] rfl
            refine va_callv (va_runV (As := []) (rest := []) ⟨hx, hb, hml, hown, hts⟩ (c_X7_scanNumber l dC dI h0 v12_0 z12_length z0_2063 z12_kind (.int (zI (z0_2063))) z12_value v12_7 v12_8 v12_9 v12_10 v12_11 v12_12 v12_13 v12_14 v12_15 v12_16 v12_17 q_1201 cA_1201 fa12_bytes (by omega) (by omega) (by omega) (by omega) (by omega) H.size) (cwV 0 hts g_X7_scan_X7_scanNumber rfl rfl rfl (by decide +kernel) ⟨(Nat.le_of_ble_eq_true rfl), (Nat.le_of_ble_eq_true rfl)⟩) ⟨fun a U g mk q => by obtain ⟨q0, q1, qP, qK, qD⟩ := q; exact ⟨q0, q1, qP, va_K.moved (u := U) (U := U.calling g mk a) (Vm.Alike.refl U.vm) qK, qD⟩, va_recv hKc hPc (ci := 7) (q0 := 0) rfl rfl, fun U hU hW => ⟨rfl, by rw [hU], by rw [hU]; exact hPc, va_K.moved hW.alike hKc, hDc.weaken (fun _ _ _ _ => trivial)⟩⟩ rfl rfl hl.1 rfl (lv_room (Nat.le_of_ble_eq_true rfl)) dX7_scan_113 ⟨(Nat.le_of_ble_eq_true rfl), (Nat.le_of_ble_eq_true rfl)⟩) hS (fun q _ h => hFc q h) hFc (fun  u t H1 locs ht hvm hw hB hz1 hk1 hS => ?_)
            obtain ⟨z0_2069, z1_2070, z2_2071, hxt_2071, hP1, hK1, hD1⟩ := hB
            rw [ht] at hP1
            have hK1 := va_K.moved hvm.symm hK1
            obtain ⟨hP, hD⟩ := va_join (wr := []) (w1 := [(h0, .inr (7, [v12_0, .ref q_1201, .int (zI (z12_length)), .int (zI (z0_2069)), .int (zI (z1_2070)), .int (zI (z0_2063)), .int (zI (z2_2071)), v12_7, v12_8, v12_9, v12_10, v12_11, v12_12, v12_13, v12_14, v12_15, v12_16, v12_17])), (q_1201, .inl (cA_1201, 8192, .inl fa12_bytes))]) hP hD [0, 1] [] rfl rfl (by decide) (by decide) hk1 hFc hP1 hD1
            have hK := (hK.sub (tys' := []) [] rfl).app hK1
            generalize H1 = H at hP hS ⊢
            have hP : va_P (dC, dI) vwP [(h0, .inr (7, [v12_0, .ref q_1201, .int (zI (z12_length)), .int (zI (z0_2069)), .int (zI (z1_2070)), .int (zI (z0_2063)), .int (zI (z2_2071)), v12_7, v12_8, v12_9, v12_10, v12_11, v12_12, v12_13, v12_14, v12_15, v12_16, v12_17])), (q_1201, .inl (cA_1201, 8192, .inl fa12_bytes))] H := hP
            have hD : va_D A [(h0, .inr (7, [v12_0, .ref q_1201, .int (zI (z12_length)), .int (zI (z0_2069)), .int (zI (z1_2070)), .int (zI (z0_2063)), .int (zI (z2_2071)), v12_7, v12_8, v12_9, v12_10, v12_11, v12_12, v12_13, v12_14, v12_15, v12_16, v12_17])), (q_1201, .inl (cA_1201, 8192, .inl fa12_bytes))] := hD
            have hK : va_K (dC, dI) vwP [(cA_1201, .byte)] s := hK
            refine W.widen (k := 0) (n := 0) (Nat.le_of_ble_eq_true rfl) (Nat.le_of_ble_eq_true rfl) ?_
            obtain ⟨rk_2072, rk_2073, rk_2074, hu_2074⟩ := hxt_2071
            refine lv_goto (tgt := 123) hx hb dX7_scan_116 (by decide) ?_
            subst hQ
            refine W.widen (k := 0) (n := 0) (Nat.le_of_ble_eq_true rfl) (Nat.le_of_ble_eq_true rfl) ?_
            exact W.vret hx hb hr (fun t ht hW => ⟨⟨(), rfl, trivial, z0_2069, z1_2070, z0_2063, z2_2071, ⟨(by omega), (by omega), (by omega), (by omega), ⟨(by first | exact hu_2074.1 | (unfold RKV; omega)), by omega, by omega⟩⟩, by rw [ht]; exact hP, va_K.moved hW.alike hK, hD⟩, hS.F ht⟩) hS.2.2 dX7_scan_123
          · have yb79 : (dgF fa12_bytes z12_length (z0_2063) : Int) = (0 : Int) := (zI_eq (a := dgF fa12_bytes z12_length (z0_2063)) (b := 0) (by omega) (by omega) (by omega) (by omega)).mp b79
            refine lv_iload_n hx hb dX7_scan_82 rfl (lv_at hl 0 rfl) ?_
            refine lv_if_ne (tgt := 119) hx hb dX7_scan_83 (by decide) (fun _ => ?_) (fun h9 => absurd h9 (by decide))
            refine lv_aload_n hx hb dX7_scan_119 rfl (lv_at hl 1 rfl) ?_
            have hPc := hP.sub (ws' := [(h0, .inr (7, [v12_0, .ref q_1201, .int (zI (z12_length)), .int (zI (z0_2063)), .int (zI (z12_kind)), .int (zI (z0_2063)), .int (zI (z12_value)), v12_7, v12_8, v12_9, v12_10, v12_11, v12_12, v12_13, v12_14, v12_15, v12_16, v12_17])), (q_1201, .inl (cA_1201, 8192, .inl fa12_bytes))]) [0, 1] rfl
            have hDc := hD.sub (ws' := [(h0, .inr (7, [v12_0, .ref q_1201, .int (zI (z12_length)), .int (zI (z0_2063)), .int (zI (z12_kind)), .int (zI (z0_2063)), .int (zI (z12_value)), v12_7, v12_8, v12_9, v12_10, v12_11, v12_12, v12_13, v12_14, v12_15, v12_16, v12_17])), (q_1201, .inl (cA_1201, 8192, .inl fa12_bytes))]) [0, 1] (by decide) rfl
            have hKc := hK.sub (tys' := [(cA_1201, .byte)]) [0] rfl
            have hFc := va_free (wc := [(h0, .inr (7, [v12_0, .ref q_1201, .int (zI (z12_length)), .int (zI (z0_2063)), .int (zI (z12_kind)), .int (zI (z0_2063)), .int (zI (z12_value)), v12_7, v12_8, v12_9, v12_10, v12_11, v12_12, v12_13, v12_14, v12_15, v12_16, v12_17])), (q_1201, .inl (cA_1201, 8192, .inl fa12_bytes))]) hD hS hA [0, 1] rfl
            refine va_callv (va_runV (As := []) (rest := []) ⟨hx, hb, hml, hown, hts⟩ (c_X7_scanMark l dC dI h0 v12_0 z12_length z0_2063 z12_kind (.int (zI (z0_2063))) z12_value v12_7 v12_8 v12_9 v12_10 v12_11 v12_12 v12_13 v12_14 v12_15 v12_16 v12_17 q_1201 cA_1201 fa12_bytes (by omega) (by omega) (by omega) (by omega) (by omega) H.size) (cwV 0 hts g_X7_scan_X7_scanMark rfl rfl rfl (by decide +kernel) ⟨(Nat.le_of_ble_eq_true rfl), (Nat.le_of_ble_eq_true rfl)⟩) ⟨fun a U g mk q => by obtain ⟨q0, q1, qP, qK, qD⟩ := q; exact ⟨q0, q1, qP, va_K.moved (u := U) (U := U.calling g mk a) (Vm.Alike.refl U.vm) qK, qD⟩, va_recv hKc hPc (ci := 7) (q0 := 0) rfl rfl, fun U hU hW => ⟨rfl, by rw [hU], by rw [hU]; exact hPc, va_K.moved hW.alike hKc, hDc.weaken (fun _ _ _ _ => trivial)⟩⟩ rfl rfl hl.1 rfl (lv_room (Nat.le_of_ble_eq_true rfl)) dX7_scan_120 ⟨(Nat.le_of_ble_eq_true rfl), (Nat.le_of_ble_eq_true rfl)⟩) hS (fun q _ h => hFc q h) hFc (fun  u t H1 locs ht hvm hw hB hz1 hk1 hS => ?_)
            obtain ⟨z0_2075, z1_2076, z2_2077, hxt_2077, hP1, hK1, hD1⟩ := hB
            rw [ht] at hP1
            have hK1 := va_K.moved hvm.symm hK1
            obtain ⟨hP, hD⟩ := va_join (wr := []) (w1 := [(h0, .inr (7, [v12_0, .ref q_1201, .int (zI (z12_length)), .int (zI (z0_2075)), .int (zI (z1_2076)), .int (zI (z0_2063)), .int (zI (z2_2077)), v12_7, v12_8, v12_9, v12_10, v12_11, v12_12, v12_13, v12_14, v12_15, v12_16, v12_17])), (q_1201, .inl (cA_1201, 8192, .inl fa12_bytes))]) hP hD [0, 1] [] rfl rfl (by decide) (by decide) hk1 hFc hP1 hD1
            have hK := (hK.sub (tys' := []) [] rfl).app hK1
            generalize H1 = H at hP hS ⊢
            have hP : va_P (dC, dI) vwP [(h0, .inr (7, [v12_0, .ref q_1201, .int (zI (z12_length)), .int (zI (z0_2075)), .int (zI (z1_2076)), .int (zI (z0_2063)), .int (zI (z2_2077)), v12_7, v12_8, v12_9, v12_10, v12_11, v12_12, v12_13, v12_14, v12_15, v12_16, v12_17])), (q_1201, .inl (cA_1201, 8192, .inl fa12_bytes))] H := hP
            have hD : va_D A [(h0, .inr (7, [v12_0, .ref q_1201, .int (zI (z12_length)), .int (zI (z0_2075)), .int (zI (z1_2076)), .int (zI (z0_2063)), .int (zI (z2_2077)), v12_7, v12_8, v12_9, v12_10, v12_11, v12_12, v12_13, v12_14, v12_15, v12_16, v12_17])), (q_1201, .inl (cA_1201, 8192, .inl fa12_bytes))] := hD
            have hK : va_K (dC, dI) vwP [(cA_1201, .byte)] s := hK
            refine W.widen (k := 0) (n := 0) (Nat.le_of_ble_eq_true rfl) (Nat.le_of_ble_eq_true rfl) ?_
            obtain ⟨rk_2078, rk_2079, rk_2080, hu_2080⟩ := hxt_2077
            subst hQ
            refine W.widen (k := 0) (n := 0) (Nat.le_of_ble_eq_true rfl) (Nat.le_of_ble_eq_true rfl) ?_
            exact W.vret hx hb hr (fun t ht hW => ⟨⟨(), rfl, trivial, z0_2075, z1_2076, z0_2063, z2_2077, ⟨(by omega), (by omega), (by omega), (by omega), ⟨(by first | exact hu_2080.1 | (unfold RKV; omega)), by omega, by omega⟩⟩, by rw [ht]; exact hP, va_K.moved hW.alike hK, hD⟩, hS.F ht⟩) hS.2.2 dX7_scan_123
        · have yb61 : ¬ (z_2067 : Int) = (0 : Int) := fun q => b61 ((zI_eq (a := z_2067) (b := 0) (by omega) (by omega) (by omega) (by omega)).mpr q)
          refine lv_aload_n hx hb dX7_scan_64 rfl (lv_at hl 1 rfl) ?_
          have hPc := hP.sub (ws' := [(h0, .inr (7, [v12_0, .ref q_1201, .int (zI (z12_length)), .int (zI (z0_2063)), .int (zI (z12_kind)), .int (zI (z0_2063)), .int (zI (z12_value)), v12_7, v12_8, v12_9, v12_10, v12_11, v12_12, v12_13, v12_14, v12_15, v12_16, v12_17])), (q_1201, .inl (cA_1201, 8192, .inl fa12_bytes))]) [0, 1] rfl
          have hDc := hD.sub (ws' := [(h0, .inr (7, [v12_0, .ref q_1201, .int (zI (z12_length)), .int (zI (z0_2063)), .int (zI (z12_kind)), .int (zI (z0_2063)), .int (zI (z12_value)), v12_7, v12_8, v12_9, v12_10, v12_11, v12_12, v12_13, v12_14, v12_15, v12_16, v12_17])), (q_1201, .inl (cA_1201, 8192, .inl fa12_bytes))]) [0, 1] (by decide) rfl
          have hKc := hK.sub (tys' := [(cA_1201, .byte)]) [0] rfl
          have hFc := va_free (wc := [(h0, .inr (7, [v12_0, .ref q_1201, .int (zI (z12_length)), .int (zI (z0_2063)), .int (zI (z12_kind)), .int (zI (z0_2063)), .int (zI (z12_value)), v12_7, v12_8, v12_9, v12_10, v12_11, v12_12, v12_13, v12_14, v12_15, v12_16, v12_17])), (q_1201, .inl (cA_1201, 8192, .inl fa12_bytes))]) hD hS hA [0, 1] rfl
          refine va_callv (va_runV (As := []) (rest := []) ⟨hx, hb, hml, hown, hts⟩ (c_X7_scanWord l dC dI h0 v12_0 z12_length z0_2063 z12_kind z0_2063 z12_value v12_7 v12_8 v12_9 v12_10 v12_11 v12_12 v12_13 v12_14 v12_15 v12_16 v12_17 q_1201 cA_1201 fa12_bytes (by omega) (by omega) (by omega) (by omega) (by omega) (by omega) (by omega) H.size sa_RX7_128 sv_RX7_128 sx_fm sa_RX7_134 sv_RX7_134 sa_RX7_136 sv_RX7_136 sa_RX7_138 sv_RX7_138 sa_RX7_140 sv_RX7_140 sa_RX7_142 sv_RX7_142) (cwV 0 hts g_X7_scan_X7_scanWord rfl rfl rfl (by decide +kernel) ⟨(Nat.le_of_ble_eq_true rfl), (Nat.le_of_ble_eq_true rfl)⟩) ⟨fun a U g mk q => by obtain ⟨q0, q1, qP, qK, qD, e0, e1, e2, e3, e4, e5, e6, e7, e8, e9, e10, e11, e12, e13⟩ := q; exact ⟨q0, q1, qP, va_K.moved (u := U) (U := U.calling g mk a) (Vm.Alike.refl U.vm) qK, qD, vk_R.same (u := U) (U := U.calling g mk a) rfl e0, vs_S.moved (u := U) (U := U.calling g mk a) (Vm.Alike.refl U.vm) e1, va_Z.moved (u := U) (U := U.calling g mk a) (Vm.Alike.refl U.vm) e2, va_Z.moved (u := U) (U := U.calling g mk a) (Vm.Alike.refl U.vm) e3, vk_R.same (u := U) (U := U.calling g mk a) rfl e4, vs_S.moved (u := U) (U := U.calling g mk a) (Vm.Alike.refl U.vm) e5, vk_R.same (u := U) (U := U.calling g mk a) rfl e6, vs_S.moved (u := U) (U := U.calling g mk a) (Vm.Alike.refl U.vm) e7, vk_R.same (u := U) (U := U.calling g mk a) rfl e8, vs_S.moved (u := U) (U := U.calling g mk a) (Vm.Alike.refl U.vm) e9, vk_R.same (u := U) (U := U.calling g mk a) rfl e10, vs_S.moved (u := U) (U := U.calling g mk a) (Vm.Alike.refl U.vm) e11, vk_R.same (u := U) (U := U.calling g mk a) rfl e12, vs_S.moved (u := U) (U := U.calling g mk a) (Vm.Alike.refl U.vm) e13⟩, va_recv hKc hPc (ci := 7) (q0 := 0) rfl rfl, fun U hU hW => ⟨rfl, by rw [hU], by rw [hU]; exact hPc, va_K.moved hW.alike hKc, hDc.weaken (fun _ _ _ _ => trivial), vk_R.warm hW hp0, by rw [hU]; exact vs_S.narrow (vs_S.moved hW.alike (vs_S.kept hp1 hS.2.1)) hFc, by rw [hU]; exact va_Z.narrow (va_Z.moved hW.alike (va_Z.kept hp2 hS.2.1)) hFc, by rw [hU]; exact va_Z.narrow (va_Z.moved hW.alike (va_Z.kept hp3 hS.2.1)) hFc, vk_R.warm hW hp4, by rw [hU]; exact vs_S.narrow (vs_S.moved hW.alike (vs_S.kept hp5 hS.2.1)) hFc, vk_R.warm hW hp6, by rw [hU]; exact vs_S.narrow (vs_S.moved hW.alike (vs_S.kept hp7 hS.2.1)) hFc, vk_R.warm hW hp8, by rw [hU]; exact vs_S.narrow (vs_S.moved hW.alike (vs_S.kept hp9 hS.2.1)) hFc, vk_R.warm hW hp10, by rw [hU]; exact vs_S.narrow (vs_S.moved hW.alike (vs_S.kept hp11 hS.2.1)) hFc, vk_R.warm hW hp12, by rw [hU]; exact vs_S.narrow (vs_S.moved hW.alike (vs_S.kept hp13 hS.2.1)) hFc⟩⟩ rfl rfl hl.1 rfl (lv_room (Nat.le_of_ble_eq_true rfl)) dX7_scan_65 ⟨(Nat.le_of_ble_eq_true rfl), (Nat.le_of_ble_eq_true rfl)⟩) hS (fun q _ h => hFc q h) hFc (fun  u t H1 locs ht hvm hw hB hz1 hk1 hS => ?_)
          obtain ⟨z0_2081, z1_2082, z2_2083, hxt_2083, hP1, hK1, hD1⟩ := hB
          rw [ht] at hP1
          have hK1 := va_K.moved hvm.symm hK1
          obtain ⟨hP, hD⟩ := va_join (wr := []) (w1 := [(h0, .inr (7, [v12_0, .ref q_1201, .int (zI (z12_length)), .int (zI (z0_2081)), .int (zI (z1_2082)), .int (zI (z0_2063)), .int (zI (z2_2083)), v12_7, v12_8, v12_9, v12_10, v12_11, v12_12, v12_13, v12_14, v12_15, v12_16, v12_17])), (q_1201, .inl (cA_1201, 8192, .inl fa12_bytes))]) hP hD [0, 1] [] rfl rfl (by decide) (by decide) hk1 hFc hP1 hD1
          have hK := (hK.sub (tys' := []) [] rfl).app hK1
          generalize H1 = H at hP hS ⊢
          have hP : va_P (dC, dI) vwP [(h0, .inr (7, [v12_0, .ref q_1201, .int (zI (z12_length)), .int (zI (z0_2081)), .int (zI (z1_2082)), .int (zI (z0_2063)), .int (zI (z2_2083)), v12_7, v12_8, v12_9, v12_10, v12_11, v12_12, v12_13, v12_14, v12_15, v12_16, v12_17])), (q_1201, .inl (cA_1201, 8192, .inl fa12_bytes))] H := hP
          have hD : va_D A [(h0, .inr (7, [v12_0, .ref q_1201, .int (zI (z12_length)), .int (zI (z0_2081)), .int (zI (z1_2082)), .int (zI (z0_2063)), .int (zI (z2_2083)), v12_7, v12_8, v12_9, v12_10, v12_11, v12_12, v12_13, v12_14, v12_15, v12_16, v12_17])), (q_1201, .inl (cA_1201, 8192, .inl fa12_bytes))] := hD
          have hK : va_K (dC, dI) vwP [(cA_1201, .byte)] s := hK
          refine W.widen (k := 0) (n := 0) (Nat.le_of_ble_eq_true rfl) (Nat.le_of_ble_eq_true rfl) ?_
          obtain ⟨rk_2084, rk_2085, rk_2086, hu_2086⟩ := hxt_2083
          refine lv_goto (tgt := 123) hx hb dX7_scan_68 (by decide) ?_
          subst hQ
          refine W.widen (k := 0) (n := 0) (Nat.le_of_ble_eq_true rfl) (Nat.le_of_ble_eq_true rfl) ?_
          exact W.vret hx hb hr (fun t ht hW => ⟨⟨(), rfl, trivial, z0_2081, z1_2082, z0_2063, z2_2083, ⟨(by omega), (by omega), (by omega), (by omega), ⟨(by first | exact hu_2086.1 | (unfold RKV; omega)), by omega, by omega⟩⟩, by rw [ht]; exact hP, va_K.moved hW.alike hK, hD⟩, hS.F ht⟩) hS.2.2 dX7_scan_123
      · have yb42 : ¬ (z0_2063 : Int) < (z12_length : Int) := fun q => b42 ((zI_lt (a := z0_2063) (b := z12_length) (by omega) (by omega) (by omega) (by omega)).mpr q)
        refine lv_aload_n hx hb dX7_scan_45 rfl (lv_at hl 1 rfl) ?_
        refine lv_iconst (v := 1) hx hb dX7_scan_46 (by decide) ?_
        refine va_put (D := (dC, dI)) (ci := 7) (v := .int 1) (ty := .int) (C := RX7) (T := TX7) (N := 18) hx hb hts mem_X7_scan_0 tyX7 tyX7_ok nmX7 hown hK hP hD hS 0 rfl rfl 4 (by decide) (ow (k := 0) rfl) (fun _ h9 => h9) rfl (by decide +kernel) rfl rfl (Nat.le_of_ble_eq_true rfl) dX7_scan_47 (fun H locs hP hD hS => ?_)
        have hP : va_P (dC, dI) vwP [(h0, .inr (7, [v12_0, .ref q_1201, .int (zI (z12_length)), .int (zI (z0_2063)), .int 1, .int (zI (z0_2063)), .int (zI (z12_value)), v12_7, v12_8, v12_9, v12_10, v12_11, v12_12, v12_13, v12_14, v12_15, v12_16, v12_17])), (q_1201, .inl (cA_1201, 8192, .inl fa12_bytes))] H := hP
        have hD : va_D A [(h0, .inr (7, [v12_0, .ref q_1201, .int (zI (z12_length)), .int (zI (z0_2063)), .int 1, .int (zI (z0_2063)), .int (zI (z12_value)), v12_7, v12_8, v12_9, v12_10, v12_11, v12_12, v12_13, v12_14, v12_15, v12_16, v12_17])), (q_1201, .inl (cA_1201, 8192, .inl fa12_bytes))] := hD
        refine lv_goto (tgt := 123) hx hb dX7_scan_50 (by decide) ?_
        subst hQ
        refine W.widen (k := 0) (n := 0) (Nat.le_of_ble_eq_true rfl) (Nat.le_of_ble_eq_true rfl) ?_
        exact W.vret hx hb hr (fun t ht hW => ⟨⟨(), rfl, trivial, z0_2063, 1, z0_2063, z12_value, ⟨(by omega), (by omega), (by omega), (by omega), ⟨(by first | exact hu_2086.1 | (unfold RKV; omega)), by omega, by omega⟩⟩, by rw [ht]; exact hP, va_K.moved hW.alike hK, hD⟩, hS.F ht⟩) hS.2.2 dX7_scan_123
