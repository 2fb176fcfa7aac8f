theorem dX14_live_0 : decode cX14_live 0 = .ok (.aload_n 0, 1) := by decide +kernel
theorem dX14_live_1 : decode cX14_live 1 = .ok (.aload_n 1, 1) := by decide +kernel
theorem dX14_live_2 : decode cX14_live 2 = .ok (.putfield 45, 3) := by decide +kernel
theorem dX14_live_5 : decode cX14_live 5 = .ok (.aload_n 0, 1) := by decide +kernel
theorem dX14_live_6 : decode cX14_live 6 = .ok (.aload_n 0, 1) := by decide +kernel
theorem dX14_live_7 : decode cX14_live 7 = .ok (.getfield 45, 3) := by decide +kernel
theorem dX14_live_10 : decode cX14_live 10 = .ok (.invokevirtual 49, 3) := by decide +kernel
theorem dX14_live_13 : decode cX14_live 13 = .ok (.putfield 55, 3) := by decide +kernel
theorem dX14_live_16 : decode cX14_live 16 = .ok (.iconst 0, 1) := by decide +kernel
theorem dX14_live_17 : decode cX14_live 17 = .ok (.istore_n 2, 1) := by decide +kernel
theorem dX14_live_18 : decode cX14_live 18 = .ok (.iload_n 2, 1) := by decide +kernel
theorem dX14_live_19 : decode cX14_live 19 = .ok (.aload_n 0, 1) := by decide +kernel
theorem dX14_live_20 : decode cX14_live 20 = .ok (.getfield 55, 3) := by decide +kernel
theorem dX14_live_23 : decode cX14_live 23 = .ok (.if_icmp .ge 33, 3) := by decide +kernel
theorem dX14_live_56 : decode cX14_live 56 = .ok (.iconst 1, 1) := by decide +kernel
theorem dX14_live_57 : decode cX14_live 57 = .ok (.istore_n 2, 1) := by decide +kernel
theorem dX14_live_58 : decode cX14_live 58 = .ok (.iload_n 2, 1) := by decide +kernel
theorem dX14_live_59 : decode cX14_live 59 = .ok (.ifCond .eq 146, 3) := by decide +kernel
theorem dX14_live_205 : decode cX14_live 205 = .ok (.return_, 1) := by decide +kernel
theorem dX14_live_62 : decode cX14_live 62 = .ok (.iconst 0, 1) := by decide +kernel
theorem dX14_live_63 : decode cX14_live 63 = .ok (.istore_n 2, 1) := by decide +kernel
theorem dX14_live_64 : decode cX14_live 64 = .ok (.aload_n 0, 1) := by decide +kernel
theorem dX14_live_65 : decode cX14_live 65 = .ok (.getfield 55, 3) := by decide +kernel
theorem dX14_live_68 : decode cX14_live 68 = .ok (.iconst 1, 1) := by decide +kernel
theorem dX14_live_69 : decode cX14_live 69 = .ok (.isub, 1) := by decide +kernel
theorem dX14_live_70 : decode cX14_live 70 = .ok (.istore_n 3, 1) := by decide +kernel
theorem dX14_live_71 : decode cX14_live 71 = .ok (.iload_n 3, 1) := by decide +kernel
theorem dX14_live_72 : decode cX14_live 72 = .ok (.ifCond .lt 130, 3) := by decide +kernel
theorem dX14_live_202 : decode cX14_live 202 = .ok (.goto (-144), 3) := by decide +kernel
theorem dX14_live_75 : decode cX14_live 75 = .ok (.aload_n 0, 1) := by decide +kernel
theorem dX14_live_76 : decode cX14_live 76 = .ok (.iload_n 3, 1) := by decide +kernel
theorem dX14_live_77 : decode cX14_live 77 = .ok (.invokevirtual 99, 3) := by decide +kernel
theorem dX14_live_80 : decode cX14_live 80 = .ok (.aload_n 0, 1) := by decide +kernel
theorem dX14_live_81 : decode cX14_live 81 = .ok (.getfield 45, 3) := by decide +kernel
theorem dX14_live_84 : decode cX14_live 84 = .ok (.iload_n 3, 1) := by decide +kernel
theorem dX14_live_85 : decode cX14_live 85 = .ok (.invokevirtual 75, 3) := by decide +kernel
theorem dX14_live_88 : decode cX14_live 88 = .ok (.astore 4, 2) := by decide +kernel
theorem dX14_live_90 : decode cX14_live 90 = .ok (.aload_n 0, 1) := by decide +kernel
theorem dX14_live_91 : decode cX14_live 91 = .ok (.aload 4, 2) := by decide +kernel
theorem dX14_live_93 : decode cX14_live 93 = .ok (.getfield 103, 3) := by decide +kernel
theorem dX14_live_96 : decode cX14_live 96 = .ok (.invokevirtual 107, 3) := by decide +kernel
theorem dX14_live_99 : decode cX14_live 99 = .ok (.aload 4, 2) := by decide +kernel
theorem dX14_live_101 : decode cX14_live 101 = .ok (.getfield 111, 3) := by decide +kernel
theorem dX14_live_104 : decode cX14_live 104 = .ok (.invokevirtual 115, 3) := by decide +kernel
theorem dX14_live_107 : decode cX14_live 107 = .ok (.iconst 1, 1) := by decide +kernel
theorem dX14_live_108 : decode cX14_live 108 = .ok (.isub, 1) := by decide +kernel
theorem dX14_live_109 : decode cX14_live 109 = .ok (.istore 5, 2) := by decide +kernel
theorem dX14_live_111 : decode cX14_live 111 = .ok (.iload 5, 2) := by decide +kernel
theorem dX14_live_113 : decode cX14_live 113 = .ok (.ifCond .lt 26, 3) := by decide +kernel
theorem dX14_live_139 : decode cX14_live 139 = .ok (.iconst 0, 1) := by decide +kernel
theorem dX14_live_140 : decode cX14_live 140 = .ok (.istore 5, 2) := by decide +kernel
theorem dX14_live_142 : decode cX14_live 142 = .ok (.iload 5, 2) := by decide +kernel
theorem dX14_live_144 : decode cX14_live 144 = .ok (.sipush 1001, 3) := by decide +kernel
theorem dX14_live_147 : decode cX14_live 147 = .ok (.if_icmp .gt 49, 3) := by decide +kernel
theorem dX14_live_196 : decode cX14_live 196 = .ok (.iinc 3 (-1), 3) := by decide +kernel
theorem dX14_live_199 : decode cX14_live 199 = .ok (.goto (-128), 3) := by decide +kernel
theorem dX14_live_150 : decode cX14_live 150 = .ok (.aload_n 0, 1) := by decide +kernel
theorem dX14_live_151 : decode cX14_live 151 = .ok (.getfield 36, 3) := by decide +kernel
theorem dX14_live_154 : decode cX14_live 154 = .ok (.iload_n 3, 1) := by decide +kernel
theorem dX14_live_155 : decode cX14_live 155 = .ok (.aaload, 1) := by decide +kernel
theorem dX14_live_156 : decode cX14_live 156 = .ok (.iload 5, 2) := by decide +kernel
theorem dX14_live_158 : decode cX14_live 158 = .ok (.baload, 1) := by decide +kernel
theorem dX14_live_159 : decode cX14_live 159 = .ok (.aload_n 0, 1) := by decide +kernel
theorem dX14_live_160 : decode cX14_live 160 = .ok (.getfield 39, 3) := by decide +kernel
theorem dX14_live_163 : decode cX14_live 163 = .ok (.iload 5, 2) := by decide +kernel
theorem dX14_live_165 : decode cX14_live 165 = .ok (.baload, 1) := by decide +kernel
theorem dX14_live_166 : decode cX14_live 166 = .ok (.if_icmp .ne 6, 3) := by decide +kernel
theorem dX14_live_172 : decode cX14_live 172 = .ok (.aload_n 0, 1) := by decide +kernel
theorem dX14_live_173 : decode cX14_live 173 = .ok (.getfield 36, 3) := by decide +kernel
theorem dX14_live_176 : decode cX14_live 176 = .ok (.iload_n 3, 1) := by decide +kernel
theorem dX14_live_177 : decode cX14_live 177 = .ok (.aaload, 1) := by decide +kernel
theorem dX14_live_178 : decode cX14_live 178 = .ok (.iload 5, 2) := by decide +kernel
theorem dX14_live_180 : decode cX14_live 180 = .ok (.aload_n 0, 1) := by decide +kernel
theorem dX14_live_181 : decode cX14_live 181 = .ok (.getfield 39, 3) := by decide +kernel
theorem dX14_live_184 : decode cX14_live 184 = .ok (.iload 5, 2) := by decide +kernel
theorem dX14_live_186 : decode cX14_live 186 = .ok (.baload, 1) := by decide +kernel
theorem dX14_live_187 : decode cX14_live 187 = .ok (.bastore, 1) := by decide +kernel
theorem dX14_live_188 : decode cX14_live 188 = .ok (.iconst 1, 1) := by decide +kernel
theorem dX14_live_189 : decode cX14_live 189 = .ok (.istore_n 2, 1) := by decide +kernel
theorem dX14_live_190 : decode cX14_live 190 = .ok (.iinc 5 1, 3) := by decide +kernel
theorem dX14_live_193 : decode cX14_live 193 = .ok (.goto (-51), 3) := by decide +kernel
theorem dX14_live_169 : decode cX14_live 169 = .ok (.goto 21, 3) := by decide +kernel
theorem dX14_live_116 : decode cX14_live 116 = .ok (.aload_n 0, 1) := by decide +kernel
theorem dX14_live_117 : decode cX14_live 117 = .ok (.aload 4, 2) := by decide +kernel
theorem dX14_live_119 : decode cX14_live 119 = .ok (.getfield 111, 3) := by decide +kernel
theorem dX14_live_122 : decode cX14_live 122 = .ok (.iload 5, 2) := by decide +kernel
theorem dX14_live_124 : decode cX14_live 124 = .ok (.invokevirtual 118, 3) := by decide +kernel
theorem dX14_live_127 : decode cX14_live 127 = .ok (.checkcast 121, 3) := by decide +kernel
theorem dX14_live_130 : decode cX14_live 130 = .ok (.invokevirtual 107, 3) := by decide +kernel
theorem dX14_live_133 : decode cX14_live 133 = .ok (.iinc 5 (-1), 3) := by decide +kernel
theorem dX14_live_136 : decode cX14_live 136 = .ok (.goto (-25), 3) := by decide +kernel
theorem dX14_live_26 : decode cX14_live 26 = .ok (.iconst 0, 1) := by decide +kernel
theorem dX14_live_27 : decode cX14_live 27 = .ok (.istore_n 3, 1) := by decide +kernel
theorem dX14_live_28 : decode cX14_live 28 = .ok (.iload_n 3, 1) := by decide +kernel
theorem dX14_live_29 : decode cX14_live 29 = .ok (.sipush 1001, 3) := by decide +kernel
theorem dX14_live_32 : decode cX14_live 32 = .ok (.if_icmp .gt 18, 3) := by decide +kernel
theorem dX14_live_50 : decode cX14_live 50 = .ok (.iinc 2 1, 3) := by decide +kernel
theorem dX14_live_53 : decode cX14_live 53 = .ok (.goto (-35), 3) := by decide +kernel
theorem dX14_live_35 : decode cX14_live 35 = .ok (.aload_n 0, 1) := by decide +kernel
theorem dX14_live_36 : decode cX14_live 36 = .ok (.getfield 36, 3) := by decide +kernel
theorem dX14_live_39 : decode cX14_live 39 = .ok (.iload_n 2, 1) := by decide +kernel
theorem dX14_live_40 : decode cX14_live 40 = .ok (.aaload, 1) := by decide +kernel
theorem dX14_live_41 : decode cX14_live 41 = .ok (.iload_n 3, 1) := by decide +kernel
theorem dX14_live_42 : decode cX14_live 42 = .ok (.iconst 0, 1) := by decide +kernel
theorem dX14_live_43 : decode cX14_live 43 = .ok (.bastore, 1) := by decide +kernel
theorem dX14_live_44 : decode cX14_live 44 = .ok (.iinc 3 1, 3) := by decide +kernel
theorem dX14_live_47 : decode cX14_live 47 = .ok (.goto (-19), 3) := by decide +kernel
def o_P14_live : List Cond := [.fieldLink RX14 45 "SsaForgeModel$Flow" "c" "LSsaForgeModel$Code;", .methodLink RX14 49 yX13_size, .instanceMethod yX13_size, .selects RX13 yX13_size yX13_size, .initialized RX13, .fieldLink RX14 55 "SsaForgeModel$Flow" "n" "I", .methodLink RX14 99 yX14_behind, .instanceMethod yX14_behind, .selects RX14 yX14_behind yX14_behind, .initialized RX14, .methodLink RX14 75 yX13_get, .instanceMethod yX13_get, .selects RX13 yX13_get yX13_get, .fieldLink RX14 103 "SsaForgeModel$Block" "end" "LSsaForgeModel$Row;", .methodLink RX14 107 yX14_back, .instanceMethod yX14_back, .selects RX14 yX14_back yX14_back, .fieldLink RX14 111 "SsaForgeModel$Block" "rows" "Ljava/util/ArrayList;", .methodLink RX14 115 yJx4a65c_size_8abf5, .instanceMethod yJx4a65c_size_8abf5, .selects RJx4a65c yJx4a65c_size_8abf5 yJx4a65c_size_8abf5, .initialized RJx4a65c, .fieldLink RX14 36 "SsaForgeModel$Flow" "live" "[[Z", .fieldLink RX14 39 "SsaForgeModel$Flow" "now" "[Z", .methodLink RX14 118 yJx4a65c_get_915e3, .instanceMethod yJx4a65c_get_915e3, .selects RJx4a65c yJx4a65c_get_915e3 yJx4a65c_get_915e3, .classLink RX14 121 "SsaForgeModel$Row"]
def v_P14_live : List Cond := .code yX14_live cX14_live 6 none :: (o_P14_live ++ (wsX140 ++ (v_PC_size ++ (v_P14_behindE ++ (v_PC_get ++ (wsX120 ++ (v_P14_backE ++ (v_PL_size ++ (v_PL_get ++ [])))))))))
theorem mow_P14_live : ∀ w ∈ o_P14_live, w ∈ v_P14_live := fun _ h => List.mem_cons_of_mem _ (List.mem_append_left _ h)
theorem mem_P14_live_0 : ∀ w ∈ wsX140, w ∈ v_P14_live := fun _ h => List.mem_cons_of_mem _ (List.mem_append_right _ (List.mem_append_left _ h))
theorem mem_P14_live_1 : ∀ w ∈ v_PC_size, w ∈ v_P14_live := fun _ h => List.mem_cons_of_mem _ (List.mem_append_right _ (List.mem_append_right _ (List.mem_append_left _ h)))
theorem mem_P14_live_2 : ∀ w ∈ v_P14_behindE, w ∈ v_P14_live := fun _ h => List.mem_cons_of_mem _ (List.mem_append_right _ (List.mem_append_right _ (List.mem_append_right _ (List.mem_append_left _ h))))
theorem mem_P14_live_3 : ∀ w ∈ v_PC_get, w ∈ v_P14_live := fun _ h => List.mem_cons_of_mem _ (List.mem_append_right _ (List.mem_append_right _ (List.mem_append_right _ (List.mem_append_right _ (List.mem_append_left _ h)))))
theorem mem_P14_live_4 : ∀ w ∈ wsX120, w ∈ v_P14_live := fun _ h => List.mem_cons_of_mem _ (List.mem_append_right _ (List.mem_append_right _ (List.mem_append_right _ (List.mem_append_right _ (List.mem_append_right _ (List.mem_append_left _ h))))))
theorem mem_P14_live_5 : ∀ w ∈ v_P14_backE, w ∈ v_P14_live := fun _ h => List.mem_cons_of_mem _ (List.mem_append_right _ (List.mem_append_right _ (List.mem_append_right _ (List.mem_append_right _ (List.mem_append_right _ (List.mem_append_right _ (List.mem_append_left _ h)))))))
theorem mem_P14_live_6 : ∀ w ∈ v_PL_size, w ∈ v_P14_live := fun _ h => List.mem_cons_of_mem _ (List.mem_append_right _ (List.mem_append_right _ (List.mem_append_right _ (List.mem_append_right _ (List.mem_append_right _ (List.mem_append_right _ (List.mem_append_right _ (List.mem_append_left _ h))))))))
theorem mem_P14_live_7 : ∀ w ∈ v_PL_get, w ∈ v_P14_live := fun _ h => List.mem_cons_of_mem _ (List.mem_append_right _ (List.mem_append_right _ (List.mem_append_right _ (List.mem_append_right _ (List.mem_append_right _ (List.mem_append_right _ (List.mem_append_right _ (List.mem_append_right _ (List.mem_append_left _ h)))))))))
set_option maxRecDepth 20000 in
theorem gw_P14_live : v_P14_live.all goodWord = true := by decide +kernel
set_option maxRecDepth 20000 in
theorem g_P14_live_PC_size : GoodIn v_P14_live (wsV RX14 49 RX13 yX13_size v_PC_size) := goodIn_app (goodIn_sub (fun w h => mow_P14_live w (by revert w h; decide +kernel)) (by decide +kernel)) (goodIn_sub mem_P14_live_1 gw_PC_size)
set_option maxRecDepth 20000 in
theorem g_P14_live_P14_behindE : GoodIn v_P14_live (wsV RX14 99 RX14 yX14_behind v_P14_behindE) := goodIn_app (goodIn_sub (fun w h => mow_P14_live w (by revert w h; decide +kernel)) (by decide +kernel)) (goodIn_sub mem_P14_live_2 gw_P14_behindE)
set_option maxRecDepth 20000 in
theorem g_P14_live_PC_get : GoodIn v_P14_live (wsV RX14 75 RX13 yX13_get v_PC_get) := goodIn_app (goodIn_sub (fun w h => mow_P14_live w (by revert w h; decide +kernel)) (by decide +kernel)) (goodIn_sub mem_P14_live_3 gw_PC_get)
set_option maxRecDepth 20000 in
theorem g_P14_live_P14_backE : GoodIn v_P14_live (wsV RX14 107 RX14 yX14_back v_P14_backE) := goodIn_app (goodIn_sub (fun w h => mow_P14_live w (by revert w h; decide +kernel)) (by decide +kernel)) (goodIn_sub mem_P14_live_5 gw_P14_backE)
set_option maxRecDepth 20000 in
theorem g_P14_live_PL_size : GoodIn v_P14_live (wsV RX14 115 RJx4a65c yJx4a65c_size_8abf5 v_PL_size) := goodIn_app (goodIn_sub (fun w h => mow_P14_live w (by revert w h; decide +kernel)) (by decide +kernel)) (goodIn_sub mem_P14_live_6 gw_PL_size)
set_option maxRecDepth 20000 in
theorem g_P14_live_PL_get : GoodIn v_P14_live (wsV RX14 118 RJx4a65c yJx4a65c_get_915e3 v_PL_get) := goodIn_app (goodIn_sub (fun w h => mow_P14_live w (by revert w h; decide +kernel)) (by decide +kernel)) (goodIn_sub mem_P14_live_7 gw_PL_get)
set_option maxHeartbeats 4000000 in
set_option maxRecDepth 100000 in
theorem c_P14_live (l : Launch) (dC : Nat → ClassId) (dI : Nat → Nat → Nat) (cI : ClassId) (cZ : ClassId) (h0 : Nat) (z14_n : Int) (v14_2 : Value) (v14_3 : Value) (v14_4 : Value) (v14_5 : Value) (v14_6 : Value) (v14_7 : Value) (v14_8 : Value) (v14_9 : Value) (q_1411 : Nat) (cA_1411 : ClassId) (a14_now : Int → Int) (q_1412 : Nat) (cA_1412 : ClassId) (a14_phi : Int → Int) (q_v : Nat) (cV : ClassId) (nv : Nat) (fv : Nat → Option Nat) (hc : Nat) (v13_0 : Value) (v13_1 : Value) (v13_2 : Value) (v13_3 : Value) (v13_4 : Value) (v13_6 : Value) (la : Nat) (cO : ClassId) (L : List Nat) (P : PO) (sx_ed : Nat) (v14_0 : Value) (hNz14_n : 0 ≤ z14_n ∧ z14_n ≤ 300) (hR_a14_now : ∀ j : Int, 0 ≤ a14_now j ∧ a14_now j ≤ 1) (hR_a14_phi : ∀ j : Int, 0 ≤ a14_phi j ∧ a14_phi j ≤ 1) (hNnv : nv ≤ 1000) (hX_a : ALP L P cO cI cZ sx_ed la) (hNb : 1 ≤ P.lz la ∧ P.lz la ≤ nv) (hX_T : TBK L P 43 cZ fv (nv : Int) 1002 0 1) (hX_I : TDI fv nv) (hX_z : ZER a14_phi) (sz : Nat) : Met l yX14_live v_P14_live ({ frames := 5, cells := 0, slots := 0, locals := 112 }) (va_Pc [.ref h0, .ref hc] (fun U => U.heap.size = sz ∧ va_P (dC, dI) vwQ ([(h0, .inr (13, [v14_0, .int (zI (z14_n)), v14_2, v14_3, v14_4, v14_5, v14_6, v14_7, v14_8, v14_9, .ref q_v, .ref q_1411, .ref q_1412])), (q_1411, .inl (cA_1411, 1002, .inl (fun j : Nat => zI (a14_now (j : Int))))), (q_1412, .inl (cA_1412, 1002, .inl (fun j : Nat => zI (a14_phi (j : Int))))), (q_v, .inl (cV, nv, .inr (.inr (.inr (.inr fv))))), (hc, .inr (12, [v13_0, v13_1, v13_2, v13_3, v13_4, .ref la, v13_6]))] ++ va_pl L (pE P)) U.heap ∧ va_K (dC, dI) vwQ [(cA_1411, .boolean), (cA_1412, .boolean), (cV, .array .boolean), (cO, .object "java/lang/Object"), (cI, .int), (cZ, .boolean)] U ∧ va_D (fun _ => True) ([(h0, .inr (13, [v14_0, .int (zI (z14_n)), v14_2, v14_3, v14_4, v14_5, v14_6, v14_7, v14_8, v14_9, .ref q_v, .ref q_1411, .ref q_1412])), (q_1411, .inl (cA_1411, 1002, .inl (fun j : Nat => zI (a14_now (j : Int))))), (q_1412, .inl (cA_1412, 1002, .inl (fun j : Nat => zI (a14_phi (j : Int))))), (q_v, .inl (cV, nv, .inr (.inr (.inr (.inr fv))))), (hc, .inr (12, [v13_0, v13_1, v13_2, v13_3, v13_4, .ref la, v13_6]))] ++ va_pl L (pE P)) ∧ va_Nw (.castable "SsaForgeModel$Block" "SsaForgeModel$Block") U ∧ va_Nw (.castable "SsaForgeModel$Phi" "SsaForgeModel$Phi") U ∧ va_Nw (.castable "SsaForgeModel$Row" "SsaForgeModel$Row") U)) (va_Qv (fun _ : Unit => True) (fun (_ : Unit) (t : State) => ∃ (z0_9 : Int) (a1_9 : Int → Int) (a2_9 : Int → Int) (Pn_9 : PO), ((0 ≤ z0_9 ∧ z0_9 ≤ 300) ∧ (∀ j : Int, 0 ≤ a1_9 j ∧ a1_9 j ≤ 1) ∧ (∀ j : Int, 0 ≤ a2_9 j ∧ a2_9 j ≤ 1) ∧ (KEP [] L P L Pn_9 la ∧ ALP L Pn_9 cO cI cZ sx_ed la ∧ CHX 43 L P L Pn_9 ∧ (z0_9 = P.lz la) ∧ TBK L Pn_9 43 cZ fv (nv : Int) 1002 0 1 ∧ RIK P Pn_9 ∧ LUB P (LVT Pn_9 fv) la (P.lz la) (-1) ∧ ZER a2_9)) ∧ va_P (dC, dI) vwQ ([(h0, .inr (13, [.ref hc, .int (zI (z0_9)), v14_2, v14_3, v14_4, v14_5, v14_6, v14_7, v14_8, v14_9, .ref q_v, .ref q_1411, .ref q_1412])), (q_1411, .inl (cA_1411, 1002, .inl (fun j : Nat => zI (a1_9 (j : Int))))), (q_1412, .inl (cA_1412, 1002, .inl (fun j : Nat => zI (a2_9 (j : Int))))), (q_v, .inl (cV, nv, .inr (.inr (.inr (.inr fv))))), (hc, .inr (12, [v13_0, v13_1, v13_2, v13_3, v13_4, .ref la, v13_6]))] ++ va_pl L (pE Pn_9)) t.heap ∧ va_K (dC, dI) vwQ [(cA_1411, .boolean), (cA_1412, .boolean), (cV, .array .boolean), (cO, .object "java/lang/Object"), (cI, .int), (cZ, .boolean)] t ∧ va_D (va_A ([(h0, .inr (13, [v14_0, .int (zI (z14_n)), v14_2, v14_3, v14_4, v14_5, v14_6, v14_7, v14_8, v14_9, .ref q_v, .ref q_1411, .ref q_1412])), (q_1411, .inl (cA_1411, 1002, .inl (fun j : Nat => zI (a14_now (j : Int))))), (q_1412, .inl (cA_1412, 1002, .inl (fun j : Nat => zI (a14_phi (j : Int))))), (q_v, .inl (cV, nv, .inr (.inr (.inr (.inr fv))))), (hc, .inr (12, [v13_0, v13_1, v13_2, v13_3, v13_4, .ref la, v13_6]))] ++ va_pl L (pE P)) sz) ([(h0, .inr (13, [.ref hc, .int (zI (z0_9)), v14_2, v14_3, v14_4, v14_5, v14_6, v14_7, v14_8, v14_9, .ref q_v, .ref q_1411, .ref q_1412])), (q_1411, .inl (cA_1411, 1002, .inl (fun j : Nat => zI (a1_9 (j : Int))))), (q_1412, .inl (cA_1412, 1002, .inl (fun j : Nat => zI (a2_9 (j : Int))))), (q_v, .inl (cV, nv, .inr (.inr (.inr (.inr fv))))), (hc, .inr (12, [v13_0, v13_1, v13_2, v13_3, v13_4, .ref la, v13_6]))] ++ va_pl L (pE Pn_9))) (va_A ([(h0, .inr (13, [v14_0, .int (zI (z14_n)), v14_2, v14_3, v14_4, v14_5, v14_6, v14_7, v14_8, v14_9, .ref q_v, .ref q_1411, .ref q_1412])), (q_1411, .inl (cA_1411, 1002, .inl (fun j : Nat => zI (a14_now (j : Int))))), (q_1412, .inl (cA_1412, 1002, .inl (fun j : Nat => zI (a14_phi (j : Int))))), (q_v, .inl (cV, nv, .inr (.inr (.inr (.inr fv))))), (hc, .inr (12, [v13_0, v13_1, v13_2, v13_3, v13_4, .ref la, v13_6]))] ++ va_pl L (pE P)) sz)) 0 0 (va_A ([(h0, .inr (13, [v14_0, .int (zI (z14_n)), v14_2, v14_3, v14_4, v14_5, v14_6, v14_7, v14_8, v14_9, .ref q_v, .ref q_1411, .ref q_1412])), (q_1411, .inl (cA_1411, 1002, .inl (fun j : Nat => zI (a14_now (j : Int))))), (q_1412, .inl (cA_1412, 1002, .inl (fun j : Nat => zI (a14_phi (j : Int))))), (q_v, .inl (cV, nv, .inr (.inr (.inr (.inr fv))))), (hc, .inr (12, [v13_0, v13_1, v13_2, v13_3, v13_4, .ref la, v13_6]))] ++ va_pl L (pE P)) sz) := by
  refine Met.ofW (cc := cX14_live) (maxL := 6) (ret := none) (by decide) rfl ?_
  intro p e s m args below meth c s₁ B hml hv
  obtain ⟨rfl, hsz, hP, hK, hD0, hp0, hp1, hp2⟩ := hv
  have hx := B.exec
  have hb := B.bytes
  have hr := B.returns
  have hts := atoms_spec (ws := v_P14_live) B.pre
  have hown : s.vm.findClass RX14 = some m.cls := findClass_of_methodNamed B.named
  have hlocks := B.notSynchronized
  have ow : ∀ {k : Nat} {w : Cond}, o_P14_live[k]? = some w → w.before ([.ref h0, .ref hc] : List Value).toArray s = true := fun h => hts _ (mow_P14_live _ (List.mem_of_getElem? h))
  subst hsz
  have hD := hD0.self (sz := s.heap.size)
  generalize hAe : va_A ([(h0, .inr (13, [v14_0, .int (zI (z14_n)), v14_2, v14_3, v14_4, v14_5, v14_6, v14_7, v14_8, v14_9, .ref q_v, .ref q_1411, .ref q_1412])), (q_1411, .inl (cA_1411, 1002, .inl (fun j : Nat => zI (a14_now (j : Int))))), (q_1412, .inl (cA_1412, 1002, .inl (fun j : Nat => zI (a14_phi (j : Int))))), (q_v, .inl (cV, nv, .inr (.inr (.inr (.inr fv))))), (hc, .inr (12, [v13_0, v13_1, v13_2, v13_3, v13_4, .ref la, v13_6]))] ++ va_pl L (pE P)) s.heap.size = A at hD ⊢
  have hA : ∀ q : Nat, s.heap.size ≤ q → A q := fun q h => by rw [← hAe]; exact Or.inr h
  have hS : va_S A s.heap s.heap [] := va_S.rf
  have hP : va_P (dC, dI) vwQ ([(h0, .inr (13, [v14_0, .int (zI (z14_n)), v14_2, v14_3, v14_4, v14_5, v14_6, v14_7, v14_8, v14_9, .ref q_v, .ref q_1411, .ref q_1412])), (q_1411, .inl (cA_1411, 1002, .inl (fun j : Nat => zI (a14_now (j : Int))))), (q_1412, .inl (cA_1412, 1002, .inl (fun j : Nat => zI (a14_phi (j : Int))))), (q_v, .inl (cV, nv, .inr (.inr (.inr (.inr fv))))), (hc, .inr (12, [v13_0, v13_1, v13_2, v13_3, v13_4, .ref la, v13_6]))] ++ va_pl L (pE P)) s.heap := hP
  have hl := lv_entry ([.ref h0, .ref hc]) (n := 6) (Nat.le_of_ble_eq_true rfl)
  rw [lg_entry_eq]
  generalize (lg_sl ([.ref h0, .ref hc]) ++ List.replicate (6 - (lg_sl ([.ref h0, .ref hc])).length) Slot.unset).toArray = ls at hl ⊢
  have hl : lv_has ls 6 [(0, .ref h0), (1, .ref hc)] := hl
  obtain ⟨H, hH⟩ : ∃ H, H = s.heap := ⟨_, rfl⟩
  rw [← hH] at hP
  have hS : va_S A s.heap H [] := by rw [hH]; exact hS
  rw [← hH]
  refine zW_cap (fun Q hQ => ?_)
  have hX_a9 := hX_a
  have hla := hX_a.lok.2.2.1
  have hla2 := hX_a.1.1.2.1
  have hA0 := hX_a
  have hT0 := hX_T
  have hz0 := hX_z
  have hrk0 := RIK.refl P
  have hcx0 := CHX.refl 43 L P
  have hTD := hX_I.wk (n2 := P.lz la) (by omega)
  have hall := TBK.all (hX_T.wk (n2 := P.lz la) (by omega))
  refine lv_aload_n hx hb dX14_live_0 rfl (lv_at hl 0 rfl) ?_
  refine lv_aload_n hx hb dX14_live_1 rfl (lv_at hl 1 rfl) ?_
  refine va_put (D := (dC, dI)) (ci := 13) (v := .ref hc) (ty := .object "SsaForgeModel$Code") (C := RX14) (T := TX14) (N := 13) hx hb hts mem_P14_live_0 tyX14 tyX14_ok nmX14 hown hK hP hD hS 0 rfl rfl 0 (by decide) (ow (k := 0) rfl) (fun _ h9 => h9) rfl (by decide +kernel) rfl rfl (Nat.le_of_ble_eq_true rfl) dX14_live_2 (fun H locs hP hD hS => ?_)
  have hP : va_P (dC, dI) vwQ ([(h0, .inr (13, [.ref hc, .int (zI (z14_n)), v14_2, v14_3, v14_4, v14_5, v14_6, v14_7, v14_8, v14_9, .ref q_v, .ref q_1411, .ref q_1412])), (q_1411, .inl (cA_1411, 1002, .inl (fun j : Nat => zI (a14_now (j : Int))))), (q_1412, .inl (cA_1412, 1002, .inl (fun j : Nat => zI (a14_phi (j : Int))))), (q_v, .inl (cV, nv, .inr (.inr (.inr (.inr fv))))), (hc, .inr (12, [v13_0, v13_1, v13_2, v13_3, v13_4, .ref la, v13_6]))] ++ va_pl L (pE P)) H := hP
  have hD : va_D A ([(h0, .inr (13, [.ref hc, .int (zI (z14_n)), v14_2, v14_3, v14_4, v14_5, v14_6, v14_7, v14_8, v14_9, .ref q_v, .ref q_1411, .ref q_1412])), (q_1411, .inl (cA_1411, 1002, .inl (fun j : Nat => zI (a14_now (j : Int))))), (q_1412, .inl (cA_1412, 1002, .inl (fun j : Nat => zI (a14_phi (j : Int))))), (q_v, .inl (cV, nv, .inr (.inr (.inr (.inr fv))))), (hc, .inr (12, [v13_0, v13_1, v13_2, v13_3, v13_4, .ref la, v13_6]))] ++ va_pl L (pE P)) := hD
  refine lv_aload_n hx hb dX14_live_5 rfl (lv_at hl 0 rfl) ?_
  refine lv_aload_n hx hb dX14_live_6 rfl (lv_at hl 0 rfl) ?_
  refine va_get (D := (dC, dI)) (ci := 13) (v := .ref hc) (C := RX14) (T := TX14) (N := 13) hx hb hts mem_P14_live_0 hown hK hP 0 rfl rfl 0 (by decide) (ow (k := 0) rfl) (fun _ h9 => h9) rfl dX14_live_7 ?_
  have hX_l := hX_a9.lok
  have hlz9 := hX_l.2.2.1
  have hPc := hP.part (X := [(h0, .inr (13, [.ref hc, .int (zI (z14_n)), v14_2, v14_3, v14_4, v14_5, v14_6, v14_7, v14_8, v14_9, .ref q_v, .ref q_1411, .ref q_1412])), (q_1411, .inl (cA_1411, 1002, .inl (fun j : Nat => zI (a14_now (j : Int))))), (q_1412, .inl (cA_1412, 1002, .inl (fun j : Nat => zI (a14_phi (j : Int))))), (q_v, .inl (cV, nv, .inr (.inr (.inr (.inr fv))))), (hc, .inr (12, [v13_0, v13_1, v13_2, v13_3, v13_4, .ref la, v13_6]))]) (cx := [(hc, .inr (12, [v13_0, v13_1, v13_2, v13_3, v13_4, .ref la, v13_6]))]) (pl := va_pl L (pE P)) [4] rfl
  have hDc := hD.part (X := [(h0, .inr (13, [.ref hc, .int (zI (z14_n)), v14_2, v14_3, v14_4, v14_5, v14_6, v14_7, v14_8, v14_9, .ref q_v, .ref q_1411, .ref q_1412])), (q_1411, .inl (cA_1411, 1002, .inl (fun j : Nat => zI (a14_now (j : Int))))), (q_1412, .inl (cA_1412, 1002, .inl (fun j : Nat => zI (a14_phi (j : Int))))), (q_v, .inl (cV, nv, .inr (.inr (.inr (.inr fv))))), (hc, .inr (12, [v13_0, v13_1, v13_2, v13_3, v13_4, .ref la, v13_6]))]) (cx := [(hc, .inr (12, [v13_0, v13_1, v13_2, v13_3, v13_4, .ref la, v13_6]))]) (pl := va_pl L (pE P)) [4] (by decide) rfl
  have hKc := hK.sub (tys' := [(cO, .object "java/lang/Object")]) [3] rfl
  have hFc := va_freeP (X := [(h0, .inr (13, [.ref hc, .int (zI (z14_n)), v14_2, v14_3, v14_4, v14_5, v14_6, v14_7, v14_8, v14_9, .ref q_v, .ref q_1411, .ref q_1412])), (q_1411, .inl (cA_1411, 1002, .inl (fun j : Nat => zI (a14_now (j : Int))))), (q_1412, .inl (cA_1412, 1002, .inl (fun j : Nat => zI (a14_phi (j : Int))))), (q_v, .inl (cV, nv, .inr (.inr (.inr (.inr fv))))), (hc, .inr (12, [v13_0, v13_1, v13_2, v13_3, v13_4, .ref la, v13_6]))]) (cx := [(hc, .inr (12, [v13_0, v13_1, v13_2, v13_3, v13_4, .ref la, v13_6]))]) (pl := va_pl L (pE P)) hD hS hA [4] rfl
  refine va_calli (va_runV (As := []) (rest := [.ref h0]) ⟨hx, hb, hml, hown, hts⟩ (c_PC_size l dC dI hc v13_0 v13_1 v13_2 v13_3 v13_4 v13_6 la cO L P hX_l H.size) (cwV 0 hts g_P14_live_PC_size rfl rfl rfl (by decide +kernel) ⟨(Nat.le_of_ble_eq_true rfl), (Nat.le_of_ble_eq_true rfl)⟩) ⟨fun a U g mk q => by obtain ⟨q0, q1, qP, qK, qD⟩ := q; exact ⟨q0, q1, qP, va_K.moved (u := U) (U := U.calling g mk a) (Vm.Alike.refl U.vm) qK, qD⟩, va_recv hKc hPc (ci := 12) (q0 := 0) rfl rfl, fun U hU hW => ⟨rfl, by rw [hU], by rw [hU]; exact hPc, va_K.moved hW.alike hKc, hDc.weaken (fun _ _ _ _ => trivial)⟩⟩ rfl rfl hl.1 rfl (lv_room (Nat.le_of_ble_eq_true rfl)) dX14_live_10 ⟨(Nat.le_of_ble_eq_true rfl), (Nat.le_of_ble_eq_true rfl)⟩) hS (fun q _ h => hFc q h) hFc (fun r_2001 u t H1 locs ht hvm hw hB hz1 hk1 hS => ?_)
  obtain ⟨hP1, hK1, hD1⟩ := hB
  rw [ht] at hP1
  have hK1 := va_K.moved hvm.symm hK1
  obtain ⟨hP, hD⟩ := va_joinP (X := [(h0, .inr (13, [.ref hc, .int (zI (z14_n)), v14_2, v14_3, v14_4, v14_5, v14_6, v14_7, v14_8, v14_9, .ref q_v, .ref q_1411, .ref q_1412])), (q_1411, .inl (cA_1411, 1002, .inl (fun j : Nat => zI (a14_now (j : Int))))), (q_1412, .inl (cA_1412, 1002, .inl (fun j : Nat => zI (a14_phi (j : Int))))), (q_v, .inl (cV, nv, .inr (.inr (.inr (.inr fv))))), (hc, .inr (12, [v13_0, v13_1, v13_2, v13_3, v13_4, .ref la, v13_6]))]) (cx := [(hc, .inr (12, [v13_0, v13_1, v13_2, v13_3, v13_4, .ref la, v13_6]))]) (wr := [(h0, .inr (13, [.ref hc, .int (zI (z14_n)), v14_2, v14_3, v14_4, v14_5, v14_6, v14_7, v14_8, v14_9, .ref q_v, .ref q_1411, .ref q_1412])), (q_1411, .inl (cA_1411, 1002, .inl (fun j : Nat => zI (a14_now (j : Int))))), (q_1412, .inl (cA_1412, 1002, .inl (fun j : Nat => zI (a14_phi (j : Int))))), (q_v, .inl (cV, nv, .inr (.inr (.inr (.inr fv)))))]) (rx := [(hc, .inr (12, [v13_0, v13_1, v13_2, v13_3, v13_4, .ref la, v13_6]))]) (pl := va_pl L (pE P)) (pl1 := va_pl L (pE P)) hP hD [4] [0, 1, 2, 3] rfl rfl (by decide) (by decide) hk1 hFc hP1 hD1
  have hK := (hK.sub (tys' := [(cA_1411, .boolean), (cA_1412, .boolean), (cV, .array .boolean), (cI, .int), (cZ, .boolean)]) [0, 1, 2, 4, 5] rfl).app hK1
  generalize H1 = H at hP hS ⊢
  have hP : va_P (dC, dI) vwQ ([(h0, .inr (13, [.ref hc, .int (zI (z14_n)), v14_2, v14_3, v14_4, v14_5, v14_6, v14_7, v14_8, v14_9, .ref q_v, .ref q_1411, .ref q_1412])), (q_1411, .inl (cA_1411, 1002, .inl (fun j : Nat => zI (a14_now (j : Int))))), (q_1412, .inl (cA_1412, 1002, .inl (fun j : Nat => zI (a14_phi (j : Int))))), (q_v, .inl (cV, nv, .inr (.inr (.inr (.inr fv))))), (hc, .inr (12, [v13_0, v13_1, v13_2, v13_3, v13_4, .ref la, v13_6]))] ++ va_pl L (pE P)) H := hP
  have hD : va_D A ([(h0, .inr (13, [.ref hc, .int (zI (z14_n)), v14_2, v14_3, v14_4, v14_5, v14_6, v14_7, v14_8, v14_9, .ref q_v, .ref q_1411, .ref q_1412])), (q_1411, .inl (cA_1411, 1002, .inl (fun j : Nat => zI (a14_now (j : Int))))), (q_1412, .inl (cA_1412, 1002, .inl (fun j : Nat => zI (a14_phi (j : Int))))), (q_v, .inl (cV, nv, .inr (.inr (.inr (.inr fv))))), (hc, .inr (12, [v13_0, v13_1, v13_2, v13_3, v13_4, .ref la, v13_6]))] ++ va_pl L (pE P)) := hD
  have hK : va_K (dC, dI) vwQ [(cA_1411, .boolean), (cA_1412, .boolean), (cV, .array .boolean), (cI, .int), (cZ, .boolean), (cO, .object "java/lang/Object")] s := hK
  refine W.widen (k := 0) (n := 0) (Nat.le_of_ble_eq_true rfl) (Nat.le_of_ble_eq_true rfl) ?_
  obtain rfl : r_2001 = (zI (P.lz la)) := hw
  refine va_put (D := (dC, dI)) (ci := 13) (v := .int (zI (P.lz la))) (ty := .int) (C := RX14) (T := TX14) (N := 13) hx hb hts mem_P14_live_0 tyX14 tyX14_ok nmX14 hown hK hP hD hS 0 rfl rfl 1 (by decide) (ow (k := 5) rfl) (fun _ h9 => h9) rfl (by decide +kernel) rfl rfl (Nat.le_of_ble_eq_true rfl) dX14_live_13 (fun H locs hP hD hS => ?_)
  have hP : va_P (dC, dI) vwQ ([(h0, .inr (13, [.ref hc, .int (zI (P.lz la)), v14_2, v14_3, v14_4, v14_5, v14_6, v14_7, v14_8, v14_9, .ref q_v, .ref q_1411, .ref q_1412])), (q_1411, .inl (cA_1411, 1002, .inl (fun j : Nat => zI (a14_now (j : Int))))), (q_1412, .inl (cA_1412, 1002, .inl (fun j : Nat => zI (a14_phi (j : Int))))), (q_v, .inl (cV, nv, .inr (.inr (.inr (.inr fv))))), (hc, .inr (12, [v13_0, v13_1, v13_2, v13_3, v13_4, .ref la, v13_6]))] ++ va_pl L (pE P)) H := hP
  have hD : va_D A ([(h0, .inr (13, [.ref hc, .int (zI (P.lz la)), v14_2, v14_3, v14_4, v14_5, v14_6, v14_7, v14_8, v14_9, .ref q_v, .ref q_1411, .ref q_1412])), (q_1411, .inl (cA_1411, 1002, .inl (fun j : Nat => zI (a14_now (j : Int))))), (q_1412, .inl (cA_1412, 1002, .inl (fun j : Nat => zI (a14_phi (j : Int))))), (q_v, .inl (cV, nv, .inr (.inr (.inr (.inr fv))))), (hc, .inr (12, [v13_0, v13_1, v13_2, v13_3, v13_4, .ref la, v13_6]))] ++ va_pl L (pE P)) := hD
  obtain ⟨z_2002, ez_2002⟩ : ∃ z9 : Int, z9 = P.lz la := ⟨_, rfl⟩
  rw [← ez_2002] at hP hD
  have hP : va_P (dC, dI) vwQ ([(h0, .inr (13, [.ref hc, .int (zI (z_2002)), v14_2, v14_3, v14_4, v14_5, v14_6, v14_7, v14_8, v14_9, .ref q_v, .ref q_1411, .ref q_1412])), (q_1411, .inl (cA_1411, 1002, .inl (fun j : Nat => zI (a14_now (j : Int))))), (q_1412, .inl (cA_1412, 1002, .inl (fun j : Nat => zI (a14_phi (j : Int))))), (q_v, .inl (cV, nv, .inr (.inr (.inr (.inr fv))))), (hc, .inr (12, [v13_0, v13_1, v13_2, v13_3, v13_4, .ref la, v13_6]))] ++ va_pl L (pE P)) H := hP
  have hD : va_D A ([(h0, .inr (13, [.ref hc, .int (zI (z_2002)), v14_2, v14_3, v14_4, v14_5, v14_6, v14_7, v14_8, v14_9, .ref q_v, .ref q_1411, .ref q_1412])), (q_1411, .inl (cA_1411, 1002, .inl (fun j : Nat => zI (a14_now (j : Int))))), (q_1412, .inl (cA_1412, 1002, .inl (fun j : Nat => zI (a14_phi (j : Int))))), (q_v, .inl (cV, nv, .inr (.inr (.inr (.inr fv))))), (hc, .inr (12, [v13_0, v13_1, v13_2, v13_3, v13_4, .ref la, v13_6]))] ++ va_pl L (pE P)) := hD
  refine lv_iconst (v := 0) hx hb dX14_live_16 (by decide) ?_
  refine lv_istore_n (lv' := [(2, .int 0), (0, .ref h0), (1, .ref hc)]) hx hb dX14_live_17 rfl hl (by decide) rfl (fun ls hl => ?_)
  have key18 : ∀ n18 : Nat, ∀ (d18_2 : Int) (P18 : PO) (ls : Array Slot) (H : Heap) (locs : List Loc), (P18.tot 2 la ≤ P.tot 2 la ∧ P18.tot 1 la ≤ P.tot 1 la) → (KEP [] L P L P18 la) → (ALP L P18 cO cI cZ sx_ed la) → (0 ≤ d18_2 ∧ d18_2 ≤ P.lz la) → (CHX 43 L P L P18) → (TBK L P18 43 cZ fv (nv : Int) 1002 0 1) → (RIK P P18) → (LVZ P18 fv (d18_2) 0) → ((P.lz la - d18_2 : Int).toNat) < n18 → lv_has ls 6 [(0, .ref h0), (1, .ref hc), (2, .int (zI (d18_2)))] → va_P (dC, dI) vwQ ([(h0, .inr (13, [.ref hc, .int (zI (z_2002)), v14_2, v14_3, v14_4, v14_5, v14_6, v14_7, v14_8, v14_9, .ref q_v, .ref q_1411, .ref q_1412])), (q_1411, .inl (cA_1411, 1002, .inl (fun j : Nat => zI (a14_now (j : Int))))), (q_1412, .inl (cA_1412, 1002, .inl (fun j : Nat => zI (a14_phi (j : Int))))), (q_v, .inl (cV, nv, .inr (.inr (.inr (.inr fv))))), (hc, .inr (12, [v13_0, v13_1, v13_2, v13_3, v13_4, .ref la, v13_6]))] ++ va_pl L (pE P18)) H → va_D A ([(h0, .inr (13, [.ref hc, .int (zI (z_2002)), v14_2, v14_3, v14_4, v14_5, v14_6, v14_7, v14_8, v14_9, .ref q_v, .ref q_1411, .ref q_1412])), (q_1411, .inl (cA_1411, 1002, .inl (fun j : Nat => zI (a14_now (j : Int))))), (q_1412, .inl (cA_1412, 1002, .inl (fun j : Nat => zI (a14_phi (j : Int))))), (q_v, .inl (cV, nv, .inr (.inr (.inr (.inr fv))))), (hc, .inr (12, [v13_0, v13_1, v13_2, v13_3, v13_4, .ref la, v13_6]))] ++ va_pl L (pE P18)) → va_S A s.heap H locs → W p l e (headSpec v_P14_live ({ frames := 5, cells := 0, slots := 0, locals := 112 })).room s m ([.ref h0, .ref hc] : List Value).toArray below meth c H locs 0 0 Q (F0 m 18 ls []) := by
    intro n18
    induction n18 with
    | zero => intro d18_2 P18 ls H locs tP18 kP18 aP18 jd18_2 jx18 jv18 jr18 jz18 hm18; exact absurd hm18 (by omega)
    | succ n18 ih18 =>
      intro d18_2 P18 ls H locs tP18 kP18 aP18 jd18_2 jx18 jv18 jr18 jz18 hm18 hl hP hD hS
      have hq_2003 : la ∈ L ∧ P18.kd la = 30 := kP18.mem hX_a.lok.1 hX_a.lok.2.1 (by decide)
      have hz9 := kP18.2.2.1
      have hA_2004 : KEP [] L P L P18 la := (KEP.refl [] L P la).trans kP18
      have hj18 := kP18
      skip
      refine lv_iload_n hx hb dX14_live_18 rfl (lv_at hl 2 rfl) ?_
      refine lv_aload_n hx hb dX14_live_19 rfl (lv_at hl 0 rfl) ?_
      refine va_get (D := (dC, dI)) (ci := 13) (v := .int (zI (z_2002))) (C := RX14) (T := TX14) (N := 13) hx hb hts mem_P14_live_0 hown hK hP 0 rfl rfl 1 (by decide) (ow (k := 5) rfl) (fun _ h9 => h9) rfl dX14_live_20 ?_
      refine lv_icmp_ge (tgt := 56) hx hb dX14_live_23 (by decide) (fun b23 => ?_) (fun b23 => ?_)
      · have yb23 : (z_2002 : Int) ≤ (d18_2 : Int) := (zI_le (a := z_2002) (b := d18_2) (by omega) (by omega) (by omega) (by omega)).mp b23
        refine lv_iconst (v := 1) hx hb dX14_live_56 (by decide) ?_
        refine lv_istore_n (lv' := [(2, .int 1), (0, .ref h0), (1, .ref hc)]) hx hb dX14_live_57 rfl hl (by decide) rfl (fun ls hl => ?_)
        have key58 : ∀ n58 : Nat, ∀ (d58_2 : Int) (w58_1411 : Int → Int) (w58_1412 : Int → Int) (P58 : PO) (ls : Array Slot) (H : Heap) (locs : List Loc), (P58.tot 2 la ≤ P18.tot 2 la ∧ P58.tot 1 la ≤ P18.tot 1 la) → (KEP [] L P18 L P58 la) → (ALP L P58 cO cI cZ sx_ed la) → (0 ≤ d58_2 ∧ d58_2 ≤ 1) → (∀ j : Int, 0 ≤ w58_1411 j ∧ w58_1411 j ≤ 1) → (∀ j : Int, 0 ≤ w58_1412 j ∧ w58_1412 j ≤ 1) → (CHX 43 L P L P58) → (TBK L P58 43 cZ fv (nv : Int) 1002 0 1) → (RIK P P58) → (LVI P (LVT P58 fv) la (P.lz la)) → (ZER w58_1412) → (d58_2 = 0 → LUB P (LVT P58 fv) la (P.lz la) (-1)) → ((2 * ZN P58 fv (P.lz la) + d58_2 : Int).toNat) < n58 → lv_has ls 6 [(0, .ref h0), (1, .ref hc), (2, .int (zI (d58_2)))] → va_P (dC, dI) vwQ ([(h0, .inr (13, [.ref hc, .int (zI (z_2002)), v14_2, v14_3, v14_4, v14_5, v14_6, v14_7, v14_8, v14_9, .ref q_v, .ref q_1411, .ref q_1412])), (q_1411, .inl (cA_1411, 1002, .inl (fun j : Nat => zI (w58_1411 (j : Int))))), (q_1412, .inl (cA_1412, 1002, .inl (fun j : Nat => zI (w58_1412 (j : Int))))), (q_v, .inl (cV, nv, .inr (.inr (.inr (.inr fv))))), (hc, .inr (12, [v13_0, v13_1, v13_2, v13_3, v13_4, .ref la, v13_6]))] ++ va_pl L (pE P58)) H → va_D A ([(h0, .inr (13, [.ref hc, .int (zI (z_2002)), v14_2, v14_3, v14_4, v14_5, v14_6, v14_7, v14_8, v14_9, .ref q_v, .ref q_1411, .ref q_1412])), (q_1411, .inl (cA_1411, 1002, .inl (fun j : Nat => zI (w58_1411 (j : Int))))), (q_1412, .inl (cA_1412, 1002, .inl (fun j : Nat => zI (w58_1412 (j : Int))))), (q_v, .inl (cV, nv, .inr (.inr (.inr (.inr fv))))), (hc, .inr (12, [v13_0, v13_1, v13_2, v13_3, v13_4, .ref la, v13_6]))] ++ va_pl L (pE P58)) → va_S A s.heap H locs → W p l e (headSpec v_P14_live ({ frames := 5, cells := 0, slots := 0, locals := 112 })).room s m ([.ref h0, .ref hc] : List Value).toArray below meth c H locs 0 0 Q (F0 m 58 ls []) := by
          intro n58
          induction n58 with
          | zero => intro d58_2 w58_1411 w58_1412 P58 ls H locs tP58 kP58 aP58 jd58_2 jw58_1411 jw58_1412 jx58 jv58 jr58 jl58 jp58 ju58 hm58; exact absurd hm58 (by omega)
          | succ n58 ih58 =>
            intro d58_2 w58_1411 w58_1412 P58 ls H locs tP58 kP58 aP58 jd58_2 jw58_1411 jw58_1412 jx58 jv58 jr58 jl58 jp58 ju58 hm58 hl hP hD hS
            have hq_2005 : la ∈ L ∧ P58.kd la = 30 := kP58.mem hq_2003.1 hq_2003.2 (by decide)
            have hz9 := kP58.2.2.1
            have hA_2006 : KEP [] L P L P58 la := hA_2004.trans kP58
            have hA_2007 : KEP [] L P18 L P58 la := (KEP.refl [] L P18 la).trans kP58
            have hj58 := kP58
            skip
            have hzn0 := ZN.nn P58 fv (P.lz la)
            refine lv_iload_n hx hb dX14_live_58 rfl (lv_at hl 2 rfl) ?_
            refine lv_if_eq (tgt := 205) hx hb dX14_live_59 (by decide) (fun b59 => ?_) (fun b59 => ?_)
            · have yb59 : (d58_2 : Int) = (0 : Int) := (zI_eq (a := d58_2) (b := 0) (by omega) (by omega) (by omega) (by omega)).mp b59
              rw [hQ]
              have hK := hK.sub (tys' := [(cA_1411, .boolean), (cA_1412, .boolean), (cV, .array .boolean), (cO, .object "java/lang/Object"), (cI, .int), (cZ, .boolean)]) [0, 1, 2, 5, 3, 4] rfl
              refine W.widen (k := 0) (n := 0) (Nat.le_of_ble_eq_true rfl) (Nat.le_of_ble_eq_true rfl) ?_
              exact W.vret hx hb hr (fun t ht hW => ⟨⟨(), rfl, trivial, z_2002, w58_1411, w58_1412, P58, ⟨(by omega), jw58_1411, jw58_1412, ⟨hA_2006, aP58, jx58, by omega, jv58, jr58, ju58 (by omega), jp58⟩⟩, by rw [ht]; exact hP, va_K.moved hW.alike hK, hD⟩, hS.F ht⟩) hS.2.2 dX14_live_205
            · have yb59 : ¬ (d58_2 : Int) = (0 : Int) := fun q => b59 ((zI_eq (a := d58_2) (b := 0) (by omega) (by omega) (by omega) (by omega)).mpr q)
              refine lv_iconst (v := 0) hx hb dX14_live_62 (by decide) ?_
              refine lv_istore_n (lv' := [(2, .int 0), (0, .ref h0), (1, .ref hc)]) hx hb dX14_live_63 rfl hl (by decide) rfl (fun ls hl => ?_)
              refine lv_aload_n hx hb dX14_live_64 rfl (lv_at hl 1 rfl) ?_
              refine va_get (D := (dC, dI)) (ci := 13) (v := .int (zI (z_2002))) (C := RX14) (T := TX14) (N := 13) hx hb hts mem_P14_live_0 hown hK hP 0 rfl rfl 1 (by decide) (ow (k := 5) rfl) (fun _ h9 => h9) rfl dX14_live_65 ?_
              refine lv_iconst (v := 1) hx hb dX14_live_68 (by decide) ?_
              refine lv_isub hx hb dX14_live_69 ?_
              refine lv_topi (fun z ez => ?_)
              obtain rfl : z = zI (z_2002 - 1) := ez.trans (zI_sub (z_2002) (1))
              refine lv_istore_n (lv' := [(3, .int (zI (z_2002 - 1))), (2, .int 0), (0, .ref h0), (1, .ref hc)]) hx hb dX14_live_70 rfl hl (by decide) rfl (fun ls hl => ?_)
              have key71 : ∀ n71 : Nat, ∀ (d71_3 : Int) (d71_2 : Int) (w71_1411 : Int → Int) (w71_1412 : Int → Int) (P71 : PO) (ls : Array Slot) (H : Heap) (locs : List Loc), (P71.tot 2 la ≤ P58.tot 2 la ∧ P71.tot 1 la ≤ P58.tot 1 la) → (KEP [] L P58 L P71 la) → (ALP L P71 cO cI cZ sx_ed la) → (-1 ≤ d71_3 ∧ d71_3 < P.lz la) → (0 ≤ d71_2 ∧ d71_2 ≤ 1 ∧ d71_2 + ZN P71 fv (P.lz la) ≤ ZN P58 fv (P.lz la)) → (∀ j : Int, 0 ≤ w71_1411 j ∧ w71_1411 j ≤ 1) → (∀ j : Int, 0 ≤ w71_1412 j ∧ w71_1412 j ≤ 1) → (CHX 43 L P L P71) → (TBK L P71 43 cZ fv (nv : Int) 1002 0 1) → (RIK P P71) → (LVI P (LVT P71 fv) la (P.lz la)) → (ZER w71_1412) → (d71_2 = 0 → LUB P (LVT P71 fv) la (P.lz la) (d71_3)) → ((d71_3 + 1 : Int).toNat) < n71 → lv_has ls 6 [(0, .ref h0), (1, .ref hc), (2, .int (zI (d71_2))), (3, .int (zI (d71_3)))] → va_P (dC, dI) vwQ ([(h0, .inr (13, [.ref hc, .int (zI (z_2002)), v14_2, v14_3, v14_4, v14_5, v14_6, v14_7, v14_8, v14_9, .ref q_v, .ref q_1411, .ref q_1412])), (q_1411, .inl (cA_1411, 1002, .inl (fun j : Nat => zI (w71_1411 (j : Int))))), (q_1412, .inl (cA_1412, 1002, .inl (fun j : Nat => zI (w71_1412 (j : Int))))), (q_v, .inl (cV, nv, .inr (.inr (.inr (.inr fv))))), (hc, .inr (12, [v13_0, v13_1, v13_2, v13_3, v13_4, .ref la, v13_6]))] ++ va_pl L (pE P71)) H → va_D A ([(h0, .inr (13, [.ref hc, .int (zI (z_2002)), v14_2, v14_3, v14_4, v14_5, v14_6, v14_7, v14_8, v14_9, .ref q_v, .ref q_1411, .ref q_1412])), (q_1411, .inl (cA_1411, 1002, .inl (fun j : Nat => zI (w71_1411 (j : Int))))), (q_1412, .inl (cA_1412, 1002, .inl (fun j : Nat => zI (w71_1412 (j : Int))))), (q_v, .inl (cV, nv, .inr (.inr (.inr (.inr fv))))), (hc, .inr (12, [v13_0, v13_1, v13_2, v13_3, v13_4, .ref la, v13_6]))] ++ va_pl L (pE P71)) → va_S A s.heap H locs → W p l e (headSpec v_P14_live ({ frames := 5, cells := 0, slots := 0, locals := 112 })).room s m ([.ref h0, .ref hc] : List Value).toArray below meth c H locs 0 0 Q (F0 m 71 ls []) := by
                intro n71
                induction n71 with
                | zero => intro d71_3 d71_2 w71_1411 w71_1412 P71 ls H locs tP71 kP71 aP71 jd71_3 jd71_2 jw71_1411 jw71_1412 jx71 jv71 jr71 jl71 jp71 ju71 hm71; exact absurd hm71 (by omega)
                | succ n71 ih71 =>
                  intro d71_3 d71_2 w71_1411 w71_1412 P71 ls H locs tP71 kP71 aP71 jd71_3 jd71_2 jw71_1411 jw71_1412 jx71 jv71 jr71 jl71 jp71 ju71 hm71 hl hP hD hS
                  have hq_2008 : la ∈ L ∧ P71.kd la = 30 := kP71.mem hq_2005.1 hq_2005.2 (by decide)
                  have hz9 := kP71.2.2.1
                  have hA_2009 : KEP [] L P L P71 la := hA_2006.trans kP71
                  have hA_2010 : KEP [] L P18 L P71 la := hA_2007.trans kP71
                  have hA_2011 : KEP [] L P58 L P71 la := (KEP.refl [] L P58 la).trans kP71
                  have hj71 := kP71
                  skip
                  have hzn1 := ZN.nn P71 fv (P.lz la)
                  refine lv_iload_n hx hb dX14_live_71 rfl (lv_at hl 3 rfl) ?_
                  refine lv_if_lt (tgt := 202) hx hb dX14_live_72 (by decide) (fun b72 => ?_) (fun b72 => ?_)
                  · have yb72 : (d71_3 : Int) < (0 : Int) := (zI_lt (a := d71_3) (b := 0) (by omega) (by omega) (by omega) (by omega)).mp b72
                    refine lv_goto (tgt := 58) hx hb dX14_live_202 (by decide) ?_
                    exact ih58 d71_2 w71_1411 w71_1412 P71 ls H _ (by omega) (kP58.trans hA_2011) aP71 (by omega) jw71_1411 jw71_1412 jx71 jv71 jr71 jl71 jp71 (fun q9 => (ju71 q9).wk (by omega)) (by omega) (lv_sub hl [0, 1, 2] rfl) hP hD hS
                  · have yb72 : ¬ (d71_3 : Int) < (0 : Int) := fun q => b72 ((zI_lt (a := d71_3) (b := 0) (by omega) (by omega) (by omega) (by omega)).mpr q)
                    refine lv_aload_n hx hb dX14_live_75 rfl (lv_at hl 0 rfl) ?_
                    refine lv_iload_n hx hb dX14_live_76 rfl (lv_at hl 3 rfl) ?_
                    have hX_T : TBK L P71 43 cZ fv (P71.lz la) 1002 0 1 := jv71.wk (by omega)
                    have hX_z := jp71
                    have hX_a := aP71
                    have hPc := hP.part (X := [(h0, .inr (13, [.ref hc, .int (zI (z_2002)), v14_2, v14_3, v14_4, v14_5, v14_6, v14_7, v14_8, v14_9, .ref q_v, .ref q_1411, .ref q_1412])), (q_1411, .inl (cA_1411, 1002, .inl (fun j : Nat => zI (w71_1411 (j : Int))))), (q_1412, .inl (cA_1412, 1002, .inl (fun j : Nat => zI (w71_1412 (j : Int))))), (q_v, .inl (cV, nv, .inr (.inr (.inr (.inr fv))))), (hc, .inr (12, [v13_0, v13_1, v13_2, v13_3, v13_4, .ref la, v13_6]))]) (cx := [(h0, .inr (13, [.ref hc, .int (zI (z_2002)), v14_2, v14_3, v14_4, v14_5, v14_6, v14_7, v14_8, v14_9, .ref q_v, .ref q_1411, .ref q_1412])), (q_1411, .inl (cA_1411, 1002, .inl (fun j : Nat => zI (w71_1411 (j : Int))))), (q_1412, .inl (cA_1412, 1002, .inl (fun j : Nat => zI (w71_1412 (j : Int))))), (q_v, .inl (cV, nv, .inr (.inr (.inr (.inr fv))))), (hc, .inr (12, [v13_0, v13_1, v13_2, v13_3, v13_4, .ref la, v13_6]))]) (pl := va_pl L (pE P71)) [0, 1, 2, 3, 4] rfl
                    have hDc := hD.part (X := [(h0, .inr (13, [.ref hc, .int (zI (z_2002)), v14_2, v14_3, v14_4, v14_5, v14_6, v14_7, v14_8, v14_9, .ref q_v, .ref q_1411, .ref q_1412])), (q_1411, .inl (cA_1411, 1002, .inl (fun j : Nat => zI (w71_1411 (j : Int))))), (q_1412, .inl (cA_1412, 1002, .inl (fun j : Nat => zI (w71_1412 (j : Int))))), (q_v, .inl (cV, nv, .inr (.inr (.inr (.inr fv))))), (hc, .inr (12, [v13_0, v13_1, v13_2, v13_3, v13_4, .ref la, v13_6]))]) (cx := [(h0, .inr (13, [.ref hc, .int (zI (z_2002)), v14_2, v14_3, v14_4, v14_5, v14_6, v14_7, v14_8, v14_9, .ref q_v, .ref q_1411, .ref q_1412])), (q_1411, .inl (cA_1411, 1002, .inl (fun j : Nat => zI (w71_1411 (j : Int))))), (q_1412, .inl (cA_1412, 1002, .inl (fun j : Nat => zI (w71_1412 (j : Int))))), (q_v, .inl (cV, nv, .inr (.inr (.inr (.inr fv))))), (hc, .inr (12, [v13_0, v13_1, v13_2, v13_3, v13_4, .ref la, v13_6]))]) (pl := va_pl L (pE P71)) [0, 1, 2, 3, 4] (by decide) rfl
                    have hKc := hK.sub (tys' := [(cA_1411, .boolean), (cA_1412, .boolean), (cV, .array .boolean), (cO, .object "java/lang/Object"), (cI, .int), (cZ, .boolean)]) [0, 1, 2, 5, 3, 4] rfl
                    have hFc := va_freeP (X := [(h0, .inr (13, [.ref hc, .int (zI (z_2002)), v14_2, v14_3, v14_4, v14_5, v14_6, v14_7, v14_8, v14_9, .ref q_v, .ref q_1411, .ref q_1412])), (q_1411, .inl (cA_1411, 1002, .inl (fun j : Nat => zI (w71_1411 (j : Int))))), (q_1412, .inl (cA_1412, 1002, .inl (fun j : Nat => zI (w71_1412 (j : Int))))), (q_v, .inl (cV, nv, .inr (.inr (.inr (.inr fv))))), (hc, .inr (12, [v13_0, v13_1, v13_2, v13_3, v13_4, .ref la, v13_6]))]) (cx := [(h0, .inr (13, [.ref hc, .int (zI (z_2002)), v14_2, v14_3, v14_4, v14_5, v14_6, v14_7, v14_8, v14_9, .ref q_v, .ref q_1411, .ref q_1412])), (q_1411, .inl (cA_1411, 1002, .inl (fun j : Nat => zI (w71_1411 (j : Int))))), (q_1412, .inl (cA_1412, 1002, .inl (fun j : Nat => zI (w71_1412 (j : Int))))), (q_v, .inl (cV, nv, .inr (.inr (.inr (.inr fv))))), (hc, .inr (12, [v13_0, v13_1, v13_2, v13_3, v13_4, .ref la, v13_6]))]) (pl := va_pl L (pE P71)) hD hS hA [0, 1, 2, 3, 4] rfl
                    refine va_callv (va_runV (As := [.int (zI (d71_3))]) (rest := []) ⟨hx, hb, hml, hown, hts⟩ (c_P14_behindE l dC dI cI cZ h0 (.int (zI (z_2002))) v14_2 v14_3 v14_4 v14_5 v14_6 v14_7 v14_8 v14_9 q_1411 cA_1411 w71_1411 q_1412 cA_1412 w71_1412 q_v cV nv fv hc v13_0 v13_1 v13_2 v13_3 v13_4 v13_6 la cO L P71 sx_ed d71_3 jw71_1411 jw71_1412 (by omega) hX_a hX_T (by omega) hX_z H.size) (cwV 1 hts g_P14_live_P14_behindE rfl rfl rfl (by decide +kernel) ⟨(Nat.le_of_ble_eq_true rfl), (Nat.le_of_ble_eq_true rfl)⟩) ⟨fun a U g mk q => by obtain ⟨q0, q1, qP, qK, qD, e0, e1⟩ := q; exact ⟨q0, q1, qP, va_K.moved (u := U) (U := U.calling g mk a) (Vm.Alike.refl U.vm) qK, qD, va_Nw.same rfl (u := U) (U := U.calling g mk a) rfl e0, va_Nw.same rfl (u := U) (U := U.calling g mk a) rfl e1⟩, va_recv hKc hPc (ci := 13) (q0 := 0) rfl rfl, fun U hU hW => ⟨rfl, by rw [hU], by rw [hU]; exact hPc, va_K.moved hW.alike hKc, hDc.weaken (fun _ _ _ _ => trivial), va_Nw.warmC hW hp0, va_Nw.warmC hW hp1⟩⟩ rfl rfl hl.1 rfl (lv_room (Nat.le_of_ble_eq_true rfl)) dX14_live_77 ⟨(Nat.le_of_ble_eq_true rfl), (Nat.le_of_ble_eq_true rfl)⟩) hS (fun q _ h => hFc q h) hFc (fun  u t H1 locs ht hvm hw hB hz1 hk1 hS => ?_)
                    obtain ⟨a0_2012, a1_2013, hxt_2013, hP1, hK1, hD1⟩ := hB
                    rw [ht] at hP1
                    have hK1 := va_K.moved hvm.symm hK1
                    obtain ⟨hP, hD⟩ := va_joinP (X := [(h0, .inr (13, [.ref hc, .int (zI (z_2002)), v14_2, v14_3, v14_4, v14_5, v14_6, v14_7, v14_8, v14_9, .ref q_v, .ref q_1411, .ref q_1412])), (q_1411, .inl (cA_1411, 1002, .inl (fun j : Nat => zI (w71_1411 (j : Int))))), (q_1412, .inl (cA_1412, 1002, .inl (fun j : Nat => zI (w71_1412 (j : Int))))), (q_v, .inl (cV, nv, .inr (.inr (.inr (.inr fv))))), (hc, .inr (12, [v13_0, v13_1, v13_2, v13_3, v13_4, .ref la, v13_6]))]) (cx := [(h0, .inr (13, [.ref hc, .int (zI (z_2002)), v14_2, v14_3, v14_4, v14_5, v14_6, v14_7, v14_8, v14_9, .ref q_v, .ref q_1411, .ref q_1412])), (q_1411, .inl (cA_1411, 1002, .inl (fun j : Nat => zI (w71_1411 (j : Int))))), (q_1412, .inl (cA_1412, 1002, .inl (fun j : Nat => zI (w71_1412 (j : Int))))), (q_v, .inl (cV, nv, .inr (.inr (.inr (.inr fv))))), (hc, .inr (12, [v13_0, v13_1, v13_2, v13_3, v13_4, .ref la, v13_6]))]) (wr := []) (rx := [(h0, .inr (13, [.ref hc, .int (zI (z_2002)), v14_2, v14_3, v14_4, v14_5, v14_6, v14_7, v14_8, v14_9, .ref q_v, .ref q_1411, .ref q_1412])), (q_1411, .inl (cA_1411, 1002, .inl (fun j : Nat => zI (a0_2012 (j : Int))))), (q_1412, .inl (cA_1412, 1002, .inl (fun j : Nat => zI (a1_2013 (j : Int))))), (q_v, .inl (cV, nv, .inr (.inr (.inr (.inr fv))))), (hc, .inr (12, [v13_0, v13_1, v13_2, v13_3, v13_4, .ref la, v13_6]))]) (pl := va_pl L (pE P71)) (pl1 := va_pl L (pE P71)) hP hD [0, 1, 2, 3, 4] [] rfl rfl (by decide) (by decide) hk1 hFc hP1 hD1
                    have hK := (hK.sub (tys' := []) [] rfl).app hK1
                    generalize H1 = H at hP hS ⊢
                    have hP : va_P (dC, dI) vwQ ([(h0, .inr (13, [.ref hc, .int (zI (z_2002)), v14_2, v14_3, v14_4, v14_5, v14_6, v14_7, v14_8, v14_9, .ref q_v, .ref q_1411, .ref q_1412])), (q_1411, .inl (cA_1411, 1002, .inl (fun j : Nat => zI (a0_2012 (j : Int))))), (q_1412, .inl (cA_1412, 1002, .inl (fun j : Nat => zI (a1_2013 (j : Int))))), (q_v, .inl (cV, nv, .inr (.inr (.inr (.inr fv))))), (hc, .inr (12, [v13_0, v13_1, v13_2, v13_3, v13_4, .ref la, v13_6]))] ++ va_pl L (pE P71)) H := hP
                    have hD : va_D A ([(h0, .inr (13, [.ref hc, .int (zI (z_2002)), v14_2, v14_3, v14_4, v14_5, v14_6, v14_7, v14_8, v14_9, .ref q_v, .ref q_1411, .ref q_1412])), (q_1411, .inl (cA_1411, 1002, .inl (fun j : Nat => zI (a0_2012 (j : Int))))), (q_1412, .inl (cA_1412, 1002, .inl (fun j : Nat => zI (a1_2013 (j : Int))))), (q_v, .inl (cV, nv, .inr (.inr (.inr (.inr fv))))), (hc, .inr (12, [v13_0, v13_1, v13_2, v13_3, v13_4, .ref la, v13_6]))] ++ va_pl L (pE P71)) := hD
                    have hK : va_K (dC, dI) vwQ [(cA_1411, .boolean), (cA_1412, .boolean), (cV, .array .boolean), (cO, .object "java/lang/Object"), (cI, .int), (cZ, .boolean)] s := hK
                    refine W.widen (k := 0) (n := 0) (Nat.le_of_ble_eq_true rfl) (Nat.le_of_ble_eq_true rfl) ?_
                    obtain ⟨rk_2014, rk_2015, hu_2015⟩ := hxt_2013
                    have hbh9 := hu_2015
                    have hbx9 := RIK.bhx jr71 hA0 (by omega) (by omega) hbh9.1
                    refine lv_aload_n hx hb dX14_live_80 rfl (lv_at hl 0 rfl) ?_
                    refine va_get (D := (dC, dI)) (ci := 13) (v := .ref hc) (C := RX14) (T := TX14) (N := 13) hx hb hts mem_P14_live_0 hown hK hP 0 rfl rfl 0 (by decide) (ow (k := 0) rfl) (fun _ h9 => h9) rfl dX14_live_81 ?_
                    refine lv_iload_n hx hb dX14_live_84 rfl (lv_at hl 3 rfl) ?_
                    have hX_l := aP71.lok
                    have hlz9 := hX_l.2.2.1
                    obtain ⟨x, ex⟩ : ∃ q9 : Nat, q9 = P71.el la (d71_3) := ⟨_, rfl⟩
                    have hX_el := ex
                    have hPc := hP.part (X := [(h0, .inr (13, [.ref hc, .int (zI (z_2002)), v14_2, v14_3, v14_4, v14_5, v14_6, v14_7, v14_8, v14_9, .ref q_v, .ref q_1411, .ref q_1412])), (q_1411, .inl (cA_1411, 1002, .inl (fun j : Nat => zI (a0_2012 (j : Int))))), (q_1412, .inl (cA_1412, 1002, .inl (fun j : Nat => zI (a1_2013 (j : Int))))), (q_v, .inl (cV, nv, .inr (.inr (.inr (.inr fv))))), (hc, .inr (12, [v13_0, v13_1, v13_2, v13_3, v13_4, .ref la, v13_6]))]) (cx := [(hc, .inr (12, [v13_0, v13_1, v13_2, v13_3, v13_4, .ref la, v13_6]))]) (pl := va_pl L (pE P71)) [4] rfl
                    have hDc := hD.part (X := [(h0, .inr (13, [.ref hc, .int (zI (z_2002)), v14_2, v14_3, v14_4, v14_5, v14_6, v14_7, v14_8, v14_9, .ref q_v, .ref q_1411, .ref q_1412])), (q_1411, .inl (cA_1411, 1002, .inl (fun j : Nat => zI (a0_2012 (j : Int))))), (q_1412, .inl (cA_1412, 1002, .inl (fun j : Nat => zI (a1_2013 (j : Int))))), (q_v, .inl (cV, nv, .inr (.inr (.inr (.inr fv))))), (hc, .inr (12, [v13_0, v13_1, v13_2, v13_3, v13_4, .ref la, v13_6]))]) (cx := [(hc, .inr (12, [v13_0, v13_1, v13_2, v13_3, v13_4, .ref la, v13_6]))]) (pl := va_pl L (pE P71)) [4] (by decide) rfl
                    have hKc := hK.sub (tys' := [(cO, .object "java/lang/Object")]) [3] rfl
                    have hFc := va_freeP (X := [(h0, .inr (13, [.ref hc, .int (zI (z_2002)), v14_2, v14_3, v14_4, v14_5, v14_6, v14_7, v14_8, v14_9, .ref q_v, .ref q_1411, .ref q_1412])), (q_1411, .inl (cA_1411, 1002, .inl (fun j : Nat => zI (a0_2012 (j : Int))))), (q_1412, .inl (cA_1412, 1002, .inl (fun j : Nat => zI (a1_2013 (j : Int))))), (q_v, .inl (cV, nv, .inr (.inr (.inr (.inr fv))))), (hc, .inr (12, [v13_0, v13_1, v13_2, v13_3, v13_4, .ref la, v13_6]))]) (cx := [(hc, .inr (12, [v13_0, v13_1, v13_2, v13_3, v13_4, .ref la, v13_6]))]) (pl := va_pl L (pE P71)) hD hS hA [4] rfl
                    refine va_callr (va_runV (As := [.int (zI (d71_3))]) (rest := []) ⟨hx, hb, hml, hown, hts⟩ (c_PC_get l dC dI hc v13_0 v13_1 v13_2 v13_3 v13_4 v13_6 la cO L P71 d71_3 x hX_l (by omega) hX_el H.size) (cwV 1 hts g_P14_live_PC_get rfl rfl rfl (by decide +kernel) ⟨(Nat.le_of_ble_eq_true rfl), (Nat.le_of_ble_eq_true rfl)⟩) ⟨fun a U g mk q => by obtain ⟨q0, q1, qP, qK, qD, e0⟩ := q; exact ⟨q0, q1, qP, va_K.moved (u := U) (U := U.calling g mk a) (Vm.Alike.refl U.vm) qK, qD, va_Nw.same rfl (u := U) (U := U.calling g mk a) rfl e0⟩, va_recv hKc hPc (ci := 12) (q0 := 0) rfl rfl, fun U hU hW => ⟨rfl, by rw [hU], by rw [hU]; exact hPc, va_K.moved hW.alike hKc, hDc.weaken (fun _ _ _ _ => trivial), va_Nw.warmC hW hp0⟩⟩ rfl rfl hl.1 rfl (lv_room (Nat.le_of_ble_eq_true rfl)) dX14_live_85 ⟨(Nat.le_of_ble_eq_true rfl), (Nat.le_of_ble_eq_true rfl)⟩) hS (fun q _ h => hFc q h) hFc (fun u q_2016 t H1 locs ht hvm hw hB hz1 hk1 hS => ?_)
                    obtain ⟨hxt_2016, hP1, hK1, hD1⟩ := hB
                    rw [ht] at hP1
                    have hK1 := va_K.moved hvm.symm hK1
                    obtain ⟨hP, hD⟩ := va_joinP (X := [(h0, .inr (13, [.ref hc, .int (zI (z_2002)), v14_2, v14_3, v14_4, v14_5, v14_6, v14_7, v14_8, v14_9, .ref q_v, .ref q_1411, .ref q_1412])), (q_1411, .inl (cA_1411, 1002, .inl (fun j : Nat => zI (a0_2012 (j : Int))))), (q_1412, .inl (cA_1412, 1002, .inl (fun j : Nat => zI (a1_2013 (j : Int))))), (q_v, .inl (cV, nv, .inr (.inr (.inr (.inr fv))))), (hc, .inr (12, [v13_0, v13_1, v13_2, v13_3, v13_4, .ref la, v13_6]))]) (cx := [(hc, .inr (12, [v13_0, v13_1, v13_2, v13_3, v13_4, .ref la, v13_6]))]) (wr := [(h0, .inr (13, [.ref hc, .int (zI (z_2002)), v14_2, v14_3, v14_4, v14_5, v14_6, v14_7, v14_8, v14_9, .ref q_v, .ref q_1411, .ref q_1412])), (q_1411, .inl (cA_1411, 1002, .inl (fun j : Nat => zI (a0_2012 (j : Int))))), (q_1412, .inl (cA_1412, 1002, .inl (fun j : Nat => zI (a1_2013 (j : Int))))), (q_v, .inl (cV, nv, .inr (.inr (.inr (.inr fv)))))]) (rx := [(hc, .inr (12, [v13_0, v13_1, v13_2, v13_3, v13_4, .ref la, v13_6]))]) (pl := va_pl L (pE P71)) (pl1 := va_pl L (pE P71)) hP hD [4] [0, 1, 2, 3] rfl rfl (by decide) (by decide) hk1 hFc hP1 hD1
                    have hK := (hK.sub (tys' := [(cA_1411, .boolean), (cA_1412, .boolean), (cV, .array .boolean), (cI, .int), (cZ, .boolean)]) [0, 1, 2, 4, 5] rfl).app hK1
                    generalize H1 = H at hP hS ⊢
                    have hP : va_P (dC, dI) vwQ ([(h0, .inr (13, [.ref hc, .int (zI (z_2002)), v14_2, v14_3, v14_4, v14_5, v14_6, v14_7, v14_8, v14_9, .ref q_v, .ref q_1411, .ref q_1412])), (q_1411, .inl (cA_1411, 1002, .inl (fun j : Nat => zI (a0_2012 (j : Int))))), (q_1412, .inl (cA_1412, 1002, .inl (fun j : Nat => zI (a1_2013 (j : Int))))), (q_v, .inl (cV, nv, .inr (.inr (.inr (.inr fv))))), (hc, .inr (12, [v13_0, v13_1, v13_2, v13_3, v13_4, .ref la, v13_6]))] ++ va_pl L (pE P71)) H := hP
                    have hD : va_D A ([(h0, .inr (13, [.ref hc, .int (zI (z_2002)), v14_2, v14_3, v14_4, v14_5, v14_6, v14_7, v14_8, v14_9, .ref q_v, .ref q_1411, .ref q_1412])), (q_1411, .inl (cA_1411, 1002, .inl (fun j : Nat => zI (a0_2012 (j : Int))))), (q_1412, .inl (cA_1412, 1002, .inl (fun j : Nat => zI (a1_2013 (j : Int))))), (q_v, .inl (cV, nv, .inr (.inr (.inr (.inr fv))))), (hc, .inr (12, [v13_0, v13_1, v13_2, v13_3, v13_4, .ref la, v13_6]))] ++ va_pl L (pE P71)) := hD
                    have hK : va_K (dC, dI) vwQ [(cA_1411, .boolean), (cA_1412, .boolean), (cV, .array .boolean), (cI, .int), (cZ, .boolean), (cO, .object "java/lang/Object")] s := hK
                    refine W.widen (k := 0) (n := 0) (Nat.le_of_ble_eq_true rfl) (Nat.le_of_ble_eq_true rfl) ?_
                    rw [hxt_2016]
                    obtain ⟨xb_2017, h9⟩ : ∃ q9 : Nat, q9 = x := ⟨_, rfl⟩
                    subst h9
                    have hi_2018 : INB P71 la xb_2017 := ⟨d71_3, by omega, by omega, ex⟩
                    clear hX_el
                    have hx_2020 := ex
                    have hB_2019 := aP71.inb hi_2018
                    have hfb := hB_2019.2.2.2.2
                    refine lv_astore (lv' := [(4, .ref xb_2017), (0, .ref h0), (1, .ref hc), (2, .int (zI (d71_2))), (3, .int (zI (d71_3)))]) hx hb dX14_live_88 hl (by decide) rfl (fun ls hl => ?_)
                    refine lv_aload_n hx hb dX14_live_90 rfl (lv_at hl 1 rfl) ?_
                    refine lv_aload hx hb dX14_live_91 (lv_at hl 0 rfl) ?_
                    obtain ⟨kp_2021, hkp_2021⟩ := va_pl_get (X := [(h0, .inr (13, [.ref hc, .int (zI (z_2002)), v14_2, v14_3, v14_4, v14_5, v14_6, v14_7, v14_8, v14_9, .ref q_v, .ref q_1411, .ref q_1412])), (q_1411, .inl (cA_1411, 1002, .inl (fun j : Nat => zI (a0_2012 (j : Int))))), (q_1412, .inl (cA_1412, 1002, .inl (fun j : Nat => zI (a1_2013 (j : Int))))), (q_v, .inl (cV, nv, .inr (.inr (.inr (.inr fv))))), (hc, .inr (12, [v13_0, v13_1, v13_2, v13_3, v13_4, .ref la, v13_6]))]) (f := pE P71) hB_2019.1.1
                    rw [pE_block hB_2019.1.2] at hkp_2021
                    refine va_get (D := (dC, dI)) (ci := 19) (v := .ref (P71.be xb_2017)) (C := RX12) (T := TX12) (N := 5) hx hb hts mem_P14_live_4 hown hK hP kp_2021 hkp_2021 rfl 2 (by decide) (ow (k := 13) rfl) (fun _ h9 => h9) rfl dX14_live_93 ?_
                    obtain ⟨pr_2022, epr_2022⟩ : ∃ q9 : Nat, q9 = P71.be xb_2017 := ⟨_, rfl⟩
                    rw [← epr_2022]
                    have hbe_2023 : pr_2022 ∈ L ∧ P71.kd pr_2022 = 17 := (by rw [epr_2022]; exact (aP71.inb hi_2018).2.2.2.1)
                    have hX_x := hbe_2023.1
                    have hX_k := hbe_2023.2
                    have hX_r := aP71.rok hbe_2023.1 hbe_2023.2
                    have ⟨hr1, hr2, hr3, hr4, hr5, hr6, hr7, hr8, hr9⟩ := aP71.rok hbe_2023.1 hbe_2023.2
                    have hPc := hP.part (X := [(h0, .inr (13, [.ref hc, .int (zI (z_2002)), v14_2, v14_3, v14_4, v14_5, v14_6, v14_7, v14_8, v14_9, .ref q_v, .ref q_1411, .ref q_1412])), (q_1411, .inl (cA_1411, 1002, .inl (fun j : Nat => zI (a0_2012 (j : Int))))), (q_1412, .inl (cA_1412, 1002, .inl (fun j : Nat => zI (a1_2013 (j : Int))))), (q_v, .inl (cV, nv, .inr (.inr (.inr (.inr fv))))), (hc, .inr (12, [v13_0, v13_1, v13_2, v13_3, v13_4, .ref la, v13_6]))]) (cx := [(h0, .inr (13, [.ref hc, .int (zI (z_2002)), v14_2, v14_3, v14_4, v14_5, v14_6, v14_7, v14_8, v14_9, .ref q_v, .ref q_1411, .ref q_1412])), (q_1411, .inl (cA_1411, 1002, .inl (fun j : Nat => zI (a0_2012 (j : Int)))))]) (pl := va_pl L (pE P71)) [0, 1] rfl
                    have hDc := hD.part (X := [(h0, .inr (13, [.ref hc, .int (zI (z_2002)), v14_2, v14_3, v14_4, v14_5, v14_6, v14_7, v14_8, v14_9, .ref q_v, .ref q_1411, .ref q_1412])), (q_1411, .inl (cA_1411, 1002, .inl (fun j : Nat => zI (a0_2012 (j : Int))))), (q_1412, .inl (cA_1412, 1002, .inl (fun j : Nat => zI (a1_2013 (j : Int))))), (q_v, .inl (cV, nv, .inr (.inr (.inr (.inr fv))))), (hc, .inr (12, [v13_0, v13_1, v13_2, v13_3, v13_4, .ref la, v13_6]))]) (cx := [(h0, .inr (13, [.ref hc, .int (zI (z_2002)), v14_2, v14_3, v14_4, v14_5, v14_6, v14_7, v14_8, v14_9, .ref q_v, .ref q_1411, .ref q_1412])), (q_1411, .inl (cA_1411, 1002, .inl (fun j : Nat => zI (a0_2012 (j : Int)))))]) (pl := va_pl L (pE P71)) [0, 1] (by decide) rfl
                    have hKc := hK.sub (tys' := [(cA_1411, .boolean), (cO, .object "java/lang/Object")]) [0, 5] rfl
                    have hFc := va_freeP (X := [(h0, .inr (13, [.ref hc, .int (zI (z_2002)), v14_2, v14_3, v14_4, v14_5, v14_6, v14_7, v14_8, v14_9, .ref q_v, .ref q_1411, .ref q_1412])), (q_1411, .inl (cA_1411, 1002, .inl (fun j : Nat => zI (a0_2012 (j : Int))))), (q_1412, .inl (cA_1412, 1002, .inl (fun j : Nat => zI (a1_2013 (j : Int))))), (q_v, .inl (cV, nv, .inr (.inr (.inr (.inr fv))))), (hc, .inr (12, [v13_0, v13_1, v13_2, v13_3, v13_4, .ref la, v13_6]))]) (cx := [(h0, .inr (13, [.ref hc, .int (zI (z_2002)), v14_2, v14_3, v14_4, v14_5, v14_6, v14_7, v14_8, v14_9, .ref q_v, .ref q_1411, .ref q_1412])), (q_1411, .inl (cA_1411, 1002, .inl (fun j : Nat => zI (a0_2012 (j : Int)))))]) (pl := va_pl L (pE P71)) hD hS hA [0, 1] rfl
                    refine va_callv (va_runV (As := [.ref pr_2022]) (rest := []) ⟨hx, hb, hml, hown, hts⟩ (c_P14_backE l dC dI h0 (.ref hc) (.int (zI (z_2002))) v14_2 v14_3 v14_4 v14_5 v14_6 v14_7 v14_8 v14_9 (.ref q_v) q_1411 cA_1411 a0_2012 (.ref q_1412) cO L P71 pr_2022 rk_2014 hX_x hX_k hX_r H.size) (cwV 1 hts g_P14_live_P14_backE rfl rfl rfl (by decide +kernel) ⟨(Nat.le_of_ble_eq_true rfl), (Nat.le_of_ble_eq_true rfl)⟩) ⟨fun a U g mk q => by obtain ⟨q0, q1, qP, qK, qD⟩ := q; exact ⟨q0, q1, qP, va_K.moved (u := U) (U := U.calling g mk a) (Vm.Alike.refl U.vm) qK, qD⟩, va_recv hKc hPc (ci := 13) (q0 := 0) rfl rfl, fun U hU hW => ⟨rfl, by rw [hU], by rw [hU]; exact hPc, va_K.moved hW.alike hKc, hDc.weaken (fun _ _ _ _ => trivial)⟩⟩ rfl rfl hl.1 rfl (lv_room (Nat.le_of_ble_eq_true rfl)) dX14_live_96 ⟨(Nat.le_of_ble_eq_true rfl), (Nat.le_of_ble_eq_true rfl)⟩) hS (fun q _ h => hFc q h) hFc (fun  u t H1 locs ht hvm hw hB hz1 hk1 hS => ?_)
                    obtain ⟨a0_2024, hxt_2024, hP1, hK1, hD1⟩ := hB
                    rw [ht] at hP1
                    have hK1 := va_K.moved hvm.symm hK1
                    obtain ⟨hP, hD⟩ := va_joinP (X := [(h0, .inr (13, [.ref hc, .int (zI (z_2002)), v14_2, v14_3, v14_4, v14_5, v14_6, v14_7, v14_8, v14_9, .ref q_v, .ref q_1411, .ref q_1412])), (q_1411, .inl (cA_1411, 1002, .inl (fun j : Nat => zI (a0_2012 (j : Int))))), (q_1412, .inl (cA_1412, 1002, .inl (fun j : Nat => zI (a1_2013 (j : Int))))), (q_v, .inl (cV, nv, .inr (.inr (.inr (.inr fv))))), (hc, .inr (12, [v13_0, v13_1, v13_2, v13_3, v13_4, .ref la, v13_6]))]) (cx := [(h0, .inr (13, [.ref hc, .int (zI (z_2002)), v14_2, v14_3, v14_4, v14_5, v14_6, v14_7, v14_8, v14_9, .ref q_v, .ref q_1411, .ref q_1412])), (q_1411, .inl (cA_1411, 1002, .inl (fun j : Nat => zI (a0_2012 (j : Int)))))]) (wr := [(q_1412, .inl (cA_1412, 1002, .inl (fun j : Nat => zI (a1_2013 (j : Int))))), (q_v, .inl (cV, nv, .inr (.inr (.inr (.inr fv))))), (hc, .inr (12, [v13_0, v13_1, v13_2, v13_3, v13_4, .ref la, v13_6]))]) (rx := [(h0, .inr (13, [.ref hc, .int (zI (z_2002)), v14_2, v14_3, v14_4, v14_5, v14_6, v14_7, v14_8, v14_9, .ref q_v, .ref q_1411, .ref q_1412])), (q_1411, .inl (cA_1411, 1002, .inl (fun j : Nat => zI (a0_2024 (j : Int)))))]) (pl := va_pl L (pE P71)) (pl1 := va_pl L (pE P71)) hP hD [0, 1] [2, 3, 4] rfl rfl (by decide) (by decide) hk1 hFc hP1 hD1
                    have hK := (hK.sub (tys' := [(cA_1412, .boolean), (cV, .array .boolean), (cI, .int), (cZ, .boolean)]) [1, 2, 3, 4] rfl).app hK1
                    generalize H1 = H at hP hS ⊢
                    have hP : va_P (dC, dI) vwQ ([(q_1412, .inl (cA_1412, 1002, .inl (fun j : Nat => zI (a1_2013 (j : Int))))), (q_v, .inl (cV, nv, .inr (.inr (.inr (.inr fv))))), (hc, .inr (12, [v13_0, v13_1, v13_2, v13_3, v13_4, .ref la, v13_6])), (h0, .inr (13, [.ref hc, .int (zI (z_2002)), v14_2, v14_3, v14_4, v14_5, v14_6, v14_7, v14_8, v14_9, .ref q_v, .ref q_1411, .ref q_1412])), (q_1411, .inl (cA_1411, 1002, .inl (fun j : Nat => zI (a0_2024 (j : Int)))))] ++ va_pl L (pE P71)) H := hP
                    have hD : va_D A ([(q_1412, .inl (cA_1412, 1002, .inl (fun j : Nat => zI (a1_2013 (j : Int))))), (q_v, .inl (cV, nv, .inr (.inr (.inr (.inr fv))))), (hc, .inr (12, [v13_0, v13_1, v13_2, v13_3, v13_4, .ref la, v13_6])), (h0, .inr (13, [.ref hc, .int (zI (z_2002)), v14_2, v14_3, v14_4, v14_5, v14_6, v14_7, v14_8, v14_9, .ref q_v, .ref q_1411, .ref q_1412])), (q_1411, .inl (cA_1411, 1002, .inl (fun j : Nat => zI (a0_2024 (j : Int)))))] ++ va_pl L (pE P71)) := hD
                    have hK : va_K (dC, dI) vwQ [(cA_1412, .boolean), (cV, .array .boolean), (cI, .int), (cZ, .boolean), (cA_1411, .boolean), (cO, .object "java/lang/Object")] s := hK
                    refine W.widen (k := 0) (n := 0) (Nat.le_of_ble_eq_true rfl) (Nat.le_of_ble_eq_true rfl) ?_
                    obtain ⟨rk_2025, hu_2025⟩ := hxt_2024
                    have hbe8 := RIK.bke jr71 hu_2025
                    have hbe9 : P.be (P.el la (d71_3)) = pr_2022 := (by rw [← RIK.el jr71 la (d71_3), ← hx_2020, ← RIK.be jr71 xb_2017]; exact epr_2022.symm)
                    rw [← hbe9] at hbe8
                    refine lv_aload hx hb dX14_live_99 (lv_at hl 0 rfl) ?_
                    obtain ⟨kp_2026, hkp_2026⟩ := va_pl_get (X := [(q_1412, .inl (cA_1412, 1002, .inl (fun j : Nat => zI (a1_2013 (j : Int))))), (q_v, .inl (cV, nv, .inr (.inr (.inr (.inr fv))))), (hc, .inr (12, [v13_0, v13_1, v13_2, v13_3, v13_4, .ref la, v13_6])), (h0, .inr (13, [.ref hc, .int (zI (z_2002)), v14_2, v14_3, v14_4, v14_5, v14_6, v14_7, v14_8, v14_9, .ref q_v, .ref q_1411, .ref q_1412])), (q_1411, .inl (cA_1411, 1002, .inl (fun j : Nat => zI (a0_2024 (j : Int)))))]) (f := pE P71) hB_2019.1.1
                    rw [pE_block hB_2019.1.2] at hkp_2026
                    refine va_get (D := (dC, dI)) (ci := 19) (v := .ref (P71.br xb_2017)) (C := RX12) (T := TX12) (N := 5) hx hb hts mem_P14_live_4 hown hK hP kp_2026 hkp_2026 rfl 1 (by decide) (ow (k := 17) rfl) (fun _ h9 => h9) rfl dX14_live_101 ?_
                    obtain ⟨pr_2027, epr_2027⟩ : ∃ q9 : Nat, q9 = P71.br xb_2017 := ⟨_, rfl⟩
                    rw [← epr_2027]
                    have hlk_2028 : LOK L P71 cO 17 pr_2027 := (by rw [epr_2027]; exact (aP71.inb hi_2018).2.1)
                    have hlz9 := hlk_2028.2.2.1
                    have hlk_2029 := (show LOK L P71 cO 17 pr_2027 from (by rw [← epr_2027.symm]; exact (aP71.inb hi_2018).2.1))
                    have hX_x := hlk_2029.1
                    have hX_k := hlk_2029.2.1
                    have hlz9 := hlk_2029.2.2.1
                    have hPc := hP.part (X := [(q_1412, .inl (cA_1412, 1002, .inl (fun j : Nat => zI (a1_2013 (j : Int))))), (q_v, .inl (cV, nv, .inr (.inr (.inr (.inr fv))))), (hc, .inr (12, [v13_0, v13_1, v13_2, v13_3, v13_4, .ref la, v13_6])), (h0, .inr (13, [.ref hc, .int (zI (z_2002)), v14_2, v14_3, v14_4, v14_5, v14_6, v14_7, v14_8, v14_9, .ref q_v, .ref q_1411, .ref q_1412])), (q_1411, .inl (cA_1411, 1002, .inl (fun j : Nat => zI (a0_2024 (j : Int)))))]) (cx := []) (pl := va_pl L (pE P71)) [] rfl
                    have hDc := hD.part (X := [(q_1412, .inl (cA_1412, 1002, .inl (fun j : Nat => zI (a1_2013 (j : Int))))), (q_v, .inl (cV, nv, .inr (.inr (.inr (.inr fv))))), (hc, .inr (12, [v13_0, v13_1, v13_2, v13_3, v13_4, .ref la, v13_6])), (h0, .inr (13, [.ref hc, .int (zI (z_2002)), v14_2, v14_3, v14_4, v14_5, v14_6, v14_7, v14_8, v14_9, .ref q_v, .ref q_1411, .ref q_1412])), (q_1411, .inl (cA_1411, 1002, .inl (fun j : Nat => zI (a0_2024 (j : Int)))))]) (cx := []) (pl := va_pl L (pE P71)) [] (by decide) rfl
                    have hKc := hK.sub (tys' := [(cO, .object "java/lang/Object")]) [5] rfl
                    have hFc := va_freeP (X := [(q_1412, .inl (cA_1412, 1002, .inl (fun j : Nat => zI (a1_2013 (j : Int))))), (q_v, .inl (cV, nv, .inr (.inr (.inr (.inr fv))))), (hc, .inr (12, [v13_0, v13_1, v13_2, v13_3, v13_4, .ref la, v13_6])), (h0, .inr (13, [.ref hc, .int (zI (z_2002)), v14_2, v14_3, v14_4, v14_5, v14_6, v14_7, v14_8, v14_9, .ref q_v, .ref q_1411, .ref q_1412])), (q_1411, .inl (cA_1411, 1002, .inl (fun j : Nat => zI (a0_2024 (j : Int)))))]) (cx := []) (pl := va_pl L (pE P71)) hD hS hA [] rfl
                    refine va_calli (va_runV (As := []) (rest := []) ⟨hx, hb, hml, hown, hts⟩ (c_PL_size l dC dI cO L P71 pr_2027 hX_x hX_k (by omega) H.size) (cwV 0 hts g_P14_live_PL_size rfl rfl rfl (by decide +kernel) ⟨(Nat.le_of_ble_eq_true rfl), (Nat.le_of_ble_eq_true rfl)⟩) ⟨fun a U g mk q => by obtain ⟨q0, q1, qP, qK, qD⟩ := q; exact ⟨q0, q1, qP, va_K.moved (u := U) (U := U.calling g mk a) (Vm.Alike.refl U.vm) qK, qD⟩, recv_30 hKc hPc hlk_2028.1 hlk_2028.2.1, fun U hU hW => ⟨rfl, by rw [hU], by rw [hU]; exact hPc, va_K.moved hW.alike hKc, hDc.weaken (fun _ _ _ _ => trivial)⟩⟩ rfl rfl hl.1 rfl (lv_room (Nat.le_of_ble_eq_true rfl)) dX14_live_104 ⟨(Nat.le_of_ble_eq_true rfl), (Nat.le_of_ble_eq_true rfl)⟩) hS (fun q _ h => hFc q h) hFc (fun r_2030 u t H1 locs ht hvm hw hB hz1 hk1 hS => ?_)
                    obtain ⟨hP1, hK1, hD1⟩ := hB
                    rw [ht] at hP1
                    have hK1 := va_K.moved hvm.symm hK1
                    obtain ⟨hP, hD⟩ := va_joinP (X := [(q_1412, .inl (cA_1412, 1002, .inl (fun j : Nat => zI (a1_2013 (j : Int))))), (q_v, .inl (cV, nv, .inr (.inr (.inr (.inr fv))))), (hc, .inr (12, [v13_0, v13_1, v13_2, v13_3, v13_4, .ref la, v13_6])), (h0, .inr (13, [.ref hc, .int (zI (z_2002)), v14_2, v14_3, v14_4, v14_5, v14_6, v14_7, v14_8, v14_9, .ref q_v, .ref q_1411, .ref q_1412])), (q_1411, .inl (cA_1411, 1002, .inl (fun j : Nat => zI (a0_2024 (j : Int)))))]) (cx := []) (wr := [(q_1412, .inl (cA_1412, 1002, .inl (fun j : Nat => zI (a1_2013 (j : Int))))), (q_v, .inl (cV, nv, .inr (.inr (.inr (.inr fv))))), (hc, .inr (12, [v13_0, v13_1, v13_2, v13_3, v13_4, .ref la, v13_6])), (h0, .inr (13, [.ref hc, .int (zI (z_2002)), v14_2, v14_3, v14_4, v14_5, v14_6, v14_7, v14_8, v14_9, .ref q_v, .ref q_1411, .ref q_1412])), (q_1411, .inl (cA_1411, 1002, .inl (fun j : Nat => zI (a0_2024 (j : Int)))))]) (rx := []) (pl := va_pl L (pE P71)) (pl1 := va_pl L (pE P71)) hP hD [] [0, 1, 2, 3, 4] rfl rfl (by decide) (by decide) hk1 hFc hP1 hD1
                    have hK := (hK.sub (tys' := [(cA_1412, .boolean), (cV, .array .boolean), (cI, .int), (cZ, .boolean), (cA_1411, .boolean)]) [0, 1, 2, 3, 4] rfl).app hK1
                    generalize H1 = H at hP hS ⊢
                    have hP : va_P (dC, dI) vwQ ([(q_1412, .inl (cA_1412, 1002, .inl (fun j : Nat => zI (a1_2013 (j : Int))))), (q_v, .inl (cV, nv, .inr (.inr (.inr (.inr fv))))), (hc, .inr (12, [v13_0, v13_1, v13_2, v13_3, v13_4, .ref la, v13_6])), (h0, .inr (13, [.ref hc, .int (zI (z_2002)), v14_2, v14_3, v14_4, v14_5, v14_6, v14_7, v14_8, v14_9, .ref q_v, .ref q_1411, .ref q_1412])), (q_1411, .inl (cA_1411, 1002, .inl (fun j : Nat => zI (a0_2024 (j : Int)))))] ++ va_pl L (pE P71)) H := hP
                    have hD : va_D A ([(q_1412, .inl (cA_1412, 1002, .inl (fun j : Nat => zI (a1_2013 (j : Int))))), (q_v, .inl (cV, nv, .inr (.inr (.inr (.inr fv))))), (hc, .inr (12, [v13_0, v13_1, v13_2, v13_3, v13_4, .ref la, v13_6])), (h0, .inr (13, [.ref hc, .int (zI (z_2002)), v14_2, v14_3, v14_4, v14_5, v14_6, v14_7, v14_8, v14_9, .ref q_v, .ref q_1411, .ref q_1412])), (q_1411, .inl (cA_1411, 1002, .inl (fun j : Nat => zI (a0_2024 (j : Int)))))] ++ va_pl L (pE P71)) := hD
                    have hK : va_K (dC, dI) vwQ [(cA_1412, .boolean), (cV, .array .boolean), (cI, .int), (cZ, .boolean), (cA_1411, .boolean), (cO, .object "java/lang/Object")] s := hK
                    refine W.widen (k := 0) (n := 0) (Nat.le_of_ble_eq_true rfl) (Nat.le_of_ble_eq_true rfl) ?_
                    obtain rfl : r_2030 = (zI (P71.lz pr_2027)) := hw
                    refine lv_iconst (v := 1) hx hb dX14_live_107 (by decide) ?_
                    refine lv_isub hx hb dX14_live_108 ?_
                    refine lv_topi (fun z ez => ?_)
                    obtain rfl : z = zI ((P71.lz pr_2027) - 1) := ez.trans (zI_sub (P71.lz pr_2027) (1))
                    have hlr9 : P.lz (P.br (P.el la (d71_3))) = P71.lz pr_2027 := (by rw [← RIK.lz jr71 (P.br (P.el la (d71_3))), ← RIK.el jr71 la (d71_3), ← hx_2020, ← RIK.br jr71 xb_2017, epr_2027.symm])
                    refine lv_istore (lv' := [(5, .int (zI ((P71.lz pr_2027) - 1))), (4, .ref xb_2017), (0, .ref h0), (1, .ref hc), (2, .int (zI (d71_2))), (3, .int (zI (d71_3)))]) hx hb dX14_live_109 hl (by decide) rfl (fun ls hl => ?_)
                    have key111 : ∀ n111 : Nat, ∀ (d111_5 : Int) (w111_1411 : Int → Int) (ls : Array Slot) (H : Heap) (locs : List Loc), (-1 ≤ d111_5 ∧ d111_5 < P71.lz pr_2027) → (∀ j : Int, 0 ≤ w111_1411 j ∧ w111_1411 j ≤ 1) → (NWJ P (LVT P71 fv) la (d71_3) (d111_5 + 1) w111_1411) → ((d111_5 + 1 : Int).toNat) < n111 → lv_has ls 6 [(0, .ref h0), (1, .ref hc), (2, .int (zI (d71_2))), (3, .int (zI (d71_3))), (4, .ref xb_2017), (5, .int (zI (d111_5)))] → va_P (dC, dI) vwQ ([(q_1412, .inl (cA_1412, 1002, .inl (fun j : Nat => zI (a1_2013 (j : Int))))), (q_v, .inl (cV, nv, .inr (.inr (.inr (.inr fv))))), (hc, .inr (12, [v13_0, v13_1, v13_2, v13_3, v13_4, .ref la, v13_6])), (h0, .inr (13, [.ref hc, .int (zI (z_2002)), v14_2, v14_3, v14_4, v14_5, v14_6, v14_7, v14_8, v14_9, .ref q_v, .ref q_1411, .ref q_1412])), (q_1411, .inl (cA_1411, 1002, .inl (fun j : Nat => zI (w111_1411 (j : Int)))))] ++ va_pl L (pE P71)) H → va_D A ([(q_1412, .inl (cA_1412, 1002, .inl (fun j : Nat => zI (a1_2013 (j : Int))))), (q_v, .inl (cV, nv, .inr (.inr (.inr (.inr fv))))), (hc, .inr (12, [v13_0, v13_1, v13_2, v13_3, v13_4, .ref la, v13_6])), (h0, .inr (13, [.ref hc, .int (zI (z_2002)), v14_2, v14_3, v14_4, v14_5, v14_6, v14_7, v14_8, v14_9, .ref q_v, .ref q_1411, .ref q_1412])), (q_1411, .inl (cA_1411, 1002, .inl (fun j : Nat => zI (w111_1411 (j : Int)))))] ++ va_pl L (pE P71)) → va_S A s.heap H locs → W p l e (headSpec v_P14_live ({ frames := 5, cells := 0, slots := 0, locals := 112 })).room s m ([.ref h0, .ref hc] : List Value).toArray below meth c H locs 0 0 Q (F0 m 111 ls []) := by
                      intro n111
                      induction n111 with
                      | zero => intro d111_5 w111_1411 ls H locs jd111_5 jw111_1411 jn111 hm111; exact absurd hm111 (by omega)
                      | succ n111 ih111 =>
                        intro d111_5 w111_1411 ls H locs jd111_5 jw111_1411 jn111 hm111 hl hP hD hS
                        skip
                        refine lv_iload hx hb dX14_live_111 (lv_at hl 5 rfl) ?_
                        refine lv_if_lt (tgt := 139) hx hb dX14_live_113 (by decide) (fun b113 => ?_) (fun b113 => ?_)
                        · have yb113 : (d111_5 : Int) < (0 : Int) := (zI_lt (a := d111_5) (b := 0) (by omega) (by omega) (by omega) (by omega)).mp b113
                          have hnw : NWJ P (LVT P71 fv) la (d71_3) 0 w111_1411 := (by have q9 := jn111; rw [show d111_5 + 1 = 0 from (by omega)] at q9; exact q9)
                          refine lv_iconst (v := 0) hx hb dX14_live_139 (by decide) ?_
                          refine lv_istore (lv' := [(5, .int 0), (0, .ref h0), (1, .ref hc), (2, .int (zI (d71_2))), (3, .int (zI (d71_3))), (4, .ref xb_2017)]) hx hb dX14_live_140 hl (by decide) rfl (fun ls hl => ?_)
                          have key142 : ∀ n142 : Nat, ∀ (d142_5 : Int) (d142_2 : Int) (P142 : PO) (ls : Array Slot) (H : Heap) (locs : List Loc), (P142.tot 2 la ≤ P71.tot 2 la ∧ P142.tot 1 la ≤ P71.tot 1 la) → (KEP [] L P71 L P142 la) → (ALP L P142 cO cI cZ sx_ed la) → (0 ≤ d142_5 ∧ d142_5 ≤ 1002) → (0 ≤ d142_2 ∧ d142_2 ≤ 1 ∧ d142_2 + ZN P142 fv (P.lz la) ≤ ZN P58 fv (P.lz la)) → (CHX 43 L P L P142) → (TBK L P142 43 cZ fv (nv : Int) 1002 0 1) → (RIK P P142) → (MONO (LVT P71 fv) (LVT P142 fv)) → (LVI P (LVT P142 fv) la (P.lz la)) → (LKPE P71 P142 fv (d71_3) (d142_5)) → (d142_2 = 0 → LU2 P P71 P142 fv la (P.lz la) (d71_3) (d142_5)) → ((1002 - d142_5 : Int).toNat) < n142 → lv_has ls 6 [(0, .ref h0), (1, .ref hc), (2, .int (zI (d142_2))), (3, .int (zI (d71_3))), (4, .ref xb_2017), (5, .int (zI (d142_5)))] → va_P (dC, dI) vwQ ([(q_1412, .inl (cA_1412, 1002, .inl (fun j : Nat => zI (a1_2013 (j : Int))))), (q_v, .inl (cV, nv, .inr (.inr (.inr (.inr fv))))), (hc, .inr (12, [v13_0, v13_1, v13_2, v13_3, v13_4, .ref la, v13_6])), (h0, .inr (13, [.ref hc, .int (zI (z_2002)), v14_2, v14_3, v14_4, v14_5, v14_6, v14_7, v14_8, v14_9, .ref q_v, .ref q_1411, .ref q_1412])), (q_1411, .inl (cA_1411, 1002, .inl (fun j : Nat => zI (w111_1411 (j : Int)))))] ++ va_pl L (pE P142)) H → va_D A ([(q_1412, .inl (cA_1412, 1002, .inl (fun j : Nat => zI (a1_2013 (j : Int))))), (q_v, .inl (cV, nv, .inr (.inr (.inr (.inr fv))))), (hc, .inr (12, [v13_0, v13_1, v13_2, v13_3, v13_4, .ref la, v13_6])), (h0, .inr (13, [.ref hc, .int (zI (z_2002)), v14_2, v14_3, v14_4, v14_5, v14_6, v14_7, v14_8, v14_9, .ref q_v, .ref q_1411, .ref q_1412])), (q_1411, .inl (cA_1411, 1002, .inl (fun j : Nat => zI (w111_1411 (j : Int)))))] ++ va_pl L (pE P142)) → va_S A s.heap H locs → W p l e (headSpec v_P14_live ({ frames := 5, cells := 0, slots := 0, locals := 112 })).room s m ([.ref h0, .ref hc] : List Value).toArray below meth c H locs 0 0 Q (F0 m 142 ls []) := by
                            intro n142
                            induction n142 with
                            | zero => intro d142_5 d142_2 P142 ls H locs tP142 kP142 aP142 jd142_5 jd142_2 jx142 jv142 jr142 jm142 jl142 jk142 ju142 hm142; exact absurd hm142 (by omega)
                            | succ n142 ih142 =>
                              intro d142_5 d142_2 P142 ls H locs tP142 kP142 aP142 jd142_5 jd142_2 jx142 jv142 jr142 jm142 jl142 jk142 ju142 hm142 hl hP hD hS
                              have hq_2031 : la ∈ L ∧ P142.kd la = 30 := kP142.mem hq_2008.1 hq_2008.2 (by decide)
                              have hq_2032 : xb_2017 ∈ L ∧ P142.kd xb_2017 = 12 := kP142.mem hB_2019.1.1 hB_2019.1.2 (by decide)
                              have hq_2033 : pr_2022 ∈ L ∧ P142.kd pr_2022 = 17 := kP142.mem hbe_2023.1 hbe_2023.2 (by decide)
                              have hq_2034 : pr_2027 ∈ L ∧ P142.kd pr_2027 = 30 := kP142.mem hlk_2028.1 hlk_2028.2.1 (by decide)
                              have hi_2035 : INB P142 la xb_2017 := kP142.inb hi_2018
                              have ha_2036 : P142.be xb_2017 = pr_2022 := kP142.be hB_2019.1.1 hB_2019.1.2 epr_2022.symm
                              have ha_2037 : P142.br xb_2017 = pr_2027 := kP142.br hB_2019.1.1 hB_2019.1.2 epr_2027.symm
                              have hz9 := kP142.2.2.1
                              have hA_2038 : KEP [] L P L P142 la := hA_2009.trans kP142
                              have hA_2039 : KEP [] L P18 L P142 la := hA_2010.trans kP142
                              have hA_2040 : KEP [] L P58 L P142 la := hA_2011.trans kP142
                              have hA_2041 : KEP [] L P71 L P142 la := (KEP.refl [] L P71 la).trans kP142
                              have hj142 := kP142
                              skip
                              refine lv_iload hx hb dX14_live_142 (lv_at hl 5 rfl) ?_
                              refine lv_sipush (v := 1001) hx hb dX14_live_144 (by decide) ?_
                              refine lv_icmp_gt (tgt := 196) hx hb dX14_live_147 (by decide) (fun b147 => ?_) (fun b147 => ?_)
                              · have yb147 : (1001 : Int) < (d142_5 : Int) := (zI_lt (a := 1001) (b := d142_5) (by omega) (by omega) (by omega) (by omega)).mp b147
                                refine lv_iinc (v := zI (d71_3 - 1)) (lv' := [(3, .int (zI (d71_3 - 1))), (0, .ref h0), (1, .ref hc), (2, .int (zI (d142_2))), (4, .ref xb_2017), (5, .int (zI (d142_5)))]) hx hb dX14_live_196 hl (k := 3) rfl (zI_dec (d71_3) (1)) (by decide) rfl (fun ls hl => ?_)
                                refine lv_goto (tgt := 71) hx hb dX14_live_199 (by decide) ?_
                                have hP := hP.part (X := [(q_1412, .inl (cA_1412, 1002, .inl (fun j : Nat => zI (a1_2013 (j : Int))))), (q_v, .inl (cV, nv, .inr (.inr (.inr (.inr fv))))), (hc, .inr (12, [v13_0, v13_1, v13_2, v13_3, v13_4, .ref la, v13_6])), (h0, .inr (13, [.ref hc, .int (zI (z_2002)), v14_2, v14_3, v14_4, v14_5, v14_6, v14_7, v14_8, v14_9, .ref q_v, .ref q_1411, .ref q_1412])), (q_1411, .inl (cA_1411, 1002, .inl (fun j : Nat => zI (w111_1411 (j : Int)))))]) (cx := [(h0, .inr (13, [.ref hc, .int (zI (z_2002)), v14_2, v14_3, v14_4, v14_5, v14_6, v14_7, v14_8, v14_9, .ref q_v, .ref q_1411, .ref q_1412])), (q_1411, .inl (cA_1411, 1002, .inl (fun j : Nat => zI (w111_1411 (j : Int))))), (q_1412, .inl (cA_1412, 1002, .inl (fun j : Nat => zI (a1_2013 (j : Int))))), (q_v, .inl (cV, nv, .inr (.inr (.inr (.inr fv))))), (hc, .inr (12, [v13_0, v13_1, v13_2, v13_3, v13_4, .ref la, v13_6]))]) (pl := va_pl L (pE P142)) [3, 4, 0, 1, 2] rfl
                                have hD := hD.part (X := [(q_1412, .inl (cA_1412, 1002, .inl (fun j : Nat => zI (a1_2013 (j : Int))))), (q_v, .inl (cV, nv, .inr (.inr (.inr (.inr fv))))), (hc, .inr (12, [v13_0, v13_1, v13_2, v13_3, v13_4, .ref la, v13_6])), (h0, .inr (13, [.ref hc, .int (zI (z_2002)), v14_2, v14_3, v14_4, v14_5, v14_6, v14_7, v14_8, v14_9, .ref q_v, .ref q_1411, .ref q_1412])), (q_1411, .inl (cA_1411, 1002, .inl (fun j : Nat => zI (w111_1411 (j : Int)))))]) (cx := [(h0, .inr (13, [.ref hc, .int (zI (z_2002)), v14_2, v14_3, v14_4, v14_5, v14_6, v14_7, v14_8, v14_9, .ref q_v, .ref q_1411, .ref q_1412])), (q_1411, .inl (cA_1411, 1002, .inl (fun j : Nat => zI (w111_1411 (j : Int))))), (q_1412, .inl (cA_1412, 1002, .inl (fun j : Nat => zI (a1_2013 (j : Int))))), (q_v, .inl (cV, nv, .inr (.inr (.inr (.inr fv))))), (hc, .inr (12, [v13_0, v13_1, v13_2, v13_3, v13_4, .ref la, v13_6]))]) (pl := va_pl L (pE P142)) [3, 4, 0, 1, 2] (by decide) rfl
                                exact ih71 (d71_3 - 1) d142_2 w111_1411 a1_2013 P142 ls H _ (by omega) (kP71.trans hA_2041) aP142 (by omega) (by omega) jw111_1411 rk_2015 jx142 jv142 jr142 jl142 hbh9.2 (fun q9 => (ju142 q9).row (by omega)) (by omega) (lv_sub hl [1, 2, 3, 0] rfl) hP hD hS
                              · have yb147 : ¬ (1001 : Int) < (d142_5 : Int) := fun q => b147 ((zI_lt (a := 1001) (b := d142_5) (by omega) (by omega) (by omega) (by omega)).mpr q)
                                refine lv_aload_n hx hb dX14_live_150 rfl (lv_at hl 0 rfl) ?_
                                refine va_get (D := (dC, dI)) (ci := 13) (v := .ref q_v) (C := RX14) (T := TX14) (N := 13) hx hb hts mem_P14_live_0 hown hK hP 3 rfl rfl 10 (by decide) (ow (k := 22) rfl) (fun _ h9 => h9) rfl dX14_live_151 ?_
                                refine lv_iload_n hx hb dX14_live_154 rfl (lv_at hl 3 rfl) ?_
                                obtain ⟨yt_2042, heyt_2042, hmyt_2042, hnyt_2042, hiyt_2042⟩ := jv142 (d71_3) (by omega) (by omega)
                                refine va_aldr hx hb hK hP 1 1 rfl rfl (zI_in (a := d71_3) (n := nv) (by omega) (by omega) (by omega)) dX14_live_155 ?_
                                rw [show va_rf (fv (zI (d71_3)).toNatClampNeg) = .ref yt_2042 from (by rw [zI_cl (by omega) (by omega), heyt_2042]; rfl)]
                                refine lv_iload hx hb dX14_live_156 (lv_at hl 5 rfl) ?_
                                obtain ⟨kp_2043, hkp_2043⟩ := va_pl_get (X := [(q_1412, .inl (cA_1412, 1002, .inl (fun j : Nat => zI (a1_2013 (j : Int))))), (q_v, .inl (cV, nv, .inr (.inr (.inr (.inr fv))))), (hc, .inr (12, [v13_0, v13_1, v13_2, v13_3, v13_4, .ref la, v13_6])), (h0, .inr (13, [.ref hc, .int (zI (z_2002)), v14_2, v14_3, v14_4, v14_5, v14_6, v14_7, v14_8, v14_9, .ref q_v, .ref q_1411, .ref q_1412])), (q_1411, .inl (cA_1411, 1002, .inl (fun j : Nat => zI (w111_1411 (j : Int)))))]) (f := pE P142) hmyt_2042.1
                                rw [pE_n43 hmyt_2042.2.1, hmyt_2042.2.2] at hkp_2043
                                refine va_zald hx hb hK hP kp_2043 3 hkp_2043 rfl (zI_in (a := d142_5) (n := P142.an yt_2042) (by omega) (by omega) (by omega)) dX14_live_158 ?_
                                refine lv_topi (fun z ez => ?_)
                                obtain rfl : z = zI (P142.ia yt_2042 (d142_5)) := ez.trans (zI_ld (P142.ia yt_2042) (by omega) (by omega))
                                have := hiyt_2042 (d142_5)
                                have hl5 : LVT P142 fv (d71_3) (d142_5) = P142.ia yt_2042 (d142_5) := LVT.at heyt_2042 _
                                have hl6 := jk142 (d142_5) (by omega) (by omega)
                                have hl7 : P142.ia yt_2042 (d142_5) ≠ 0 → w111_1411 (d142_5) ≠ 0 := (fun q9 => (hnw.tfl (by omega) (by omega)).mpr (jl71 (d71_3) (d142_5) (by omega) (by omega) (by omega) (by omega) (by rw [← hl6, hl5]; exact q9)))
                                have hl4 := hiyt_2042 (d142_5)
                                refine lv_aload_n hx hb dX14_live_159 rfl (lv_at hl 0 rfl) ?_
                                refine va_get (D := (dC, dI)) (ci := 13) (v := .ref q_1411) (C := RX14) (T := TX14) (N := 13) hx hb hts mem_P14_live_0 hown hK hP 3 rfl rfl 11 (by decide) (ow (k := 23) rfl) (fun _ h9 => h9) rfl dX14_live_160 ?_
                                refine lv_iload hx hb dX14_live_163 (lv_at hl 5 rfl) ?_
                                refine va_zald hx hb hK hP 4 4 rfl rfl (zI_in (a := d142_5) (n := 1002) (by omega) (by omega) (by decide)) dX14_live_165 ?_
                                refine lv_topi (fun z ez => ?_)
                                obtain rfl : z = zI (w111_1411 (d142_5)) := ez.trans (zI_ld (w111_1411) (by omega) (by omega))
                                have k1 := jw111_1411 (d142_5)
                                refine lv_icmp_ne (tgt := 172) hx hb dX14_live_166 (by decide) (fun b166 => ?_) (fun b166 => ?_)
                                · have yb166 : ¬ (P142.ia yt_2042 (d142_5) : Int) = (w111_1411 (d142_5) : Int) := fun q => b166 ((zI_eq (a := P142.ia yt_2042 (d142_5)) (b := w111_1411 (d142_5)) (by omega) (by omega) (by omega) (by omega)).mpr q)
                                  have hl8 : P142.ia yt_2042 (d142_5) = 0 ∧ w111_1411 (d142_5) = 1 := (by omega)
                                  have hl9 := (hnw.tfl (r := d142_5) (by omega) (by omega)).mp (by omega)
                                  refine lv_aload_n hx hb dX14_live_172 rfl (lv_at hl 0 rfl) ?_
                                  refine va_get (D := (dC, dI)) (ci := 13) (v := .ref q_v) (C := RX14) (T := TX14) (N := 13) hx hb hts mem_P14_live_0 hown hK hP 3 rfl rfl 10 (by decide) (ow (k := 22) rfl) (fun _ h9 => h9) rfl dX14_live_173 ?_
                                  refine lv_iload_n hx hb dX14_live_176 rfl (lv_at hl 3 rfl) ?_
                                  obtain ⟨yt_2044, heyt_2044, hmyt_2044, hnyt_2044, hiyt_2044⟩ := jv142 (d71_3) (by omega) (by omega)
                                  refine va_aldr hx hb hK hP 1 1 rfl rfl (zI_in (a := d71_3) (n := nv) (by omega) (by omega) (by omega)) dX14_live_177 ?_
                                  rw [show va_rf (fv (zI (d71_3)).toNatClampNeg) = .ref yt_2044 from (by rw [zI_cl (by omega) (by omega), heyt_2044]; rfl)]
                                  have hyy : yt_2042 = yt_2044 := Option.some.inj (heyt_2042.symm.trans heyt_2044)
                                  have hl3 : P142.ia yt_2044 (d142_5) = 0 := (by rw [← hyy]; exact hl8.1)
                                  refine lv_iload hx hb dX14_live_178 (lv_at hl 5 rfl) ?_
                                  refine lv_aload_n hx hb dX14_live_180 rfl (lv_at hl 0 rfl) ?_
                                  refine va_get (D := (dC, dI)) (ci := 13) (v := .ref q_1411) (C := RX14) (T := TX14) (N := 13) hx hb hts mem_P14_live_0 hown hK hP 3 rfl rfl 11 (by decide) (ow (k := 23) rfl) (fun _ h9 => h9) rfl dX14_live_181 ?_
                                  refine lv_iload hx hb dX14_live_184 (lv_at hl 5 rfl) ?_
                                  refine va_zald hx hb hK hP 4 4 rfl rfl (zI_in (a := d142_5) (n := 1002) (by omega) (by omega) (by decide)) dX14_live_186 ?_
                                  refine lv_topi (fun z ez => ?_)
                                  obtain rfl : z = zI (w111_1411 (d142_5)) := ez.trans (zI_ld (w111_1411) (by omega) (by omega))
                                  have k2 := jw111_1411 (d142_5)
                                  obtain ⟨kp_2045, gkp_2045⟩ := va_pl_get (X := [(q_1412, .inl (cA_1412, 1002, .inl (fun j : Nat => zI (a1_2013 (j : Int))))), (q_v, .inl (cV, nv, .inr (.inr (.inr (.inr fv))))), (hc, .inr (12, [v13_0, v13_1, v13_2, v13_3, v13_4, .ref la, v13_6])), (h0, .inr (13, [.ref hc, .int (zI (z_2002)), v14_2, v14_3, v14_4, v14_5, v14_6, v14_7, v14_8, v14_9, .ref q_v, .ref q_1411, .ref q_1412])), (q_1411, .inl (cA_1411, 1002, .inl (fun j : Nat => zI (w111_1411 (j : Int)))))]) (f := pE P142) hmyt_2044.1
                                  have hkp_2045 := gkp_2045
                                  rw [pE_n43 hmyt_2044.2.1, hmyt_2044.2.2] at hkp_2045
                                  have hD0 := hD
                                  refine va_zast (i := zI (d142_5)) hx hb hK hP hD hS kp_2045 3 hkp_2045 rfl (zI_in (a := d142_5) (n := P142.an yt_2044) (by omega) (by omega) (by omega)) dX14_live_187 (fun H locs hP hD hS => ?_)
                                  rw [show vp_nar .boolean (zI (w111_1411 (d142_5))) = zI (w111_1411 (d142_5)) from zI_nar (a := w111_1411 (d142_5)) (by omega) (by omega)] at hP hD
                                  obtain ⟨Pw_2046, ePw_2046⟩ : ∃ q9 : PO, q9 = P142.ri9 yt_2044 (zup (P142.ia yt_2044) (d142_5) (w111_1411 (d142_5))) := ⟨_, rfl⟩
                                  have eQ : upd (fun j : Nat => zI (P142.ia yt_2044 (j : Int))) (zI (d142_5)).toNatClampNeg (zI (w111_1411 (d142_5))) = (fun j : Nat => zI ((zup (P142.ia yt_2044) (d142_5) (w111_1411 (d142_5))) (j : Int))) := zI_st (P142.ia yt_2044) (e := d142_5) (v := w111_1411 (d142_5)) (by omega) (by omega)
                                  have eU : (([(q_1412, .inl (cA_1412, 1002, .inl (fun j : Nat => zI (a1_2013 (j : Int))))), (q_v, .inl (cV, nv, .inr (.inr (.inr (.inr fv))))), (hc, .inr (12, [v13_0, v13_1, v13_2, v13_3, v13_4, .ref la, v13_6])), (h0, .inr (13, [.ref hc, .int (zI (z_2002)), v14_2, v14_3, v14_4, v14_5, v14_6, v14_7, v14_8, v14_9, .ref q_v, .ref q_1411, .ref q_1412])), (q_1411, .inl (cA_1411, 1002, .inl (fun j : Nat => zI (w111_1411 (j : Int)))))] : va_W) ++ va_pl L (pE P142)).set kp_2045 (yt_2044, (.inl (cZ, P142.an yt_2044, .inl (upd (fun j : Nat => zI (P142.ia yt_2044 (j : Int))) (zI (d142_5)).toNatClampNeg (zI (w111_1411 (d142_5))))) : va_E)) = ([(q_1412, .inl (cA_1412, 1002, .inl (fun j : Nat => zI (a1_2013 (j : Int))))), (q_v, .inl (cV, nv, .inr (.inr (.inr (.inr fv))))), (hc, .inr (12, [v13_0, v13_1, v13_2, v13_3, v13_4, .ref la, v13_6])), (h0, .inr (13, [.ref hc, .int (zI (z_2002)), v14_2, v14_3, v14_4, v14_5, v14_6, v14_7, v14_8, v14_9, .ref q_v, .ref q_1411, .ref q_1412])), (q_1411, .inl (cA_1411, 1002, .inl (fun j : Nat => zI (w111_1411 (j : Int)))))] : va_W) ++ va_pl L (pE Pw_2046) := (by rw [eQ, va_pl_set hD0 hmyt_2044.1 gkp_2045, ePw_2046]; exact congrArg (fun f9 => ([(q_1412, .inl (cA_1412, 1002, .inl (fun j : Nat => zI (a1_2013 (j : Int))))), (q_v, .inl (cV, nv, .inr (.inr (.inr (.inr fv))))), (hc, .inr (12, [v13_0, v13_1, v13_2, v13_3, v13_4, .ref la, v13_6])), (h0, .inr (13, [.ref hc, .int (zI (z_2002)), v14_2, v14_3, v14_4, v14_5, v14_6, v14_7, v14_8, v14_9, .ref q_v, .ref q_1411, .ref q_1412])), (q_1411, .inl (cA_1411, 1002, .inl (fun j : Nat => zI (w111_1411 (j : Int)))))] : va_W) ++ va_pl L f9) (by have h9 := putnum (P := P142) (x := yt_2044) (a := zup (P142.ia yt_2044) (d142_5) (w111_1411 (d142_5))) (by omega); rw [hmyt_2044.2.2] at h9; exact h9))
                                  have hP : va_P (dC, dI) vwQ ([(q_1412, .inl (cA_1412, 1002, .inl (fun j : Nat => zI (a1_2013 (j : Int))))), (q_v, .inl (cV, nv, .inr (.inr (.inr (.inr fv))))), (hc, .inr (12, [v13_0, v13_1, v13_2, v13_3, v13_4, .ref la, v13_6])), (h0, .inr (13, [.ref hc, .int (zI (z_2002)), v14_2, v14_3, v14_4, v14_5, v14_6, v14_7, v14_8, v14_9, .ref q_v, .ref q_1411, .ref q_1412])), (q_1411, .inl (cA_1411, 1002, .inl (fun j : Nat => zI (w111_1411 (j : Int)))))] ++ va_pl L (pE Pw_2046)) H := (by rw [← eU]; exact hP)
                                  have hD : va_D A ([(q_1412, .inl (cA_1412, 1002, .inl (fun j : Nat => zI (a1_2013 (j : Int))))), (q_v, .inl (cV, nv, .inr (.inr (.inr (.inr fv))))), (hc, .inr (12, [v13_0, v13_1, v13_2, v13_3, v13_4, .ref la, v13_6])), (h0, .inr (13, [.ref hc, .int (zI (z_2002)), v14_2, v14_3, v14_4, v14_5, v14_6, v14_7, v14_8, v14_9, .ref q_v, .ref q_1411, .ref q_1412])), (q_1411, .inl (cA_1411, 1002, .inl (fun j : Nat => zI (w111_1411 (j : Int)))))] ++ va_pl L (pE Pw_2046)) := (by rw [← eU]; exact hD)
                                  clear eU eQ hD0 gkp_2045 hkp_2045
                                  have hcx_2047 : CHX 43 L P142 L Pw_2046 := (by rw [ePw_2046]; exact CHX.ri9 hmyt_2044.2.1)
                                  have hak_2048 := aP142.chx hcx_2047 (by decide)
                                  have hke_2049 : KEP [] L P142 L Pw_2046 la := aP142.chxk hcx_2047 (by decide)
                                  have hcx_2050 := jx142.trans hcx_2047
                                  have htb_2051 := jv142.ri (y := yt_2044) (g := zup (P142.ia yt_2044) (d142_5) (w111_1411 (d142_5))) (zup_lh hiyt_2044 (by omega) (by omega))
                                  rw [← ePw_2046] at htb_2051
                                  have hrk_2052 := jr142.trans (P2 := Pw_2046) (by rw [ePw_2046]; exact RIK.ri9 hmyt_2044.2.1)
                                  have hq_2053 : la ∈ L ∧ Pw_2046.kd la = 30 := hke_2049.mem hq_2031.1 hq_2031.2 (by decide)
                                  have hq_2054 : xb_2017 ∈ L ∧ Pw_2046.kd xb_2017 = 12 := hke_2049.mem hq_2032.1 hq_2032.2 (by decide)
                                  have hq_2055 : pr_2022 ∈ L ∧ Pw_2046.kd pr_2022 = 17 := hke_2049.mem hq_2033.1 hq_2033.2 (by decide)
                                  have hq_2056 : pr_2027 ∈ L ∧ Pw_2046.kd pr_2027 = 30 := hke_2049.mem hq_2034.1 hq_2034.2 (by decide)
                                  have hq_2057 : yt_2042 ∈ L ∧ Pw_2046.kd yt_2042 = 43 := hke_2049.mem hmyt_2042.1 hmyt_2042.2.1 (by decide)
                                  have hq_2058 : yt_2044 ∈ L ∧ Pw_2046.kd yt_2044 = 43 := hke_2049.mem hmyt_2044.1 hmyt_2044.2.1 (by decide)
                                  have hi_2059 : INB Pw_2046 la xb_2017 := hke_2049.inb hi_2035
                                  have ha_2060 : Pw_2046.be xb_2017 = pr_2022 := hke_2049.be hq_2032.1 hq_2032.2 ha_2036
                                  have ha_2061 : Pw_2046.br xb_2017 = pr_2027 := hke_2049.br hq_2032.1 hq_2032.2 ha_2037
                                  have hz9 := hke_2049.2.2.1
                                  have hA_2062 : KEP [] L P L Pw_2046 la := hA_2038.trans hke_2049
                                  have hA_2063 : KEP [] L P18 L Pw_2046 la := hA_2039.trans hke_2049
                                  have hA_2064 : KEP [] L P58 L Pw_2046 la := hA_2040.trans hke_2049
                                  have hA_2065 : KEP [] L P71 L Pw_2046 la := hA_2041.trans hke_2049
                                  have hA_2066 : KEP [] L P142 L Pw_2046 la := (KEP.refl [] L P142 la).trans hke_2049
                                  have ht9 := aP142.chxt hcx_2047 (by decide)
                                  have hzn2 := ZN.put hTD heyt_2044 (by omega) (by omega) hall ePw_2046 (by omega) (by omega) hl3 (by omega)
                                  refine lv_iconst (v := 1) hx hb dX14_live_188 (by decide) ?_
                                  refine lv_istore_n (lv' := [(2, .int 1), (0, .ref h0), (1, .ref hc), (3, .int (zI (d71_3))), (4, .ref xb_2017), (5, .int (zI (d142_5)))]) hx hb dX14_live_189 rfl hl (by decide) rfl (fun ls hl => ?_)
                                  refine lv_iinc (v := zI (d142_5 + 1)) (lv' := [(5, .int (zI (d142_5 + 1))), (2, .int 1), (0, .ref h0), (1, .ref hc), (3, .int (zI (d71_3))), (4, .ref xb_2017)]) hx hb dX14_live_190 hl (k := 5) rfl (zI_add (d142_5) (1)) (by decide) rfl (fun ls hl => ?_)
                                  refine lv_goto (tgt := 142) hx hb dX14_live_193 (by decide) ?_
                                  exact ih142 (d142_5 + 1) 1 Pw_2046 ls H _ (by omega) (kP142.trans hA_2066) hak_2048 (by omega) (by omega) hcx_2050 htb_2051 hrk_2052 (jm142.trans (MONO.put (by omega) ePw_2046)) (jl142.put hTD heyt_2044 (by omega) (by omega) hall ePw_2046 (by omega) hl9 jm142) (fun r9 a9 b9 => (LVT.put hTD heyt_2044 (by omega) (by omega) (by omega) (by omega) hall ePw_2046 (fun q9 => by have q8 := q9.2; omega)).trans (jk142 r9 (by omega) b9)) (fun q9 => absurd q9 (by decide)) (by omega) (lv_sub hl [2, 3, 1, 4, 5, 0] rfl) hP hD hS
                                · have yb166 : (P142.ia yt_2042 (d142_5) : Int) = (w111_1411 (d142_5) : Int) := (zI_eq (a := P142.ia yt_2042 (d142_5)) (b := w111_1411 (d142_5)) (by omega) (by omega) (by omega) (by omega)).mp b166
                                  refine lv_goto (tgt := 190) hx hb dX14_live_169 (by decide) ?_
                                  refine lv_iinc (v := zI (d142_5 + 1)) (lv' := [(5, .int (zI (d142_5 + 1))), (0, .ref h0), (1, .ref hc), (2, .int (zI (d142_2))), (3, .int (zI (d71_3))), (4, .ref xb_2017)]) hx hb dX14_live_190 hl (k := 5) rfl (zI_add (d142_5) (1)) (by decide) rfl (fun ls hl => ?_)
                                  refine lv_goto (tgt := 142) hx hb dX14_live_193 (by decide) ?_
                                  exact ih142 (d142_5 + 1) d142_2 P142 ls H _ (by omega) (kP142.trans (KEP.refl [] L P142 la)) aP142 (by omega) (by omega) jx142 jv142 jr142 jm142 jl142 (fun r9 a9 b9 => jk142 r9 (by omega) b9) (fun q9 => (ju142 q9).next (fun q8 => by have q7 := (hnw.tfl (r := d142_5) (by omega) (by omega)).mpr q8; omega)) (by omega) (lv_sub hl [1, 2, 3, 4, 5, 0] rfl) hP hD hS
                          exact key142 ((1002 - 0 : Int).toNat + 1) 0 d71_2 P71 ls H _ (by omega) (KEP.refl _ _ _ _) aP71 (by omega) (by omega) jx71 jv71 jr71 (MONO.refl _) jl71 (fun _ _ _ => rfl) (fun q9 => LU2.first (ju71 q9)) (by omega) (lv_sub hl [1, 2, 3, 4, 5, 0] rfl) hP hD hS
                        · have yb113 : ¬ (d111_5 : Int) < (0 : Int) := fun q => b113 ((zI_lt (a := d111_5) (b := 0) (by omega) (by omega) (by omega) (by omega)).mpr q)
                          refine lv_aload_n hx hb dX14_live_116 rfl (lv_at hl 0 rfl) ?_
                          refine lv_aload hx hb dX14_live_117 (lv_at hl 4 rfl) ?_
                          obtain ⟨kp_2067, hkp_2067⟩ := va_pl_get (X := [(q_1412, .inl (cA_1412, 1002, .inl (fun j : Nat => zI (a1_2013 (j : Int))))), (q_v, .inl (cV, nv, .inr (.inr (.inr (.inr fv))))), (hc, .inr (12, [v13_0, v13_1, v13_2, v13_3, v13_4, .ref la, v13_6])), (h0, .inr (13, [.ref hc, .int (zI (z_2002)), v14_2, v14_3, v14_4, v14_5, v14_6, v14_7, v14_8, v14_9, .ref q_v, .ref q_1411, .ref q_1412])), (q_1411, .inl (cA_1411, 1002, .inl (fun j : Nat => zI (w111_1411 (j : Int)))))]) (f := pE P71) hB_2019.1.1
                          rw [pE_block hB_2019.1.2] at hkp_2067
                          refine va_get (D := (dC, dI)) (ci := 19) (v := .ref (P71.br xb_2017)) (C := RX12) (T := TX12) (N := 5) hx hb hts mem_P14_live_4 hown hK hP kp_2067 hkp_2067 rfl 1 (by decide) (ow (k := 17) rfl) (fun _ h9 => h9) rfl dX14_live_119 ?_
                          obtain ⟨pr_2068, epr_2068⟩ : ∃ q9 : Nat, q9 = P71.br xb_2017 := ⟨_, rfl⟩
                          rw [← epr_2068]
                          obtain rfl : pr_2027 = pr_2068 := (by rw [epr_2068]; exact epr_2027.symm.symm)
                          refine lv_iload hx hb dX14_live_122 (lv_at hl 5 rfl) ?_
                          have hlk_2069 := (show LOK L P71 cO 17 pr_2027 from (by rw [← epr_2027.symm]; exact (aP71.inb hi_2018).2.1))
                          obtain ⟨x, ex⟩ : ∃ q9 : Nat, q9 = P71.el pr_2027 (d111_5) := ⟨_, rfl⟩
                          have hX_x := hlk_2069.1
                          have hX_k := hlk_2069.2.1
                          have hq9 := hlk_2069.row (i := d111_5) (by omega) (by omega)
                          have hX_q : P71.le pr_2027 ∈ L ∧ P71.kd (P71.le pr_2027) = 31 ∧ P71.ac (P71.le pr_2027) = cO := ⟨hq9.1, hq9.2.1, hq9.2.2.1⟩
                          have hq8 := hq9.2.2.2
                          have hX_e0 : P71.oa (P71.le pr_2027) (d111_5).toNat = some x := (by rw [ex]; exact (hlk_2069.2.2.2.2 (d111_5) (by omega) (by omega)).1)
                          have hxm : x ∈ L := (by rw [ex]; exact (hlk_2069.2.2.2.2 (d111_5) (by omega) (by omega)).2.1)
                          have hxk := (hlk_2069.2.2.2.2 (d111_5) (by omega) (by omega)).2.2
                          rw [← ex] at hxk
                          have hPc := hP.part (X := [(q_1412, .inl (cA_1412, 1002, .inl (fun j : Nat => zI (a1_2013 (j : Int))))), (q_v, .inl (cV, nv, .inr (.inr (.inr (.inr fv))))), (hc, .inr (12, [v13_0, v13_1, v13_2, v13_3, v13_4, .ref la, v13_6])), (h0, .inr (13, [.ref hc, .int (zI (z_2002)), v14_2, v14_3, v14_4, v14_5, v14_6, v14_7, v14_8, v14_9, .ref q_v, .ref q_1411, .ref q_1412])), (q_1411, .inl (cA_1411, 1002, .inl (fun j : Nat => zI (w111_1411 (j : Int)))))]) (cx := []) (pl := va_pl L (pE P71)) [] rfl
                          have hDc := hD.part (X := [(q_1412, .inl (cA_1412, 1002, .inl (fun j : Nat => zI (a1_2013 (j : Int))))), (q_v, .inl (cV, nv, .inr (.inr (.inr (.inr fv))))), (hc, .inr (12, [v13_0, v13_1, v13_2, v13_3, v13_4, .ref la, v13_6])), (h0, .inr (13, [.ref hc, .int (zI (z_2002)), v14_2, v14_3, v14_4, v14_5, v14_6, v14_7, v14_8, v14_9, .ref q_v, .ref q_1411, .ref q_1412])), (q_1411, .inl (cA_1411, 1002, .inl (fun j : Nat => zI (w111_1411 (j : Int)))))]) (cx := []) (pl := va_pl L (pE P71)) [] (by decide) rfl
                          have hKc := hK.sub (tys' := [(cO, .object "java/lang/Object")]) [5] rfl
                          have hFc := va_freeP (X := [(q_1412, .inl (cA_1412, 1002, .inl (fun j : Nat => zI (a1_2013 (j : Int))))), (q_v, .inl (cV, nv, .inr (.inr (.inr (.inr fv))))), (hc, .inr (12, [v13_0, v13_1, v13_2, v13_3, v13_4, .ref la, v13_6])), (h0, .inr (13, [.ref hc, .int (zI (z_2002)), v14_2, v14_3, v14_4, v14_5, v14_6, v14_7, v14_8, v14_9, .ref q_v, .ref q_1411, .ref q_1412])), (q_1411, .inl (cA_1411, 1002, .inl (fun j : Nat => zI (w111_1411 (j : Int)))))]) (cx := []) (pl := va_pl L (pE P71)) hD hS hA [] rfl
                          refine va_callr (va_runV (As := [.int (zI (d111_5))]) (rest := [.ref h0]) ⟨hx, hb, hml, hown, hts⟩ (c_PL_get l dC dI cO L P71 pr_2027 d111_5 x hX_x hX_k hX_q (by omega) hX_e0 H.size) (cwV 1 hts g_P14_live_PL_get rfl rfl rfl (by decide +kernel) ⟨(Nat.le_of_ble_eq_true rfl), (Nat.le_of_ble_eq_true rfl)⟩) ⟨fun a U g mk q => by obtain ⟨q0, q1, qP, qK, qD⟩ := q; exact ⟨q0, q1, qP, va_K.moved (u := U) (U := U.calling g mk a) (Vm.Alike.refl U.vm) qK, qD⟩, recv_30 hKc hPc hlk_2028.1 hlk_2028.2.1, fun U hU hW => ⟨rfl, by rw [hU], by rw [hU]; exact hPc, va_K.moved hW.alike hKc, hDc.weaken (fun _ _ _ _ => trivial)⟩⟩ rfl rfl hl.1 rfl (lv_room (Nat.le_of_ble_eq_true rfl)) dX14_live_124 ⟨(Nat.le_of_ble_eq_true rfl), (Nat.le_of_ble_eq_true rfl)⟩) hS (fun q _ h => hFc q h) hFc (fun u q_2070 t H1 locs ht hvm hw hB hz1 hk1 hS => ?_)
                          obtain ⟨hxt_2070, hP1, hK1, hD1⟩ := hB
                          rw [ht] at hP1
                          have hK1 := va_K.moved hvm.symm hK1
                          obtain ⟨hP, hD⟩ := va_joinP (X := [(q_1412, .inl (cA_1412, 1002, .inl (fun j : Nat => zI (a1_2013 (j : Int))))), (q_v, .inl (cV, nv, .inr (.inr (.inr (.inr fv))))), (hc, .inr (12, [v13_0, v13_1, v13_2, v13_3, v13_4, .ref la, v13_6])), (h0, .inr (13, [.ref hc, .int (zI (z_2002)), v14_2, v14_3, v14_4, v14_5, v14_6, v14_7, v14_8, v14_9, .ref q_v, .ref q_1411, .ref q_1412])), (q_1411, .inl (cA_1411, 1002, .inl (fun j : Nat => zI (w111_1411 (j : Int)))))]) (cx := []) (wr := [(q_1412, .inl (cA_1412, 1002, .inl (fun j : Nat => zI (a1_2013 (j : Int))))), (q_v, .inl (cV, nv, .inr (.inr (.inr (.inr fv))))), (hc, .inr (12, [v13_0, v13_1, v13_2, v13_3, v13_4, .ref la, v13_6])), (h0, .inr (13, [.ref hc, .int (zI (z_2002)), v14_2, v14_3, v14_4, v14_5, v14_6, v14_7, v14_8, v14_9, .ref q_v, .ref q_1411, .ref q_1412])), (q_1411, .inl (cA_1411, 1002, .inl (fun j : Nat => zI (w111_1411 (j : Int)))))]) (rx := []) (pl := va_pl L (pE P71)) (pl1 := va_pl L (pE P71)) hP hD [] [0, 1, 2, 3, 4] rfl rfl (by decide) (by decide) hk1 hFc hP1 hD1
                          have hK := (hK.sub (tys' := [(cA_1412, .boolean), (cV, .array .boolean), (cI, .int), (cZ, .boolean), (cA_1411, .boolean)]) [0, 1, 2, 3, 4] rfl).app hK1
                          generalize H1 = H at hP hS ⊢
                          have hP : va_P (dC, dI) vwQ ([(q_1412, .inl (cA_1412, 1002, .inl (fun j : Nat => zI (a1_2013 (j : Int))))), (q_v, .inl (cV, nv, .inr (.inr (.inr (.inr fv))))), (hc, .inr (12, [v13_0, v13_1, v13_2, v13_3, v13_4, .ref la, v13_6])), (h0, .inr (13, [.ref hc, .int (zI (z_2002)), v14_2, v14_3, v14_4, v14_5, v14_6, v14_7, v14_8, v14_9, .ref q_v, .ref q_1411, .ref q_1412])), (q_1411, .inl (cA_1411, 1002, .inl (fun j : Nat => zI (w111_1411 (j : Int)))))] ++ va_pl L (pE P71)) H := hP
                          have hD : va_D A ([(q_1412, .inl (cA_1412, 1002, .inl (fun j : Nat => zI (a1_2013 (j : Int))))), (q_v, .inl (cV, nv, .inr (.inr (.inr (.inr fv))))), (hc, .inr (12, [v13_0, v13_1, v13_2, v13_3, v13_4, .ref la, v13_6])), (h0, .inr (13, [.ref hc, .int (zI (z_2002)), v14_2, v14_3, v14_4, v14_5, v14_6, v14_7, v14_8, v14_9, .ref q_v, .ref q_1411, .ref q_1412])), (q_1411, .inl (cA_1411, 1002, .inl (fun j : Nat => zI (w111_1411 (j : Int)))))] ++ va_pl L (pE P71)) := hD
                          have hK : va_K (dC, dI) vwQ [(cA_1412, .boolean), (cV, .array .boolean), (cI, .int), (cZ, .boolean), (cA_1411, .boolean), (cO, .object "java/lang/Object")] s := hK
                          refine W.widen (k := 0) (n := 0) (Nat.le_of_ble_eq_true rfl) (Nat.le_of_ble_eq_true rfl) ?_
                          rw [hxt_2070]
                          clear hX_e0
                          obtain ⟨xr_2071, h9⟩ : ∃ q9 : Nat, q9 = x := ⟨_, rfl⟩
                          subst h9
                          have hm_2072 := hxm
                          have hk_2073 := hxk
                          have hE_2074 : P71.ek xr_2071 ≠ 1 := (by rw [ex, ← epr_2027.symm]; exact (aP71.2.2.2.1 _ (aP71.2.1.2.2.1 xb_2017 hB_2019.1.1 hB_2019.1.2).1.2.2.1 (aP71.2.1.2.2.1 xb_2017 hB_2019.1.1 hB_2019.1.2).1.2.2.2).2.2 (aP71.2.1.2.2.1 xb_2017 hB_2019.1.1 hB_2019.1.2).1.1 _ (by omega) (by rw [epr_2027.symm]; omega))
                          refine va_castY (C := "SsaForgeModel$Row") (nm := "SsaForgeModel$Row") hx hb hown (ow (k := 27) rfl) hp2 (recv_17 hK hP hm_2072 hk_2073) dX14_live_127 ?_
                          have hX_x := hm_2072
                          have hX_k := hk_2073
                          have hX_r := aP71.rok hm_2072 hk_2073
                          have ⟨hr1, hr2, hr3, hr4, hr5, hr6, hr7, hr8, hr9⟩ := aP71.rok hm_2072 hk_2073
                          have hPc := hP.part (X := [(q_1412, .inl (cA_1412, 1002, .inl (fun j : Nat => zI (a1_2013 (j : Int))))), (q_v, .inl (cV, nv, .inr (.inr (.inr (.inr fv))))), (hc, .inr (12, [v13_0, v13_1, v13_2, v13_3, v13_4, .ref la, v13_6])), (h0, .inr (13, [.ref hc, .int (zI (z_2002)), v14_2, v14_3, v14_4, v14_5, v14_6, v14_7, v14_8, v14_9, .ref q_v, .ref q_1411, .ref q_1412])), (q_1411, .inl (cA_1411, 1002, .inl (fun j : Nat => zI (w111_1411 (j : Int)))))]) (cx := [(h0, .inr (13, [.ref hc, .int (zI (z_2002)), v14_2, v14_3, v14_4, v14_5, v14_6, v14_7, v14_8, v14_9, .ref q_v, .ref q_1411, .ref q_1412])), (q_1411, .inl (cA_1411, 1002, .inl (fun j : Nat => zI (w111_1411 (j : Int)))))]) (pl := va_pl L (pE P71)) [3, 4] rfl
                          have hDc := hD.part (X := [(q_1412, .inl (cA_1412, 1002, .inl (fun j : Nat => zI (a1_2013 (j : Int))))), (q_v, .inl (cV, nv, .inr (.inr (.inr (.inr fv))))), (hc, .inr (12, [v13_0, v13_1, v13_2, v13_3, v13_4, .ref la, v13_6])), (h0, .inr (13, [.ref hc, .int (zI (z_2002)), v14_2, v14_3, v14_4, v14_5, v14_6, v14_7, v14_8, v14_9, .ref q_v, .ref q_1411, .ref q_1412])), (q_1411, .inl (cA_1411, 1002, .inl (fun j : Nat => zI (w111_1411 (j : Int)))))]) (cx := [(h0, .inr (13, [.ref hc, .int (zI (z_2002)), v14_2, v14_3, v14_4, v14_5, v14_6, v14_7, v14_8, v14_9, .ref q_v, .ref q_1411, .ref q_1412])), (q_1411, .inl (cA_1411, 1002, .inl (fun j : Nat => zI (w111_1411 (j : Int)))))]) (pl := va_pl L (pE P71)) [3, 4] (by decide) rfl
                          have hKc := hK.sub (tys' := [(cA_1411, .boolean), (cO, .object "java/lang/Object")]) [4, 5] rfl
                          have hFc := va_freeP (X := [(q_1412, .inl (cA_1412, 1002, .inl (fun j : Nat => zI (a1_2013 (j : Int))))), (q_v, .inl (cV, nv, .inr (.inr (.inr (.inr fv))))), (hc, .inr (12, [v13_0, v13_1, v13_2, v13_3, v13_4, .ref la, v13_6])), (h0, .inr (13, [.ref hc, .int (zI (z_2002)), v14_2, v14_3, v14_4, v14_5, v14_6, v14_7, v14_8, v14_9, .ref q_v, .ref q_1411, .ref q_1412])), (q_1411, .inl (cA_1411, 1002, .inl (fun j : Nat => zI (w111_1411 (j : Int)))))]) (cx := [(h0, .inr (13, [.ref hc, .int (zI (z_2002)), v14_2, v14_3, v14_4, v14_5, v14_6, v14_7, v14_8, v14_9, .ref q_v, .ref q_1411, .ref q_1412])), (q_1411, .inl (cA_1411, 1002, .inl (fun j : Nat => zI (w111_1411 (j : Int)))))]) (pl := va_pl L (pE P71)) hD hS hA [3, 4] rfl
                          refine va_callv (va_runV (As := [.ref xr_2071]) (rest := []) ⟨hx, hb, hml, hown, hts⟩ (c_P14_backE l dC dI h0 (.ref hc) (.int (zI (z_2002))) v14_2 v14_3 v14_4 v14_5 v14_6 v14_7 v14_8 v14_9 (.ref q_v) q_1411 cA_1411 w111_1411 (.ref q_1412) cO L P71 xr_2071 jw111_1411 hX_x hX_k hX_r H.size) (cwV 1 hts g_P14_live_P14_backE rfl rfl rfl (by decide +kernel) ⟨(Nat.le_of_ble_eq_true rfl), (Nat.le_of_ble_eq_true rfl)⟩) ⟨fun a U g mk q => by obtain ⟨q0, q1, qP, qK, qD⟩ := q; exact ⟨q0, q1, qP, va_K.moved (u := U) (U := U.calling g mk a) (Vm.Alike.refl U.vm) qK, qD⟩, va_recv hKc hPc (ci := 13) (q0 := 0) rfl rfl, fun U hU hW => ⟨rfl, by rw [hU], by rw [hU]; exact hPc, va_K.moved hW.alike hKc, hDc.weaken (fun _ _ _ _ => trivial)⟩⟩ rfl rfl hl.1 rfl (lv_room (Nat.le_of_ble_eq_true rfl)) dX14_live_130 ⟨(Nat.le_of_ble_eq_true rfl), (Nat.le_of_ble_eq_true rfl)⟩) hS (fun q _ h => hFc q h) hFc (fun  u t H1 locs ht hvm hw hB hz1 hk1 hS => ?_)
                          obtain ⟨a0_2075, hxt_2075, hP1, hK1, hD1⟩ := hB
                          rw [ht] at hP1
                          have hK1 := va_K.moved hvm.symm hK1
                          obtain ⟨hP, hD⟩ := va_joinP (X := [(q_1412, .inl (cA_1412, 1002, .inl (fun j : Nat => zI (a1_2013 (j : Int))))), (q_v, .inl (cV, nv, .inr (.inr (.inr (.inr fv))))), (hc, .inr (12, [v13_0, v13_1, v13_2, v13_3, v13_4, .ref la, v13_6])), (h0, .inr (13, [.ref hc, .int (zI (z_2002)), v14_2, v14_3, v14_4, v14_5, v14_6, v14_7, v14_8, v14_9, .ref q_v, .ref q_1411, .ref q_1412])), (q_1411, .inl (cA_1411, 1002, .inl (fun j : Nat => zI (w111_1411 (j : Int)))))]) (cx := [(h0, .inr (13, [.ref hc, .int (zI (z_2002)), v14_2, v14_3, v14_4, v14_5, v14_6, v14_7, v14_8, v14_9, .ref q_v, .ref q_1411, .ref q_1412])), (q_1411, .inl (cA_1411, 1002, .inl (fun j : Nat => zI (w111_1411 (j : Int)))))]) (wr := [(q_1412, .inl (cA_1412, 1002, .inl (fun j : Nat => zI (a1_2013 (j : Int))))), (q_v, .inl (cV, nv, .inr (.inr (.inr (.inr fv))))), (hc, .inr (12, [v13_0, v13_1, v13_2, v13_3, v13_4, .ref la, v13_6]))]) (rx := [(h0, .inr (13, [.ref hc, .int (zI (z_2002)), v14_2, v14_3, v14_4, v14_5, v14_6, v14_7, v14_8, v14_9, .ref q_v, .ref q_1411, .ref q_1412])), (q_1411, .inl (cA_1411, 1002, .inl (fun j : Nat => zI (a0_2075 (j : Int)))))]) (pl := va_pl L (pE P71)) (pl1 := va_pl L (pE P71)) hP hD [3, 4] [0, 1, 2] rfl rfl (by decide) (by decide) hk1 hFc hP1 hD1
                          have hK := (hK.sub (tys' := [(cA_1412, .boolean), (cV, .array .boolean), (cI, .int), (cZ, .boolean)]) [0, 1, 2, 3] rfl).app hK1
                          generalize H1 = H at hP hS ⊢
                          have hP : va_P (dC, dI) vwQ ([(q_1412, .inl (cA_1412, 1002, .inl (fun j : Nat => zI (a1_2013 (j : Int))))), (q_v, .inl (cV, nv, .inr (.inr (.inr (.inr fv))))), (hc, .inr (12, [v13_0, v13_1, v13_2, v13_3, v13_4, .ref la, v13_6])), (h0, .inr (13, [.ref hc, .int (zI (z_2002)), v14_2, v14_3, v14_4, v14_5, v14_6, v14_7, v14_8, v14_9, .ref q_v, .ref q_1411, .ref q_1412])), (q_1411, .inl (cA_1411, 1002, .inl (fun j : Nat => zI (a0_2075 (j : Int)))))] ++ va_pl L (pE P71)) H := hP
                          have hD : va_D A ([(q_1412, .inl (cA_1412, 1002, .inl (fun j : Nat => zI (a1_2013 (j : Int))))), (q_v, .inl (cV, nv, .inr (.inr (.inr (.inr fv))))), (hc, .inr (12, [v13_0, v13_1, v13_2, v13_3, v13_4, .ref la, v13_6])), (h0, .inr (13, [.ref hc, .int (zI (z_2002)), v14_2, v14_3, v14_4, v14_5, v14_6, v14_7, v14_8, v14_9, .ref q_v, .ref q_1411, .ref q_1412])), (q_1411, .inl (cA_1411, 1002, .inl (fun j : Nat => zI (a0_2075 (j : Int)))))] ++ va_pl L (pE P71)) := hD
                          have hK : va_K (dC, dI) vwQ [(cA_1412, .boolean), (cV, .array .boolean), (cI, .int), (cZ, .boolean), (cA_1411, .boolean), (cO, .object "java/lang/Object")] s := hK
                          refine W.widen (k := 0) (n := 0) (Nat.le_of_ble_eq_true rfl) (Nat.le_of_ble_eq_true rfl) ?_
                          obtain ⟨rk_2076, hu_2076⟩ := hxt_2075
                          have hbr8 := RIK.bke jr71 hu_2076
                          have hbr9 : P.el (P.br (P.el la (d71_3))) (d111_5) = xr_2071 := (by rw [← RIK.el jr71 (P.br (P.el la (d71_3))) (d111_5), ← RIK.el jr71 la (d71_3), ← hx_2020, ← RIK.br jr71 xb_2017, epr_2027.symm, ← ex])
                          rw [← hbr9] at hbr8
                          refine lv_iinc (v := zI (d111_5 - 1)) (lv' := [(5, .int (zI (d111_5 - 1))), (0, .ref h0), (1, .ref hc), (2, .int (zI (d71_2))), (3, .int (zI (d71_3))), (4, .ref xb_2017)]) hx hb dX14_live_133 hl (k := 5) rfl (zI_dec (d111_5) (1)) (by decide) rfl (fun ls hl => ?_)
                          refine lv_goto (tgt := 111) hx hb dX14_live_136 (by decide) ?_
                          exact ih111 (d111_5 - 1) a0_2075 ls H _ (by omega) rk_2076 (by rw [show d111_5 - 1 + 1 = d111_5 from (by omega)]; exact jn111.next hbr8 (by omega)) (by omega) (lv_sub hl [1, 2, 3, 4, 5, 0] rfl) hP hD hS
                    exact key111 (((P71.lz pr_2027) - 1 + 1 : Int).toNat + 1) ((P71.lz pr_2027) - 1) a0_2024 ls H _ (by omega) rk_2025 (NWJ.first hbx9 hbe8 (by omega)) (by omega) (lv_sub hl [2, 3, 4, 5, 1, 0] rfl) hP hD hS
              exact key71 ((z_2002 - 1 + 1 : Int).toNat + 1) (z_2002 - 1) 0 w58_1411 w58_1412 P58 ls H _ (by omega) (KEP.refl _ _ _ _) aP58 (by omega) (by omega) jw58_1411 jw58_1412 jx58 jv58 jr58 jl58 jp58 (fun _ => LUB.none (by omega)) (by omega) (lv_sub hl [2, 3, 1, 0] rfl) hP hD hS
        exact key58 ((2 * ZN P18 fv (P.lz la) + 1 : Int).toNat + 1) 1 a14_now a14_phi P18 ls H _ (by omega) (KEP.refl _ _ _ _) aP18 (by omega) hR_a14_now hR_a14_phi jx18 jv18 jr18 (by have q9 := jz18; rw [show d18_2 = P.lz la from (by omega)] at q9; exact q9.lvi) hz0 (fun q9 => absurd q9 (by decide)) (by omega) (lv_sub hl [1, 2, 0] rfl) hP hD hS
      · have yb23 : ¬ (z_2002 : Int) ≤ (d18_2 : Int) := fun q => b23 ((zI_le (a := z_2002) (b := d18_2) (by omega) (by omega) (by omega) (by omega)).mpr q)
        refine lv_iconst (v := 0) hx hb dX14_live_26 (by decide) ?_
        refine lv_istore_n (lv' := [(3, .int 0), (0, .ref h0), (1, .ref hc), (2, .int (zI (d18_2)))]) hx hb dX14_live_27 rfl hl (by decide) rfl (fun ls hl => ?_)
        have key28 : ∀ n28 : Nat, ∀ (d28_3 : Int) (P28 : PO) (ls : Array Slot) (H : Heap) (locs : List Loc), (P28.tot 2 la ≤ P18.tot 2 la ∧ P28.tot 1 la ≤ P18.tot 1 la) → (KEP [] L P18 L P28 la) → (ALP L P28 cO cI cZ sx_ed la) → (0 ≤ d28_3 ∧ d28_3 ≤ 1002) → (CHX 43 L P L P28) → (TBK L P28 43 cZ fv (nv : Int) 1002 0 1) → (RIK P P28) → (LVZ P28 fv (d18_2) (d28_3)) → ((1002 - d28_3 : Int).toNat) < n28 → lv_has ls 6 [(0, .ref h0), (1, .ref hc), (2, .int (zI (d18_2))), (3, .int (zI (d28_3)))] → va_P (dC, dI) vwQ ([(h0, .inr (13, [.ref hc, .int (zI (z_2002)), v14_2, v14_3, v14_4, v14_5, v14_6, v14_7, v14_8, v14_9, .ref q_v, .ref q_1411, .ref q_1412])), (q_1411, .inl (cA_1411, 1002, .inl (fun j : Nat => zI (a14_now (j : Int))))), (q_1412, .inl (cA_1412, 1002, .inl (fun j : Nat => zI (a14_phi (j : Int))))), (q_v, .inl (cV, nv, .inr (.inr (.inr (.inr fv))))), (hc, .inr (12, [v13_0, v13_1, v13_2, v13_3, v13_4, .ref la, v13_6]))] ++ va_pl L (pE P28)) H → va_D A ([(h0, .inr (13, [.ref hc, .int (zI (z_2002)), v14_2, v14_3, v14_4, v14_5, v14_6, v14_7, v14_8, v14_9, .ref q_v, .ref q_1411, .ref q_1412])), (q_1411, .inl (cA_1411, 1002, .inl (fun j : Nat => zI (a14_now (j : Int))))), (q_1412, .inl (cA_1412, 1002, .inl (fun j : Nat => zI (a14_phi (j : Int))))), (q_v, .inl (cV, nv, .inr (.inr (.inr (.inr fv))))), (hc, .inr (12, [v13_0, v13_1, v13_2, v13_3, v13_4, .ref la, v13_6]))] ++ va_pl L (pE P28)) → va_S A s.heap H locs → W p l e (headSpec v_P14_live ({ frames := 5, cells := 0, slots := 0, locals := 112 })).room s m ([.ref h0, .ref hc] : List Value).toArray below meth c H locs 0 0 Q (F0 m 28 ls []) := by
          intro n28
          induction n28 with
          | zero => intro d28_3 P28 ls H locs tP28 kP28 aP28 jd28_3 jx28 jv28 jr28 jz28 hm28; exact absurd hm28 (by omega)
          | succ n28 ih28 =>
            intro d28_3 P28 ls H locs tP28 kP28 aP28 jd28_3 jx28 jv28 jr28 jz28 hm28 hl hP hD hS
            have hq_2077 : la ∈ L ∧ P28.kd la = 30 := kP28.mem hq_2003.1 hq_2003.2 (by decide)
            have hz9 := kP28.2.2.1
            have hA_2078 : KEP [] L P L P28 la := hA_2004.trans kP28
            have hA_2079 : KEP [] L P18 L P28 la := (KEP.refl [] L P18 la).trans kP28
            have hj28 := kP28
            skip
            refine lv_iload_n hx hb dX14_live_28 rfl (lv_at hl 3 rfl) ?_
            refine lv_sipush (v := 1001) hx hb dX14_live_29 (by decide) ?_
            refine lv_icmp_gt (tgt := 50) hx hb dX14_live_32 (by decide) (fun b32 => ?_) (fun b32 => ?_)
            · have yb32 : (1001 : Int) < (d28_3 : Int) := (zI_lt (a := 1001) (b := d28_3) (by omega) (by omega) (by omega) (by omega)).mp b32
              refine lv_iinc (v := zI (d18_2 + 1)) (lv' := [(2, .int (zI (d18_2 + 1))), (0, .ref h0), (1, .ref hc), (3, .int (zI (d28_3)))]) hx hb dX14_live_50 hl (k := 2) rfl (zI_add (d18_2) (1)) (by decide) rfl (fun ls hl => ?_)
              refine lv_goto (tgt := 18) hx hb dX14_live_53 (by decide) ?_
              exact ih18 (d18_2 + 1) P28 ls H _ (by omega) (kP18.trans hA_2079) aP28 (by omega) jx28 jv28 jr28 (jz28.row (by omega)) (by omega) (lv_sub hl [1, 2, 0] rfl) hP hD hS
            · have yb32 : ¬ (1001 : Int) < (d28_3 : Int) := fun q => b32 ((zI_lt (a := 1001) (b := d28_3) (by omega) (by omega) (by omega) (by omega)).mpr q)
              refine lv_aload_n hx hb dX14_live_35 rfl (lv_at hl 0 rfl) ?_
              refine va_get (D := (dC, dI)) (ci := 13) (v := .ref q_v) (C := RX14) (T := TX14) (N := 13) hx hb hts mem_P14_live_0 hown hK hP 0 rfl rfl 10 (by decide) (ow (k := 22) rfl) (fun _ h9 => h9) rfl dX14_live_36 ?_
              refine lv_iload_n hx hb dX14_live_39 rfl (lv_at hl 2 rfl) ?_
              obtain ⟨yt_2080, heyt_2080, hmyt_2080, hnyt_2080, hiyt_2080⟩ := jv28 (d18_2) (by omega) (by omega)
              refine va_aldr hx hb hK hP 3 2 rfl rfl (zI_in (a := d18_2) (n := nv) (by omega) (by omega) (by omega)) dX14_live_40 ?_
              rw [show va_rf (fv (zI (d18_2)).toNatClampNeg) = .ref yt_2080 from (by rw [zI_cl (by omega) (by omega), heyt_2080]; rfl)]
              refine lv_iload_n hx hb dX14_live_41 rfl (lv_at hl 3 rfl) ?_
              refine lv_iconst (v := 0) hx hb dX14_live_42 (by decide) ?_
              refine lv_topi (fun z ez => ?_)
              obtain rfl : z = zI (0) := ez
              obtain ⟨kp_2081, gkp_2081⟩ := va_pl_get (X := [(h0, .inr (13, [.ref hc, .int (zI (z_2002)), v14_2, v14_3, v14_4, v14_5, v14_6, v14_7, v14_8, v14_9, .ref q_v, .ref q_1411, .ref q_1412])), (q_1411, .inl (cA_1411, 1002, .inl (fun j : Nat => zI (a14_now (j : Int))))), (q_1412, .inl (cA_1412, 1002, .inl (fun j : Nat => zI (a14_phi (j : Int))))), (q_v, .inl (cV, nv, .inr (.inr (.inr (.inr fv))))), (hc, .inr (12, [v13_0, v13_1, v13_2, v13_3, v13_4, .ref la, v13_6]))]) (f := pE P28) hmyt_2080.1
              have hkp_2081 := gkp_2081
              rw [pE_n43 hmyt_2080.2.1, hmyt_2080.2.2] at hkp_2081
              have hD0 := hD
              refine va_zast (i := zI (d28_3)) hx hb hK hP hD hS kp_2081 4 hkp_2081 rfl (zI_in (a := d28_3) (n := P28.an yt_2080) (by omega) (by omega) (by omega)) dX14_live_43 (fun H locs hP hD hS => ?_)
              rw [show vp_nar .boolean (zI (0)) = zI (0) from zI_nar (a := 0) (by omega) (by omega)] at hP hD
              obtain ⟨Pw_2082, ePw_2082⟩ : ∃ q9 : PO, q9 = P28.ri9 yt_2080 (zup (P28.ia yt_2080) (d28_3) (0)) := ⟨_, rfl⟩
              have eQ : upd (fun j : Nat => zI (P28.ia yt_2080 (j : Int))) (zI (d28_3)).toNatClampNeg (zI (0)) = (fun j : Nat => zI ((zup (P28.ia yt_2080) (d28_3) (0)) (j : Int))) := zI_st (P28.ia yt_2080) (e := d28_3) (v := 0) (by omega) (by omega)
              have eU : (([(h0, .inr (13, [.ref hc, .int (zI (z_2002)), v14_2, v14_3, v14_4, v14_5, v14_6, v14_7, v14_8, v14_9, .ref q_v, .ref q_1411, .ref q_1412])), (q_1411, .inl (cA_1411, 1002, .inl (fun j : Nat => zI (a14_now (j : Int))))), (q_1412, .inl (cA_1412, 1002, .inl (fun j : Nat => zI (a14_phi (j : Int))))), (q_v, .inl (cV, nv, .inr (.inr (.inr (.inr fv))))), (hc, .inr (12, [v13_0, v13_1, v13_2, v13_3, v13_4, .ref la, v13_6]))] : va_W) ++ va_pl L (pE P28)).set kp_2081 (yt_2080, (.inl (cZ, P28.an yt_2080, .inl (upd (fun j : Nat => zI (P28.ia yt_2080 (j : Int))) (zI (d28_3)).toNatClampNeg (zI (0)))) : va_E)) = ([(h0, .inr (13, [.ref hc, .int (zI (z_2002)), v14_2, v14_3, v14_4, v14_5, v14_6, v14_7, v14_8, v14_9, .ref q_v, .ref q_1411, .ref q_1412])), (q_1411, .inl (cA_1411, 1002, .inl (fun j : Nat => zI (a14_now (j : Int))))), (q_1412, .inl (cA_1412, 1002, .inl (fun j : Nat => zI (a14_phi (j : Int))))), (q_v, .inl (cV, nv, .inr (.inr (.inr (.inr fv))))), (hc, .inr (12, [v13_0, v13_1, v13_2, v13_3, v13_4, .ref la, v13_6]))] : va_W) ++ va_pl L (pE Pw_2082) := (by rw [eQ, va_pl_set hD0 hmyt_2080.1 gkp_2081, ePw_2082]; exact congrArg (fun f9 => ([(h0, .inr (13, [.ref hc, .int (zI (z_2002)), v14_2, v14_3, v14_4, v14_5, v14_6, v14_7, v14_8, v14_9, .ref q_v, .ref q_1411, .ref q_1412])), (q_1411, .inl (cA_1411, 1002, .inl (fun j : Nat => zI (a14_now (j : Int))))), (q_1412, .inl (cA_1412, 1002, .inl (fun j : Nat => zI (a14_phi (j : Int))))), (q_v, .inl (cV, nv, .inr (.inr (.inr (.inr fv))))), (hc, .inr (12, [v13_0, v13_1, v13_2, v13_3, v13_4, .ref la, v13_6]))] : va_W) ++ va_pl L f9) (by have h9 := putnum (P := P28) (x := yt_2080) (a := zup (P28.ia yt_2080) (d28_3) (0)) (by omega); rw [hmyt_2080.2.2] at h9; exact h9))
              have hP : va_P (dC, dI) vwQ ([(h0, .inr (13, [.ref hc, .int (zI (z_2002)), v14_2, v14_3, v14_4, v14_5, v14_6, v14_7, v14_8, v14_9, .ref q_v, .ref q_1411, .ref q_1412])), (q_1411, .inl (cA_1411, 1002, .inl (fun j : Nat => zI (a14_now (j : Int))))), (q_1412, .inl (cA_1412, 1002, .inl (fun j : Nat => zI (a14_phi (j : Int))))), (q_v, .inl (cV, nv, .inr (.inr (.inr (.inr fv))))), (hc, .inr (12, [v13_0, v13_1, v13_2, v13_3, v13_4, .ref la, v13_6]))] ++ va_pl L (pE Pw_2082)) H := (by rw [← eU]; exact hP)
              have hD : va_D A ([(h0, .inr (13, [.ref hc, .int (zI (z_2002)), v14_2, v14_3, v14_4, v14_5, v14_6, v14_7, v14_8, v14_9, .ref q_v, .ref q_1411, .ref q_1412])), (q_1411, .inl (cA_1411, 1002, .inl (fun j : Nat => zI (a14_now (j : Int))))), (q_1412, .inl (cA_1412, 1002, .inl (fun j : Nat => zI (a14_phi (j : Int))))), (q_v, .inl (cV, nv, .inr (.inr (.inr (.inr fv))))), (hc, .inr (12, [v13_0, v13_1, v13_2, v13_3, v13_4, .ref la, v13_6]))] ++ va_pl L (pE Pw_2082)) := (by rw [← eU]; exact hD)
              clear eU eQ hD0 gkp_2081 hkp_2081
              have hcx_2083 : CHX 43 L P28 L Pw_2082 := (by rw [ePw_2082]; exact CHX.ri9 hmyt_2080.2.1)
              have hak_2084 := aP28.chx hcx_2083 (by decide)
              have hke_2085 : KEP [] L P28 L Pw_2082 la := aP28.chxk hcx_2083 (by decide)
              have hcx_2086 := jx28.trans hcx_2083
              have htb_2087 := jv28.ri (y := yt_2080) (g := zup (P28.ia yt_2080) (d28_3) (0)) (zup_lh hiyt_2080 (by omega) (by omega))
              rw [← ePw_2082] at htb_2087
              have hrk_2088 := jr28.trans (P2 := Pw_2082) (by rw [ePw_2082]; exact RIK.ri9 hmyt_2080.2.1)
              have hq_2089 : la ∈ L ∧ Pw_2082.kd la = 30 := hke_2085.mem hq_2077.1 hq_2077.2 (by decide)
              have hq_2090 : yt_2080 ∈ L ∧ Pw_2082.kd yt_2080 = 43 := hke_2085.mem hmyt_2080.1 hmyt_2080.2.1 (by decide)
              have hz9 := hke_2085.2.2.1
              have hA_2091 : KEP [] L P L Pw_2082 la := hA_2078.trans hke_2085
              have hA_2092 : KEP [] L P18 L Pw_2082 la := hA_2079.trans hke_2085
              have hA_2093 : KEP [] L P28 L Pw_2082 la := (KEP.refl [] L P28 la).trans hke_2085
              have ht9 := aP28.chxt hcx_2083 (by decide)
              refine lv_iinc (v := zI (d28_3 + 1)) (lv' := [(3, .int (zI (d28_3 + 1))), (0, .ref h0), (1, .ref hc), (2, .int (zI (d18_2)))]) hx hb dX14_live_44 hl (k := 3) rfl (zI_add (d28_3) (1)) (by decide) rfl (fun ls hl => ?_)
              refine lv_goto (tgt := 28) hx hb dX14_live_47 (by decide) ?_
              exact ih28 (d28_3 + 1) Pw_2082 ls H _ (by omega) (kP28.trans hA_2093) hak_2084 (by omega) hcx_2086 htb_2087 hrk_2088 (jz28.put heyt_2080 rfl ePw_2082) (by omega) (lv_sub hl [1, 2, 3, 0] rfl) hP hD hS
        exact key28 ((1002 - 0 : Int).toNat + 1) 0 P18 ls H _ (by omega) (KEP.refl _ _ _ _) aP18 (by omega) jx18 jv18 jr18 jz18 (by omega) (lv_sub hl [1, 2, 3, 0] rfl) hP hD hS
  exact key18 ((P.lz la - 0 : Int).toNat + 1) 0 P ls H _ (by omega) (KEP.refl _ _ _ _) hX_a9 (by omega) hcx0 hT0 hrk0 (LVZ.none _ _) (by omega) (lv_sub hl [1, 2, 0] rfl) hP hD hS
