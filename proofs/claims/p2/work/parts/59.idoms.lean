theorem dX2_findIdoms_0 : decode cX2_findIdoms 0 = .ok (.iconst 0, 1) := by decide +kernel
theorem dX2_findIdoms_1 : decode cX2_findIdoms 1 = .ok (.istore_n 2, 1) := by decide +kernel
theorem dX2_findIdoms_2 : decode cX2_findIdoms 2 = .ok (.iload_n 2, 1) := by decide +kernel
theorem dX2_findIdoms_3 : decode cX2_findIdoms 3 = .ok (.aload_n 1, 1) := by decide +kernel
theorem dX2_findIdoms_4 : decode cX2_findIdoms 4 = .ok (.getfield 75, 3) := by decide +kernel
theorem dX2_findIdoms_7 : decode cX2_findIdoms 7 = .ok (.if_icmp .ge 17, 3) := by decide +kernel
theorem dX2_findIdoms_24 : decode cX2_findIdoms 24 = .ok (.aload_n 0, 1) := by decide +kernel
theorem dX2_findIdoms_25 : decode cX2_findIdoms 25 = .ok (.getfield 15, 3) := by decide +kernel
theorem dX2_findIdoms_28 : decode cX2_findIdoms 28 = .ok (.iconst 0, 1) := by decide +kernel
theorem dX2_findIdoms_29 : decode cX2_findIdoms 29 = .ok (.iconst 0, 1) := by decide +kernel
theorem dX2_findIdoms_30 : decode cX2_findIdoms 30 = .ok (.iastore, 1) := by decide +kernel
theorem dX2_findIdoms_31 : decode cX2_findIdoms 31 = .ok (.iconst 1, 1) := by decide +kernel
theorem dX2_findIdoms_32 : decode cX2_findIdoms 32 = .ok (.istore_n 2, 1) := by decide +kernel
theorem dX2_findIdoms_33 : decode cX2_findIdoms 33 = .ok (.iconst 0, 1) := by decide +kernel
theorem dX2_findIdoms_34 : decode cX2_findIdoms 34 = .ok (.istore_n 3, 1) := by decide +kernel
theorem dX2_findIdoms_35 : decode cX2_findIdoms 35 = .ok (.iload_n 2, 1) := by decide +kernel
theorem dX2_findIdoms_36 : decode cX2_findIdoms 36 = .ok (.ifCond .eq 77, 3) := by decide +kernel
theorem dX2_findIdoms_113 : decode cX2_findIdoms 113 = .ok (.aload_n 0, 1) := by decide +kernel
theorem dX2_findIdoms_114 : decode cX2_findIdoms 114 = .ok (.getfield 15, 3) := by decide +kernel
theorem dX2_findIdoms_117 : decode cX2_findIdoms 117 = .ok (.iconst 0, 1) := by decide +kernel
theorem dX2_findIdoms_118 : decode cX2_findIdoms 118 = .ok (.iconst (-1), 1) := by decide +kernel
theorem dX2_findIdoms_119 : decode cX2_findIdoms 119 = .ok (.iastore, 1) := by decide +kernel
theorem dX2_findIdoms_120 : decode cX2_findIdoms 120 = .ok (.return_, 1) := by decide +kernel
theorem dX2_findIdoms_39 : decode cX2_findIdoms 39 = .ok (.iload_n 3, 1) := by decide +kernel
theorem dX2_findIdoms_40 : decode cX2_findIdoms 40 = .ok (.ldc 80, 2) := by decide +kernel
theorem dX2_findIdoms_42 : decode cX2_findIdoms 42 = .ok (.if_icmp .ge 71, 3) := by decide +kernel
theorem dX2_findIdoms_45 : decode cX2_findIdoms 45 = .ok (.iconst 0, 1) := by decide +kernel
theorem dX2_findIdoms_46 : decode cX2_findIdoms 46 = .ok (.istore_n 2, 1) := by decide +kernel
theorem dX2_findIdoms_47 : decode cX2_findIdoms 47 = .ok (.aload_n 0, 1) := by decide +kernel
theorem dX2_findIdoms_48 : decode cX2_findIdoms 48 = .ok (.getfield 9, 3) := by decide +kernel
theorem dX2_findIdoms_51 : decode cX2_findIdoms 51 = .ok (.iconst 2, 1) := by decide +kernel
theorem dX2_findIdoms_52 : decode cX2_findIdoms 52 = .ok (.isub, 1) := by decide +kernel
theorem dX2_findIdoms_53 : decode cX2_findIdoms 53 = .ok (.istore 4, 2) := by decide +kernel
theorem dX2_findIdoms_55 : decode cX2_findIdoms 55 = .ok (.iload 4, 2) := by decide +kernel
theorem dX2_findIdoms_57 : decode cX2_findIdoms 57 = .ok (.ifCond .lt 50, 3) := by decide +kernel
theorem dX2_findIdoms_107 : decode cX2_findIdoms 107 = .ok (.iinc 3 1, 3) := by decide +kernel
theorem dX2_findIdoms_110 : decode cX2_findIdoms 110 = .ok (.goto (-75), 3) := by decide +kernel
theorem dX2_findIdoms_60 : decode cX2_findIdoms 60 = .ok (.aload_n 0, 1) := by decide +kernel
theorem dX2_findIdoms_61 : decode cX2_findIdoms 61 = .ok (.getfield 45, 3) := by decide +kernel
theorem dX2_findIdoms_64 : decode cX2_findIdoms 64 = .ok (.iload 4, 2) := by decide +kernel
theorem dX2_findIdoms_66 : decode cX2_findIdoms 66 = .ok (.iaload, 1) := by decide +kernel
theorem dX2_findIdoms_67 : decode cX2_findIdoms 67 = .ok (.istore 5, 2) := by decide +kernel
theorem dX2_findIdoms_69 : decode cX2_findIdoms 69 = .ok (.aload_n 0, 1) := by decide +kernel
theorem dX2_findIdoms_70 : decode cX2_findIdoms 70 = .ok (.aload_n 1, 1) := by decide +kernel
theorem dX2_findIdoms_71 : decode cX2_findIdoms 71 = .ok (.iload 5, 2) := by decide +kernel
theorem dX2_findIdoms_73 : decode cX2_findIdoms 73 = .ok (.invokevirtual 89, 3) := by decide +kernel
theorem dX2_findIdoms_76 : decode cX2_findIdoms 76 = .ok (.istore 6, 2) := by decide +kernel
theorem dX2_findIdoms_78 : decode cX2_findIdoms 78 = .ok (.iload 6, 2) := by decide +kernel
theorem dX2_findIdoms_80 : decode cX2_findIdoms 80 = .ok (.aload_n 0, 1) := by decide +kernel
theorem dX2_findIdoms_81 : decode cX2_findIdoms 81 = .ok (.getfield 15, 3) := by decide +kernel
theorem dX2_findIdoms_84 : decode cX2_findIdoms 84 = .ok (.iload 5, 2) := by decide +kernel
theorem dX2_findIdoms_86 : decode cX2_findIdoms 86 = .ok (.iaload, 1) := by decide +kernel
theorem dX2_findIdoms_87 : decode cX2_findIdoms 87 = .ok (.if_icmp .eq 14, 3) := by decide +kernel
theorem dX2_findIdoms_101 : decode cX2_findIdoms 101 = .ok (.iinc 4 (-1), 3) := by decide +kernel
theorem dX2_findIdoms_104 : decode cX2_findIdoms 104 = .ok (.goto (-49), 3) := by decide +kernel
theorem dX2_findIdoms_90 : decode cX2_findIdoms 90 = .ok (.aload_n 0, 1) := by decide +kernel
theorem dX2_findIdoms_91 : decode cX2_findIdoms 91 = .ok (.getfield 15, 3) := by decide +kernel
theorem dX2_findIdoms_94 : decode cX2_findIdoms 94 = .ok (.iload 5, 2) := by decide +kernel
theorem dX2_findIdoms_96 : decode cX2_findIdoms 96 = .ok (.iload 6, 2) := by decide +kernel
theorem dX2_findIdoms_98 : decode cX2_findIdoms 98 = .ok (.iastore, 1) := by decide +kernel
theorem dX2_findIdoms_99 : decode cX2_findIdoms 99 = .ok (.iconst 1, 1) := by decide +kernel
theorem dX2_findIdoms_100 : decode cX2_findIdoms 100 = .ok (.istore_n 2, 1) := by decide +kernel
theorem dX2_findIdoms_10 : decode cX2_findIdoms 10 = .ok (.aload_n 0, 1) := by decide +kernel
theorem dX2_findIdoms_11 : decode cX2_findIdoms 11 = .ok (.getfield 15, 3) := by decide +kernel
theorem dX2_findIdoms_14 : decode cX2_findIdoms 14 = .ok (.iload_n 2, 1) := by decide +kernel
theorem dX2_findIdoms_15 : decode cX2_findIdoms 15 = .ok (.bipush (-2), 2) := by decide +kernel
theorem dX2_findIdoms_17 : decode cX2_findIdoms 17 = .ok (.iastore, 1) := by decide +kernel
theorem dX2_findIdoms_18 : decode cX2_findIdoms 18 = .ok (.iinc 2 1, 3) := by decide +kernel
theorem dX2_findIdoms_21 : decode cX2_findIdoms 21 = .ok (.goto (-19), 3) := by decide +kernel
def o_X2_findIdoms : List Cond := [.fieldLink RX2 75 "SsaForge$Code" "blocks" "I", .fieldLink RX2 15 "SsaForge$Flow" "idom" "[I", .constant RX2 80 (1000000), .fieldLink RX2 9 "SsaForge$Flow" "reached" "I", .fieldLink RX2 45 "SsaForge$Flow" "byPost" "[I", .methodLink RX2 89 yX2_meetOfPreds, .instanceMethod yX2_meetOfPreds, .selects RX2 yX2_meetOfPreds yX2_meetOfPreds, .initialized RX2]
def v_X2_findIdoms : List Cond := .code yX2_findIdoms cX2_findIdoms 7 none :: (o_X2_findIdoms ++ (wsX00 ++ (wsX20 ++ (v_X2_meetOfPreds ++ []))))
theorem mow_X2_findIdoms : ∀ w ∈ o_X2_findIdoms, w ∈ v_X2_findIdoms := fun _ h => List.mem_cons_of_mem _ (List.mem_append_left _ h)
theorem mem_X2_findIdoms_0 : ∀ w ∈ wsX00, w ∈ v_X2_findIdoms := fun _ h => List.mem_cons_of_mem _ (List.mem_append_right _ (List.mem_append_left _ h))
theorem mem_X2_findIdoms_1 : ∀ w ∈ wsX20, w ∈ v_X2_findIdoms := fun _ h => List.mem_cons_of_mem _ (List.mem_append_right _ (List.mem_append_right _ (List.mem_append_left _ h)))
theorem mem_X2_findIdoms_2 : ∀ w ∈ v_X2_meetOfPreds, w ∈ v_X2_findIdoms := fun _ h => List.mem_cons_of_mem _ (List.mem_append_right _ (List.mem_append_right _ (List.mem_append_right _ (List.mem_append_left _ h))))
set_option maxRecDepth 20000 in
theorem gw_X2_findIdoms : v_X2_findIdoms.all goodWord = true := by decide +kernel
set_option maxRecDepth 20000 in
theorem g_X2_findIdoms_X2_meetOfPreds : GoodIn v_X2_findIdoms (wsV RX2 89 RX2 yX2_meetOfPreds v_X2_meetOfPreds) := goodIn_app (goodIn_sub (fun w h => mow_X2_findIdoms w (by revert w h; decide +kernel)) (by decide +kernel)) (goodIn_sub mem_X2_findIdoms_2 gw_X2_meetOfPreds)
set_option maxHeartbeats 4000000 in
set_option maxRecDepth 100000 in
theorem c_X2_findIdoms (l : Launch) (dC : Nat → ClassId) (dI : Nat → Nat → Nat) (h0 : Nat) (z2_reached : Int) (q_201 : Nat) (cA_201 : ClassId) (a2_idom : Int → Int) (v2_2 : Value) (v2_3 : Value) (v2_4 : Value) (v2_5 : Value) (v2_6 : Value) (v2_7 : Value) (v2_8 : Value) (q_209 : Nat) (cA_209 : ClassId) (a2_post : Int → Int) (q_210 : Nat) (cA_210 : ClassId) (a2_byPost : Int → Int) (v2_11 : Value) (v2_12 : Value) (hc : Nat) (B1 : Int) (v_1 : Value) (v_2 : Value) (v_3 : Value) (v_4 : Value) (v_5 : Value) (v_6 : Value) (v_7 : Value) (v_8 : Value) (v_9 : Value) (v_10 : Value) (v_11 : Value) (v_12 : Value) (q_713 : Nat) (cA_713 : ClassId) (a_13 : Int → Int) (q_714 : Nat) (cA_714 : ClassId) (a_14 : Int → Int) (v_15 : Value) (v_16 : Value) (v_17 : Value) (v_18 : Value) (a_9 : Int → Int) (a_11 : Int → Int) (a_12 : Int → Int) (hNz2_reached : 0 ≤ z2_reached ∧ z2_reached ≤ 300) (hR_a2_idom : ∀ j : Int, -2 ≤ a2_idom j ∧ a2_idom j ≤ 299) (hR_a2_post : ∀ j : Int, -1 ≤ a2_post j ∧ a2_post j ≤ 299) (hR_a2_byPost : ∀ j : Int, 0 ≤ a2_byPost j ∧ a2_byPost j ≤ 299) (hNB1 : 0 ≤ B1 ∧ B1 ≤ 300) (hR_a_13 : ∀ j : Int, 0 ≤ a_13 j ∧ a_13 j ≤ 600) (hR_a_14 : ∀ j : Int, 0 ≤ a_14 j ∧ a_14 j ≤ 299) (hN1B : 1 ≤ B1) (hX_W : FW a_9 a_11 a_12 B1 a2_post a2_byPost z2_reached) (hX_L : PL a_9 a_11 a_12 B1 a_13 a_14) (hX_R : GR a_9 a_11 a_12 B1) (sz : Nat) : Met l yX2_findIdoms v_X2_findIdoms ({ frames := 2, cells := 0, slots := 0, locals := 50 }) (va_Pc [.ref h0, .ref hc] (fun U => U.heap.size = sz ∧ va_P (dC, dI) vwP [(h0, .inr (2, [.int (zI (z2_reached)), .ref q_201, v2_2, v2_3, v2_4, v2_5, v2_6, v2_7, v2_8, .ref q_209, .ref q_210, v2_11, v2_12])), (q_201, .inl (cA_201, 300, .inl (fun j : Nat => zI (a2_idom (j : Int))))), (q_209, .inl (cA_209, 300, .inl (fun j : Nat => zI (a2_post (j : Int))))), (q_210, .inl (cA_210, 300, .inl (fun j : Nat => zI (a2_byPost (j : Int))))), (hc, .inr (0, [.int (zI (B1)), v_1, v_2, v_3, v_4, v_5, v_6, v_7, v_8, v_9, v_10, v_11, v_12, .ref q_713, .ref q_714, v_15, v_16, v_17, v_18])), (q_713, .inl (cA_713, 301, .inl (fun j : Nat => zI (a_13 (j : Int))))), (q_714, .inl (cA_714, 600, .inl (fun j : Nat => zI (a_14 (j : Int)))))] U.heap ∧ va_K (dC, dI) vwP [(cA_201, .int), (cA_209, .int), (cA_210, .int), (cA_713, .int), (cA_714, .int)] U ∧ va_D (fun _ => True) [(h0, .inr (2, [.int (zI (z2_reached)), .ref q_201, v2_2, v2_3, v2_4, v2_5, v2_6, v2_7, v2_8, .ref q_209, .ref q_210, v2_11, v2_12])), (q_201, .inl (cA_201, 300, .inl (fun j : Nat => zI (a2_idom (j : Int))))), (q_209, .inl (cA_209, 300, .inl (fun j : Nat => zI (a2_post (j : Int))))), (q_210, .inl (cA_210, 300, .inl (fun j : Nat => zI (a2_byPost (j : Int))))), (hc, .inr (0, [.int (zI (B1)), v_1, v_2, v_3, v_4, v_5, v_6, v_7, v_8, v_9, v_10, v_11, v_12, .ref q_713, .ref q_714, v_15, v_16, v_17, v_18])), (q_713, .inl (cA_713, 301, .inl (fun j : Nat => zI (a_13 (j : Int))))), (q_714, .inl (cA_714, 600, .inl (fun j : Nat => zI (a_14 (j : Int)))))])) (va_Qv (fun _ : Unit => True) (fun (_ : Unit) (t : State) => ∃ (a0_9 : Int → Int), ((∀ j : Int, -2 ≤ a0_9 j ∧ a0_9 j ≤ 299) ∧ (DT a_9 a_11 a_12 B1 a_13 a_14 a2_post a2_byPost z2_reached a0_9)) ∧ va_P (dC, dI) vwP [(h0, .inr (2, [.int (zI (z2_reached)), .ref q_201, v2_2, v2_3, v2_4, v2_5, v2_6, v2_7, v2_8, .ref q_209, .ref q_210, v2_11, v2_12])), (q_201, .inl (cA_201, 300, .inl (fun j : Nat => zI (a0_9 (j : Int))))), (q_209, .inl (cA_209, 300, .inl (fun j : Nat => zI (a2_post (j : Int))))), (q_210, .inl (cA_210, 300, .inl (fun j : Nat => zI (a2_byPost (j : Int))))), (hc, .inr (0, [.int (zI (B1)), v_1, v_2, v_3, v_4, v_5, v_6, v_7, v_8, v_9, v_10, v_11, v_12, .ref q_713, .ref q_714, v_15, v_16, v_17, v_18])), (q_713, .inl (cA_713, 301, .inl (fun j : Nat => zI (a_13 (j : Int))))), (q_714, .inl (cA_714, 600, .inl (fun j : Nat => zI (a_14 (j : Int)))))] t.heap ∧ va_K (dC, dI) vwP [(cA_201, .int), (cA_209, .int), (cA_210, .int), (cA_713, .int), (cA_714, .int)] t ∧ va_D (va_A [(h0, .inr (2, [.int (zI (z2_reached)), .ref q_201, v2_2, v2_3, v2_4, v2_5, v2_6, v2_7, v2_8, .ref q_209, .ref q_210, v2_11, v2_12])), (q_201, .inl (cA_201, 300, .inl (fun j : Nat => zI (a2_idom (j : Int))))), (q_209, .inl (cA_209, 300, .inl (fun j : Nat => zI (a2_post (j : Int))))), (q_210, .inl (cA_210, 300, .inl (fun j : Nat => zI (a2_byPost (j : Int))))), (hc, .inr (0, [.int (zI (B1)), v_1, v_2, v_3, v_4, v_5, v_6, v_7, v_8, v_9, v_10, v_11, v_12, .ref q_713, .ref q_714, v_15, v_16, v_17, v_18])), (q_713, .inl (cA_713, 301, .inl (fun j : Nat => zI (a_13 (j : Int))))), (q_714, .inl (cA_714, 600, .inl (fun j : Nat => zI (a_14 (j : Int)))))] sz) [(h0, .inr (2, [.int (zI (z2_reached)), .ref q_201, v2_2, v2_3, v2_4, v2_5, v2_6, v2_7, v2_8, .ref q_209, .ref q_210, v2_11, v2_12])), (q_201, .inl (cA_201, 300, .inl (fun j : Nat => zI (a0_9 (j : Int))))), (q_209, .inl (cA_209, 300, .inl (fun j : Nat => zI (a2_post (j : Int))))), (q_210, .inl (cA_210, 300, .inl (fun j : Nat => zI (a2_byPost (j : Int))))), (hc, .inr (0, [.int (zI (B1)), v_1, v_2, v_3, v_4, v_5, v_6, v_7, v_8, v_9, v_10, v_11, v_12, .ref q_713, .ref q_714, v_15, v_16, v_17, v_18])), (q_713, .inl (cA_713, 301, .inl (fun j : Nat => zI (a_13 (j : Int))))), (q_714, .inl (cA_714, 600, .inl (fun j : Nat => zI (a_14 (j : Int)))))]) (va_A [(h0, .inr (2, [.int (zI (z2_reached)), .ref q_201, v2_2, v2_3, v2_4, v2_5, v2_6, v2_7, v2_8, .ref q_209, .ref q_210, v2_11, v2_12])), (q_201, .inl (cA_201, 300, .inl (fun j : Nat => zI (a2_idom (j : Int))))), (q_209, .inl (cA_209, 300, .inl (fun j : Nat => zI (a2_post (j : Int))))), (q_210, .inl (cA_210, 300, .inl (fun j : Nat => zI (a2_byPost (j : Int))))), (hc, .inr (0, [.int (zI (B1)), v_1, v_2, v_3, v_4, v_5, v_6, v_7, v_8, v_9, v_10, v_11, v_12, .ref q_713, .ref q_714, v_15, v_16, v_17, v_18])), (q_713, .inl (cA_713, 301, .inl (fun j : Nat => zI (a_13 (j : Int))))), (q_714, .inl (cA_714, 600, .inl (fun j : Nat => zI (a_14 (j : Int)))))] sz)) 0 0 (va_A [(h0, .inr (2, [.int (zI (z2_reached)), .ref q_201, v2_2, v2_3, v2_4, v2_5, v2_6, v2_7, v2_8, .ref q_209, .ref q_210, v2_11, v2_12])), (q_201, .inl (cA_201, 300, .inl (fun j : Nat => zI (a2_idom (j : Int))))), (q_209, .inl (cA_209, 300, .inl (fun j : Nat => zI (a2_post (j : Int))))), (q_210, .inl (cA_210, 300, .inl (fun j : Nat => zI (a2_byPost (j : Int))))), (hc, .inr (0, [.int (zI (B1)), v_1, v_2, v_3, v_4, v_5, v_6, v_7, v_8, v_9, v_10, v_11, v_12, .ref q_713, .ref q_714, v_15, v_16, v_17, v_18])), (q_713, .inl (cA_713, 301, .inl (fun j : Nat => zI (a_13 (j : Int))))), (q_714, .inl (cA_714, 600, .inl (fun j : Nat => zI (a_14 (j : Int)))))] sz) := by
  refine Met.ofW (cc := cX2_findIdoms) (maxL := 7) (ret := none) (by decide) rfl ?_
  intro p e s m args below meth c s₁ B hml hv
  obtain ⟨rfl, hsz, hP, hK, hD0⟩ := hv
  have hx := B.exec
  have hb := B.bytes
  have hr := B.returns
  have hts := atoms_spec (ws := v_X2_findIdoms) B.pre
  have hown : s.vm.findClass RX2 = some m.cls := findClass_of_methodNamed B.named
  have hlocks := B.notSynchronized
  have ow : ∀ {k : Nat} {w : Cond}, o_X2_findIdoms[k]? = some w → w.before ([.ref h0, .ref hc] : List Value).toArray s = true := fun h => hts _ (mow_X2_findIdoms _ (List.mem_of_getElem? h))
  subst hsz
  have hD := hD0.self (sz := s.heap.size)
  generalize hAe : va_A [(h0, .inr (2, [.int (zI (z2_reached)), .ref q_201, v2_2, v2_3, v2_4, v2_5, v2_6, v2_7, v2_8, .ref q_209, .ref q_210, v2_11, v2_12])), (q_201, .inl (cA_201, 300, .inl (fun j : Nat => zI (a2_idom (j : Int))))), (q_209, .inl (cA_209, 300, .inl (fun j : Nat => zI (a2_post (j : Int))))), (q_210, .inl (cA_210, 300, .inl (fun j : Nat => zI (a2_byPost (j : Int))))), (hc, .inr (0, [.int (zI (B1)), v_1, v_2, v_3, v_4, v_5, v_6, v_7, v_8, v_9, v_10, v_11, v_12, .ref q_713, .ref q_714, v_15, v_16, v_17, v_18])), (q_713, .inl (cA_713, 301, .inl (fun j : Nat => zI (a_13 (j : Int))))), (q_714, .inl (cA_714, 600, .inl (fun j : Nat => zI (a_14 (j : Int)))))] s.heap.size = A at hD ⊢
  have hA : ∀ q : Nat, s.heap.size ≤ q → A q := fun q h => by rw [← hAe]; exact Or.inr h
  have hS : va_S A s.heap s.heap [] := va_S.rf
  have hP : va_P (dC, dI) vwP [(h0, .inr (2, [.int (zI (z2_reached)), .ref q_201, v2_2, v2_3, v2_4, v2_5, v2_6, v2_7, v2_8, .ref q_209, .ref q_210, v2_11, v2_12])), (q_201, .inl (cA_201, 300, .inl (fun j : Nat => zI (a2_idom (j : Int))))), (q_209, .inl (cA_209, 300, .inl (fun j : Nat => zI (a2_post (j : Int))))), (q_210, .inl (cA_210, 300, .inl (fun j : Nat => zI (a2_byPost (j : Int))))), (hc, .inr (0, [.int (zI (B1)), v_1, v_2, v_3, v_4, v_5, v_6, v_7, v_8, v_9, v_10, v_11, v_12, .ref q_713, .ref q_714, v_15, v_16, v_17, v_18])), (q_713, .inl (cA_713, 301, .inl (fun j : Nat => zI (a_13 (j : Int))))), (q_714, .inl (cA_714, 600, .inl (fun j : Nat => zI (a_14 (j : Int)))))] s.heap := hP
  have hl := lv_entry ([.ref h0, .ref hc]) (n := 7) (Nat.le_of_ble_eq_true rfl)
  rw [lg_entry_eq]
  generalize (lg_sl ([.ref h0, .ref hc]) ++ List.replicate (7 - (lg_sl ([.ref h0, .ref hc])).length) Slot.unset).toArray = ls at hl ⊢
  have hl : lv_has ls 7 [(0, .ref h0), (1, .ref hc)] := hl
  obtain ⟨H, hH⟩ : ∃ H, H = s.heap := ⟨_, rfl⟩
  rw [← hH] at hP
  have hS : va_S A s.heap H [] := by rw [hH]; exact hS
  rw [← hH]
  refine zW_cap (fun Q hQ => ?_)
  refine lv_iconst (v := 0) hx hb dX2_findIdoms_0 (by decide) ?_
  refine lv_istore_n (lv' := [(2, .int 0), (0, .ref h0), (1, .ref hc)]) hx hb dX2_findIdoms_1 rfl hl (by decide) rfl (fun ls hl => ?_)
  have key2 : ∀ n2 : Nat, ∀ (d2_2 : Int) (w2_201 : Int → Int) (ls : Array Slot) (H : Heap) (locs : List Loc), (0 ≤ d2_2 ∧ d2_2 ≤ 1000000000) → (∀ j : Int, -2 ≤ w2_201 j ∧ w2_201 j ≤ 299) → (∀ j : Int, 0 ≤ j → j < d2_2 → w2_201 j = -2) → (((B1) - (d2_2) : Int).toNat) < n2 → lv_has ls 7 [(0, .ref h0), (1, .ref hc), (2, .int (zI (d2_2)))] → va_P (dC, dI) vwP [(h0, .inr (2, [.int (zI (z2_reached)), .ref q_201, v2_2, v2_3, v2_4, v2_5, v2_6, v2_7, v2_8, .ref q_209, .ref q_210, v2_11, v2_12])), (q_201, .inl (cA_201, 300, .inl (fun j : Nat => zI (w2_201 (j : Int))))), (q_209, .inl (cA_209, 300, .inl (fun j : Nat => zI (a2_post (j : Int))))), (q_210, .inl (cA_210, 300, .inl (fun j : Nat => zI (a2_byPost (j : Int))))), (hc, .inr (0, [.int (zI (B1)), v_1, v_2, v_3, v_4, v_5, v_6, v_7, v_8, v_9, v_10, v_11, v_12, .ref q_713, .ref q_714, v_15, v_16, v_17, v_18])), (q_713, .inl (cA_713, 301, .inl (fun j : Nat => zI (a_13 (j : Int))))), (q_714, .inl (cA_714, 600, .inl (fun j : Nat => zI (a_14 (j : Int)))))] H → va_D A [(h0, .inr (2, [.int (zI (z2_reached)), .ref q_201, v2_2, v2_3, v2_4, v2_5, v2_6, v2_7, v2_8, .ref q_209, .ref q_210, v2_11, v2_12])), (q_201, .inl (cA_201, 300, .inl (fun j : Nat => zI (w2_201 (j : Int))))), (q_209, .inl (cA_209, 300, .inl (fun j : Nat => zI (a2_post (j : Int))))), (q_210, .inl (cA_210, 300, .inl (fun j : Nat => zI (a2_byPost (j : Int))))), (hc, .inr (0, [.int (zI (B1)), v_1, v_2, v_3, v_4, v_5, v_6, v_7, v_8, v_9, v_10, v_11, v_12, .ref q_713, .ref q_714, v_15, v_16, v_17, v_18])), (q_713, .inl (cA_713, 301, .inl (fun j : Nat => zI (a_13 (j : Int))))), (q_714, .inl (cA_714, 600, .inl (fun j : Nat => zI (a_14 (j : Int)))))] → va_S A s.heap H locs → W p l e (headSpec v_X2_findIdoms ({ frames := 2, cells := 0, slots := 0, locals := 50 })).room s m ([.ref h0, .ref hc] : List Value).toArray below meth c H locs 0 0 Q (F0 m 2 ls []) := by
    intro n2
    induction n2 with
    | zero => intro d2_2 w2_201 ls H locs jd2_2 jw2_201 jn hm2; exact absurd hm2 (by omega)
    | succ n2 ih2 =>
      intro d2_2 w2_201 ls H locs jd2_2 jw2_201 jn hm2 hl hP hD hS
      refine lv_iload_n hx hb dX2_findIdoms_2 rfl (lv_at hl 2 rfl) ?_
      refine lv_aload_n hx hb dX2_findIdoms_3 rfl (lv_at hl 1 rfl) ?_
      refine va_get (D := (dC, dI)) (ci := 0) (v := .int (zI (B1))) (C := RX0) (T := TX0) (N := 19) hx hb hts mem_X2_findIdoms_0 hown hK hP 4 rfl rfl 0 (by decide) (ow (k := 0) rfl) (fun _ h9 => h9) rfl dX2_findIdoms_4 ?_
      refine lv_icmp_ge (tgt := 24) hx hb dX2_findIdoms_7 (by decide) (fun b7 => ?_) (fun b7 => ?_)
      · have yb7 : (B1 : Int) ≤ (d2_2 : Int) := (zI_le (a := B1) (b := d2_2) (by omega) (by omega) (by omega) (by omega)).mp b7
        refine lv_aload_n hx hb dX2_findIdoms_24 rfl (lv_at hl 0 rfl) ?_
        refine va_get (D := (dC, dI)) (ci := 2) (v := .ref q_201) (C := RX2) (T := TX2) (N := 13) hx hb hts mem_X2_findIdoms_1 hown hK hP 0 rfl rfl 1 (by decide) (ow (k := 1) rfl) (fun _ h9 => h9) rfl dX2_findIdoms_25 ?_
        refine lv_iconst (v := 0) hx hb dX2_findIdoms_28 (by decide) ?_
        refine lv_iconst (v := 0) hx hb dX2_findIdoms_29 (by decide) ?_
        refine va_iast (i := zI (0)) hx hb hK hP hD hS 1 0 rfl rfl (zI_in (a := 0) (n := 300) (by omega) (by omega) (by decide)) dX2_findIdoms_30 (fun H locs hP hD hS => ?_)
        have eQ : upd (fun j : Nat => zI (w2_201 (j : Int))) (zI (0)).toNatClampNeg 0 = (fun j : Nat => zI (zup w2_201 (0) (0) (j : Int))) := zI_st w2_201 (e := 0) (v := 0) (by omega) (by omega)
        rw [eQ] at hP hD
        clear eQ
        have ra_2001 : ∀ j : Int, -2 ≤ zup w2_201 (0) (0) j ∧ zup w2_201 (0) (0) j ≤ 299 := zup_P (P := fun x9 => -2 ≤ x9 ∧ x9 ≤ 299) jw2_201 (show -2 ≤ (0) ∧ (0) ≤ 299 by omega)
        obtain ⟨a_2001, ea_2001⟩ : ∃ a9 : Int → Int, a9 = zup w2_201 (0) (0) := ⟨_, rfl⟩
        rw [← ea_2001] at hP hD ra_2001
        have hP : va_P (dC, dI) vwP [(h0, .inr (2, [.int (zI (z2_reached)), .ref q_201, v2_2, v2_3, v2_4, v2_5, v2_6, v2_7, v2_8, .ref q_209, .ref q_210, v2_11, v2_12])), (q_201, .inl (cA_201, 300, .inl (fun j : Nat => zI (a_2001 (j : Int))))), (q_209, .inl (cA_209, 300, .inl (fun j : Nat => zI (a2_post (j : Int))))), (q_210, .inl (cA_210, 300, .inl (fun j : Nat => zI (a2_byPost (j : Int))))), (hc, .inr (0, [.int (zI (B1)), v_1, v_2, v_3, v_4, v_5, v_6, v_7, v_8, v_9, v_10, v_11, v_12, .ref q_713, .ref q_714, v_15, v_16, v_17, v_18])), (q_713, .inl (cA_713, 301, .inl (fun j : Nat => zI (a_13 (j : Int))))), (q_714, .inl (cA_714, 600, .inl (fun j : Nat => zI (a_14 (j : Int)))))] H := hP
        have hD : va_D A [(h0, .inr (2, [.int (zI (z2_reached)), .ref q_201, v2_2, v2_3, v2_4, v2_5, v2_6, v2_7, v2_8, .ref q_209, .ref q_210, v2_11, v2_12])), (q_201, .inl (cA_201, 300, .inl (fun j : Nat => zI (a_2001 (j : Int))))), (q_209, .inl (cA_209, 300, .inl (fun j : Nat => zI (a2_post (j : Int))))), (q_210, .inl (cA_210, 300, .inl (fun j : Nat => zI (a2_byPost (j : Int))))), (hc, .inr (0, [.int (zI (B1)), v_1, v_2, v_3, v_4, v_5, v_6, v_7, v_8, v_9, v_10, v_11, v_12, .ref q_713, .ref q_714, v_15, v_16, v_17, v_18])), (q_713, .inl (cA_713, 301, .inl (fun j : Nat => zI (a_13 (j : Int))))), (q_714, .inl (cA_714, 600, .inl (fun j : Nat => zI (a_14 (j : Int)))))] := hD
        refine lv_iconst (v := 1) hx hb dX2_findIdoms_31 (by decide) ?_
        refine lv_istore_n (lv' := [(2, .int 1), (0, .ref h0), (1, .ref hc)]) hx hb dX2_findIdoms_32 rfl hl (by decide) rfl (fun ls hl => ?_)
        refine lv_iconst (v := 0) hx hb dX2_findIdoms_33 (by decide) ?_
        refine lv_istore_n (lv' := [(3, .int 0), (2, .int 1), (0, .ref h0), (1, .ref hc)]) hx hb dX2_findIdoms_34 rfl hl (by decide) rfl (fun ls hl => ?_)
        have key35 : ∀ n35 : Nat, ∀ (d35_3 : Int) (d35_2 : Int) (w35_201 : Int → Int) (ls : Array Slot) (H : Heap) (locs : List Loc), (0 ≤ d35_3 ∧ d35_3 ≤ 1000000000) → (0 ≤ d35_2 ∧ d35_2 ≤ 1) → (∀ j : Int, -2 ≤ w35_201 j ∧ w35_201 j ≤ 299) → (FI a_9 a_11 a_12 B1 a_13 a_14 a2_post a2_byPost z2_reached w35_201 (d35_3).toNat (z2_reached - 2)) → (1 ≤ d35_3 → d35_2 = 0 → FX B1 a_13 a_14 a2_byPost z2_reached w35_201 (-1)) → (302 < d35_3 → d35_2 = 0) → (1 ≤ d35_2 + d35_3) → ((1000000 - d35_3 : Int).toNat) < n35 → lv_has ls 7 [(0, .ref h0), (1, .ref hc), (2, .int (zI (d35_2))), (3, .int (zI (d35_3)))] → va_P (dC, dI) vwP [(h0, .inr (2, [.int (zI (z2_reached)), .ref q_201, v2_2, v2_3, v2_4, v2_5, v2_6, v2_7, v2_8, .ref q_209, .ref q_210, v2_11, v2_12])), (q_201, .inl (cA_201, 300, .inl (fun j : Nat => zI (w35_201 (j : Int))))), (q_209, .inl (cA_209, 300, .inl (fun j : Nat => zI (a2_post (j : Int))))), (q_210, .inl (cA_210, 300, .inl (fun j : Nat => zI (a2_byPost (j : Int))))), (hc, .inr (0, [.int (zI (B1)), v_1, v_2, v_3, v_4, v_5, v_6, v_7, v_8, v_9, v_10, v_11, v_12, .ref q_713, .ref q_714, v_15, v_16, v_17, v_18])), (q_713, .inl (cA_713, 301, .inl (fun j : Nat => zI (a_13 (j : Int))))), (q_714, .inl (cA_714, 600, .inl (fun j : Nat => zI (a_14 (j : Int)))))] H → va_D A [(h0, .inr (2, [.int (zI (z2_reached)), .ref q_201, v2_2, v2_3, v2_4, v2_5, v2_6, v2_7, v2_8, .ref q_209, .ref q_210, v2_11, v2_12])), (q_201, .inl (cA_201, 300, .inl (fun j : Nat => zI (w35_201 (j : Int))))), (q_209, .inl (cA_209, 300, .inl (fun j : Nat => zI (a2_post (j : Int))))), (q_210, .inl (cA_210, 300, .inl (fun j : Nat => zI (a2_byPost (j : Int))))), (hc, .inr (0, [.int (zI (B1)), v_1, v_2, v_3, v_4, v_5, v_6, v_7, v_8, v_9, v_10, v_11, v_12, .ref q_713, .ref q_714, v_15, v_16, v_17, v_18])), (q_713, .inl (cA_713, 301, .inl (fun j : Nat => zI (a_13 (j : Int))))), (q_714, .inl (cA_714, 600, .inl (fun j : Nat => zI (a_14 (j : Int)))))] → va_S A s.heap H locs → W p l e (headSpec v_X2_findIdoms ({ frames := 2, cells := 0, slots := 0, locals := 50 })).room s m ([.ref h0, .ref hc] : List Value).toArray below meth c H locs 0 0 Q (F0 m 35 ls []) := by
          intro n35
          induction n35 with
          | zero => intro d35_3 d35_2 w35_201 ls H locs jd35_3 jd35_2 jw35_201 jT jX jC jZ hm35; exact absurd hm35 (by omega)
          | succ n35 ih35 =>
            intro d35_3 d35_2 w35_201 ls H locs jd35_3 jd35_2 jw35_201 jT jX jC jZ hm35 hl hP hD hS
            have hr9 := FW.r1 hX_W
            refine lv_iload_n hx hb dX2_findIdoms_35 rfl (lv_at hl 2 rfl) ?_
            refine lv_if_eq (tgt := 113) hx hb dX2_findIdoms_36 (by decide) (fun b36 => ?_) (fun b36 => ?_)
            · have yb36 : (d35_2 : Int) = (0 : Int) := (zI_eq (a := d35_2) (b := 0) (by omega) (by omega) (by omega) (by omega)).mp b36
              have hx9 : FX B1 a_13 a_14 a2_byPost z2_reached w35_201 (-1) := jX (by omega) (by omega)
              refine lv_aload_n hx hb dX2_findIdoms_113 rfl (lv_at hl 0 rfl) ?_
              refine va_get (D := (dC, dI)) (ci := 2) (v := .ref q_201) (C := RX2) (T := TX2) (N := 13) hx hb hts mem_X2_findIdoms_1 hown hK hP 0 rfl rfl 1 (by decide) (ow (k := 1) rfl) (fun _ h9 => h9) rfl dX2_findIdoms_114 ?_
              refine lv_iconst (v := 0) hx hb dX2_findIdoms_117 (by decide) ?_
              refine lv_iconst (v := (-1)) hx hb dX2_findIdoms_118 (by decide) ?_
              refine va_iast (i := zI (0)) hx hb hK hP hD hS 1 0 rfl rfl (zI_in (a := 0) (n := 300) (by omega) (by omega) (by decide)) dX2_findIdoms_119 (fun H locs hP hD hS => ?_)
              have eQ : upd (fun j : Nat => zI (w35_201 (j : Int))) (zI (0)).toNatClampNeg (-1) = (fun j : Nat => zI (zup w35_201 (0) (-1) (j : Int))) := (congrArg (upd (fun j : Nat => zI (w35_201 (j : Int))) (zI (0)).toNatClampNeg) (show ((-1) : Int32) = zI (-1) by decide)).trans (zI_st w35_201 (e := 0) (v := -1) (by omega) (by omega))
              rw [eQ] at hP hD
              clear eQ
              have ra_2002 : ∀ j : Int, -2 ≤ zup w35_201 (0) (-1) j ∧ zup w35_201 (0) (-1) j ≤ 299 := zup_P (P := fun x9 => -2 ≤ x9 ∧ x9 ≤ 299) jw35_201 (show -2 ≤ (-1) ∧ (-1) ≤ 299 by omega)
              obtain ⟨a_2002, ea_2002⟩ : ∃ a9 : Int → Int, a9 = zup w35_201 (0) (-1) := ⟨_, rfl⟩
              rw [← ea_2002] at hP hD ra_2002
              have hP : va_P (dC, dI) vwP [(h0, .inr (2, [.int (zI (z2_reached)), .ref q_201, v2_2, v2_3, v2_4, v2_5, v2_6, v2_7, v2_8, .ref q_209, .ref q_210, v2_11, v2_12])), (q_201, .inl (cA_201, 300, .inl (fun j : Nat => zI (a_2002 (j : Int))))), (q_209, .inl (cA_209, 300, .inl (fun j : Nat => zI (a2_post (j : Int))))), (q_210, .inl (cA_210, 300, .inl (fun j : Nat => zI (a2_byPost (j : Int))))), (hc, .inr (0, [.int (zI (B1)), v_1, v_2, v_3, v_4, v_5, v_6, v_7, v_8, v_9, v_10, v_11, v_12, .ref q_713, .ref q_714, v_15, v_16, v_17, v_18])), (q_713, .inl (cA_713, 301, .inl (fun j : Nat => zI (a_13 (j : Int))))), (q_714, .inl (cA_714, 600, .inl (fun j : Nat => zI (a_14 (j : Int)))))] H := hP
              have hD : va_D A [(h0, .inr (2, [.int (zI (z2_reached)), .ref q_201, v2_2, v2_3, v2_4, v2_5, v2_6, v2_7, v2_8, .ref q_209, .ref q_210, v2_11, v2_12])), (q_201, .inl (cA_201, 300, .inl (fun j : Nat => zI (a_2002 (j : Int))))), (q_209, .inl (cA_209, 300, .inl (fun j : Nat => zI (a2_post (j : Int))))), (q_210, .inl (cA_210, 300, .inl (fun j : Nat => zI (a2_byPost (j : Int))))), (hc, .inr (0, [.int (zI (B1)), v_1, v_2, v_3, v_4, v_5, v_6, v_7, v_8, v_9, v_10, v_11, v_12, .ref q_713, .ref q_714, v_15, v_16, v_17, v_18])), (q_713, .inl (cA_713, 301, .inl (fun j : Nat => zI (a_13 (j : Int))))), (q_714, .inl (cA_714, 600, .inl (fun j : Nat => zI (a_14 (j : Int)))))] := hD
              subst hQ
              refine W.widen (k := 0) (n := 0) (Nat.le_of_ble_eq_true rfl) (Nat.le_of_ble_eq_true rfl) ?_
              exact W.vret hx hb hr (fun t ht hW => ⟨⟨(), rfl, trivial, a_2002, ⟨ra_2002, (⟨w35_201, ea_2002, jT.idi, jT.full (by omega), hx9, jT.low⟩)⟩, by rw [ht]; exact hP, va_K.moved hW.alike hK, hD⟩, hS.F ht⟩) hS.2.2 dX2_findIdoms_120
            · have yb36 : ¬ (d35_2 : Int) = (0 : Int) := fun q => b36 ((zI_eq (a := d35_2) (b := 0) (by omega) (by omega) (by omega) (by omega)).mpr q)
              refine lv_iload_n hx hb dX2_findIdoms_39 rfl (lv_at hl 3 rfl) ?_
              refine lv_ldc (v := 1000000) hx hb hown (ow (k := 2) rfl) dX2_findIdoms_40 ?_
              refine lv_icmp_ge (tgt := 113) hx hb dX2_findIdoms_42 (by decide) (fun b42 => ?_) (fun b42 => ?_)
              · have yb42 : (1000000 : Int) ≤ (d35_3 : Int) := (zI_le (a := 1000000) (b := d35_3) (by omega) (by omega) (by omega) (by omega)).mp b42
                have hx9 : FX B1 a_13 a_14 a2_byPost z2_reached w35_201 (-1) := jX (by omega) (by omega)
                refine lv_aload_n hx hb dX2_findIdoms_113 rfl (lv_at hl 0 rfl) ?_
                refine va_get (D := (dC, dI)) (ci := 2) (v := .ref q_201) (C := RX2) (T := TX2) (N := 13) hx hb hts mem_X2_findIdoms_1 hown hK hP 0 rfl rfl 1 (by decide) (ow (k := 1) rfl) (fun _ h9 => h9) rfl dX2_findIdoms_114 ?_
                refine lv_iconst (v := 0) hx hb dX2_findIdoms_117 (by decide) ?_
                refine lv_iconst (v := (-1)) hx hb dX2_findIdoms_118 (by decide) ?_
                refine va_iast (i := zI (0)) hx hb hK hP hD hS 1 0 rfl rfl (zI_in (a := 0) (n := 300) (by omega) (by omega) (by decide)) dX2_findIdoms_119 (fun H locs hP hD hS => ?_)
                have eQ : upd (fun j : Nat => zI (w35_201 (j : Int))) (zI (0)).toNatClampNeg (-1) = (fun j : Nat => zI (zup w35_201 (0) (-1) (j : Int))) := (congrArg (upd (fun j : Nat => zI (w35_201 (j : Int))) (zI (0)).toNatClampNeg) (show ((-1) : Int32) = zI (-1) by decide)).trans (zI_st w35_201 (e := 0) (v := -1) (by omega) (by omega))
                rw [eQ] at hP hD
                clear eQ
                have ra_2003 : ∀ j : Int, -2 ≤ zup w35_201 (0) (-1) j ∧ zup w35_201 (0) (-1) j ≤ 299 := zup_P (P := fun x9 => -2 ≤ x9 ∧ x9 ≤ 299) jw35_201 (show -2 ≤ (-1) ∧ (-1) ≤ 299 by omega)
                obtain ⟨a_2003, ea_2003⟩ : ∃ a9 : Int → Int, a9 = zup w35_201 (0) (-1) := ⟨_, rfl⟩
                rw [← ea_2003] at hP hD ra_2003
                have hP : va_P (dC, dI) vwP [(h0, .inr (2, [.int (zI (z2_reached)), .ref q_201, v2_2, v2_3, v2_4, v2_5, v2_6, v2_7, v2_8, .ref q_209, .ref q_210, v2_11, v2_12])), (q_201, .inl (cA_201, 300, .inl (fun j : Nat => zI (a_2003 (j : Int))))), (q_209, .inl (cA_209, 300, .inl (fun j : Nat => zI (a2_post (j : Int))))), (q_210, .inl (cA_210, 300, .inl (fun j : Nat => zI (a2_byPost (j : Int))))), (hc, .inr (0, [.int (zI (B1)), v_1, v_2, v_3, v_4, v_5, v_6, v_7, v_8, v_9, v_10, v_11, v_12, .ref q_713, .ref q_714, v_15, v_16, v_17, v_18])), (q_713, .inl (cA_713, 301, .inl (fun j : Nat => zI (a_13 (j : Int))))), (q_714, .inl (cA_714, 600, .inl (fun j : Nat => zI (a_14 (j : Int)))))] H := hP
                have hD : va_D A [(h0, .inr (2, [.int (zI (z2_reached)), .ref q_201, v2_2, v2_3, v2_4, v2_5, v2_6, v2_7, v2_8, .ref q_209, .ref q_210, v2_11, v2_12])), (q_201, .inl (cA_201, 300, .inl (fun j : Nat => zI (a_2003 (j : Int))))), (q_209, .inl (cA_209, 300, .inl (fun j : Nat => zI (a2_post (j : Int))))), (q_210, .inl (cA_210, 300, .inl (fun j : Nat => zI (a2_byPost (j : Int))))), (hc, .inr (0, [.int (zI (B1)), v_1, v_2, v_3, v_4, v_5, v_6, v_7, v_8, v_9, v_10, v_11, v_12, .ref q_713, .ref q_714, v_15, v_16, v_17, v_18])), (q_713, .inl (cA_713, 301, .inl (fun j : Nat => zI (a_13 (j : Int))))), (q_714, .inl (cA_714, 600, .inl (fun j : Nat => zI (a_14 (j : Int)))))] := hD
                subst hQ
                refine W.widen (k := 0) (n := 0) (Nat.le_of_ble_eq_true rfl) (Nat.le_of_ble_eq_true rfl) ?_
                exact W.vret hx hb hr (fun t ht hW => ⟨⟨(), rfl, trivial, a_2003, ⟨ra_2003, (⟨w35_201, ea_2003, jT.idi, jT.full (by omega), hx9, jT.low⟩)⟩, by rw [ht]; exact hP, va_K.moved hW.alike hK, hD⟩, hS.F ht⟩) hS.2.2 dX2_findIdoms_120
              · have yb42 : ¬ (1000000 : Int) ≤ (d35_3 : Int) := fun q => b42 ((zI_le (a := 1000000) (b := d35_3) (by omega) (by omega) (by omega) (by omega)).mpr q)
                refine lv_iconst (v := 0) hx hb dX2_findIdoms_45 (by decide) ?_
                refine lv_istore_n (lv' := [(2, .int 0), (0, .ref h0), (1, .ref hc), (3, .int (zI (d35_3)))]) hx hb dX2_findIdoms_46 rfl hl (by decide) rfl (fun ls hl => ?_)
                refine lv_aload_n hx hb dX2_findIdoms_47 rfl (lv_at hl 1 rfl) ?_
                refine va_get (D := (dC, dI)) (ci := 2) (v := .int (zI (z2_reached))) (C := RX2) (T := TX2) (N := 13) hx hb hts mem_X2_findIdoms_1 hown hK hP 0 rfl rfl 0 (by decide) (ow (k := 3) rfl) (fun _ h9 => h9) rfl dX2_findIdoms_48 ?_
                refine lv_iconst (v := 2) hx hb dX2_findIdoms_51 (by decide) ?_
                refine lv_isub hx hb dX2_findIdoms_52 ?_
                refine lv_topi (fun z ez => ?_)
                obtain rfl : z = zI (z2_reached - 2) := ez.trans (zI_sub (z2_reached) (2))
                refine lv_istore (lv' := [(4, .int (zI (z2_reached - 2))), (2, .int 0), (0, .ref h0), (1, .ref hc), (3, .int (zI (d35_3)))]) hx hb dX2_findIdoms_53 hl (by decide) rfl (fun ls hl => ?_)
                have key55 : ∀ n55 : Nat, ∀ (d55_4 : Int) (d55_2 : Int) (w55_201 : Int → Int) (ls : Array Slot) (H : Heap) (locs : List Loc), (-1 ≤ d55_4 ∧ d55_4 ≤ z2_reached - 2) → (0 ≤ d55_2 ∧ d55_2 ≤ 1) → (∀ j : Int, -2 ≤ w55_201 j ∧ w55_201 j ≤ 299) → (FI a_9 a_11 a_12 B1 a_13 a_14 a2_post a2_byPost z2_reached w55_201 (d35_3).toNat (d55_4)) → (d55_2 = 0 → FX B1 a_13 a_14 a2_byPost z2_reached w55_201 (d55_4)) → (302 ≤ d35_3 → d55_2 = 0) → (((d55_4) - (0) + 1 : Int).toNat) < n55 → lv_has ls 7 [(0, .ref h0), (1, .ref hc), (2, .int (zI (d55_2))), (3, .int (zI (d35_3))), (4, .int (zI (d55_4)))] → va_P (dC, dI) vwP [(h0, .inr (2, [.int (zI (z2_reached)), .ref q_201, v2_2, v2_3, v2_4, v2_5, v2_6, v2_7, v2_8, .ref q_209, .ref q_210, v2_11, v2_12])), (q_201, .inl (cA_201, 300, .inl (fun j : Nat => zI (w55_201 (j : Int))))), (q_209, .inl (cA_209, 300, .inl (fun j : Nat => zI (a2_post (j : Int))))), (q_210, .inl (cA_210, 300, .inl (fun j : Nat => zI (a2_byPost (j : Int))))), (hc, .inr (0, [.int (zI (B1)), v_1, v_2, v_3, v_4, v_5, v_6, v_7, v_8, v_9, v_10, v_11, v_12, .ref q_713, .ref q_714, v_15, v_16, v_17, v_18])), (q_713, .inl (cA_713, 301, .inl (fun j : Nat => zI (a_13 (j : Int))))), (q_714, .inl (cA_714, 600, .inl (fun j : Nat => zI (a_14 (j : Int)))))] H → va_D A [(h0, .inr (2, [.int (zI (z2_reached)), .ref q_201, v2_2, v2_3, v2_4, v2_5, v2_6, v2_7, v2_8, .ref q_209, .ref q_210, v2_11, v2_12])), (q_201, .inl (cA_201, 300, .inl (fun j : Nat => zI (w55_201 (j : Int))))), (q_209, .inl (cA_209, 300, .inl (fun j : Nat => zI (a2_post (j : Int))))), (q_210, .inl (cA_210, 300, .inl (fun j : Nat => zI (a2_byPost (j : Int))))), (hc, .inr (0, [.int (zI (B1)), v_1, v_2, v_3, v_4, v_5, v_6, v_7, v_8, v_9, v_10, v_11, v_12, .ref q_713, .ref q_714, v_15, v_16, v_17, v_18])), (q_713, .inl (cA_713, 301, .inl (fun j : Nat => zI (a_13 (j : Int))))), (q_714, .inl (cA_714, 600, .inl (fun j : Nat => zI (a_14 (j : Int)))))] → va_S A s.heap H locs → W p l e (headSpec v_X2_findIdoms ({ frames := 2, cells := 0, slots := 0, locals := 50 })).room s m ([.ref h0, .ref hc] : List Value).toArray below meth c H locs 0 0 Q (F0 m 55 ls []) := by
                  intro n55
                  induction n55 with
                  | zero => intro d55_4 d55_2 w55_201 ls H locs jd55_4 jd55_2 jw55_201 jT jX jC hm55; exact absurd hm55 (by omega)
                  | succ n55 ih55 =>
                    intro d55_4 d55_2 w55_201 ls H locs jd55_4 jd55_2 jw55_201 jT jX jC hm55 hl hP hD hS
                    refine lv_iload hx hb dX2_findIdoms_55 (lv_at hl 4 rfl) ?_
                    refine lv_if_lt (tgt := 107) hx hb dX2_findIdoms_57 (by decide) (fun b57 => ?_) (fun b57 => ?_)
                    · have yb57 : (d55_4 : Int) < (0 : Int) := (zI_lt (a := d55_4) (b := 0) (by omega) (by omega) (by omega) (by omega)).mp b57
                      refine lv_iinc (v := zI (d35_3 + 1)) (lv' := [(3, .int (zI (d35_3 + 1))), (0, .ref h0), (1, .ref hc), (2, .int (zI (d55_2))), (4, .int (zI (d55_4)))]) hx hb dX2_findIdoms_107 hl (k := 3) rfl (zI_add (d35_3) (1)) (by decide) rfl (fun ls hl => ?_)
                      refine lv_goto (tgt := 35) hx hb dX2_findIdoms_110 (by decide) ?_
                      exact ih35 (d35_3 + 1) d55_2 w55_201 ls H _ (by omega) (by omega) jw55_201 (by have e9 : (d35_3 + 1).toNat = d35_3.toNat + 1 := (by omega); rw [e9]; exact FI.next hX_W jT (by omega)) (fun h1 h2 => fun j g1 g2 g3 => jX h2 j g1 (by omega) g3) (fun h1 => jC (by omega)) (by omega) (by omega) (lv_sub hl [1, 2, 3, 0] rfl) hP hD hS
                    · have yb57 : ¬ (d55_4 : Int) < (0 : Int) := fun q => b57 ((zI_lt (a := d55_4) (b := 0) (by omega) (by omega) (by omega) (by omega)).mpr q)
                      have hy9 := hX_W.byp d55_4 (by omega) (by omega)
                      have hX_I := jT.idi
                      refine lv_aload_n hx hb dX2_findIdoms_60 rfl (lv_at hl 0 rfl) ?_
                      refine va_get (D := (dC, dI)) (ci := 2) (v := .ref q_210) (C := RX2) (T := TX2) (N := 13) hx hb hts mem_X2_findIdoms_1 hown hK hP 0 rfl rfl 10 (by decide) (ow (k := 4) rfl) (fun _ h9 => h9) rfl dX2_findIdoms_61 ?_
                      refine lv_iload hx hb dX2_findIdoms_64 (lv_at hl 4 rfl) ?_
                      refine va_iald hx hb hK hP 3 2 rfl rfl (zI_in (a := d55_4) (n := 300) (by omega) (by omega) (by decide)) dX2_findIdoms_66 ?_
                      refine lv_topi (fun z ez => ?_)
                      obtain rfl : z = zI (a2_byPost (d55_4)) := ez.trans (zI_ld (a2_byPost) (by omega) (by omega))
                      have k1 := hR_a2_byPost (d55_4)
                      refine lv_istore (lv' := [(5, .int (zI (a2_byPost (d55_4)))), (0, .ref h0), (1, .ref hc), (2, .int (zI (d55_2))), (3, .int (zI (d35_3))), (4, .int (zI (d55_4)))]) hx hb dX2_findIdoms_67 hl (by decide) rfl (fun ls hl => ?_)
                      refine lv_aload_n hx hb dX2_findIdoms_69 rfl (lv_at hl 1 rfl) ?_
                      refine lv_aload_n hx hb dX2_findIdoms_70 rfl (lv_at hl 2 rfl) ?_
                      refine lv_iload hx hb dX2_findIdoms_71 (lv_at hl 0 rfl) ?_
                      have hPc := hP.sub (ws' := [(h0, .inr (2, [.int (zI (z2_reached)), .ref q_201, v2_2, v2_3, v2_4, v2_5, v2_6, v2_7, v2_8, .ref q_209, .ref q_210, v2_11, v2_12])), (q_201, .inl (cA_201, 300, .inl (fun j : Nat => zI (w55_201 (j : Int))))), (q_209, .inl (cA_209, 300, .inl (fun j : Nat => zI (a2_post (j : Int))))), (hc, .inr (0, [.int (zI (B1)), v_1, v_2, v_3, v_4, v_5, v_6, v_7, v_8, v_9, v_10, v_11, v_12, .ref q_713, .ref q_714, v_15, v_16, v_17, v_18])), (q_713, .inl (cA_713, 301, .inl (fun j : Nat => zI (a_13 (j : Int))))), (q_714, .inl (cA_714, 600, .inl (fun j : Nat => zI (a_14 (j : Int)))))]) [0, 1, 2, 4, 5, 6] rfl
                      have hDc := hD.sub (ws' := [(h0, .inr (2, [.int (zI (z2_reached)), .ref q_201, v2_2, v2_3, v2_4, v2_5, v2_6, v2_7, v2_8, .ref q_209, .ref q_210, v2_11, v2_12])), (q_201, .inl (cA_201, 300, .inl (fun j : Nat => zI (w55_201 (j : Int))))), (q_209, .inl (cA_209, 300, .inl (fun j : Nat => zI (a2_post (j : Int))))), (hc, .inr (0, [.int (zI (B1)), v_1, v_2, v_3, v_4, v_5, v_6, v_7, v_8, v_9, v_10, v_11, v_12, .ref q_713, .ref q_714, v_15, v_16, v_17, v_18])), (q_713, .inl (cA_713, 301, .inl (fun j : Nat => zI (a_13 (j : Int))))), (q_714, .inl (cA_714, 600, .inl (fun j : Nat => zI (a_14 (j : Int)))))]) [0, 1, 2, 4, 5, 6] (by decide) rfl
                      have hKc := hK.sub (tys' := [(cA_201, .int), (cA_209, .int), (cA_713, .int), (cA_714, .int)]) [0, 1, 3, 4] rfl
                      have hFc := va_free (wc := [(h0, .inr (2, [.int (zI (z2_reached)), .ref q_201, v2_2, v2_3, v2_4, v2_5, v2_6, v2_7, v2_8, .ref q_209, .ref q_210, v2_11, v2_12])), (q_201, .inl (cA_201, 300, .inl (fun j : Nat => zI (w55_201 (j : Int))))), (q_209, .inl (cA_209, 300, .inl (fun j : Nat => zI (a2_post (j : Int))))), (hc, .inr (0, [.int (zI (B1)), v_1, v_2, v_3, v_4, v_5, v_6, v_7, v_8, v_9, v_10, v_11, v_12, .ref q_713, .ref q_714, v_15, v_16, v_17, v_18])), (q_713, .inl (cA_713, 301, .inl (fun j : Nat => zI (a_13 (j : Int))))), (q_714, .inl (cA_714, 600, .inl (fun j : Nat => zI (a_14 (j : Int)))))]) hD hS hA [0, 1, 2, 4, 5, 6] rfl
                      refine va_calli (va_runV (As := [.ref hc, .int (zI (a2_byPost (d55_4)))]) (rest := []) ⟨hx, hb, hml, hown, hts⟩ (c_X2_meetOfPreds l dC dI h0 (.int (zI (z2_reached))) q_201 cA_201 w55_201 v2_2 v2_3 v2_4 v2_5 v2_6 v2_7 v2_8 q_209 cA_209 a2_post (.ref q_210) v2_11 v2_12 hc B1 v_1 v_2 v_3 v_4 v_5 v_6 v_7 v_8 v_9 v_10 v_11 v_12 q_713 cA_713 a_13 q_714 cA_714 a_14 v_15 v_16 v_17 v_18 (a2_byPost (d55_4)) a_9 a_11 a_12 a2_byPost z2_reached jw55_201 hR_a2_post (by omega) hR_a_13 hR_a_14 hX_W hX_I hX_L (by omega) H.size) (cwV 2 hts g_X2_findIdoms_X2_meetOfPreds rfl rfl rfl (by decide +kernel) ⟨(Nat.le_of_ble_eq_true rfl), (Nat.le_of_ble_eq_true rfl)⟩) ⟨fun a U g mk q => by obtain ⟨q0, q1, qP, qK, qD⟩ := q; exact ⟨q0, q1, qP, va_K.moved (u := U) (U := U.calling g mk a) (Vm.Alike.refl U.vm) qK, qD⟩, va_recv hKc hPc (ci := 2) (q0 := 0) rfl rfl, fun U hU hW => ⟨rfl, by rw [hU], by rw [hU]; exact hPc, va_K.moved hW.alike hKc, hDc.weaken (fun _ _ _ _ => trivial)⟩⟩ rfl rfl hl.1 rfl (lv_room (Nat.le_of_ble_eq_true rfl)) dX2_findIdoms_73 ⟨(Nat.le_of_ble_eq_true rfl), (Nat.le_of_ble_eq_true rfl)⟩) hS (fun q _ h => hFc q h) hFc (fun r_2004 u t H1 locs ht hvm hw hB hz1 hk1 hS => ?_)
                      obtain ⟨hP1, hK1, hD1⟩ := hB
                      rw [ht] at hP1
                      have hK1 := va_K.moved hvm.symm hK1
                      obtain ⟨hP, hD⟩ := va_join (wr := [(q_210, .inl (cA_210, 300, .inl (fun j : Nat => zI (a2_byPost (j : Int)))))]) (w1 := [(h0, .inr (2, [.int (zI (z2_reached)), .ref q_201, v2_2, v2_3, v2_4, v2_5, v2_6, v2_7, v2_8, .ref q_209, .ref q_210, v2_11, v2_12])), (q_201, .inl (cA_201, 300, .inl (fun j : Nat => zI (w55_201 (j : Int))))), (q_209, .inl (cA_209, 300, .inl (fun j : Nat => zI (a2_post (j : Int))))), (hc, .inr (0, [.int (zI (B1)), v_1, v_2, v_3, v_4, v_5, v_6, v_7, v_8, v_9, v_10, v_11, v_12, .ref q_713, .ref q_714, v_15, v_16, v_17, v_18])), (q_713, .inl (cA_713, 301, .inl (fun j : Nat => zI (a_13 (j : Int))))), (q_714, .inl (cA_714, 600, .inl (fun j : Nat => zI (a_14 (j : Int)))))]) hP hD [0, 1, 2, 4, 5, 6] [3] rfl rfl (by decide) (by decide) hk1 hFc hP1 hD1
                      have hK := (hK.sub (tys' := [(cA_210, .int)]) [2] rfl).app hK1
                      generalize H1 = H at hP hS ⊢
                      have hP : va_P (dC, dI) vwP [(q_210, .inl (cA_210, 300, .inl (fun j : Nat => zI (a2_byPost (j : Int))))), (h0, .inr (2, [.int (zI (z2_reached)), .ref q_201, v2_2, v2_3, v2_4, v2_5, v2_6, v2_7, v2_8, .ref q_209, .ref q_210, v2_11, v2_12])), (q_201, .inl (cA_201, 300, .inl (fun j : Nat => zI (w55_201 (j : Int))))), (q_209, .inl (cA_209, 300, .inl (fun j : Nat => zI (a2_post (j : Int))))), (hc, .inr (0, [.int (zI (B1)), v_1, v_2, v_3, v_4, v_5, v_6, v_7, v_8, v_9, v_10, v_11, v_12, .ref q_713, .ref q_714, v_15, v_16, v_17, v_18])), (q_713, .inl (cA_713, 301, .inl (fun j : Nat => zI (a_13 (j : Int))))), (q_714, .inl (cA_714, 600, .inl (fun j : Nat => zI (a_14 (j : Int)))))] H := hP
                      have hD : va_D A [(q_210, .inl (cA_210, 300, .inl (fun j : Nat => zI (a2_byPost (j : Int))))), (h0, .inr (2, [.int (zI (z2_reached)), .ref q_201, v2_2, v2_3, v2_4, v2_5, v2_6, v2_7, v2_8, .ref q_209, .ref q_210, v2_11, v2_12])), (q_201, .inl (cA_201, 300, .inl (fun j : Nat => zI (w55_201 (j : Int))))), (q_209, .inl (cA_209, 300, .inl (fun j : Nat => zI (a2_post (j : Int))))), (hc, .inr (0, [.int (zI (B1)), v_1, v_2, v_3, v_4, v_5, v_6, v_7, v_8, v_9, v_10, v_11, v_12, .ref q_713, .ref q_714, v_15, v_16, v_17, v_18])), (q_713, .inl (cA_713, 301, .inl (fun j : Nat => zI (a_13 (j : Int))))), (q_714, .inl (cA_714, 600, .inl (fun j : Nat => zI (a_14 (j : Int)))))] := hD
                      have hK : va_K (dC, dI) vwP [(cA_210, .int), (cA_201, .int), (cA_209, .int), (cA_713, .int), (cA_714, .int)] s := hK
                      refine W.widen (k := 0) (n := 0) (Nat.le_of_ble_eq_true rfl) (Nat.le_of_ble_eq_true rfl) ?_
                      have hw_2005 := hw
                      obtain ⟨z_2006, rfl, hzz_2006⟩ := hw_2005
                      have hs9 := FI.found hX_W hX_R hX_L jT (by omega) (by omega) hzz_2006.2
                      refine lv_istore (lv' := [(6, .int (zI (z_2006))), (5, .int (zI (a2_byPost (d55_4)))), (0, .ref h0), (1, .ref hc), (2, .int (zI (d55_2))), (3, .int (zI (d35_3))), (4, .int (zI (d55_4)))]) hx hb dX2_findIdoms_76 hl (by decide) rfl (fun ls hl => ?_)
                      refine lv_iload hx hb dX2_findIdoms_78 (lv_at hl 0 rfl) ?_
                      refine lv_aload_n hx hb dX2_findIdoms_80 rfl (lv_at hl 2 rfl) ?_
                      refine va_get (D := (dC, dI)) (ci := 2) (v := .ref q_201) (C := RX2) (T := TX2) (N := 13) hx hb hts mem_X2_findIdoms_1 hown hK hP 1 rfl rfl 1 (by decide) (ow (k := 1) rfl) (fun _ h9 => h9) rfl dX2_findIdoms_81 ?_
                      refine lv_iload hx hb dX2_findIdoms_84 (lv_at hl 1 rfl) ?_
                      refine va_iald hx hb hK hP 2 1 rfl rfl (zI_in (a := a2_byPost (d55_4)) (n := 300) (by omega) (by omega) (by decide)) dX2_findIdoms_86 ?_
                      refine lv_topi (fun z ez => ?_)
                      obtain rfl : z = zI (w55_201 (a2_byPost (d55_4))) := ez.trans (zI_ld (w55_201) (by omega) (by omega))
                      have k2 := jw55_201 (a2_byPost (d55_4))
                      refine lv_icmp_eq (tgt := 101) hx hb dX2_findIdoms_87 (by decide) (fun b87 => ?_) (fun b87 => ?_)
                      · have yb87 : (z_2006 : Int) = (w55_201 (a2_byPost (d55_4)) : Int) := (zI_eq (a := z_2006) (b := w55_201 (a2_byPost (d55_4))) (by omega) (by omega) (by omega) (by omega)).mp b87
                        refine lv_iinc (v := zI (d55_4 - 1)) (lv' := [(4, .int (zI (d55_4 - 1))), (6, .int (zI (z_2006))), (5, .int (zI (a2_byPost (d55_4)))), (0, .ref h0), (1, .ref hc), (2, .int (zI (d55_2))), (3, .int (zI (d35_3)))]) hx hb dX2_findIdoms_101 hl (k := 6) rfl (zI_dec (d55_4) (1)) (by decide) rfl (fun ls hl => ?_)
                        refine lv_goto (tgt := 55) hx hb dX2_findIdoms_104 (by decide) ?_
                        have hP := hP.sub (ws' := [(h0, .inr (2, [.int (zI (z2_reached)), .ref q_201, v2_2, v2_3, v2_4, v2_5, v2_6, v2_7, v2_8, .ref q_209, .ref q_210, v2_11, v2_12])), (q_201, .inl (cA_201, 300, .inl (fun j : Nat => zI (w55_201 (j : Int))))), (q_209, .inl (cA_209, 300, .inl (fun j : Nat => zI (a2_post (j : Int))))), (q_210, .inl (cA_210, 300, .inl (fun j : Nat => zI (a2_byPost (j : Int))))), (hc, .inr (0, [.int (zI (B1)), v_1, v_2, v_3, v_4, v_5, v_6, v_7, v_8, v_9, v_10, v_11, v_12, .ref q_713, .ref q_714, v_15, v_16, v_17, v_18])), (q_713, .inl (cA_713, 301, .inl (fun j : Nat => zI (a_13 (j : Int))))), (q_714, .inl (cA_714, 600, .inl (fun j : Nat => zI (a_14 (j : Int)))))]) [1, 2, 3, 0, 4, 5, 6] rfl
                        have hD := hD.sub (ws' := [(h0, .inr (2, [.int (zI (z2_reached)), .ref q_201, v2_2, v2_3, v2_4, v2_5, v2_6, v2_7, v2_8, .ref q_209, .ref q_210, v2_11, v2_12])), (q_201, .inl (cA_201, 300, .inl (fun j : Nat => zI (w55_201 (j : Int))))), (q_209, .inl (cA_209, 300, .inl (fun j : Nat => zI (a2_post (j : Int))))), (q_210, .inl (cA_210, 300, .inl (fun j : Nat => zI (a2_byPost (j : Int))))), (hc, .inr (0, [.int (zI (B1)), v_1, v_2, v_3, v_4, v_5, v_6, v_7, v_8, v_9, v_10, v_11, v_12, .ref q_713, .ref q_714, v_15, v_16, v_17, v_18])), (q_713, .inl (cA_713, 301, .inl (fun j : Nat => zI (a_13 (j : Int))))), (q_714, .inl (cA_714, 600, .inl (fun j : Nat => zI (a_14 (j : Int)))))]) [1, 2, 3, 0, 4, 5, 6] (by decide) rfl
                        exact ih55 (d55_4 - 1) d55_2 w55_201 ls H _ (by omega) (by omega) jw55_201 (FI.same hX_W jT (by have q9 := hs9; rw [yb87] at q9; exact q9) (by omega)) (fun h1 => FX.same (jX h1) (by have q9 := hs9; rw [yb87] at q9; exact q9)) (fun h1 => jC h1) (by omega) (lv_sub hl [3, 4, 5, 6, 0] rfl) hP hD hS
                      · have yb87 : ¬ (z_2006 : Int) = (w55_201 (a2_byPost (d55_4)) : Int) := fun q => b87 ((zI_eq (a := z_2006) (b := w55_201 (a2_byPost (d55_4))) (by omega) (by omega) (by omega) (by omega)).mpr q)
                        refine lv_aload_n hx hb dX2_findIdoms_90 rfl (lv_at hl 2 rfl) ?_
                        refine va_get (D := (dC, dI)) (ci := 2) (v := .ref q_201) (C := RX2) (T := TX2) (N := 13) hx hb hts mem_X2_findIdoms_1 hown hK hP 1 rfl rfl 1 (by decide) (ow (k := 1) rfl) (fun _ h9 => h9) rfl dX2_findIdoms_91 ?_
                        refine lv_iload hx hb dX2_findIdoms_94 (lv_at hl 1 rfl) ?_
                        refine lv_iload hx hb dX2_findIdoms_96 (lv_at hl 0 rfl) ?_
                        refine va_iast (i := zI (a2_byPost (d55_4))) hx hb hK hP hD hS 2 1 rfl rfl (zI_in (a := a2_byPost (d55_4)) (n := 300) (by omega) (by omega) (by decide)) dX2_findIdoms_98 (fun H locs hP hD hS => ?_)
                        have eQ : upd (fun j : Nat => zI (w55_201 (j : Int))) (zI (a2_byPost (d55_4))).toNatClampNeg (zI (z_2006)) = (fun j : Nat => zI (zup w55_201 (a2_byPost (d55_4)) (z_2006) (j : Int))) := zI_st w55_201 (e := a2_byPost (d55_4)) (v := z_2006) (by omega) (by omega)
                        rw [eQ] at hP hD
                        clear eQ
                        have ra_2007 : ∀ j : Int, -2 ≤ zup w55_201 (a2_byPost (d55_4)) (z_2006) j ∧ zup w55_201 (a2_byPost (d55_4)) (z_2006) j ≤ 299 := zup_P (P := fun x9 => -2 ≤ x9 ∧ x9 ≤ 299) jw55_201 (show -2 ≤ (z_2006) ∧ (z_2006) ≤ 299 by omega)
                        obtain ⟨a_2007, ea_2007⟩ : ∃ a9 : Int → Int, a9 = zup w55_201 (a2_byPost (d55_4)) (z_2006) := ⟨_, rfl⟩
                        rw [← ea_2007] at hP hD ra_2007
                        have hP : va_P (dC, dI) vwP [(q_210, .inl (cA_210, 300, .inl (fun j : Nat => zI (a2_byPost (j : Int))))), (h0, .inr (2, [.int (zI (z2_reached)), .ref q_201, v2_2, v2_3, v2_4, v2_5, v2_6, v2_7, v2_8, .ref q_209, .ref q_210, v2_11, v2_12])), (q_201, .inl (cA_201, 300, .inl (fun j : Nat => zI (a_2007 (j : Int))))), (q_209, .inl (cA_209, 300, .inl (fun j : Nat => zI (a2_post (j : Int))))), (hc, .inr (0, [.int (zI (B1)), v_1, v_2, v_3, v_4, v_5, v_6, v_7, v_8, v_9, v_10, v_11, v_12, .ref q_713, .ref q_714, v_15, v_16, v_17, v_18])), (q_713, .inl (cA_713, 301, .inl (fun j : Nat => zI (a_13 (j : Int))))), (q_714, .inl (cA_714, 600, .inl (fun j : Nat => zI (a_14 (j : Int)))))] H := hP
                        have hD : va_D A [(q_210, .inl (cA_210, 300, .inl (fun j : Nat => zI (a2_byPost (j : Int))))), (h0, .inr (2, [.int (zI (z2_reached)), .ref q_201, v2_2, v2_3, v2_4, v2_5, v2_6, v2_7, v2_8, .ref q_209, .ref q_210, v2_11, v2_12])), (q_201, .inl (cA_201, 300, .inl (fun j : Nat => zI (a_2007 (j : Int))))), (q_209, .inl (cA_209, 300, .inl (fun j : Nat => zI (a2_post (j : Int))))), (hc, .inr (0, [.int (zI (B1)), v_1, v_2, v_3, v_4, v_5, v_6, v_7, v_8, v_9, v_10, v_11, v_12, .ref q_713, .ref q_714, v_15, v_16, v_17, v_18])), (q_713, .inl (cA_713, 301, .inl (fun j : Nat => zI (a_13 (j : Int))))), (q_714, .inl (cA_714, 600, .inl (fun j : Nat => zI (a_14 (j : Int)))))] := hD
                        refine lv_iconst (v := 1) hx hb dX2_findIdoms_99 (by decide) ?_
                        refine lv_istore_n (lv' := [(2, .int 1), (6, .int (zI (z_2006))), (5, .int (zI (a2_byPost (d55_4)))), (0, .ref h0), (1, .ref hc), (3, .int (zI (d35_3))), (4, .int (zI (d55_4)))]) hx hb dX2_findIdoms_100 rfl hl (by decide) rfl (fun ls hl => ?_)
                        refine lv_iinc (v := zI (d55_4 - 1)) (lv' := [(4, .int (zI (d55_4 - 1))), (2, .int 1), (6, .int (zI (z_2006))), (5, .int (zI (a2_byPost (d55_4)))), (0, .ref h0), (1, .ref hc), (3, .int (zI (d35_3)))]) hx hb dX2_findIdoms_101 hl (k := 6) rfl (zI_dec (d55_4) (1)) (by decide) rfl (fun ls hl => ?_)
                        refine lv_goto (tgt := 55) hx hb dX2_findIdoms_104 (by decide) ?_
                        have hP := hP.sub (ws' := [(h0, .inr (2, [.int (zI (z2_reached)), .ref q_201, v2_2, v2_3, v2_4, v2_5, v2_6, v2_7, v2_8, .ref q_209, .ref q_210, v2_11, v2_12])), (q_201, .inl (cA_201, 300, .inl (fun j : Nat => zI (a_2007 (j : Int))))), (q_209, .inl (cA_209, 300, .inl (fun j : Nat => zI (a2_post (j : Int))))), (q_210, .inl (cA_210, 300, .inl (fun j : Nat => zI (a2_byPost (j : Int))))), (hc, .inr (0, [.int (zI (B1)), v_1, v_2, v_3, v_4, v_5, v_6, v_7, v_8, v_9, v_10, v_11, v_12, .ref q_713, .ref q_714, v_15, v_16, v_17, v_18])), (q_713, .inl (cA_713, 301, .inl (fun j : Nat => zI (a_13 (j : Int))))), (q_714, .inl (cA_714, 600, .inl (fun j : Nat => zI (a_14 (j : Int)))))]) [1, 2, 3, 0, 4, 5, 6] rfl
                        have hD := hD.sub (ws' := [(h0, .inr (2, [.int (zI (z2_reached)), .ref q_201, v2_2, v2_3, v2_4, v2_5, v2_6, v2_7, v2_8, .ref q_209, .ref q_210, v2_11, v2_12])), (q_201, .inl (cA_201, 300, .inl (fun j : Nat => zI (a_2007 (j : Int))))), (q_209, .inl (cA_209, 300, .inl (fun j : Nat => zI (a2_post (j : Int))))), (q_210, .inl (cA_210, 300, .inl (fun j : Nat => zI (a2_byPost (j : Int))))), (hc, .inr (0, [.int (zI (B1)), v_1, v_2, v_3, v_4, v_5, v_6, v_7, v_8, v_9, v_10, v_11, v_12, .ref q_713, .ref q_714, v_15, v_16, v_17, v_18])), (q_713, .inl (cA_713, 301, .inl (fun j : Nat => zI (a_13 (j : Int))))), (q_714, .inl (cA_714, 600, .inl (fun j : Nat => zI (a_14 (j : Int)))))]) [1, 2, 3, 0, 4, 5, 6] (by decide) rfl
                        exact ih55 (d55_4 - 1) 1 a_2007 ls H _ (by omega) (by omega) ra_2007 (by rw [ea_2007]; exact FI.step hX_W hX_R hX_L jT hs9 (by omega)) (fun h1 => absurd h1 (by decide)) (fun h1 => absurd (FI.conv hX_W hX_R hX_L jT hs9 (by omega) (by omega) (by omega)) yb87) (by omega) (lv_sub hl [4, 5, 1, 6, 0] rfl) hP hD hS
                exact key55 (((z2_reached - 2) - (0) + 1 : Int).toNat + 1) (z2_reached - 2) 0 w35_201 ls H _ (by omega) (by omega) jw35_201 jT (fun h1 j g1 g2 g3 => by omega) (fun h1 => rfl) (by omega) (lv_sub hl [2, 3, 1, 4, 0] rfl) hP hD hS
        exact key35 ((1000000 - 0 : Int).toNat + 1) 0 1 a_2001 ls H _ (by omega) (by omega) ra_2001 (by rw [ea_2001]; exact FI.init hX_W (fun b h1 h2 => jn b h1 (by omega))) (fun h1 h2 => by omega) (fun h1 => by omega) (by omega) (by omega) (lv_sub hl [2, 3, 1, 0] rfl) hP hD hS
      · have yb7 : ¬ (B1 : Int) ≤ (d2_2 : Int) := fun q => b7 ((zI_le (a := B1) (b := d2_2) (by omega) (by omega) (by omega) (by omega)).mpr q)
        refine lv_aload_n hx hb dX2_findIdoms_10 rfl (lv_at hl 0 rfl) ?_
        refine va_get (D := (dC, dI)) (ci := 2) (v := .ref q_201) (C := RX2) (T := TX2) (N := 13) hx hb hts mem_X2_findIdoms_1 hown hK hP 0 rfl rfl 1 (by decide) (ow (k := 1) rfl) (fun _ h9 => h9) rfl dX2_findIdoms_11 ?_
        refine lv_iload_n hx hb dX2_findIdoms_14 rfl (lv_at hl 2 rfl) ?_
        refine lv_bipush (v := (-2)) hx hb dX2_findIdoms_15 (by decide) ?_
        refine va_iast (i := zI (d2_2)) hx hb hK hP hD hS 1 0 rfl rfl (zI_in (a := d2_2) (n := 300) (by omega) (by omega) (by decide)) dX2_findIdoms_17 (fun H locs hP hD hS => ?_)
        have eQ : upd (fun j : Nat => zI (w2_201 (j : Int))) (zI (d2_2)).toNatClampNeg (-2) = (fun j : Nat => zI (zup w2_201 (d2_2) (-2) (j : Int))) := (congrArg (upd (fun j : Nat => zI (w2_201 (j : Int))) (zI (d2_2)).toNatClampNeg) (show ((-2) : Int32) = zI (-2) by decide)).trans (zI_st w2_201 (e := d2_2) (v := -2) (by omega) (by omega))
        rw [eQ] at hP hD
        clear eQ
        have ra_2008 : ∀ j : Int, -2 ≤ zup w2_201 (d2_2) (-2) j ∧ zup w2_201 (d2_2) (-2) j ≤ 299 := zup_P (P := fun x9 => -2 ≤ x9 ∧ x9 ≤ 299) jw2_201 (show -2 ≤ (-2) ∧ (-2) ≤ 299 by omega)
        obtain ⟨a_2008, ea_2008⟩ : ∃ a9 : Int → Int, a9 = zup w2_201 (d2_2) (-2) := ⟨_, rfl⟩
        rw [← ea_2008] at hP hD ra_2008
        have hP : va_P (dC, dI) vwP [(h0, .inr (2, [.int (zI (z2_reached)), .ref q_201, v2_2, v2_3, v2_4, v2_5, v2_6, v2_7, v2_8, .ref q_209, .ref q_210, v2_11, v2_12])), (q_201, .inl (cA_201, 300, .inl (fun j : Nat => zI (a_2008 (j : Int))))), (q_209, .inl (cA_209, 300, .inl (fun j : Nat => zI (a2_post (j : Int))))), (q_210, .inl (cA_210, 300, .inl (fun j : Nat => zI (a2_byPost (j : Int))))), (hc, .inr (0, [.int (zI (B1)), v_1, v_2, v_3, v_4, v_5, v_6, v_7, v_8, v_9, v_10, v_11, v_12, .ref q_713, .ref q_714, v_15, v_16, v_17, v_18])), (q_713, .inl (cA_713, 301, .inl (fun j : Nat => zI (a_13 (j : Int))))), (q_714, .inl (cA_714, 600, .inl (fun j : Nat => zI (a_14 (j : Int)))))] H := hP
        have hD : va_D A [(h0, .inr (2, [.int (zI (z2_reached)), .ref q_201, v2_2, v2_3, v2_4, v2_5, v2_6, v2_7, v2_8, .ref q_209, .ref q_210, v2_11, v2_12])), (q_201, .inl (cA_201, 300, .inl (fun j : Nat => zI (a_2008 (j : Int))))), (q_209, .inl (cA_209, 300, .inl (fun j : Nat => zI (a2_post (j : Int))))), (q_210, .inl (cA_210, 300, .inl (fun j : Nat => zI (a2_byPost (j : Int))))), (hc, .inr (0, [.int (zI (B1)), v_1, v_2, v_3, v_4, v_5, v_6, v_7, v_8, v_9, v_10, v_11, v_12, .ref q_713, .ref q_714, v_15, v_16, v_17, v_18])), (q_713, .inl (cA_713, 301, .inl (fun j : Nat => zI (a_13 (j : Int))))), (q_714, .inl (cA_714, 600, .inl (fun j : Nat => zI (a_14 (j : Int)))))] := hD
        refine lv_iinc (v := zI (d2_2 + 1)) (lv' := [(2, .int (zI (d2_2 + 1))), (0, .ref h0), (1, .ref hc)]) hx hb dX2_findIdoms_18 hl (k := 2) rfl (zI_add (d2_2) (1)) (by decide) rfl (fun ls hl => ?_)
        refine lv_goto (tgt := 2) hx hb dX2_findIdoms_21 (by decide) ?_
        exact ih2 (d2_2 + 1) a_2008 ls H _ (by omega) ra_2008 (fun j h1 h2 => by rw [ea_2008]; unfold zup; split; rfl; exact jn j h1 (by omega)) (by omega) (lv_sub hl [1, 2, 0] rfl) hP hD hS
  exact key2 (((B1) - (0) : Int).toNat + 1) 0 a2_idom ls H _ (by omega) hR_a2_idom (fun j h1 h2 => by omega) (by omega) (lv_sub hl [1, 2, 0] rfl) hP hD hS
