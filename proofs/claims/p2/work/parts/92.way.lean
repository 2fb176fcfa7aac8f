theorem dX10_giveColour_0 : decode cX10_giveColour 0 = .ok (.aload_n 0, 1) := by decide +kernel
theorem dX10_giveColour_1 : decode cX10_giveColour 1 = .ok (.dup, 1) := by decide +kernel
theorem dX10_giveColour_2 : decode cX10_giveColour 2 = .ok (.getfield 29, 3) := by decide +kernel
theorem dX10_giveColour_5 : decode cX10_giveColour 5 = .ok (.iconst 1, 1) := by decide +kernel
theorem dX10_giveColour_6 : decode cX10_giveColour 6 = .ok (.iadd, 1) := by decide +kernel
theorem dX10_giveColour_7 : decode cX10_giveColour 7 = .ok (.putfield 29, 3) := by decide +kernel
theorem dX10_giveColour_10 : decode cX10_giveColour 10 = .ok (.iconst 0, 1) := by decide +kernel
theorem dX10_giveColour_11 : decode cX10_giveColour 11 = .ok (.istore_n 2, 1) := by decide +kernel
theorem dX10_giveColour_12 : decode cX10_giveColour 12 = .ok (.iload_n 2, 1) := by decide +kernel
theorem dX10_giveColour_13 : decode cX10_giveColour 13 = .ok (.aload_n 0, 1) := by decide +kernel
theorem dX10_giveColour_14 : decode cX10_giveColour 14 = .ok (.getfield 25, 3) := by decide +kernel
theorem dX10_giveColour_17 : decode cX10_giveColour 17 = .ok (.if_icmp .ge 81, 3) := by decide +kernel
theorem dX10_giveColour_98 : decode cX10_giveColour 98 = .ok (.iconst 0, 1) := by decide +kernel
theorem dX10_giveColour_99 : decode cX10_giveColour 99 = .ok (.istore_n 2, 1) := by decide +kernel
theorem dX10_giveColour_100 : decode cX10_giveColour 100 = .ok (.iload_n 2, 1) := by decide +kernel
theorem dX10_giveColour_101 : decode cX10_giveColour 101 = .ok (.sipush 1023, 3) := by decide +kernel
theorem dX10_giveColour_104 : decode cX10_giveColour 104 = .ok (.if_icmp .ge 22, 3) := by decide +kernel
theorem dX10_giveColour_126 : decode cX10_giveColour 126 = .ok (.aload_n 0, 1) := by decide +kernel
theorem dX10_giveColour_127 : decode cX10_giveColour 127 = .ok (.getfield 9, 3) := by decide +kernel
theorem dX10_giveColour_130 : decode cX10_giveColour 130 = .ok (.iload_n 1, 1) := by decide +kernel
theorem dX10_giveColour_131 : decode cX10_giveColour 131 = .ok (.iload_n 2, 1) := by decide +kernel
theorem dX10_giveColour_132 : decode cX10_giveColour 132 = .ok (.iastore, 1) := by decide +kernel
theorem dX10_giveColour_133 : decode cX10_giveColour 133 = .ok (.aload_n 0, 1) := by decide +kernel
theorem dX10_giveColour_134 : decode cX10_giveColour 134 = .ok (.aload_n 0, 1) := by decide +kernel
theorem dX10_giveColour_135 : decode cX10_giveColour 135 = .ok (.getfield 32, 3) := by decide +kernel
theorem dX10_giveColour_138 : decode cX10_giveColour 138 = .ok (.iload_n 2, 1) := by decide +kernel
theorem dX10_giveColour_139 : decode cX10_giveColour 139 = .ok (.iconst 1, 1) := by decide +kernel
theorem dX10_giveColour_140 : decode cX10_giveColour 140 = .ok (.iadd, 1) := by decide +kernel
theorem dX10_giveColour_141 : decode cX10_giveColour 141 = .ok (.invokestatic 148, 3) := by decide +kernel
theorem dX10_giveColour_144 : decode cX10_giveColour 144 = .ok (.putfield 32, 3) := by decide +kernel
theorem dX10_giveColour_147 : decode cX10_giveColour 147 = .ok (.return_, 1) := by decide +kernel
theorem dX10_giveColour_107 : decode cX10_giveColour 107 = .ok (.aload_n 0, 1) := by decide +kernel
theorem dX10_giveColour_108 : decode cX10_giveColour 108 = .ok (.getfield 15, 3) := by decide +kernel
theorem dX10_giveColour_111 : decode cX10_giveColour 111 = .ok (.iload_n 2, 1) := by decide +kernel
theorem dX10_giveColour_112 : decode cX10_giveColour 112 = .ok (.iaload, 1) := by decide +kernel
theorem dX10_giveColour_113 : decode cX10_giveColour 113 = .ok (.aload_n 0, 1) := by decide +kernel
theorem dX10_giveColour_114 : decode cX10_giveColour 114 = .ok (.getfield 29, 3) := by decide +kernel
theorem dX10_giveColour_117 : decode cX10_giveColour 117 = .ok (.if_icmp .ne 9, 3) := by decide +kernel
theorem dX10_giveColour_120 : decode cX10_giveColour 120 = .ok (.iinc 2 1, 3) := by decide +kernel
theorem dX10_giveColour_123 : decode cX10_giveColour 123 = .ok (.goto (-23), 3) := by decide +kernel
theorem dX10_giveColour_20 : decode cX10_giveColour 20 = .ok (.aload_n 0, 1) := by decide +kernel
theorem dX10_giveColour_21 : decode cX10_giveColour 21 = .ok (.getfield 21, 3) := by decide +kernel
theorem dX10_giveColour_24 : decode cX10_giveColour 24 = .ok (.iload_n 2, 1) := by decide +kernel
theorem dX10_giveColour_25 : decode cX10_giveColour 25 = .ok (.laload, 1) := by decide +kernel
theorem dX10_giveColour_26 : decode cX10_giveColour 26 = .ok (.lstore_n 3, 1) := by decide +kernel
theorem dX10_giveColour_27 : decode cX10_giveColour 27 = .ok (.iconst 0, 1) := by decide +kernel
theorem dX10_giveColour_28 : decode cX10_giveColour 28 = .ok (.istore 5, 2) := by decide +kernel
theorem dX10_giveColour_30 : decode cX10_giveColour 30 = .ok (.lload_n 3, 1) := by decide +kernel
theorem dX10_giveColour_31 : decode cX10_giveColour 31 = .ok (.lconst 0, 1) := by decide +kernel
theorem dX10_giveColour_32 : decode cX10_giveColour 32 = .ok (.lcmp, 1) := by decide +kernel
theorem dX10_giveColour_33 : decode cX10_giveColour 33 = .ok (.ifCond .eq 59, 3) := by decide +kernel
theorem dX10_giveColour_92 : decode cX10_giveColour 92 = .ok (.iinc 2 1, 3) := by decide +kernel
theorem dX10_giveColour_95 : decode cX10_giveColour 95 = .ok (.goto (-83), 3) := by decide +kernel
theorem dX10_giveColour_36 : decode cX10_giveColour 36 = .ok (.iload 5, 2) := by decide +kernel
theorem dX10_giveColour_38 : decode cX10_giveColour 38 = .ok (.bipush 64, 2) := by decide +kernel
theorem dX10_giveColour_40 : decode cX10_giveColour 40 = .ok (.if_icmp .ge 52, 3) := by decide +kernel
theorem dX10_giveColour_43 : decode cX10_giveColour 43 = .ok (.bipush 64, 2) := by decide +kernel
theorem dX10_giveColour_45 : decode cX10_giveColour 45 = .ok (.iload_n 2, 1) := by decide +kernel
theorem dX10_giveColour_46 : decode cX10_giveColour 46 = .ok (.imul, 1) := by decide +kernel
theorem dX10_giveColour_47 : decode cX10_giveColour 47 = .ok (.lload_n 3, 1) := by decide +kernel
theorem dX10_giveColour_48 : decode cX10_giveColour 48 = .ok (.invokestatic 145, 3) := by decide +kernel
theorem dX10_giveColour_51 : decode cX10_giveColour 51 = .ok (.iadd, 1) := by decide +kernel
theorem dX10_giveColour_52 : decode cX10_giveColour 52 = .ok (.istore 6, 2) := by decide +kernel
theorem dX10_giveColour_54 : decode cX10_giveColour 54 = .ok (.aload_n 0, 1) := by decide +kernel
theorem dX10_giveColour_55 : decode cX10_giveColour 55 = .ok (.getfield 9, 3) := by decide +kernel
theorem dX10_giveColour_58 : decode cX10_giveColour 58 = .ok (.iload 6, 2) := by decide +kernel
theorem dX10_giveColour_60 : decode cX10_giveColour 60 = .ok (.iaload, 1) := by decide +kernel
theorem dX10_giveColour_61 : decode cX10_giveColour 61 = .ok (.ifCond .lt 19, 3) := by decide +kernel
theorem dX10_giveColour_80 : decode cX10_giveColour 80 = .ok (.lload_n 3, 1) := by decide +kernel
theorem dX10_giveColour_81 : decode cX10_giveColour 81 = .ok (.lload_n 3, 1) := by decide +kernel
theorem dX10_giveColour_82 : decode cX10_giveColour 82 = .ok (.lconst 1, 1) := by decide +kernel
theorem dX10_giveColour_83 : decode cX10_giveColour 83 = .ok (.lsub, 1) := by decide +kernel
theorem dX10_giveColour_84 : decode cX10_giveColour 84 = .ok (.land, 1) := by decide +kernel
theorem dX10_giveColour_85 : decode cX10_giveColour 85 = .ok (.lstore_n 3, 1) := by decide +kernel
theorem dX10_giveColour_86 : decode cX10_giveColour 86 = .ok (.iinc 5 1, 3) := by decide +kernel
theorem dX10_giveColour_89 : decode cX10_giveColour 89 = .ok (.goto (-59), 3) := by decide +kernel
theorem dX10_giveColour_64 : decode cX10_giveColour 64 = .ok (.aload_n 0, 1) := by decide +kernel
theorem dX10_giveColour_65 : decode cX10_giveColour 65 = .ok (.getfield 15, 3) := by decide +kernel
theorem dX10_giveColour_68 : decode cX10_giveColour 68 = .ok (.aload_n 0, 1) := by decide +kernel
theorem dX10_giveColour_69 : decode cX10_giveColour 69 = .ok (.getfield 9, 3) := by decide +kernel
theorem dX10_giveColour_72 : decode cX10_giveColour 72 = .ok (.iload 6, 2) := by decide +kernel
theorem dX10_giveColour_74 : decode cX10_giveColour 74 = .ok (.iaload, 1) := by decide +kernel
theorem dX10_giveColour_75 : decode cX10_giveColour 75 = .ok (.aload_n 0, 1) := by decide +kernel
theorem dX10_giveColour_76 : decode cX10_giveColour 76 = .ok (.getfield 29, 3) := by decide +kernel
theorem dX10_giveColour_79 : decode cX10_giveColour 79 = .ok (.iastore, 1) := by decide +kernel
def o_X10_giveColour : List Cond := [.fieldLink RX10 29 "SsaForge$WayOut" "stamp" "I", .fieldLink RX10 25 "SsaForge$WayOut" "words" "I", .fieldLink RX10 9 "SsaForge$WayOut" "colour" "[I", .fieldLink RX10 32 "SsaForge$WayOut" "colours" "I", .methodLink RX10 148 Lib.Math.max.name, .static Lib.Math.max.name, .initialized "java/lang/Math", .code Lib.Math.max.name Lib.Math.max.code 2 (some .int), .fieldLink RX10 15 "SsaForge$WayOut" "busy" "[I", .fieldLink RX10 21 "SsaForge$WayOut" "now" "[J", .initialized RX11, .static yX11_lowestBit]
def v_X10_giveColour : List Cond := .code yX10_giveColour cX10_giveColour 7 none :: (o_X10_giveColour ++ (wsX100 ++ (v_X11_lowestBit ++ [])))
theorem mow_X10_giveColour : ∀ w ∈ o_X10_giveColour, w ∈ v_X10_giveColour := fun _ h => List.mem_cons_of_mem _ (List.mem_append_left _ h)
theorem mem_X10_giveColour_0 : ∀ w ∈ wsX100, w ∈ v_X10_giveColour := fun _ h => List.mem_cons_of_mem _ (List.mem_append_right _ (List.mem_append_left _ h))
theorem mem_X10_giveColour_1 : ∀ w ∈ v_X11_lowestBit, w ∈ v_X10_giveColour := fun _ h => List.mem_cons_of_mem _ (List.mem_append_right _ (List.mem_append_right _ (List.mem_append_left _ h)))
set_option maxRecDepth 20000 in
theorem gw_X10_giveColour : v_X10_giveColour.all goodWord = true := by decide +kernel
set_option maxHeartbeats 4000000 in
set_option maxRecDepth 100000 in
theorem c_X10_giveColour (l : Launch) (dC : Nat → ClassId) (dI : Nat → Nat → Nat) (h0 : Nat) (q_1000 : Nat) (cA_1000 : ClassId) (a10_colour : Int → Int) (q_1001 : Nat) (cA_1001 : ClassId) (fa10_busy : Nat → Int32) (v10_2 : Value) (q_1003 : Nat) (cA_1003 : ClassId) (fa10_now : Nat → Int64) (z10_words : Int) (z10_stamp : Int) (z10_colours : Int) (v10_7 : Value) (v10_8 : Value) (v10_9 : Value) (v10_10 : Value) (v10_11 : Value) (v10_12 : Value) (v10_13 : Value) (r0 : Int) (hR_a10_colour : ∀ j : Int, -1 ≤ a10_colour j ∧ a10_colour j ≤ 1023) (hNz10_words : 0 ≤ z10_words ∧ z10_words ≤ 16) (hNz10_stamp : 0 ≤ z10_stamp ∧ z10_stamp ≤ 1000000) (hNz10_colours : 0 ≤ z10_colours ∧ z10_colours ≤ 1024) (hNr : 0 ≤ r0 ∧ r0 ≤ 1023) (hNs : z10_stamp < 1000000) (sz : Nat) : Met l yX10_giveColour v_X10_giveColour ({ frames := 2, cells := 0, slots := 0, locals := 42 }) (va_Pc [.ref h0, .int (zI (r0))] (fun U => U.heap.size = sz ∧ va_P (dC, dI) vwP [(h0, .inr (10, [.ref q_1000, .ref q_1001, v10_2, .ref q_1003, .int (zI (z10_words)), .int (zI (z10_stamp)), .int (zI (z10_colours)), v10_7, v10_8, v10_9, v10_10, v10_11, v10_12, v10_13])), (q_1000, .inl (cA_1000, 1024, .inl (fun j : Nat => zI (a10_colour (j : Int))))), (q_1001, .inl (cA_1001, 1024, .inl fa10_busy)), (q_1003, .inl (cA_1003, 16, .inr (.inl fa10_now)))] U.heap ∧ va_K (dC, dI) vwP [(cA_1000, .int), (cA_1001, .int), (cA_1003, .long)] U ∧ va_D (fun _ => True) [(h0, .inr (10, [.ref q_1000, .ref q_1001, v10_2, .ref q_1003, .int (zI (z10_words)), .int (zI (z10_stamp)), .int (zI (z10_colours)), v10_7, v10_8, v10_9, v10_10, v10_11, v10_12, v10_13])), (q_1000, .inl (cA_1000, 1024, .inl (fun j : Nat => zI (a10_colour (j : Int))))), (q_1001, .inl (cA_1001, 1024, .inl fa10_busy)), (q_1003, .inl (cA_1003, 16, .inr (.inl fa10_now)))] ∧ va_Nw (.methodLinkNest RX10 145 yX11_lowestBit "SsaForge") U)) (va_Qv (fun _ : Unit => True) (fun (_ : Unit) (t : State) => ∃ (z0_9 : Int) (z1_9 : Int) (a2_9 : Int → Int) (g3_9 : Nat → Int32), ((0 ≤ z0_9 ∧ z0_9 ≤ 1000000) ∧ (0 ≤ z1_9 ∧ z1_9 ≤ 1024) ∧ (∀ j : Int, -1 ≤ a2_9 j ∧ a2_9 j ≤ 1023) ∧ ((CGS a10_colour a2_9 ∧ 0 ≤ a2_9 r0) ∧ z0_9 = z10_stamp + 1)) ∧ va_P (dC, dI) vwP [(h0, .inr (10, [.ref q_1000, .ref q_1001, v10_2, .ref q_1003, .int (zI (z10_words)), .int (zI (z0_9)), .int (zI (z1_9)), v10_7, v10_8, v10_9, v10_10, v10_11, v10_12, v10_13])), (q_1000, .inl (cA_1000, 1024, .inl (fun j : Nat => zI (a2_9 (j : Int))))), (q_1001, .inl (cA_1001, 1024, .inl g3_9)), (q_1003, .inl (cA_1003, 16, .inr (.inl fa10_now)))] t.heap ∧ va_K (dC, dI) vwP [(cA_1000, .int), (cA_1001, .int), (cA_1003, .long)] t ∧ va_D (va_A [(h0, .inr (10, [.ref q_1000, .ref q_1001, v10_2, .ref q_1003, .int (zI (z10_words)), .int (zI (z10_stamp)), .int (zI (z10_colours)), v10_7, v10_8, v10_9, v10_10, v10_11, v10_12, v10_13])), (q_1000, .inl (cA_1000, 1024, .inl (fun j : Nat => zI (a10_colour (j : Int))))), (q_1001, .inl (cA_1001, 1024, .inl fa10_busy)), (q_1003, .inl (cA_1003, 16, .inr (.inl fa10_now)))] sz) [(h0, .inr (10, [.ref q_1000, .ref q_1001, v10_2, .ref q_1003, .int (zI (z10_words)), .int (zI (z0_9)), .int (zI (z1_9)), v10_7, v10_8, v10_9, v10_10, v10_11, v10_12, v10_13])), (q_1000, .inl (cA_1000, 1024, .inl (fun j : Nat => zI (a2_9 (j : Int))))), (q_1001, .inl (cA_1001, 1024, .inl g3_9)), (q_1003, .inl (cA_1003, 16, .inr (.inl fa10_now)))]) (va_A [(h0, .inr (10, [.ref q_1000, .ref q_1001, v10_2, .ref q_1003, .int (zI (z10_words)), .int (zI (z10_stamp)), .int (zI (z10_colours)), v10_7, v10_8, v10_9, v10_10, v10_11, v10_12, v10_13])), (q_1000, .inl (cA_1000, 1024, .inl (fun j : Nat => zI (a10_colour (j : Int))))), (q_1001, .inl (cA_1001, 1024, .inl fa10_busy)), (q_1003, .inl (cA_1003, 16, .inr (.inl fa10_now)))] sz)) 0 0 (va_A [(h0, .inr (10, [.ref q_1000, .ref q_1001, v10_2, .ref q_1003, .int (zI (z10_words)), .int (zI (z10_stamp)), .int (zI (z10_colours)), v10_7, v10_8, v10_9, v10_10, v10_11, v10_12, v10_13])), (q_1000, .inl (cA_1000, 1024, .inl (fun j : Nat => zI (a10_colour (j : Int))))), (q_1001, .inl (cA_1001, 1024, .inl fa10_busy)), (q_1003, .inl (cA_1003, 16, .inr (.inl fa10_now)))] sz) := by
  refine Met.ofW (cc := cX10_giveColour) (maxL := 7) (ret := none) (by decide) rfl ?_
  intro p e s m args below meth c s₁ B hml hv
  obtain ⟨rfl, hsz, hP, hK, hD0, hp0⟩ := hv
  have hx := B.exec
  have hb := B.bytes
  have hr := B.returns
  have hts := atoms_spec (ws := v_X10_giveColour) B.pre
  have hown : s.vm.findClass RX10 = some m.cls := findClass_of_methodNamed B.named
  have hlocks := B.notSynchronized
  have ow : ∀ {k : Nat} {w : Cond}, o_X10_giveColour[k]? = some w → w.before ([.ref h0, .int (zI (r0))] : List Value).toArray s = true := fun h => hts _ (mow_X10_giveColour _ (List.mem_of_getElem? h))
  subst hsz
  have hD := hD0.self (sz := s.heap.size)
  generalize hAe : va_A [(h0, .inr (10, [.ref q_1000, .ref q_1001, v10_2, .ref q_1003, .int (zI (z10_words)), .int (zI (z10_stamp)), .int (zI (z10_colours)), v10_7, v10_8, v10_9, v10_10, v10_11, v10_12, v10_13])), (q_1000, .inl (cA_1000, 1024, .inl (fun j : Nat => zI (a10_colour (j : Int))))), (q_1001, .inl (cA_1001, 1024, .inl fa10_busy)), (q_1003, .inl (cA_1003, 16, .inr (.inl fa10_now)))] s.heap.size = A at hD ⊢
  have hA : ∀ q : Nat, s.heap.size ≤ q → A q := fun q h => by rw [← hAe]; exact Or.inr h
  have hS : va_S A s.heap s.heap [] := va_S.rf
  have hP : va_P (dC, dI) vwP [(h0, .inr (10, [.ref q_1000, .ref q_1001, v10_2, .ref q_1003, .int (zI (z10_words)), .int (zI (z10_stamp)), .int (zI (z10_colours)), v10_7, v10_8, v10_9, v10_10, v10_11, v10_12, v10_13])), (q_1000, .inl (cA_1000, 1024, .inl (fun j : Nat => zI (a10_colour (j : Int))))), (q_1001, .inl (cA_1001, 1024, .inl fa10_busy)), (q_1003, .inl (cA_1003, 16, .inr (.inl fa10_now)))] s.heap := hP
  have hl := lv_entry ([.ref h0, .int (zI (r0))]) (n := 7) (Nat.le_of_ble_eq_true rfl)
  rw [lg_entry_eq]
  generalize (lg_sl ([.ref h0, .int (zI (r0))]) ++ List.replicate (7 - (lg_sl ([.ref h0, .int (zI (r0))])).length) Slot.unset).toArray = ls at hl ⊢
  have hl : lv_has ls 7 [(0, .ref h0), (1, .int (zI (r0)))] := hl
  obtain ⟨H, hH⟩ : ∃ H, H = s.heap := ⟨_, rfl⟩
  rw [← hH] at hP
  have hS : va_S A s.heap H [] := by rw [hH]; exact hS
  rw [← hH]
  refine zW_cap (fun Q hQ => ?_)
  refine lv_aload_n hx hb dX10_giveColour_0 rfl (lv_at hl 0 rfl) ?_
  refine lv_dup hx hb dX10_giveColour_1 rfl ?_
  refine va_get (D := (dC, dI)) (ci := 10) (v := .int (zI (z10_stamp))) (C := RX10) (T := TX10) (N := 14) hx hb hts mem_X10_giveColour_0 hown hK hP 0 rfl rfl 5 (by decide) (ow (k := 0) rfl) (fun _ h9 => h9) rfl dX10_giveColour_2 ?_
  refine lv_iconst (v := 1) hx hb dX10_giveColour_5 (by decide) ?_
  refine lv_iadd hx hb dX10_giveColour_6 ?_
  refine lv_topi (fun z ez => ?_)
  obtain rfl : z = zI (z10_stamp + 1) := ez.trans (zI_add (z10_stamp) (1))
  refine va_put (D := (dC, dI)) (ci := 10) (v := .int (zI (z10_stamp + 1))) (ty := .int) (C := RX10) (T := TX10) (N := 14) hx hb hts mem_X10_giveColour_0 tyX10 tyX10_ok nmX10 hown hK hP hD hS 0 rfl rfl 5 (by decide) (ow (k := 0) rfl) (fun _ h9 => h9) rfl (by decide +kernel) rfl rfl (Nat.le_of_ble_eq_true rfl) dX10_giveColour_7 (fun H locs hP hD hS => ?_)
  have hP : va_P (dC, dI) vwP [(h0, .inr (10, [.ref q_1000, .ref q_1001, v10_2, .ref q_1003, .int (zI (z10_words)), .int (zI (z10_stamp + 1)), .int (zI (z10_colours)), v10_7, v10_8, v10_9, v10_10, v10_11, v10_12, v10_13])), (q_1000, .inl (cA_1000, 1024, .inl (fun j : Nat => zI (a10_colour (j : Int))))), (q_1001, .inl (cA_1001, 1024, .inl fa10_busy)), (q_1003, .inl (cA_1003, 16, .inr (.inl fa10_now)))] H := hP
  have hD : va_D A [(h0, .inr (10, [.ref q_1000, .ref q_1001, v10_2, .ref q_1003, .int (zI (z10_words)), .int (zI (z10_stamp + 1)), .int (zI (z10_colours)), v10_7, v10_8, v10_9, v10_10, v10_11, v10_12, v10_13])), (q_1000, .inl (cA_1000, 1024, .inl (fun j : Nat => zI (a10_colour (j : Int))))), (q_1001, .inl (cA_1001, 1024, .inl fa10_busy)), (q_1003, .inl (cA_1003, 16, .inr (.inl fa10_now)))] := hD
  obtain ⟨z_2001, ez_2001⟩ : ∃ z9 : Int, z9 = z10_stamp + 1 := ⟨_, rfl⟩
  rw [← ez_2001] at hP hD
  have hP : va_P (dC, dI) vwP [(h0, .inr (10, [.ref q_1000, .ref q_1001, v10_2, .ref q_1003, .int (zI (z10_words)), .int (zI (z_2001)), .int (zI (z10_colours)), v10_7, v10_8, v10_9, v10_10, v10_11, v10_12, v10_13])), (q_1000, .inl (cA_1000, 1024, .inl (fun j : Nat => zI (a10_colour (j : Int))))), (q_1001, .inl (cA_1001, 1024, .inl fa10_busy)), (q_1003, .inl (cA_1003, 16, .inr (.inl fa10_now)))] H := hP
  have hD : va_D A [(h0, .inr (10, [.ref q_1000, .ref q_1001, v10_2, .ref q_1003, .int (zI (z10_words)), .int (zI (z_2001)), .int (zI (z10_colours)), v10_7, v10_8, v10_9, v10_10, v10_11, v10_12, v10_13])), (q_1000, .inl (cA_1000, 1024, .inl (fun j : Nat => zI (a10_colour (j : Int))))), (q_1001, .inl (cA_1001, 1024, .inl fa10_busy)), (q_1003, .inl (cA_1003, 16, .inr (.inl fa10_now)))] := hD
  refine lv_iconst (v := 0) hx hb dX10_giveColour_10 (by decide) ?_
  refine lv_istore_n (lv' := [(2, .int 0), (0, .ref h0), (1, .int (zI (r0)))]) hx hb dX10_giveColour_11 rfl hl (by decide) rfl (fun ls hl => ?_)
  have key12 : ∀ n12 : Nat, ∀ (d12_2 : Int) (w12_1001 : Nat → Int32) (ls : Array Slot) (H : Heap) (locs : List Loc), (0 ≤ d12_2 ∧ d12_2 ≤ z10_words) → (((z10_words) - (d12_2) : Int).toNat) < n12 → lv_has ls 7 [(0, .ref h0), (1, .int (zI (r0))), (2, .int (zI (d12_2)))] → va_P (dC, dI) vwP [(h0, .inr (10, [.ref q_1000, .ref q_1001, v10_2, .ref q_1003, .int (zI (z10_words)), .int (zI (z_2001)), .int (zI (z10_colours)), v10_7, v10_8, v10_9, v10_10, v10_11, v10_12, v10_13])), (q_1000, .inl (cA_1000, 1024, .inl (fun j : Nat => zI (a10_colour (j : Int))))), (q_1001, .inl (cA_1001, 1024, .inl w12_1001)), (q_1003, .inl (cA_1003, 16, .inr (.inl fa10_now)))] H → va_D A [(h0, .inr (10, [.ref q_1000, .ref q_1001, v10_2, .ref q_1003, .int (zI (z10_words)), .int (zI (z_2001)), .int (zI (z10_colours)), v10_7, v10_8, v10_9, v10_10, v10_11, v10_12, v10_13])), (q_1000, .inl (cA_1000, 1024, .inl (fun j : Nat => zI (a10_colour (j : Int))))), (q_1001, .inl (cA_1001, 1024, .inl w12_1001)), (q_1003, .inl (cA_1003, 16, .inr (.inl fa10_now)))] → va_S A s.heap H locs → W p l e (headSpec v_X10_giveColour ({ frames := 2, cells := 0, slots := 0, locals := 42 })).room s m ([.ref h0, .int (zI (r0))] : List Value).toArray below meth c H locs 0 0 Q (F0 m 12 ls []) := by
    intro n12
    induction n12 with
    | zero => intro d12_2 w12_1001 ls H locs jd12_2 hm12; exact absurd hm12 (by omega)
    | succ n12 ih12 =>
      intro d12_2 w12_1001 ls H locs jd12_2 hm12 hl hP hD hS
      refine lv_iload_n hx hb dX10_giveColour_12 rfl (lv_at hl 2 rfl) ?_
      refine lv_aload_n hx hb dX10_giveColour_13 rfl (lv_at hl 0 rfl) ?_
      refine va_get (D := (dC, dI)) (ci := 10) (v := .int (zI (z10_words))) (C := RX10) (T := TX10) (N := 14) hx hb hts mem_X10_giveColour_0 hown hK hP 0 rfl rfl 4 (by decide) (ow (k := 1) rfl) (fun _ h9 => h9) rfl dX10_giveColour_14 ?_
      refine lv_icmp_ge (tgt := 98) hx hb dX10_giveColour_17 (by decide) (fun b17 => ?_) (fun b17 => ?_)
      · have yb17 : (z10_words : Int) ≤ (d12_2 : Int) := (zI_le (a := z10_words) (b := d12_2) (by omega) (by omega) (by omega) (by omega)).mp b17
        refine lv_iconst (v := 0) hx hb dX10_giveColour_98 (by decide) ?_
        refine lv_istore_n (lv' := [(2, .int 0), (0, .ref h0), (1, .int (zI (r0)))]) hx hb dX10_giveColour_99 rfl hl (by decide) rfl (fun ls hl => ?_)
        have key100 : ∀ n100 : Nat, ∀ (d100_2 : Int) (ls : Array Slot) (H : Heap) (locs : List Loc), (0 ≤ d100_2 ∧ d100_2 ≤ 1023) → (((1023) - (d100_2) : Int).toNat) < n100 → lv_has ls 7 [(0, .ref h0), (1, .int (zI (r0))), (2, .int (zI (d100_2)))] → va_P (dC, dI) vwP [(h0, .inr (10, [.ref q_1000, .ref q_1001, v10_2, .ref q_1003, .int (zI (z10_words)), .int (zI (z_2001)), .int (zI (z10_colours)), v10_7, v10_8, v10_9, v10_10, v10_11, v10_12, v10_13])), (q_1000, .inl (cA_1000, 1024, .inl (fun j : Nat => zI (a10_colour (j : Int))))), (q_1001, .inl (cA_1001, 1024, .inl w12_1001)), (q_1003, .inl (cA_1003, 16, .inr (.inl fa10_now)))] H → va_D A [(h0, .inr (10, [.ref q_1000, .ref q_1001, v10_2, .ref q_1003, .int (zI (z10_words)), .int (zI (z_2001)), .int (zI (z10_colours)), v10_7, v10_8, v10_9, v10_10, v10_11, v10_12, v10_13])), (q_1000, .inl (cA_1000, 1024, .inl (fun j : Nat => zI (a10_colour (j : Int))))), (q_1001, .inl (cA_1001, 1024, .inl w12_1001)), (q_1003, .inl (cA_1003, 16, .inr (.inl fa10_now)))] → va_S A s.heap H locs → W p l e (headSpec v_X10_giveColour ({ frames := 2, cells := 0, slots := 0, locals := 42 })).room s m ([.ref h0, .int (zI (r0))] : List Value).toArray below meth c H locs 0 0 Q (F0 m 100 ls []) := by
          intro n100
          induction n100 with
          | zero => intro d100_2 ls H locs jd100_2 hm100; exact absurd hm100 (by omega)
          | succ n100 ih100 =>
            intro d100_2 ls H locs jd100_2 hm100 hl hP hD hS
            refine lv_iload_n hx hb dX10_giveColour_100 rfl (lv_at hl 2 rfl) ?_
            refine lv_sipush (v := 1023) hx hb dX10_giveColour_101 (by decide) ?_
            refine lv_icmp_ge (tgt := 126) hx hb dX10_giveColour_104 (by decide) (fun b104 => ?_) (fun b104 => ?_)
            · have yb104 : (1023 : Int) ≤ (d100_2 : Int) := (zI_le (a := 1023) (b := d100_2) (by omega) (by omega) (by omega) (by omega)).mp b104
              refine lv_aload_n hx hb dX10_giveColour_126 rfl (lv_at hl 0 rfl) ?_
              refine va_get (D := (dC, dI)) (ci := 10) (v := .ref q_1000) (C := RX10) (T := TX10) (N := 14) hx hb hts mem_X10_giveColour_0 hown hK hP 0 rfl rfl 0 (by decide) (ow (k := 2) rfl) (fun _ h9 => h9) rfl dX10_giveColour_127 ?_
              refine lv_iload_n hx hb dX10_giveColour_130 rfl (lv_at hl 1 rfl) ?_
              refine lv_iload_n hx hb dX10_giveColour_131 rfl (lv_at hl 2 rfl) ?_
              refine va_iast (i := zI (r0)) hx hb hK hP hD hS 1 0 rfl rfl (zI_in (a := r0) (n := 1024) (by omega) (by omega) (by decide)) dX10_giveColour_132 (fun H locs hP hD hS => ?_)
              have eQ : upd (fun j : Nat => zI (a10_colour (j : Int))) (zI (r0)).toNatClampNeg (zI (d100_2)) = (fun j : Nat => zI (zup a10_colour (r0) (d100_2) (j : Int))) := zI_st a10_colour (e := r0) (v := d100_2) (by omega) (by omega)
              rw [eQ] at hP hD
              clear eQ
              have ra_2002 : ∀ j : Int, -1 ≤ zup a10_colour (r0) (d100_2) j ∧ zup a10_colour (r0) (d100_2) j ≤ 1023 := zup_P (P := fun x9 => -1 ≤ x9 ∧ x9 ≤ 1023) hR_a10_colour (show -1 ≤ (d100_2) ∧ (d100_2) ≤ 1023 by omega)
              obtain ⟨a_2002, ea_2002⟩ : ∃ a9 : Int → Int, a9 = zup a10_colour (r0) (d100_2) := ⟨_, rfl⟩
              rw [← ea_2002] at hP hD ra_2002
              have hP : va_P (dC, dI) vwP [(h0, .inr (10, [.ref q_1000, .ref q_1001, v10_2, .ref q_1003, .int (zI (z10_words)), .int (zI (z_2001)), .int (zI (z10_colours)), v10_7, v10_8, v10_9, v10_10, v10_11, v10_12, v10_13])), (q_1000, .inl (cA_1000, 1024, .inl (fun j : Nat => zI (a_2002 (j : Int))))), (q_1001, .inl (cA_1001, 1024, .inl w12_1001)), (q_1003, .inl (cA_1003, 16, .inr (.inl fa10_now)))] H := hP
              have hD : va_D A [(h0, .inr (10, [.ref q_1000, .ref q_1001, v10_2, .ref q_1003, .int (zI (z10_words)), .int (zI (z_2001)), .int (zI (z10_colours)), v10_7, v10_8, v10_9, v10_10, v10_11, v10_12, v10_13])), (q_1000, .inl (cA_1000, 1024, .inl (fun j : Nat => zI (a_2002 (j : Int))))), (q_1001, .inl (cA_1001, 1024, .inl w12_1001)), (q_1003, .inl (cA_1003, 16, .inr (.inl fa10_now)))] := hD
              refine lv_aload_n hx hb dX10_giveColour_133 rfl (lv_at hl 0 rfl) ?_
              refine lv_aload_n hx hb dX10_giveColour_134 rfl (lv_at hl 0 rfl) ?_
              refine va_get (D := (dC, dI)) (ci := 10) (v := .int (zI (z10_colours))) (C := RX10) (T := TX10) (N := 14) hx hb hts mem_X10_giveColour_0 hown hK hP 0 rfl rfl 6 (by decide) (ow (k := 3) rfl) (fun _ h9 => h9) rfl dX10_giveColour_135 ?_
              refine lv_iload_n hx hb dX10_giveColour_138 rfl (lv_at hl 2 rfl) ?_
              refine lv_iconst (v := 1) hx hb dX10_giveColour_139 (by decide) ?_
              refine lv_iadd hx hb dX10_giveColour_140 ?_
              refine lv_topi (fun z ez => ?_)
              obtain rfl : z = zI (d100_2 + 1) := ez.trans (zI_add (d100_2) (1))
              refine va_mmax hx hb (hml.trans hl.1.symm) hown (ow (k := 4) rfl) (ow (k := 5) rfl) (ow (k := 6) rfl) (ow (k := 7) rfl) (Nat.le_of_ble_eq_true rfl) (Nat.le_of_ble_eq_true rfl) (Nat.le_of_ble_eq_true rfl) (Nat.le_of_ble_eq_true rfl) dX10_giveColour_141 ?_
              refine lv_topi (fun z9 ez => ?_)
              obtain ⟨z_2003, rfl, hzz_2003⟩ := zI_max (a := z10_colours) (b := d100_2 + 1) (by omega) (by omega) (by omega) (by omega) ez
              refine va_put (D := (dC, dI)) (ci := 10) (v := .int (zI (z_2003))) (ty := .int) (C := RX10) (T := TX10) (N := 14) hx hb hts mem_X10_giveColour_0 tyX10 tyX10_ok nmX10 hown hK hP hD hS 0 rfl rfl 6 (by decide) (ow (k := 3) rfl) (fun _ h9 => h9) rfl (by decide +kernel) rfl rfl (Nat.le_of_ble_eq_true rfl) dX10_giveColour_144 (fun H locs hP hD hS => ?_)
              have hP : va_P (dC, dI) vwP [(h0, .inr (10, [.ref q_1000, .ref q_1001, v10_2, .ref q_1003, .int (zI (z10_words)), .int (zI (z_2001)), .int (zI (z_2003)), v10_7, v10_8, v10_9, v10_10, v10_11, v10_12, v10_13])), (q_1000, .inl (cA_1000, 1024, .inl (fun j : Nat => zI (a_2002 (j : Int))))), (q_1001, .inl (cA_1001, 1024, .inl w12_1001)), (q_1003, .inl (cA_1003, 16, .inr (.inl fa10_now)))] H := hP
              have hD : va_D A [(h0, .inr (10, [.ref q_1000, .ref q_1001, v10_2, .ref q_1003, .int (zI (z10_words)), .int (zI (z_2001)), .int (zI (z_2003)), v10_7, v10_8, v10_9, v10_10, v10_11, v10_12, v10_13])), (q_1000, .inl (cA_1000, 1024, .inl (fun j : Nat => zI (a_2002 (j : Int))))), (q_1001, .inl (cA_1001, 1024, .inl w12_1001)), (q_1003, .inl (cA_1003, 16, .inr (.inl fa10_now)))] := hD
              subst hQ
              refine W.widen (k := 0) (n := 0) (Nat.le_of_ble_eq_true rfl) (Nat.le_of_ble_eq_true rfl) ?_
              exact W.vret hx hb hr (fun t ht hW => ⟨⟨(), rfl, trivial, z_2001, z_2003, a_2002, w12_1001, ⟨(by omega), (by omega), ra_2002, ⟨⟨(by rw [ea_2002]; exact CGS.set _ (by omega)), (by rw [ea_2002, zup_eq]; omega)⟩, (by omega)⟩⟩, by rw [ht]; exact hP, va_K.moved hW.alike hK, hD⟩, hS.F ht⟩) hS.2.2 dX10_giveColour_147
            · have yb104 : ¬ (1023 : Int) ≤ (d100_2 : Int) := fun q => b104 ((zI_le (a := 1023) (b := d100_2) (by omega) (by omega) (by omega) (by omega)).mpr q)
              refine lv_aload_n hx hb dX10_giveColour_107 rfl (lv_at hl 0 rfl) ?_
              refine va_get (D := (dC, dI)) (ci := 10) (v := .ref q_1001) (C := RX10) (T := TX10) (N := 14) hx hb hts mem_X10_giveColour_0 hown hK hP 0 rfl rfl 1 (by decide) (ow (k := 8) rfl) (fun _ h9 => h9) rfl dX10_giveColour_108 ?_
              refine lv_iload_n hx hb dX10_giveColour_111 rfl (lv_at hl 2 rfl) ?_
              refine va_iald hx hb hK hP 2 1 rfl rfl (zI_in (a := d100_2) (n := 1024) (by omega) (by omega) (by decide)) dX10_giveColour_112 ?_
              refine lv_topi (fun x_2004 ex_2004 => ?_)
              refine lv_aload_n hx hb dX10_giveColour_113 rfl (lv_at hl 0 rfl) ?_
              refine va_get (D := (dC, dI)) (ci := 10) (v := .int (zI (z_2001))) (C := RX10) (T := TX10) (N := 14) hx hb hts mem_X10_giveColour_0 hown hK hP 0 rfl rfl 5 (by decide) (ow (k := 0) rfl) (fun _ h9 => h9) rfl dX10_giveColour_114 ?_
              refine lv_icmp_ne (tgt := 126) hx hb dX10_giveColour_117 (by decide) (fun b117 => ?_) (fun b117 => ?_)
              · refine lv_aload_n hx hb dX10_giveColour_126 rfl (lv_at hl 0 rfl) ?_
                refine va_get (D := (dC, dI)) (ci := 10) (v := .ref q_1000) (C := RX10) (T := TX10) (N := 14) hx hb hts mem_X10_giveColour_0 hown hK hP 0 rfl rfl 0 (by decide) (ow (k := 2) rfl) (fun _ h9 => h9) rfl dX10_giveColour_127 ?_
                refine lv_iload_n hx hb dX10_giveColour_130 rfl (lv_at hl 1 rfl) ?_
                refine lv_iload_n hx hb dX10_giveColour_131 rfl (lv_at hl 2 rfl) ?_
                refine va_iast (i := zI (r0)) hx hb hK hP hD hS 1 0 rfl rfl (zI_in (a := r0) (n := 1024) (by omega) (by omega) (by decide)) dX10_giveColour_132 (fun H locs hP hD hS => ?_)
                have eQ : upd (fun j : Nat => zI (a10_colour (j : Int))) (zI (r0)).toNatClampNeg (zI (d100_2)) = (fun j : Nat => zI (zup a10_colour (r0) (d100_2) (j : Int))) := zI_st a10_colour (e := r0) (v := d100_2) (by omega) (by omega)
                rw [eQ] at hP hD
                clear eQ
                have ra_2005 : ∀ j : Int, -1 ≤ zup a10_colour (r0) (d100_2) j ∧ zup a10_colour (r0) (d100_2) j ≤ 1023 := zup_P (P := fun x9 => -1 ≤ x9 ∧ x9 ≤ 1023) hR_a10_colour (show -1 ≤ (d100_2) ∧ (d100_2) ≤ 1023 by omega)
                obtain ⟨a_2005, ea_2005⟩ : ∃ a9 : Int → Int, a9 = zup a10_colour (r0) (d100_2) := ⟨_, rfl⟩
                rw [← ea_2005] at hP hD ra_2005
                have hP : va_P (dC, dI) vwP [(h0, .inr (10, [.ref q_1000, .ref q_1001, v10_2, .ref q_1003, .int (zI (z10_words)), .int (zI (z_2001)), .int (zI (z10_colours)), v10_7, v10_8, v10_9, v10_10, v10_11, v10_12, v10_13])), (q_1000, .inl (cA_1000, 1024, .inl (fun j : Nat => zI (a_2005 (j : Int))))), (q_1001, .inl (cA_1001, 1024, .inl w12_1001)), (q_1003, .inl (cA_1003, 16, .inr (.inl fa10_now)))] H := hP
                have hD : va_D A [(h0, .inr (10, [.ref q_1000, .ref q_1001, v10_2, .ref q_1003, .int (zI (z10_words)), .int (zI (z_2001)), .int (zI (z10_colours)), v10_7, v10_8, v10_9, v10_10, v10_11, v10_12, v10_13])), (q_1000, .inl (cA_1000, 1024, .inl (fun j : Nat => zI (a_2005 (j : Int))))), (q_1001, .inl (cA_1001, 1024, .inl w12_1001)), (q_1003, .inl (cA_1003, 16, .inr (.inl fa10_now)))] := hD
                refine lv_aload_n hx hb dX10_giveColour_133 rfl (lv_at hl 0 rfl) ?_
                refine lv_aload_n hx hb dX10_giveColour_134 rfl (lv_at hl 0 rfl) ?_
                refine va_get (D := (dC, dI)) (ci := 10) (v := .int (zI (z10_colours))) (C := RX10) (T := TX10) (N := 14) hx hb hts mem_X10_giveColour_0 hown hK hP 0 rfl rfl 6 (by decide) (ow (k := 3) rfl) (fun _ h9 => h9) rfl dX10_giveColour_135 ?_
                refine lv_iload_n hx hb dX10_giveColour_138 rfl (lv_at hl 2 rfl) ?_
                refine lv_iconst (v := 1) hx hb dX10_giveColour_139 (by decide) ?_
                refine lv_iadd hx hb dX10_giveColour_140 ?_
                refine lv_topi (fun z ez => ?_)
                obtain rfl : z = zI (d100_2 + 1) := ez.trans (zI_add (d100_2) (1))
                refine va_mmax hx hb (hml.trans hl.1.symm) hown (ow (k := 4) rfl) (ow (k := 5) rfl) (ow (k := 6) rfl) (ow (k := 7) rfl) (Nat.le_of_ble_eq_true rfl) (Nat.le_of_ble_eq_true rfl) (Nat.le_of_ble_eq_true rfl) (Nat.le_of_ble_eq_true rfl) dX10_giveColour_141 ?_
                refine lv_topi (fun z9 ez => ?_)
                obtain ⟨z_2006, rfl, hzz_2006⟩ := zI_max (a := z10_colours) (b := d100_2 + 1) (by omega) (by omega) (by omega) (by omega) ez
                refine va_put (D := (dC, dI)) (ci := 10) (v := .int (zI (z_2006))) (ty := .int) (C := RX10) (T := TX10) (N := 14) hx hb hts mem_X10_giveColour_0 tyX10 tyX10_ok nmX10 hown hK hP hD hS 0 rfl rfl 6 (by decide) (ow (k := 3) rfl) (fun _ h9 => h9) rfl (by decide +kernel) rfl rfl (Nat.le_of_ble_eq_true rfl) dX10_giveColour_144 (fun H locs hP hD hS => ?_)
                have hP : va_P (dC, dI) vwP [(h0, .inr (10, [.ref q_1000, .ref q_1001, v10_2, .ref q_1003, .int (zI (z10_words)), .int (zI (z_2001)), .int (zI (z_2006)), v10_7, v10_8, v10_9, v10_10, v10_11, v10_12, v10_13])), (q_1000, .inl (cA_1000, 1024, .inl (fun j : Nat => zI (a_2005 (j : Int))))), (q_1001, .inl (cA_1001, 1024, .inl w12_1001)), (q_1003, .inl (cA_1003, 16, .inr (.inl fa10_now)))] H := hP
                have hD : va_D A [(h0, .inr (10, [.ref q_1000, .ref q_1001, v10_2, .ref q_1003, .int (zI (z10_words)), .int (zI (z_2001)), .int (zI (z_2006)), v10_7, v10_8, v10_9, v10_10, v10_11, v10_12, v10_13])), (q_1000, .inl (cA_1000, 1024, .inl (fun j : Nat => zI (a_2005 (j : Int))))), (q_1001, .inl (cA_1001, 1024, .inl w12_1001)), (q_1003, .inl (cA_1003, 16, .inr (.inl fa10_now)))] := hD
                subst hQ
                refine W.widen (k := 0) (n := 0) (Nat.le_of_ble_eq_true rfl) (Nat.le_of_ble_eq_true rfl) ?_
                exact W.vret hx hb hr (fun t ht hW => ⟨⟨(), rfl, trivial, z_2001, z_2006, a_2005, w12_1001, ⟨(by omega), (by omega), ra_2005, ⟨⟨(by rw [ea_2005]; exact CGS.set _ (by omega)), (by rw [ea_2005, zup_eq]; omega)⟩, (by omega)⟩⟩, by rw [ht]; exact hP, va_K.moved hW.alike hK, hD⟩, hS.F ht⟩) hS.2.2 dX10_giveColour_147
              · refine lv_iinc (v := zI (d100_2 + 1)) (lv' := [(2, .int (zI (d100_2 + 1))), (0, .ref h0), (1, .int (zI (r0)))]) hx hb dX10_giveColour_120 hl (k := 2) rfl (zI_add (d100_2) (1)) (by decide) rfl (fun ls hl => ?_)
                refine lv_goto (tgt := 100) hx hb dX10_giveColour_123 (by decide) ?_
                exact ih100 (d100_2 + 1) ls H _ (by omega) (by omega) (lv_sub hl [1, 2, 0] rfl) hP hD hS
        exact key100 (((1023) - (0) : Int).toNat + 1) 0 ls H _ (by omega) (by omega) (lv_sub hl [1, 2, 0] rfl) hP hD hS
      · have yb17 : ¬ (z10_words : Int) ≤ (d12_2 : Int) := fun q => b17 ((zI_le (a := z10_words) (b := d12_2) (by omega) (by omega) (by omega) (by omega)).mpr q)
        refine lv_aload_n hx hb dX10_giveColour_20 rfl (lv_at hl 0 rfl) ?_
        refine va_get (D := (dC, dI)) (ci := 10) (v := .ref q_1003) (C := RX10) (T := TX10) (N := 14) hx hb hts mem_X10_giveColour_0 hown hK hP 0 rfl rfl 3 (by decide) (ow (k := 9) rfl) (fun _ h9 => h9) rfl dX10_giveColour_21 ?_
        refine lv_iload_n hx hb dX10_giveColour_24 rfl (lv_at hl 2 rfl) ?_
        refine va_lald hx hb hK hP 3 2 rfl rfl (zI_in (a := d12_2) (n := 16) (by omega) (by omega) (by decide)) dX10_giveColour_25 ?_
        refine lv_topl (fun x_2007 ex_2007 => ?_)
        refine lv_lstore_n (lv' := [(3, .long x_2007), (0, .ref h0), (1, .int (zI (r0))), (2, .int (zI (d12_2)))]) hx hb dX10_giveColour_26 rfl hl (by decide) rfl (fun ls hl => ?_)
        refine lv_iconst (v := 0) hx hb dX10_giveColour_27 (by decide) ?_
        refine lv_istore (lv' := [(5, .int 0), (3, .long x_2007), (0, .ref h0), (1, .int (zI (r0))), (2, .int (zI (d12_2)))]) hx hb dX10_giveColour_28 hl (by decide) rfl (fun ls hl => ?_)
        have key30 : ∀ n30 : Nat, ∀ (d30_5 : Int) (d30_3 : Int64) (w30_1001 : Nat → Int32) (ls : Array Slot) (H : Heap) (locs : List Loc), (0 ≤ d30_5 ∧ d30_5 ≤ 64) → ((100 - d30_5 : Int).toNat) < n30 → lv_has ls 7 [(0, .ref h0), (1, .int (zI (r0))), (2, .int (zI (d12_2))), (3, .long d30_3), (5, .int (zI (d30_5)))] → va_P (dC, dI) vwP [(h0, .inr (10, [.ref q_1000, .ref q_1001, v10_2, .ref q_1003, .int (zI (z10_words)), .int (zI (z_2001)), .int (zI (z10_colours)), v10_7, v10_8, v10_9, v10_10, v10_11, v10_12, v10_13])), (q_1000, .inl (cA_1000, 1024, .inl (fun j : Nat => zI (a10_colour (j : Int))))), (q_1001, .inl (cA_1001, 1024, .inl w30_1001)), (q_1003, .inl (cA_1003, 16, .inr (.inl fa10_now)))] H → va_D A [(h0, .inr (10, [.ref q_1000, .ref q_1001, v10_2, .ref q_1003, .int (zI (z10_words)), .int (zI (z_2001)), .int (zI (z10_colours)), v10_7, v10_8, v10_9, v10_10, v10_11, v10_12, v10_13])), (q_1000, .inl (cA_1000, 1024, .inl (fun j : Nat => zI (a10_colour (j : Int))))), (q_1001, .inl (cA_1001, 1024, .inl w30_1001)), (q_1003, .inl (cA_1003, 16, .inr (.inl fa10_now)))] → va_S A s.heap H locs → W p l e (headSpec v_X10_giveColour ({ frames := 2, cells := 0, slots := 0, locals := 42 })).room s m ([.ref h0, .int (zI (r0))] : List Value).toArray below meth c H locs 0 0 Q (F0 m 30 ls []) := by
          intro n30
          induction n30 with
          | zero => intro d30_5 d30_3 w30_1001 ls H locs jd30_5 hm30; exact absurd hm30 (by omega)
          | succ n30 ih30 =>
            intro d30_5 d30_3 w30_1001 ls H locs jd30_5 hm30 hl hP hD hS
            refine lv_lload_n hx hb dX10_giveColour_30 rfl (lv_at hl 3 rfl) ?_
            refine lv_lconst (v := lI (0)) hx hb dX10_giveColour_31 (by decide) ?_
            refine W.lcmp hx hb dX10_giveColour_32 ?_
            refine lv_topi (fun x_2008 ex_2008 => ?_)
            refine lv_if_eq (tgt := 92) hx hb dX10_giveColour_33 (by decide) (fun b33 => ?_) (fun b33 => ?_)
            · refine lv_iinc (v := zI (d12_2 + 1)) (lv' := [(2, .int (zI (d12_2 + 1))), (0, .ref h0), (1, .int (zI (r0))), (3, .long d30_3), (5, .int (zI (d30_5)))]) hx hb dX10_giveColour_92 hl (k := 2) rfl (zI_add (d12_2) (1)) (by decide) rfl (fun ls hl => ?_)
              refine lv_goto (tgt := 12) hx hb dX10_giveColour_95 (by decide) ?_
              exact ih12 (d12_2 + 1) w30_1001 ls H _ (by omega) (by omega) (lv_sub hl [1, 2, 0] rfl) hP hD hS
            · have hX_z : ¬ d30_3 = 0 := lg_ne (by rw [← ex_2008]; exact b33)
              refine lv_iload hx hb dX10_giveColour_36 (lv_at hl 4 rfl) ?_
              refine lv_bipush (v := 64) hx hb dX10_giveColour_38 (by decide) ?_
              refine lv_icmp_ge (tgt := 92) hx hb dX10_giveColour_40 (by decide) (fun b40 => ?_) (fun b40 => ?_)
              · have yb40 : (64 : Int) ≤ (d30_5 : Int) := (zI_le (a := 64) (b := d30_5) (by omega) (by omega) (by omega) (by omega)).mp b40
                refine lv_iinc (v := zI (d12_2 + 1)) (lv' := [(2, .int (zI (d12_2 + 1))), (0, .ref h0), (1, .int (zI (r0))), (3, .long d30_3), (5, .int (zI (d30_5)))]) hx hb dX10_giveColour_92 hl (k := 2) rfl (zI_add (d12_2) (1)) (by decide) rfl (fun ls hl => ?_)
                refine lv_goto (tgt := 12) hx hb dX10_giveColour_95 (by decide) ?_
                exact ih12 (d12_2 + 1) w30_1001 ls H _ (by omega) (by omega) (lv_sub hl [1, 2, 0] rfl) hP hD hS
              · have yb40 : ¬ (64 : Int) ≤ (d30_5 : Int) := fun q => b40 ((zI_le (a := 64) (b := d30_5) (by omega) (by omega) (by omega) (by omega)).mpr q)
                refine lv_bipush (v := 64) hx hb dX10_giveColour_43 (by decide) ?_
                refine lv_iload_n hx hb dX10_giveColour_45 rfl (lv_at hl 2 rfl) ?_
                refine lv_imul hx hb dX10_giveColour_46 ?_
                refine lv_topi (fun z ez => ?_)
                obtain rfl : z = zI (64 * d12_2) := ez.trans (zI_mul (64) (d12_2))
                refine lv_lload_n hx hb dX10_giveColour_47 rfl (lv_at hl 3 rfl) ?_
                have hPc := hP.sub (ws' := []) [] rfl
                have hDc := hD.sub (ws' := []) [] (by decide) rfl
                have hKc := hK.sub (tys' := []) [] rfl
                have hFc := va_free (wc := []) hD hS hA [] rfl
                refine va_calli (va_runSN (As := [.long d30_3]) (rest := [.int (zI (64 * d12_2))]) ⟨hx, hb, hml, hown, hts⟩ (c_X11_lowestBit l dC dI d30_3 hX_z H.size) ⟨va_cnB 1 hts (goodIn_sub mem_X10_giveColour_1 gw_X11_lowestBit) rfl rfl rfl hp0 (ow (k := 10) rfl) (by decide +kernel) ⟨(Nat.le_of_ble_eq_true rfl), (Nat.le_of_ble_eq_true rfl)⟩, (ow (k := 11) rfl), trivial⟩ ⟨fun a U g mk q => by obtain ⟨q0, q1, qP, qK, qD⟩ := q; exact ⟨q0, q1, qP, va_K.moved (u := U) (U := U.calling g mk a) (Vm.Alike.refl U.vm) qK, qD⟩, fun U hU hW => ⟨rfl, by rw [hU], by rw [hU]; exact hPc, va_K.moved hW.alike hKc, hDc.weaken (fun _ _ _ _ => trivial)⟩⟩ rfl rfl hl.1 rfl (lv_room (Nat.le_of_ble_eq_true rfl)) dX10_giveColour_48 ⟨(Nat.le_of_ble_eq_true rfl), (Nat.le_of_ble_eq_true rfl)⟩) hS (fun q _ h => hFc q h) hFc (fun r_2009 u t H1 locs ht hvm hw hB hz1 hk1 hS => ?_)
                obtain ⟨hP1, hK1, hD1⟩ := hB
                rw [ht] at hP1
                have hK1 := va_K.moved hvm.symm hK1
                obtain ⟨hP, hD⟩ := va_join (wr := [(h0, .inr (10, [.ref q_1000, .ref q_1001, v10_2, .ref q_1003, .int (zI (z10_words)), .int (zI (z_2001)), .int (zI (z10_colours)), v10_7, v10_8, v10_9, v10_10, v10_11, v10_12, v10_13])), (q_1000, .inl (cA_1000, 1024, .inl (fun j : Nat => zI (a10_colour (j : Int))))), (q_1001, .inl (cA_1001, 1024, .inl w30_1001)), (q_1003, .inl (cA_1003, 16, .inr (.inl fa10_now)))]) (w1 := []) hP hD [] [0, 1, 2, 3] rfl rfl (by decide) (by decide) hk1 hFc hP1 hD1
                have hK := (hK.sub (tys' := [(cA_1000, .int), (cA_1001, .int), (cA_1003, .long)]) [0, 1, 2] rfl).app hK1
                generalize H1 = H at hP hS ⊢
                have hP : va_P (dC, dI) vwP [(h0, .inr (10, [.ref q_1000, .ref q_1001, v10_2, .ref q_1003, .int (zI (z10_words)), .int (zI (z_2001)), .int (zI (z10_colours)), v10_7, v10_8, v10_9, v10_10, v10_11, v10_12, v10_13])), (q_1000, .inl (cA_1000, 1024, .inl (fun j : Nat => zI (a10_colour (j : Int))))), (q_1001, .inl (cA_1001, 1024, .inl w30_1001)), (q_1003, .inl (cA_1003, 16, .inr (.inl fa10_now)))] H := hP
                have hD : va_D A [(h0, .inr (10, [.ref q_1000, .ref q_1001, v10_2, .ref q_1003, .int (zI (z10_words)), .int (zI (z_2001)), .int (zI (z10_colours)), v10_7, v10_8, v10_9, v10_10, v10_11, v10_12, v10_13])), (q_1000, .inl (cA_1000, 1024, .inl (fun j : Nat => zI (a10_colour (j : Int))))), (q_1001, .inl (cA_1001, 1024, .inl w30_1001)), (q_1003, .inl (cA_1003, 16, .inr (.inl fa10_now)))] := hD
                have hK : va_K (dC, dI) vwP [(cA_1000, .int), (cA_1001, .int), (cA_1003, .long)] s := hK
                refine W.widen (k := 0) (n := 0) (Nat.le_of_ble_eq_true rfl) (Nat.le_of_ble_eq_true rfl) ?_
                have hw_2010 := hw
                obtain ⟨z_2011, rfl, hzz_2011⟩ := hw_2010
                refine lv_iadd hx hb dX10_giveColour_51 ?_
                refine lv_topi (fun z ez => ?_)
                obtain rfl : z = zI ((64 * d12_2) + z_2011) := ez.trans (zI_add (64 * d12_2) (z_2011))
                refine lv_istore (lv' := [(6, .int (zI ((64 * d12_2) + z_2011))), (0, .ref h0), (1, .int (zI (r0))), (2, .int (zI (d12_2))), (3, .long d30_3), (5, .int (zI (d30_5)))]) hx hb dX10_giveColour_52 hl (by decide) rfl (fun ls hl => ?_)
                refine lv_aload_n hx hb dX10_giveColour_54 rfl (lv_at hl 1 rfl) ?_
                refine va_get (D := (dC, dI)) (ci := 10) (v := .ref q_1000) (C := RX10) (T := TX10) (N := 14) hx hb hts mem_X10_giveColour_0 hown hK hP 0 rfl rfl 0 (by decide) (ow (k := 2) rfl) (fun _ h9 => h9) rfl dX10_giveColour_55 ?_
                refine lv_iload hx hb dX10_giveColour_58 (lv_at hl 0 rfl) ?_
                refine va_iald hx hb hK hP 1 0 rfl rfl (zI_in (a := (64 * d12_2) + z_2011) (n := 1024) (by omega) (by omega) (by decide)) dX10_giveColour_60 ?_
                refine lv_topi (fun z ez => ?_)
                obtain rfl : z = zI (a10_colour ((64 * d12_2) + z_2011)) := ez.trans (zI_ld (a10_colour) (by omega) (by omega))
                have k1 := hR_a10_colour ((64 * d12_2) + z_2011)
                refine lv_if_lt (tgt := 80) hx hb dX10_giveColour_61 (by decide) (fun b61 => ?_) (fun b61 => ?_)
                · have yb61 : (a10_colour ((64 * d12_2) + z_2011) : Int) < (0 : Int) := (zI_lt (a := a10_colour ((64 * d12_2) + z_2011)) (b := 0) (by omega) (by omega) (by omega) (by omega)).mp b61
                  refine lv_lload_n hx hb dX10_giveColour_80 rfl (lv_at hl 4 rfl) ?_
                  refine lv_lload_n hx hb dX10_giveColour_81 rfl (lv_at hl 4 rfl) ?_
                  refine lv_lconst (v := lI (1)) hx hb dX10_giveColour_82 (by decide) ?_
                  refine lv_lsub hx hb dX10_giveColour_83 ?_
                  refine lv_topl (fun x_2012 ex_2012 => ?_)
                  refine lv_land hx hb dX10_giveColour_84 ?_
                  refine lv_topl (fun x_2013 ex_2013 => ?_)
                  refine lv_lstore_n (lv' := [(3, .long x_2013), (6, .int (zI ((64 * d12_2) + z_2011))), (0, .ref h0), (1, .int (zI (r0))), (2, .int (zI (d12_2))), (5, .int (zI (d30_5)))]) hx hb dX10_giveColour_85 rfl hl (by decide) rfl (fun ls hl => ?_)
                  refine lv_iinc (v := zI (d30_5 + 1)) (lv' := [(5, .int (zI (d30_5 + 1))), (3, .long x_2013), (6, .int (zI ((64 * d12_2) + z_2011))), (0, .ref h0), (1, .int (zI (r0))), (2, .int (zI (d12_2)))]) hx hb dX10_giveColour_86 hl (k := 5) rfl (zI_add (d30_5) (1)) (by decide) rfl (fun ls hl => ?_)
                  refine lv_goto (tgt := 30) hx hb dX10_giveColour_89 (by decide) ?_
                  exact ih30 (d30_5 + 1) x_2013 w30_1001 ls H _ (by omega) (by omega) (lv_sub hl [3, 4, 5, 1, 0] rfl) hP hD hS
                · have yb61 : ¬ (a10_colour ((64 * d12_2) + z_2011) : Int) < (0 : Int) := fun q => b61 ((zI_lt (a := a10_colour ((64 * d12_2) + z_2011)) (b := 0) (by omega) (by omega) (by omega) (by omega)).mpr q)
                  refine lv_aload_n hx hb dX10_giveColour_64 rfl (lv_at hl 1 rfl) ?_
                  refine va_get (D := (dC, dI)) (ci := 10) (v := .ref q_1001) (C := RX10) (T := TX10) (N := 14) hx hb hts mem_X10_giveColour_0 hown hK hP 0 rfl rfl 1 (by decide) (ow (k := 8) rfl) (fun _ h9 => h9) rfl dX10_giveColour_65 ?_
                  refine lv_aload_n hx hb dX10_giveColour_68 rfl (lv_at hl 1 rfl) ?_
                  refine va_get (D := (dC, dI)) (ci := 10) (v := .ref q_1000) (C := RX10) (T := TX10) (N := 14) hx hb hts mem_X10_giveColour_0 hown hK hP 0 rfl rfl 0 (by decide) (ow (k := 2) rfl) (fun _ h9 => h9) rfl dX10_giveColour_69 ?_
                  refine lv_iload hx hb dX10_giveColour_72 (lv_at hl 0 rfl) ?_
                  refine va_iald hx hb hK hP 1 0 rfl rfl (zI_in (a := (64 * d12_2) + z_2011) (n := 1024) (by omega) (by omega) (by decide)) dX10_giveColour_74 ?_
                  refine lv_topi (fun z ez => ?_)
                  obtain rfl : z = zI (a10_colour ((64 * d12_2) + z_2011)) := ez.trans (zI_ld (a10_colour) (by omega) (by omega))
                  have k2 := hR_a10_colour ((64 * d12_2) + z_2011)
                  refine lv_aload_n hx hb dX10_giveColour_75 rfl (lv_at hl 1 rfl) ?_
                  refine va_get (D := (dC, dI)) (ci := 10) (v := .int (zI (z_2001))) (C := RX10) (T := TX10) (N := 14) hx hb hts mem_X10_giveColour_0 hown hK hP 0 rfl rfl 5 (by decide) (ow (k := 0) rfl) (fun _ h9 => h9) rfl dX10_giveColour_76 ?_
                  refine va_iast (i := zI (a10_colour ((64 * d12_2) + z_2011))) hx hb hK hP hD hS 2 1 rfl rfl (zI_in (a := a10_colour ((64 * d12_2) + z_2011)) (n := 1024) (by omega) (by omega) (by decide)) dX10_giveColour_79 (fun H locs hP hD hS => ?_)
                  have hP : va_P (dC, dI) vwP [(h0, .inr (10, [.ref q_1000, .ref q_1001, v10_2, .ref q_1003, .int (zI (z10_words)), .int (zI (z_2001)), .int (zI (z10_colours)), v10_7, v10_8, v10_9, v10_10, v10_11, v10_12, v10_13])), (q_1000, .inl (cA_1000, 1024, .inl (fun j : Nat => zI (a10_colour (j : Int))))), (q_1001, .inl (cA_1001, 1024, .inl (upd w30_1001 (zI (a10_colour ((64 * d12_2) + z_2011))).toNatClampNeg (zI (z_2001))))), (q_1003, .inl (cA_1003, 16, .inr (.inl fa10_now)))] H := hP
                  have hD : va_D A [(h0, .inr (10, [.ref q_1000, .ref q_1001, v10_2, .ref q_1003, .int (zI (z10_words)), .int (zI (z_2001)), .int (zI (z10_colours)), v10_7, v10_8, v10_9, v10_10, v10_11, v10_12, v10_13])), (q_1000, .inl (cA_1000, 1024, .inl (fun j : Nat => zI (a10_colour (j : Int))))), (q_1001, .inl (cA_1001, 1024, .inl (upd w30_1001 (zI (a10_colour ((64 * d12_2) + z_2011))).toNatClampNeg (zI (z_2001))))), (q_1003, .inl (cA_1003, 16, .inr (.inl fa10_now)))] := hD
                  generalize (upd w30_1001 (zI (a10_colour ((64 * d12_2) + z_2011))).toNatClampNeg (zI (z_2001))) = f_2014 at hP hD
                  have hP : va_P (dC, dI) vwP [(h0, .inr (10, [.ref q_1000, .ref q_1001, v10_2, .ref q_1003, .int (zI (z10_words)), .int (zI (z_2001)), .int (zI (z10_colours)), v10_7, v10_8, v10_9, v10_10, v10_11, v10_12, v10_13])), (q_1000, .inl (cA_1000, 1024, .inl (fun j : Nat => zI (a10_colour (j : Int))))), (q_1001, .inl (cA_1001, 1024, .inl f_2014)), (q_1003, .inl (cA_1003, 16, .inr (.inl fa10_now)))] H := hP
                  have hD : va_D A [(h0, .inr (10, [.ref q_1000, .ref q_1001, v10_2, .ref q_1003, .int (zI (z10_words)), .int (zI (z_2001)), .int (zI (z10_colours)), v10_7, v10_8, v10_9, v10_10, v10_11, v10_12, v10_13])), (q_1000, .inl (cA_1000, 1024, .inl (fun j : Nat => zI (a10_colour (j : Int))))), (q_1001, .inl (cA_1001, 1024, .inl f_2014)), (q_1003, .inl (cA_1003, 16, .inr (.inl fa10_now)))] := hD
                  refine lv_lload_n hx hb dX10_giveColour_80 rfl (lv_at hl 4 rfl) ?_
                  refine lv_lload_n hx hb dX10_giveColour_81 rfl (lv_at hl 4 rfl) ?_
                  refine lv_lconst (v := lI (1)) hx hb dX10_giveColour_82 (by decide) ?_
                  refine lv_lsub hx hb dX10_giveColour_83 ?_
                  refine lv_topl (fun x_2015 ex_2015 => ?_)
                  refine lv_land hx hb dX10_giveColour_84 ?_
                  refine lv_topl (fun x_2016 ex_2016 => ?_)
                  refine lv_lstore_n (lv' := [(3, .long x_2016), (6, .int (zI ((64 * d12_2) + z_2011))), (0, .ref h0), (1, .int (zI (r0))), (2, .int (zI (d12_2))), (5, .int (zI (d30_5)))]) hx hb dX10_giveColour_85 rfl hl (by decide) rfl (fun ls hl => ?_)
                  refine lv_iinc (v := zI (d30_5 + 1)) (lv' := [(5, .int (zI (d30_5 + 1))), (3, .long x_2016), (6, .int (zI ((64 * d12_2) + z_2011))), (0, .ref h0), (1, .int (zI (r0))), (2, .int (zI (d12_2)))]) hx hb dX10_giveColour_86 hl (k := 5) rfl (zI_add (d30_5) (1)) (by decide) rfl (fun ls hl => ?_)
                  refine lv_goto (tgt := 30) hx hb dX10_giveColour_89 (by decide) ?_
                  exact ih30 (d30_5 + 1) x_2016 f_2014 ls H _ (by omega) (by omega) (lv_sub hl [3, 4, 5, 1, 0] rfl) hP hD hS
        exact key30 ((100 - 0 : Int).toNat + 1) 0 x_2007 w12_1001 ls H _ (by omega) (by omega) (lv_sub hl [2, 3, 4, 1, 0] rfl) hP hD hS
  exact key12 (((z10_words) - (0) : Int).toNat + 1) 0 fa10_busy ls H _ (by omega) (by omega) (lv_sub hl [1, 2, 0] rfl) hP hD hS
