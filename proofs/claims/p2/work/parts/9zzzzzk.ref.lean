theorem dX19_like_0 : decode cX19_like 0 = .ok (.aload_n 0, 1) := by decide +kernel
theorem dX19_like_1 : decode cX19_like 1 = .ok (.getfield 64, 3) := by decide +kernel
theorem dX19_like_4 : decode cX19_like 4 = .ok (.aload_n 1, 1) := by decide +kernel
theorem dX19_like_5 : decode cX19_like 5 = .ok (.getfield 64, 3) := by decide +kernel
theorem dX19_like_8 : decode cX19_like 8 = .ok (.if_icmp .eq 5, 3) := by decide +kernel
theorem dX19_like_13 : decode cX19_like 13 = .ok (.aload_n 0, 1) := by decide +kernel
theorem dX19_like_14 : decode cX19_like 14 = .ok (.getfield 233, 3) := by decide +kernel
theorem dX19_like_17 : decode cX19_like 17 = .ok (.aload_n 1, 1) := by decide +kernel
theorem dX19_like_18 : decode cX19_like 18 = .ok (.getfield 233, 3) := by decide +kernel
theorem dX19_like_21 : decode cX19_like 21 = .ok (.if_icmp .ne 40, 3) := by decide +kernel
theorem dX19_like_62 : decode cX19_like 62 = .ok (.istore_n 2, 1) := by decide +kernel
theorem dX19_like_63 : decode cX19_like 63 = .ok (.iload_n 2, 1) := by decide +kernel
theorem dX19_like_64 : decode cX19_like 64 = .ok (.ifCond .ne 57, 3) := by decide +kernel
theorem dX19_like_121 : decode cX19_like 121 = .ok (.iconst 1, 1) := by decide +kernel
theorem dX19_like_122 : decode cX19_like 122 = .ok (.goto 4, 3) := by decide +kernel
theorem dX19_like_126 : decode cX19_like 126 = .ok (.ireturn, 1) := by decide +kernel
theorem dX19_like_67 : decode cX19_like 67 = .ok (.aload_n 0, 1) := by decide +kernel
theorem dX19_like_68 : decode cX19_like 68 = .ok (.getfield 64, 3) := by decide +kernel
theorem dX19_like_71 : decode cX19_like 71 = .ok (.invokestatic 306, 3) := by decide +kernel
theorem dX19_like_74 : decode cX19_like 74 = .ok (.ifCond .eq 51, 3) := by decide +kernel
theorem dX19_like_125 : decode cX19_like 125 = .ok (.iconst 0, 1) := by decide +kernel
theorem dX19_like_77 : decode cX19_like 77 = .ok (.aload_n 0, 1) := by decide +kernel
theorem dX19_like_78 : decode cX19_like 78 = .ok (.getfield 233, 3) := by decide +kernel
theorem dX19_like_81 : decode cX19_like 81 = .ok (.aload_n 1, 1) := by decide +kernel
theorem dX19_like_82 : decode cX19_like 82 = .ok (.getfield 240, 3) := by decide +kernel
theorem dX19_like_85 : decode cX19_like 85 = .ok (.if_icmp .ne 40, 3) := by decide +kernel
theorem dX19_like_88 : decode cX19_like 88 = .ok (.aload_n 0, 1) := by decide +kernel
theorem dX19_like_89 : decode cX19_like 89 = .ok (.getfield 204, 3) := by decide +kernel
theorem dX19_like_92 : decode cX19_like 92 = .ok (.aload_n 1, 1) := by decide +kernel
theorem dX19_like_93 : decode cX19_like 93 = .ok (.getfield 210, 3) := by decide +kernel
theorem dX19_like_96 : decode cX19_like 96 = .ok (.if_icmp .ne 29, 3) := by decide +kernel
theorem dX19_like_99 : decode cX19_like 99 = .ok (.aload_n 0, 1) := by decide +kernel
theorem dX19_like_100 : decode cX19_like 100 = .ok (.getfield 240, 3) := by decide +kernel
theorem dX19_like_103 : decode cX19_like 103 = .ok (.aload_n 1, 1) := by decide +kernel
theorem dX19_like_104 : decode cX19_like 104 = .ok (.getfield 233, 3) := by decide +kernel
theorem dX19_like_107 : decode cX19_like 107 = .ok (.if_icmp .ne 18, 3) := by decide +kernel
theorem dX19_like_110 : decode cX19_like 110 = .ok (.aload_n 0, 1) := by decide +kernel
theorem dX19_like_111 : decode cX19_like 111 = .ok (.getfield 210, 3) := by decide +kernel
theorem dX19_like_114 : decode cX19_like 114 = .ok (.aload_n 1, 1) := by decide +kernel
theorem dX19_like_115 : decode cX19_like 115 = .ok (.getfield 204, 3) := by decide +kernel
theorem dX19_like_118 : decode cX19_like 118 = .ok (.if_icmp .ne 7, 3) := by decide +kernel
theorem dX19_like_61 : decode cX19_like 61 = .ok (.iconst 0, 1) := by decide +kernel
theorem dX19_like_24 : decode cX19_like 24 = .ok (.aload_n 0, 1) := by decide +kernel
theorem dX19_like_25 : decode cX19_like 25 = .ok (.getfield 204, 3) := by decide +kernel
theorem dX19_like_28 : decode cX19_like 28 = .ok (.aload_n 1, 1) := by decide +kernel
theorem dX19_like_29 : decode cX19_like 29 = .ok (.getfield 204, 3) := by decide +kernel
theorem dX19_like_32 : decode cX19_like 32 = .ok (.if_icmp .ne 29, 3) := by decide +kernel
theorem dX19_like_35 : decode cX19_like 35 = .ok (.aload_n 0, 1) := by decide +kernel
theorem dX19_like_36 : decode cX19_like 36 = .ok (.getfield 240, 3) := by decide +kernel
theorem dX19_like_39 : decode cX19_like 39 = .ok (.aload_n 1, 1) := by decide +kernel
theorem dX19_like_40 : decode cX19_like 40 = .ok (.getfield 240, 3) := by decide +kernel
theorem dX19_like_43 : decode cX19_like 43 = .ok (.if_icmp .ne 18, 3) := by decide +kernel
theorem dX19_like_46 : decode cX19_like 46 = .ok (.aload_n 0, 1) := by decide +kernel
theorem dX19_like_47 : decode cX19_like 47 = .ok (.getfield 210, 3) := by decide +kernel
theorem dX19_like_50 : decode cX19_like 50 = .ok (.aload_n 1, 1) := by decide +kernel
theorem dX19_like_51 : decode cX19_like 51 = .ok (.getfield 210, 3) := by decide +kernel
theorem dX19_like_54 : decode cX19_like 54 = .ok (.if_icmp .ne 7, 3) := by decide +kernel
theorem dX19_like_57 : decode cX19_like 57 = .ok (.iconst 1, 1) := by decide +kernel
theorem dX19_like_58 : decode cX19_like 58 = .ok (.goto 4, 3) := by decide +kernel
theorem dX19_like_11 : decode cX19_like 11 = .ok (.iconst 0, 1) := by decide +kernel
theorem dX19_like_12 : decode cX19_like 12 = .ok (.ireturn, 1) := by decide +kernel
def o_X19_likeRow : List Cond := [.fieldLink RX19 64 "SsaForgeModel$Row" "op" "I", .fieldLink RX19 233 "SsaForgeModel$Row" "regA" "Z", .methodLink RX19 306 yX19_turns, .static yX19_turns, .initialized RX19, .fieldLink RX19 240 "SsaForgeModel$Row" "regB" "Z", .fieldLink RX19 204 "SsaForgeModel$Row" "a" "I", .fieldLink RX19 210 "SsaForgeModel$Row" "b" "I"]
def v_X19_likeRow : List Cond := .code yX19_like cX19_like 3 (some .boolean) :: (o_X19_likeRow ++ (wsX170 ++ (v_X19_turns ++ [])))
theorem mow_X19_likeRow : ∀ w ∈ o_X19_likeRow, w ∈ v_X19_likeRow := fun _ h => List.mem_cons_of_mem _ (List.mem_append_left _ h)
theorem mem_X19_likeRow_0 : ∀ w ∈ wsX170, w ∈ v_X19_likeRow := fun _ h => List.mem_cons_of_mem _ (List.mem_append_right _ (List.mem_append_left _ h))
theorem mem_X19_likeRow_1 : ∀ w ∈ v_X19_turns, w ∈ v_X19_likeRow := fun _ h => List.mem_cons_of_mem _ (List.mem_append_right _ (List.mem_append_right _ (List.mem_append_left _ h)))
set_option maxRecDepth 20000 in
theorem gw_X19_likeRow : v_X19_likeRow.all goodWord = true := by decide +kernel
set_option maxRecDepth 20000 in
theorem g_X19_likeRow_X19_turns : GoodIn v_X19_likeRow (wsS RX19 306 yX19_turns v_X19_turns) := goodIn_app (goodIn_sub (fun w h => mow_X19_likeRow w (by revert w h; decide +kernel)) (by decide +kernel)) (goodIn_sub mem_X19_likeRow_1 gw_X19_turns)
set_option maxHeartbeats 4000000 in
set_option maxRecDepth 100000 in
theorem c_X19_likeRow (l : Launch) (dC : Nat → ClassId) (dI : Nat → Nat → Nat) (h0 : Nat) (z17_op : Int) (v17_1 : Value) (z17_a : Int) (z17_b : Int) (z17_regA : Int) (z17_regB : Int) (v17_6 : Value) (h2 : Nat) (z18_op : Int) (v18_1 : Value) (z18_a : Int) (z18_b : Int) (z18_regA : Int) (z18_regB : Int) (v18_6 : Value) (hNz17_op : 0 ≤ z17_op ∧ z17_op ≤ 40) (hNz17_a : -2147483648 ≤ z17_a ∧ z17_a ≤ 2147483647) (hNz17_b : -2147483648 ≤ z17_b ∧ z17_b ≤ 2147483647) (hNz17_regA : 0 ≤ z17_regA ∧ z17_regA ≤ 1) (hNz17_regB : 0 ≤ z17_regB ∧ z17_regB ≤ 1) (hNz18_op : 0 ≤ z18_op ∧ z18_op ≤ 40) (hNz18_a : -2147483648 ≤ z18_a ∧ z18_a ≤ 2147483647) (hNz18_b : -2147483648 ≤ z18_b ∧ z18_b ≤ 2147483647) (hNz18_regA : 0 ≤ z18_regA ∧ z18_regA ≤ 1) (hNz18_regB : 0 ≤ z18_regB ∧ z18_regB ≤ 1) (sz : Nat) : Met l yX19_like v_X19_likeRow ({ frames := 1, cells := 0, slots := 0, locals := 20 }) (va_Pc [.ref h0, .ref h2] (fun U => U.heap.size = sz ∧ va_P (dC, dI) vwQ [(h0, .inr (21, [.int (zI (z17_op)), v17_1, .int (zI (z17_a)), .int (zI (z17_b)), .int (zI (z17_regA)), .int (zI (z17_regB)), v17_6])), (h2, .inr (21, [.int (zI (z18_op)), v18_1, .int (zI (z18_a)), .int (zI (z18_b)), .int (zI (z18_regA)), .int (zI (z18_regB)), v18_6]))] U.heap ∧ va_K (dC, dI) vwQ [] U ∧ va_D (fun _ => True) [(h0, .inr (21, [.int (zI (z17_op)), v17_1, .int (zI (z17_a)), .int (zI (z17_b)), .int (zI (z17_regA)), .int (zI (z17_regB)), v17_6])), (h2, .inr (21, [.int (zI (z18_op)), v18_1, .int (zI (z18_a)), .int (zI (z18_b)), .int (zI (z18_regA)), .int (zI (z18_regB)), v18_6]))])) (va_Qi (fun (r : Int32) (_ : Unit) => ∃ z : Int, r = zI z ∧ (0 ≤ z ∧ z ≤ 1)) (fun (_ : Unit) (t : State) => va_P (dC, dI) vwQ [(h0, .inr (21, [.int (zI (z17_op)), v17_1, .int (zI (z17_a)), .int (zI (z17_b)), .int (zI (z17_regA)), .int (zI (z17_regB)), v17_6])), (h2, .inr (21, [.int (zI (z18_op)), v18_1, .int (zI (z18_a)), .int (zI (z18_b)), .int (zI (z18_regA)), .int (zI (z18_regB)), v18_6]))] t.heap ∧ va_K (dC, dI) vwQ [] t ∧ va_D (va_A [(h0, .inr (21, [.int (zI (z17_op)), v17_1, .int (zI (z17_a)), .int (zI (z17_b)), .int (zI (z17_regA)), .int (zI (z17_regB)), v17_6])), (h2, .inr (21, [.int (zI (z18_op)), v18_1, .int (zI (z18_a)), .int (zI (z18_b)), .int (zI (z18_regA)), .int (zI (z18_regB)), v18_6]))] sz) [(h0, .inr (21, [.int (zI (z17_op)), v17_1, .int (zI (z17_a)), .int (zI (z17_b)), .int (zI (z17_regA)), .int (zI (z17_regB)), v17_6])), (h2, .inr (21, [.int (zI (z18_op)), v18_1, .int (zI (z18_a)), .int (zI (z18_b)), .int (zI (z18_regA)), .int (zI (z18_regB)), v18_6]))]) (va_A [(h0, .inr (21, [.int (zI (z17_op)), v17_1, .int (zI (z17_a)), .int (zI (z17_b)), .int (zI (z17_regA)), .int (zI (z17_regB)), v17_6])), (h2, .inr (21, [.int (zI (z18_op)), v18_1, .int (zI (z18_a)), .int (zI (z18_b)), .int (zI (z18_regA)), .int (zI (z18_regB)), v18_6]))] sz)) 0 0 (va_A [(h0, .inr (21, [.int (zI (z17_op)), v17_1, .int (zI (z17_a)), .int (zI (z17_b)), .int (zI (z17_regA)), .int (zI (z17_regB)), v17_6])), (h2, .inr (21, [.int (zI (z18_op)), v18_1, .int (zI (z18_a)), .int (zI (z18_b)), .int (zI (z18_regA)), .int (zI (z18_regB)), v18_6]))] sz) := by
  refine Met.ofW (cc := cX19_like) (maxL := 3) (ret := (some .boolean)) (by decide) rfl ?_
  intro p e s m args below meth c s₁ B hml hv
  obtain ⟨rfl, hsz, hP, hK, hD0⟩ := hv
  have hx := B.exec
  have hb := B.bytes
  have hr := B.returns
  have hts := atoms_spec (ws := v_X19_likeRow) B.pre
  have hown : s.vm.findClass RX19 = some m.cls := findClass_of_methodNamed B.named
  have hlocks := B.notSynchronized
  have ow : ∀ {k : Nat} {w : Cond}, o_X19_likeRow[k]? = some w → w.before ([.ref h0, .ref h2] : List Value).toArray s = true := fun h => hts _ (mow_X19_likeRow _ (List.mem_of_getElem? h))
  subst hsz
  have hD := hD0.self (sz := s.heap.size)
  generalize hAe : va_A [(h0, .inr (21, [.int (zI (z17_op)), v17_1, .int (zI (z17_a)), .int (zI (z17_b)), .int (zI (z17_regA)), .int (zI (z17_regB)), v17_6])), (h2, .inr (21, [.int (zI (z18_op)), v18_1, .int (zI (z18_a)), .int (zI (z18_b)), .int (zI (z18_regA)), .int (zI (z18_regB)), v18_6]))] s.heap.size = A at hD ⊢
  have hA : ∀ q : Nat, s.heap.size ≤ q → A q := fun q h => by rw [← hAe]; exact Or.inr h
  have hS : va_S A s.heap s.heap [] := va_S.rf
  have hP : va_P (dC, dI) vwQ [(h0, .inr (21, [.int (zI (z17_op)), v17_1, .int (zI (z17_a)), .int (zI (z17_b)), .int (zI (z17_regA)), .int (zI (z17_regB)), v17_6])), (h2, .inr (21, [.int (zI (z18_op)), v18_1, .int (zI (z18_a)), .int (zI (z18_b)), .int (zI (z18_regA)), .int (zI (z18_regB)), v18_6]))] s.heap := hP
  have hl := lv_entry ([.ref h0, .ref h2]) (n := 3) (Nat.le_of_ble_eq_true rfl)
  rw [lg_entry_eq]
  generalize (lg_sl ([.ref h0, .ref h2]) ++ List.replicate (3 - (lg_sl ([.ref h0, .ref h2])).length) Slot.unset).toArray = ls at hl ⊢
  have hl : lv_has ls 3 [(0, .ref h0), (1, .ref h2)] := hl
  obtain ⟨H, hH⟩ : ∃ H, H = s.heap := ⟨_, rfl⟩
  rw [← hH] at hP
  have hS : va_S A s.heap H [] := by rw [hH]; exact hS
  rw [← hH]
  refine zW_cap (fun Q hQ => ?_)
  refine lv_aload_n hx hb dX19_like_0 rfl (lv_at hl 0 rfl) ?_
  refine va_get (D := (dC, dI)) (ci := 21) (v := .int (zI (z17_op))) (C := RX17) (T := TX17) (N := 7) hx hb hts mem_X19_likeRow_0 hown hK hP 0 rfl rfl 0 (by decide) (ow (k := 0) rfl) (fun _ h9 => h9) rfl dX19_like_1 ?_
  refine lv_aload_n hx hb dX19_like_4 rfl (lv_at hl 1 rfl) ?_
  refine va_get (D := (dC, dI)) (ci := 21) (v := .int (zI (z18_op))) (C := RX17) (T := TX17) (N := 7) hx hb hts mem_X19_likeRow_0 hown hK hP 1 rfl rfl 0 (by decide) (ow (k := 0) rfl) (fun _ h9 => h9) rfl dX19_like_5 ?_
  refine lv_icmp_eq (tgt := 13) hx hb dX19_like_8 (by decide) (fun b8 => ?_) (fun b8 => ?_)
  · have yb8 : (z17_op : Int) = (z18_op : Int) := (zI_eq (a := z17_op) (b := z18_op) (by omega) (by omega) (by omega) (by omega)).mp b8
    refine lv_aload_n hx hb dX19_like_13 rfl (lv_at hl 0 rfl) ?_
    refine va_get (D := (dC, dI)) (ci := 21) (v := .int (zI (z17_regA))) (C := RX17) (T := TX17) (N := 7) hx hb hts mem_X19_likeRow_0 hown hK hP 0 rfl rfl 4 (by decide) (ow (k := 1) rfl) (fun _ h9 => h9) rfl dX19_like_14 ?_
    refine lv_aload_n hx hb dX19_like_17 rfl (lv_at hl 1 rfl) ?_
    refine va_get (D := (dC, dI)) (ci := 21) (v := .int (zI (z18_regA))) (C := RX17) (T := TX17) (N := 7) hx hb hts mem_X19_likeRow_0 hown hK hP 1 rfl rfl 4 (by decide) (ow (k := 1) rfl) (fun _ h9 => h9) rfl dX19_like_18 ?_
    have key62 : ∀ (ms62_0 : Int) (ls : Array Slot) (H : Heap) (locs : List Loc), (0 ≤ ms62_0 ∧ ms62_0 ≤ 1) → lv_has ls 3 [(0, .ref h0), (1, .ref h2)] → va_P (dC, dI) vwQ [(h0, .inr (21, [.int (zI (z17_op)), v17_1, .int (zI (z17_a)), .int (zI (z17_b)), .int (zI (z17_regA)), .int (zI (z17_regB)), v17_6])), (h2, .inr (21, [.int (zI (z18_op)), v18_1, .int (zI (z18_a)), .int (zI (z18_b)), .int (zI (z18_regA)), .int (zI (z18_regB)), v18_6]))] H → va_D A [(h0, .inr (21, [.int (zI (z17_op)), v17_1, .int (zI (z17_a)), .int (zI (z17_b)), .int (zI (z17_regA)), .int (zI (z17_regB)), v17_6])), (h2, .inr (21, [.int (zI (z18_op)), v18_1, .int (zI (z18_a)), .int (zI (z18_b)), .int (zI (z18_regA)), .int (zI (z18_regB)), v18_6]))] → va_S A s.heap H locs → W p l e (headSpec v_X19_likeRow ({ frames := 1, cells := 0, slots := 0, locals := 20 })).room s m ([.ref h0, .ref h2] : List Value).toArray below meth c H locs 0 0 Q (F0 m 62 ls [.int (zI (ms62_0))]) := by
      intro ms62_0 ls H locs jms62_0 hl hP hD hS
      refine lv_istore_n (lv' := [(2, .int (zI (ms62_0))), (0, .ref h0), (1, .ref h2)]) hx hb dX19_like_62 rfl hl (by decide) rfl (fun ls hl => ?_)
      refine lv_iload_n hx hb dX19_like_63 rfl (lv_at hl 0 rfl) ?_
      refine lv_if_ne (tgt := 121) hx hb dX19_like_64 (by decide) (fun b64 => ?_) (fun b64 => ?_)
      · have yb64 : ¬ (ms62_0 : Int) = (0 : Int) := fun q => b64 ((zI_eq (a := ms62_0) (b := 0) (by omega) (by omega) (by omega) (by omega)).mpr q)
        refine lv_iconst (v := 1) hx hb dX19_like_121 (by decide) ?_
        refine lv_goto (tgt := 126) hx hb dX19_like_122 (by decide) ?_
        subst hQ
        refine W.widen (k := 0) (n := 0) (Nat.le_of_ble_eq_true rfl) (Nat.le_of_ble_eq_true rfl) ?_
        exact W.zret (v := 1) hx hb hr (by decide) (fun t ht hW => ⟨⟨1, (), rfl, ⟨1, rfl, by omega⟩, by rw [ht]; exact hP, va_K.moved hW.alike hK, hD⟩, hS.F ht⟩) hS.2.2 dX19_like_126
      · have yb64 : (ms62_0 : Int) = (0 : Int) := (zI_eq (a := ms62_0) (b := 0) (by omega) (by omega) (by omega) (by omega)).mp b64
        refine lv_aload_n hx hb dX19_like_67 rfl (lv_at hl 1 rfl) ?_
        refine va_get (D := (dC, dI)) (ci := 21) (v := .int (zI (z17_op))) (C := RX17) (T := TX17) (N := 7) hx hb hts mem_X19_likeRow_0 hown hK hP 0 rfl rfl 0 (by decide) (ow (k := 0) rfl) (fun _ h9 => h9) rfl dX19_like_68 ?_
        have hPc := hP.sub (ws' := []) [] rfl
        have hDc := hD.sub (ws' := []) [] (by decide) rfl
        have hKc := hK.sub (tys' := []) [] rfl
        have hFc := va_free (wc := []) hD hS hA [] rfl
        refine va_calli (va_runS (As := [.int (zI (z17_op))]) (rest := []) ⟨hx, hb, hml, hown, hts⟩ (c_X19_turns l dC dI z17_op (by omega) H.size) (cwS 1 hts g_X19_likeRow_X19_turns rfl rfl rfl (by decide +kernel) ⟨(Nat.le_of_ble_eq_true rfl), (Nat.le_of_ble_eq_true rfl)⟩) ⟨fun a U g mk q => by obtain ⟨q0, q1, qP, qK, qD⟩ := q; exact ⟨q0, q1, qP, va_K.moved (u := U) (U := U.calling g mk a) (Vm.Alike.refl U.vm) qK, qD⟩, fun U hU hW => ⟨rfl, by rw [hU], by rw [hU]; exact hPc, va_K.moved hW.alike hKc, hDc.weaken (fun _ _ _ _ => trivial)⟩⟩ rfl rfl hl.1 rfl (lv_room (Nat.le_of_ble_eq_true rfl)) dX19_like_71 ⟨(Nat.le_of_ble_eq_true rfl), (Nat.le_of_ble_eq_true rfl)⟩) hS (fun q _ h => hFc q h) hFc (fun r_1 u t H1 locs ht hvm hw hB hz1 hk1 hS => ?_)
        obtain ⟨hP1, hK1, hD1⟩ := hB
        rw [ht] at hP1
        have hK1 := va_K.moved hvm.symm hK1
        obtain ⟨hP, hD⟩ := va_join (wr := [(h0, .inr (21, [.int (zI (z17_op)), v17_1, .int (zI (z17_a)), .int (zI (z17_b)), .int (zI (z17_regA)), .int (zI (z17_regB)), v17_6])), (h2, .inr (21, [.int (zI (z18_op)), v18_1, .int (zI (z18_a)), .int (zI (z18_b)), .int (zI (z18_regA)), .int (zI (z18_regB)), v18_6]))]) (w1 := []) hP hD [] [0, 1] rfl rfl (by decide) (by decide) hk1 hFc hP1 hD1
        have hK := (hK.sub (tys' := []) [] rfl).app hK1
        generalize H1 = H at hP hS ⊢
        have hP : va_P (dC, dI) vwQ [(h0, .inr (21, [.int (zI (z17_op)), v17_1, .int (zI (z17_a)), .int (zI (z17_b)), .int (zI (z17_regA)), .int (zI (z17_regB)), v17_6])), (h2, .inr (21, [.int (zI (z18_op)), v18_1, .int (zI (z18_a)), .int (zI (z18_b)), .int (zI (z18_regA)), .int (zI (z18_regB)), v18_6]))] H := hP
        have hD : va_D A [(h0, .inr (21, [.int (zI (z17_op)), v17_1, .int (zI (z17_a)), .int (zI (z17_b)), .int (zI (z17_regA)), .int (zI (z17_regB)), v17_6])), (h2, .inr (21, [.int (zI (z18_op)), v18_1, .int (zI (z18_a)), .int (zI (z18_b)), .int (zI (z18_regA)), .int (zI (z18_regB)), v18_6]))] := hD
        have hK : va_K (dC, dI) vwQ [] s := hK
        refine W.widen (k := 0) (n := 0) (Nat.le_of_ble_eq_true rfl) (Nat.le_of_ble_eq_true rfl) ?_
        have hw_2 := hw
        obtain ⟨z_3, rfl, hzz_3⟩ := hw_2
        refine lv_if_eq (tgt := 125) hx hb dX19_like_74 (by decide) (fun b74 => ?_) (fun b74 => ?_)
        · have yb74 : (z_3 : Int) = (0 : Int) := (zI_eq (a := z_3) (b := 0) (by omega) (by omega) (by omega) (by omega)).mp b74
          refine lv_iconst (v := 0) hx hb dX19_like_125 (by decide) ?_
          subst hQ
          refine W.widen (k := 0) (n := 0) (Nat.le_of_ble_eq_true rfl) (Nat.le_of_ble_eq_true rfl) ?_
          exact W.zret (v := 0) hx hb hr (by decide) (fun t ht hW => ⟨⟨0, (), rfl, ⟨0, rfl, by omega⟩, by rw [ht]; exact hP, va_K.moved hW.alike hK, hD⟩, hS.F ht⟩) hS.2.2 dX19_like_126
        · have yb74 : ¬ (z_3 : Int) = (0 : Int) := fun q => b74 ((zI_eq (a := z_3) (b := 0) (by omega) (by omega) (by omega) (by omega)).mpr q)
          refine lv_aload_n hx hb dX19_like_77 rfl (lv_at hl 1 rfl) ?_
          refine va_get (D := (dC, dI)) (ci := 21) (v := .int (zI (z17_regA))) (C := RX17) (T := TX17) (N := 7) hx hb hts mem_X19_likeRow_0 hown hK hP 0 rfl rfl 4 (by decide) (ow (k := 1) rfl) (fun _ h9 => h9) rfl dX19_like_78 ?_
          refine lv_aload_n hx hb dX19_like_81 rfl (lv_at hl 2 rfl) ?_
          refine va_get (D := (dC, dI)) (ci := 21) (v := .int (zI (z18_regB))) (C := RX17) (T := TX17) (N := 7) hx hb hts mem_X19_likeRow_0 hown hK hP 1 rfl rfl 5 (by decide) (ow (k := 5) rfl) (fun _ h9 => h9) rfl dX19_like_82 ?_
          refine lv_icmp_ne (tgt := 125) hx hb dX19_like_85 (by decide) (fun b85 => ?_) (fun b85 => ?_)
          · have yb85 : ¬ (z17_regA : Int) = (z18_regB : Int) := fun q => b85 ((zI_eq (a := z17_regA) (b := z18_regB) (by omega) (by omega) (by omega) (by omega)).mpr q)
            refine lv_iconst (v := 0) hx hb dX19_like_125 (by decide) ?_
            subst hQ
            refine W.widen (k := 0) (n := 0) (Nat.le_of_ble_eq_true rfl) (Nat.le_of_ble_eq_true rfl) ?_
            exact W.zret (v := 0) hx hb hr (by decide) (fun t ht hW => ⟨⟨0, (), rfl, ⟨0, rfl, by omega⟩, by rw [ht]; exact hP, va_K.moved hW.alike hK, hD⟩, hS.F ht⟩) hS.2.2 dX19_like_126
          · have yb85 : (z17_regA : Int) = (z18_regB : Int) := (zI_eq (a := z17_regA) (b := z18_regB) (by omega) (by omega) (by omega) (by omega)).mp b85
            refine lv_aload_n hx hb dX19_like_88 rfl (lv_at hl 1 rfl) ?_
            refine va_get (D := (dC, dI)) (ci := 21) (v := .int (zI (z17_a))) (C := RX17) (T := TX17) (N := 7) hx hb hts mem_X19_likeRow_0 hown hK hP 0 rfl rfl 2 (by decide) (ow (k := 6) rfl) (fun _ h9 => h9) rfl dX19_like_89 ?_
            refine lv_aload_n hx hb dX19_like_92 rfl (lv_at hl 2 rfl) ?_
            refine va_get (D := (dC, dI)) (ci := 21) (v := .int (zI (z18_b))) (C := RX17) (T := TX17) (N := 7) hx hb hts mem_X19_likeRow_0 hown hK hP 1 rfl rfl 3 (by decide) (ow (k := 7) rfl) (fun _ h9 => h9) rfl dX19_like_93 ?_
            refine lv_icmp_ne (tgt := 125) hx hb dX19_like_96 (by decide) (fun b96 => ?_) (fun b96 => ?_)
            · have yb96 : ¬ (z17_a : Int) = (z18_b : Int) := fun q => b96 ((zI_eq (a := z17_a) (b := z18_b) (by omega) (by omega) (by omega) (by omega)).mpr q)
              refine lv_iconst (v := 0) hx hb dX19_like_125 (by decide) ?_
              subst hQ
              refine W.widen (k := 0) (n := 0) (Nat.le_of_ble_eq_true rfl) (Nat.le_of_ble_eq_true rfl) ?_
              exact W.zret (v := 0) hx hb hr (by decide) (fun t ht hW => ⟨⟨0, (), rfl, ⟨0, rfl, by omega⟩, by rw [ht]; exact hP, va_K.moved hW.alike hK, hD⟩, hS.F ht⟩) hS.2.2 dX19_like_126
            · have yb96 : (z17_a : Int) = (z18_b : Int) := (zI_eq (a := z17_a) (b := z18_b) (by omega) (by omega) (by omega) (by omega)).mp b96
              refine lv_aload_n hx hb dX19_like_99 rfl (lv_at hl 1 rfl) ?_
              refine va_get (D := (dC, dI)) (ci := 21) (v := .int (zI (z17_regB))) (C := RX17) (T := TX17) (N := 7) hx hb hts mem_X19_likeRow_0 hown hK hP 0 rfl rfl 5 (by decide) (ow (k := 5) rfl) (fun _ h9 => h9) rfl dX19_like_100 ?_
              refine lv_aload_n hx hb dX19_like_103 rfl (lv_at hl 2 rfl) ?_
              refine va_get (D := (dC, dI)) (ci := 21) (v := .int (zI (z18_regA))) (C := RX17) (T := TX17) (N := 7) hx hb hts mem_X19_likeRow_0 hown hK hP 1 rfl rfl 4 (by decide) (ow (k := 1) rfl) (fun _ h9 => h9) rfl dX19_like_104 ?_
              refine lv_icmp_ne (tgt := 125) hx hb dX19_like_107 (by decide) (fun b107 => ?_) (fun b107 => ?_)
              · have yb107 : ¬ (z17_regB : Int) = (z18_regA : Int) := fun q => b107 ((zI_eq (a := z17_regB) (b := z18_regA) (by omega) (by omega) (by omega) (by omega)).mpr q)
                refine lv_iconst (v := 0) hx hb dX19_like_125 (by decide) ?_
                subst hQ
                refine W.widen (k := 0) (n := 0) (Nat.le_of_ble_eq_true rfl) (Nat.le_of_ble_eq_true rfl) ?_
                exact W.zret (v := 0) hx hb hr (by decide) (fun t ht hW => ⟨⟨0, (), rfl, ⟨0, rfl, by omega⟩, by rw [ht]; exact hP, va_K.moved hW.alike hK, hD⟩, hS.F ht⟩) hS.2.2 dX19_like_126
              · have yb107 : (z17_regB : Int) = (z18_regA : Int) := (zI_eq (a := z17_regB) (b := z18_regA) (by omega) (by omega) (by omega) (by omega)).mp b107
                refine lv_aload_n hx hb dX19_like_110 rfl (lv_at hl 1 rfl) ?_
                refine va_get (D := (dC, dI)) (ci := 21) (v := .int (zI (z17_b))) (C := RX17) (T := TX17) (N := 7) hx hb hts mem_X19_likeRow_0 hown hK hP 0 rfl rfl 3 (by decide) (ow (k := 7) rfl) (fun _ h9 => h9) rfl dX19_like_111 ?_
                refine lv_aload_n hx hb dX19_like_114 rfl (lv_at hl 2 rfl) ?_
                refine va_get (D := (dC, dI)) (ci := 21) (v := .int (zI (z18_a))) (C := RX17) (T := TX17) (N := 7) hx hb hts mem_X19_likeRow_0 hown hK hP 1 rfl rfl 2 (by decide) (ow (k := 6) rfl) (fun _ h9 => h9) rfl dX19_like_115 ?_
                refine lv_icmp_ne (tgt := 125) hx hb dX19_like_118 (by decide) (fun b118 => ?_) (fun b118 => ?_)
                · have yb118 : ¬ (z17_b : Int) = (z18_a : Int) := fun q => b118 ((zI_eq (a := z17_b) (b := z18_a) (by omega) (by omega) (by omega) (by omega)).mpr q)
                  refine lv_iconst (v := 0) hx hb dX19_like_125 (by decide) ?_
                  subst hQ
                  refine W.widen (k := 0) (n := 0) (Nat.le_of_ble_eq_true rfl) (Nat.le_of_ble_eq_true rfl) ?_
                  exact W.zret (v := 0) hx hb hr (by decide) (fun t ht hW => ⟨⟨0, (), rfl, ⟨0, rfl, by omega⟩, by rw [ht]; exact hP, va_K.moved hW.alike hK, hD⟩, hS.F ht⟩) hS.2.2 dX19_like_126
                · have yb118 : (z17_b : Int) = (z18_a : Int) := (zI_eq (a := z17_b) (b := z18_a) (by omega) (by omega) (by omega) (by omega)).mp b118
                  refine lv_iconst (v := 1) hx hb dX19_like_121 (by decide) ?_
                  refine lv_goto (tgt := 126) hx hb dX19_like_122 (by decide) ?_
                  subst hQ
                  refine W.widen (k := 0) (n := 0) (Nat.le_of_ble_eq_true rfl) (Nat.le_of_ble_eq_true rfl) ?_
                  exact W.zret (v := 1) hx hb hr (by decide) (fun t ht hW => ⟨⟨1, (), rfl, ⟨1, rfl, by omega⟩, by rw [ht]; exact hP, va_K.moved hW.alike hK, hD⟩, hS.F ht⟩) hS.2.2 dX19_like_126
    refine lv_icmp_ne (tgt := 61) hx hb dX19_like_21 (by decide) (fun b21 => ?_) (fun b21 => ?_)
    · have yb21 : ¬ (z17_regA : Int) = (z18_regA : Int) := fun q => b21 ((zI_eq (a := z17_regA) (b := z18_regA) (by omega) (by omega) (by omega) (by omega)).mpr q)
      refine lv_iconst (v := 0) hx hb dX19_like_61 (by decide) ?_
      exact key62 0 ls H _ (by omega) (lv_sub hl [0, 1] rfl) hP hD hS
    · have yb21 : (z17_regA : Int) = (z18_regA : Int) := (zI_eq (a := z17_regA) (b := z18_regA) (by omega) (by omega) (by omega) (by omega)).mp b21
      refine lv_aload_n hx hb dX19_like_24 rfl (lv_at hl 0 rfl) ?_
      refine va_get (D := (dC, dI)) (ci := 21) (v := .int (zI (z17_a))) (C := RX17) (T := TX17) (N := 7) hx hb hts mem_X19_likeRow_0 hown hK hP 0 rfl rfl 2 (by decide) (ow (k := 6) rfl) (fun _ h9 => h9) rfl dX19_like_25 ?_
      refine lv_aload_n hx hb dX19_like_28 rfl (lv_at hl 1 rfl) ?_
      refine va_get (D := (dC, dI)) (ci := 21) (v := .int (zI (z18_a))) (C := RX17) (T := TX17) (N := 7) hx hb hts mem_X19_likeRow_0 hown hK hP 1 rfl rfl 2 (by decide) (ow (k := 6) rfl) (fun _ h9 => h9) rfl dX19_like_29 ?_
      refine lv_icmp_ne (tgt := 61) hx hb dX19_like_32 (by decide) (fun b32 => ?_) (fun b32 => ?_)
      · have yb32 : ¬ (z17_a : Int) = (z18_a : Int) := fun q => b32 ((zI_eq (a := z17_a) (b := z18_a) (by omega) (by omega) (by omega) (by omega)).mpr q)
        refine lv_iconst (v := 0) hx hb dX19_like_61 (by decide) ?_
        exact key62 0 ls H _ (by omega) (lv_sub hl [0, 1] rfl) hP hD hS
      · have yb32 : (z17_a : Int) = (z18_a : Int) := (zI_eq (a := z17_a) (b := z18_a) (by omega) (by omega) (by omega) (by omega)).mp b32
        refine lv_aload_n hx hb dX19_like_35 rfl (lv_at hl 0 rfl) ?_
        refine va_get (D := (dC, dI)) (ci := 21) (v := .int (zI (z17_regB))) (C := RX17) (T := TX17) (N := 7) hx hb hts mem_X19_likeRow_0 hown hK hP 0 rfl rfl 5 (by decide) (ow (k := 5) rfl) (fun _ h9 => h9) rfl dX19_like_36 ?_
        refine lv_aload_n hx hb dX19_like_39 rfl (lv_at hl 1 rfl) ?_
        refine va_get (D := (dC, dI)) (ci := 21) (v := .int (zI (z18_regB))) (C := RX17) (T := TX17) (N := 7) hx hb hts mem_X19_likeRow_0 hown hK hP 1 rfl rfl 5 (by decide) (ow (k := 5) rfl) (fun _ h9 => h9) rfl dX19_like_40 ?_
        refine lv_icmp_ne (tgt := 61) hx hb dX19_like_43 (by decide) (fun b43 => ?_) (fun b43 => ?_)
        · have yb43 : ¬ (z17_regB : Int) = (z18_regB : Int) := fun q => b43 ((zI_eq (a := z17_regB) (b := z18_regB) (by omega) (by omega) (by omega) (by omega)).mpr q)
          refine lv_iconst (v := 0) hx hb dX19_like_61 (by decide) ?_
          exact key62 0 ls H _ (by omega) (lv_sub hl [0, 1] rfl) hP hD hS
        · have yb43 : (z17_regB : Int) = (z18_regB : Int) := (zI_eq (a := z17_regB) (b := z18_regB) (by omega) (by omega) (by omega) (by omega)).mp b43
          refine lv_aload_n hx hb dX19_like_46 rfl (lv_at hl 0 rfl) ?_
          refine va_get (D := (dC, dI)) (ci := 21) (v := .int (zI (z17_b))) (C := RX17) (T := TX17) (N := 7) hx hb hts mem_X19_likeRow_0 hown hK hP 0 rfl rfl 3 (by decide) (ow (k := 7) rfl) (fun _ h9 => h9) rfl dX19_like_47 ?_
          refine lv_aload_n hx hb dX19_like_50 rfl (lv_at hl 1 rfl) ?_
          refine va_get (D := (dC, dI)) (ci := 21) (v := .int (zI (z18_b))) (C := RX17) (T := TX17) (N := 7) hx hb hts mem_X19_likeRow_0 hown hK hP 1 rfl rfl 3 (by decide) (ow (k := 7) rfl) (fun _ h9 => h9) rfl dX19_like_51 ?_
          refine lv_icmp_ne (tgt := 61) hx hb dX19_like_54 (by decide) (fun b54 => ?_) (fun b54 => ?_)
          · have yb54 : ¬ (z17_b : Int) = (z18_b : Int) := fun q => b54 ((zI_eq (a := z17_b) (b := z18_b) (by omega) (by omega) (by omega) (by omega)).mpr q)
            refine lv_iconst (v := 0) hx hb dX19_like_61 (by decide) ?_
            exact key62 0 ls H _ (by omega) (lv_sub hl [0, 1] rfl) hP hD hS
          · have yb54 : (z17_b : Int) = (z18_b : Int) := (zI_eq (a := z17_b) (b := z18_b) (by omega) (by omega) (by omega) (by omega)).mp b54
            refine lv_iconst (v := 1) hx hb dX19_like_57 (by decide) ?_
            refine lv_goto (tgt := 62) hx hb dX19_like_58 (by decide) ?_
            exact key62 1 ls H _ (by omega) (lv_sub hl [0, 1] rfl) hP hD hS
  · have yb8 : ¬ (z17_op : Int) = (z18_op : Int) := fun q => b8 ((zI_eq (a := z17_op) (b := z18_op) (by omega) (by omega) (by omega) (by omega)).mpr q)
    refine lv_iconst (v := 0) hx hb dX19_like_11 (by decide) ?_
    subst hQ
    refine W.widen (k := 0) (n := 0) (Nat.le_of_ble_eq_true rfl) (Nat.le_of_ble_eq_true rfl) ?_
    exact W.zret (v := 0) hx hb hr (by decide) (fun t ht hW => ⟨⟨0, (), rfl, ⟨0, rfl, by omega⟩, by rw [ht]; exact hP, va_K.moved hW.alike hK, hD⟩, hS.F ht⟩) hS.2.2 dX19_like_12
theorem dX19_value_0 : decode cX19_value 0 = .ok (.iload_n 1, 1) := by decide +kernel
theorem dX19_value_1 : decode cX19_value 1 = .ok (.ifCond .eq 12, 3) := by decide +kernel
theorem dX19_value_13 : decode cX19_value 13 = .ok (.iload_n 2, 1) := by decide +kernel
theorem dX19_value_14 : decode cX19_value 14 = .ok (.ireturn, 1) := by decide +kernel
theorem dX19_value_4 : decode cX19_value 4 = .ok (.aload_n 0, 1) := by decide +kernel
theorem dX19_value_5 : decode cX19_value 5 = .ok (.getfield 454, 3) := by decide +kernel
theorem dX19_value_8 : decode cX19_value 8 = .ok (.iload_n 2, 1) := by decide +kernel
theorem dX19_value_9 : decode cX19_value 9 = .ok (.iaload, 1) := by decide +kernel
theorem dX19_value_10 : decode cX19_value 10 = .ok (.goto 4, 3) := by decide +kernel
def o_X19_value : List Cond := [.fieldLink RX19 454 "SsaForgeModel" "registers" "[I"]
def v_X19_value : List Cond := .code yX19_value cX19_value 3 (some .int) :: (o_X19_value ++ (wsX190 ++ []))
theorem mow_X19_value : ∀ w ∈ o_X19_value, w ∈ v_X19_value := fun _ h => List.mem_cons_of_mem _ (List.mem_append_left _ h)
theorem mem_X19_value_0 : ∀ w ∈ wsX190, w ∈ v_X19_value := fun _ h => List.mem_cons_of_mem _ (List.mem_append_right _ (List.mem_append_left _ h))
set_option maxRecDepth 20000 in
theorem gw_X19_value : v_X19_value.all goodWord = true := by decide +kernel
set_option maxHeartbeats 4000000 in
set_option maxRecDepth 100000 in
theorem c_X19_value (l : Launch) (dC : Nat → ClassId) (dI : Nat → Nat → Nat) (h0 : Nat) (v19_0 : Value) (v19_1 : Value) (v19_2 : Value) (v19_3 : Value) (v19_4 : Value) (v19_5 : Value) (v19_6 : Value) (v19_7 : Value) (v19_8 : Value) (v19_9 : Value) (v19_10 : Value) (v19_11 : Value) (v19_12 : Value) (v19_13 : Value) (v19_14 : Value) (v19_15 : Value) (v19_16 : Value) (v19_17 : Value) (v19_18 : Value) (v19_19 : Value) (v19_20 : Value) (v19_21 : Value) (v19_22 : Value) (v19_23 : Value) (q_1924 : Nat) (cA_1924 : ClassId) (fa19_registers : Nat → Int32) (v19_25 : Value) (v19_26 : Value) (v19_27 : Value) (v19_28 : Value) (v19_29 : Value) (v19_30 : Value) (v19_31 : Value) (v19_32 : Value) (v19_33 : Value) (v19_34 : Value) (v19_35 : Value) (v19_36 : Value) (v19_37 : Value) (v19_38 : Value) (v19_39 : Value) (v19_40 : Value) (g : Int) (v : Int) (hNg : 0 ≤ g ∧ g ≤ 1) (hNv : -2147483648 ≤ v ∧ v ≤ 2147483647) (hNr : g = 0 ∨ (0 ≤ v ∧ v ≤ 1001)) (sz : Nat) : Met l yX19_value v_X19_value ({ frames := 0, cells := 0, slots := 0, locals := 0 }) (va_Pc [.ref h0, .int (zI (g)), .int (zI (v))] (fun U => U.heap.size = sz ∧ va_P (dC, dI) vwQ [(h0, .inr (16, [v19_0, v19_1, v19_2, v19_3, v19_4, v19_5, v19_6, v19_7, v19_8, v19_9, v19_10, v19_11, v19_12, v19_13, v19_14, v19_15, v19_16, v19_17, v19_18, v19_19, v19_20, v19_21, v19_22, v19_23, .ref q_1924, v19_25, v19_26, v19_27, v19_28, v19_29, v19_30, v19_31, v19_32, v19_33, v19_34, v19_35, v19_36, v19_37, v19_38, v19_39, v19_40])), (q_1924, .inl (cA_1924, 1002, .inl fa19_registers))] U.heap ∧ va_K (dC, dI) vwQ [(cA_1924, .int)] U ∧ va_D (fun _ => True) [(h0, .inr (16, [v19_0, v19_1, v19_2, v19_3, v19_4, v19_5, v19_6, v19_7, v19_8, v19_9, v19_10, v19_11, v19_12, v19_13, v19_14, v19_15, v19_16, v19_17, v19_18, v19_19, v19_20, v19_21, v19_22, v19_23, .ref q_1924, v19_25, v19_26, v19_27, v19_28, v19_29, v19_30, v19_31, v19_32, v19_33, v19_34, v19_35, v19_36, v19_37, v19_38, v19_39, v19_40])), (q_1924, .inl (cA_1924, 1002, .inl fa19_registers))])) (va_Qi (fun (r : Int32) (_ : Unit) => True) (fun (_ : Unit) (t : State) => va_P (dC, dI) vwQ [(h0, .inr (16, [v19_0, v19_1, v19_2, v19_3, v19_4, v19_5, v19_6, v19_7, v19_8, v19_9, v19_10, v19_11, v19_12, v19_13, v19_14, v19_15, v19_16, v19_17, v19_18, v19_19, v19_20, v19_21, v19_22, v19_23, .ref q_1924, v19_25, v19_26, v19_27, v19_28, v19_29, v19_30, v19_31, v19_32, v19_33, v19_34, v19_35, v19_36, v19_37, v19_38, v19_39, v19_40])), (q_1924, .inl (cA_1924, 1002, .inl fa19_registers))] t.heap ∧ va_K (dC, dI) vwQ [(cA_1924, .int)] t ∧ va_D (va_A [(h0, .inr (16, [v19_0, v19_1, v19_2, v19_3, v19_4, v19_5, v19_6, v19_7, v19_8, v19_9, v19_10, v19_11, v19_12, v19_13, v19_14, v19_15, v19_16, v19_17, v19_18, v19_19, v19_20, v19_21, v19_22, v19_23, .ref q_1924, v19_25, v19_26, v19_27, v19_28, v19_29, v19_30, v19_31, v19_32, v19_33, v19_34, v19_35, v19_36, v19_37, v19_38, v19_39, v19_40])), (q_1924, .inl (cA_1924, 1002, .inl fa19_registers))] sz) [(h0, .inr (16, [v19_0, v19_1, v19_2, v19_3, v19_4, v19_5, v19_6, v19_7, v19_8, v19_9, v19_10, v19_11, v19_12, v19_13, v19_14, v19_15, v19_16, v19_17, v19_18, v19_19, v19_20, v19_21, v19_22, v19_23, .ref q_1924, v19_25, v19_26, v19_27, v19_28, v19_29, v19_30, v19_31, v19_32, v19_33, v19_34, v19_35, v19_36, v19_37, v19_38, v19_39, v19_40])), (q_1924, .inl (cA_1924, 1002, .inl fa19_registers))]) (va_A [(h0, .inr (16, [v19_0, v19_1, v19_2, v19_3, v19_4, v19_5, v19_6, v19_7, v19_8, v19_9, v19_10, v19_11, v19_12, v19_13, v19_14, v19_15, v19_16, v19_17, v19_18, v19_19, v19_20, v19_21, v19_22, v19_23, .ref q_1924, v19_25, v19_26, v19_27, v19_28, v19_29, v19_30, v19_31, v19_32, v19_33, v19_34, v19_35, v19_36, v19_37, v19_38, v19_39, v19_40])), (q_1924, .inl (cA_1924, 1002, .inl fa19_registers))] sz)) 0 0 (va_A [(h0, .inr (16, [v19_0, v19_1, v19_2, v19_3, v19_4, v19_5, v19_6, v19_7, v19_8, v19_9, v19_10, v19_11, v19_12, v19_13, v19_14, v19_15, v19_16, v19_17, v19_18, v19_19, v19_20, v19_21, v19_22, v19_23, .ref q_1924, v19_25, v19_26, v19_27, v19_28, v19_29, v19_30, v19_31, v19_32, v19_33, v19_34, v19_35, v19_36, v19_37, v19_38, v19_39, v19_40])), (q_1924, .inl (cA_1924, 1002, .inl fa19_registers))] sz) := by
  refine Met.ofW (cc := cX19_value) (maxL := 3) (ret := (some .int)) (by decide) rfl ?_
  intro p e s m args below meth c s₁ B hml hv
  obtain ⟨rfl, hsz, hP, hK, hD0⟩ := hv
  have hx := B.exec
  have hb := B.bytes
  have hr := B.returns
  have hts := atoms_spec (ws := v_X19_value) B.pre
  have hown : s.vm.findClass RX19 = some m.cls := findClass_of_methodNamed B.named
  have hlocks := B.notSynchronized
  have ow : ∀ {k : Nat} {w : Cond}, o_X19_value[k]? = some w → w.before ([.ref h0, .int (zI (g)), .int (zI (v))] : List Value).toArray s = true := fun h => hts _ (mow_X19_value _ (List.mem_of_getElem? h))
  subst hsz
  have hD := hD0.self (sz := s.heap.size)
  generalize hAe : va_A [(h0, .inr (16, [v19_0, v19_1, v19_2, v19_3, v19_4, v19_5, v19_6, v19_7, v19_8, v19_9, v19_10, v19_11, v19_12, v19_13, v19_14, v19_15, v19_16, v19_17, v19_18, v19_19, v19_20, v19_21, v19_22, v19_23, .ref q_1924, v19_25, v19_26, v19_27, v19_28, v19_29, v19_30, v19_31, v19_32, v19_33, v19_34, v19_35, v19_36, v19_37, v19_38, v19_39, v19_40])), (q_1924, .inl (cA_1924, 1002, .inl fa19_registers))] s.heap.size = A at hD ⊢
  have hA : ∀ q : Nat, s.heap.size ≤ q → A q := fun q h => by rw [← hAe]; exact Or.inr h
  have hS : va_S A s.heap s.heap [] := va_S.rf
  have hP : va_P (dC, dI) vwQ [(h0, .inr (16, [v19_0, v19_1, v19_2, v19_3, v19_4, v19_5, v19_6, v19_7, v19_8, v19_9, v19_10, v19_11, v19_12, v19_13, v19_14, v19_15, v19_16, v19_17, v19_18, v19_19, v19_20, v19_21, v19_22, v19_23, .ref q_1924, v19_25, v19_26, v19_27, v19_28, v19_29, v19_30, v19_31, v19_32, v19_33, v19_34, v19_35, v19_36, v19_37, v19_38, v19_39, v19_40])), (q_1924, .inl (cA_1924, 1002, .inl fa19_registers))] s.heap := hP
  have hl := lv_entry ([.ref h0, .int (zI (g)), .int (zI (v))]) (n := 3) (Nat.le_of_ble_eq_true rfl)
  rw [lg_entry_eq]
  generalize (lg_sl ([.ref h0, .int (zI (g)), .int (zI (v))]) ++ List.replicate (3 - (lg_sl ([.ref h0, .int (zI (g)), .int (zI (v))])).length) Slot.unset).toArray = ls at hl ⊢
  have hl : lv_has ls 3 [(0, .ref h0), (1, .int (zI (g))), (2, .int (zI (v)))] := hl
  obtain ⟨H, hH⟩ : ∃ H, H = s.heap := ⟨_, rfl⟩
  rw [← hH] at hP
  have hS : va_S A s.heap H [] := by rw [hH]; exact hS
  rw [← hH]
  refine zW_cap (fun Q hQ => ?_)
  refine lv_iload_n hx hb dX19_value_0 rfl (lv_at hl 1 rfl) ?_
  refine lv_if_eq (tgt := 13) hx hb dX19_value_1 (by decide) (fun b1 => ?_) (fun b1 => ?_)
  · have yb1 : (g : Int) = (0 : Int) := (zI_eq (a := g) (b := 0) (by omega) (by omega) (by omega) (by omega)).mp b1
    refine lv_iload_n hx hb dX19_value_13 rfl (lv_at hl 2 rfl) ?_
    subst hQ
    refine W.widen (k := 0) (n := 0) (Nat.le_of_ble_eq_true rfl) (Nat.le_of_ble_eq_true rfl) ?_
    exact W.iret (v := (zI (v))) hx hb hr (fun t ht hW => ⟨⟨(zI (v)), (), rfl, trivial, by rw [ht]; exact hP, va_K.moved hW.alike hK, hD⟩, hS.F ht⟩) hS.2.2 dX19_value_14
  · have yb1 : ¬ (g : Int) = (0 : Int) := fun q => b1 ((zI_eq (a := g) (b := 0) (by omega) (by omega) (by omega) (by omega)).mpr q)
    refine lv_aload_n hx hb dX19_value_4 rfl (lv_at hl 0 rfl) ?_
    refine va_get (D := (dC, dI)) (ci := 16) (v := .ref q_1924) (C := RX19) (T := TX19) (N := 41) hx hb hts mem_X19_value_0 hown hK hP 0 rfl rfl 24 (by decide) (ow (k := 0) rfl) (fun _ h9 => h9) rfl dX19_value_5 ?_
    refine lv_iload_n hx hb dX19_value_8 rfl (lv_at hl 2 rfl) ?_
    refine va_iald hx hb hK hP 1 0 rfl rfl (zI_in (a := v) (n := 1002) (by omega) (by omega) (by decide)) dX19_value_9 ?_
    refine lv_topi (fun x_2001 _ => ?_)
    refine lv_goto (tgt := 14) hx hb dX19_value_10 (by decide) ?_
    subst hQ
    refine W.widen (k := 0) (n := 0) (Nat.le_of_ble_eq_true rfl) (Nat.le_of_ble_eq_true rfl) ?_
    exact W.iret (v := x_2001) hx hb hr (fun t ht hW => ⟨⟨x_2001, (), rfl, trivial, by rw [ht]; exact hP, va_K.moved hW.alike hK, hD⟩, hS.F ht⟩) hS.2.2 dX19_value_14
