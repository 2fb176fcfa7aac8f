def o_X16_nextK : List Cond := [.fieldLink RX16 38 "SsaForgeModel$Reader" "kind" "I", .fieldLink RX16 41 "SsaForgeModel$Reader" "before" "I", .fieldLink RX16 44 "SsaForgeModel$Reader" "at" "I", .fieldLink RX16 32 "SsaForgeModel$Reader" "n" "I", .fieldLink RX16 47 "SsaForgeModel$Reader" "place" "I", .fieldLink RX16 11 "SsaForgeModel$Reader" "text" "Ljava/lang/String;", .fieldLink RX16 28 "SsaForgeModel$Reader" "t" "[B", .methodLink RX16 54 yX16_isLetter, .static yX16_isLetter, .initialized RX16, .methodLink RX16 50 yX16_isDigit, .static yX16_isDigit, .methodLink RX16 60 yX16_number, .instanceMethod yX16_number, .selects RX16 yX16_number yX16_number, .methodLink RX16 64 yX16_symbol, .instanceMethod yX16_symbol, .selects RX16 yX16_symbol yX16_symbol, .methodLink RX16 57 yX16_word, .instanceMethod yX16_word, .selects RX16 yX16_word yX16_word]
def v_X16_nextK : List Cond := .code yX16_next cX16_next 3 none :: (o_X16_nextK ++ (wsX160 ++ (v_X16_isLetter ++ (v_X16_isDigit ++ (v_X16_number ++ (v_X16_symbolK ++ (v_X16_wordK ++ [])))))))
theorem mow_X16_nextK : ∀ w ∈ o_X16_nextK, w ∈ v_X16_nextK := fun _ h => List.mem_cons_of_mem _ (List.mem_append_left _ h)
theorem mem_X16_nextK_0 : ∀ w ∈ wsX160, w ∈ v_X16_nextK := fun _ h => List.mem_cons_of_mem _ (List.mem_append_right _ (List.mem_append_left _ h))
theorem mem_X16_nextK_1 : ∀ w ∈ v_X16_isLetter, w ∈ v_X16_nextK := fun _ h => List.mem_cons_of_mem _ (List.mem_append_right _ (List.mem_append_right _ (List.mem_append_left _ h)))
theorem mem_X16_nextK_2 : ∀ w ∈ v_X16_isDigit, w ∈ v_X16_nextK := fun _ h => List.mem_cons_of_mem _ (List.mem_append_right _ (List.mem_append_right _ (List.mem_append_right _ (List.mem_append_left _ h))))
theorem mem_X16_nextK_3 : ∀ w ∈ v_X16_number, w ∈ v_X16_nextK := fun _ h => List.mem_cons_of_mem _ (List.mem_append_right _ (List.mem_append_right _ (List.mem_append_right _ (List.mem_append_right _ (List.mem_append_left _ h)))))
theorem mem_X16_nextK_4 : ∀ w ∈ v_X16_symbolK, w ∈ v_X16_nextK := fun _ h => List.mem_cons_of_mem _ (List.mem_append_right _ (List.mem_append_right _ (List.mem_append_right _ (List.mem_append_right _ (List.mem_append_right _ (List.mem_append_left _ h))))))
theorem mem_X16_nextK_5 : ∀ w ∈ v_X16_wordK, w ∈ v_X16_nextK := fun _ h => List.mem_cons_of_mem _ (List.mem_append_right _ (List.mem_append_right _ (List.mem_append_right _ (List.mem_append_right _ (List.mem_append_right _ (List.mem_append_right _ (List.mem_append_left _ h)))))))
set_option maxRecDepth 20000 in
theorem gw_X16_nextK : v_X16_nextK.all goodWord = true := by decide +kernel
set_option maxRecDepth 20000 in
theorem g_X16_nextK_X16_isLetter : GoodIn v_X16_nextK (wsS RX16 54 yX16_isLetter v_X16_isLetter) := goodIn_app (goodIn_sub (fun w h => mow_X16_nextK w (by revert w h; decide +kernel)) (by decide +kernel)) (goodIn_sub mem_X16_nextK_1 gw_X16_isLetter)
set_option maxRecDepth 20000 in
theorem g_X16_nextK_X16_isDigit : GoodIn v_X16_nextK (wsS RX16 50 yX16_isDigit v_X16_isDigit) := goodIn_app (goodIn_sub (fun w h => mow_X16_nextK w (by revert w h; decide +kernel)) (by decide +kernel)) (goodIn_sub mem_X16_nextK_2 gw_X16_isDigit)
set_option maxRecDepth 20000 in
theorem g_X16_nextK_X16_number : GoodIn v_X16_nextK (wsV RX16 60 RX16 yX16_number v_X16_number) := goodIn_app (goodIn_sub (fun w h => mow_X16_nextK w (by revert w h; decide +kernel)) (by decide +kernel)) (goodIn_sub mem_X16_nextK_3 gw_X16_number)
set_option maxRecDepth 20000 in
theorem g_X16_nextK_X16_symbolK : GoodIn v_X16_nextK (wsV RX16 64 RX16 yX16_symbol v_X16_symbolK) := goodIn_app (goodIn_sub (fun w h => mow_X16_nextK w (by revert w h; decide +kernel)) (by decide +kernel)) (goodIn_sub mem_X16_nextK_4 gw_X16_symbolK)
set_option maxRecDepth 20000 in
theorem g_X16_nextK_X16_wordK : GoodIn v_X16_nextK (wsV RX16 57 RX16 yX16_word v_X16_wordK) := goodIn_app (goodIn_sub (fun w h => mow_X16_nextK w (by revert w h; decide +kernel)) (by decide +kernel)) (goodIn_sub mem_X16_nextK_5 gw_X16_wordK)
set_option maxHeartbeats 4000000 in
set_option maxRecDepth 100000 in
theorem c_X16_nextK (l : Launch) (dC : Nat → ClassId) (dI : Nat → Nat → Nat) (h0 : Nat) (z16_n : Int) (z16_at : Int) (z16_kind : Int) (z16_place : Int) (z16_value : Int) (z16_before : Int) (v16_7 : Value) (v16_8 : Value) (v16_9 : Value) (v16_10 : Value) (v16_11 : Value) (v16_12 : Value) (v16_13 : Value) (q_t : Nat) (cT : ClassId) (a_t : Int → Int) (L : List Nat) (P : PO) (sa_RX16_9 : Nat) (hNz16_n : 0 ≤ z16_n ∧ z16_n ≤ 8192) (hNz16_at : 0 ≤ z16_at ∧ z16_at ≤ 8192) (hNz16_kind : 0 ≤ z16_kind ∧ z16_kind ≤ 6) (hNz16_place : 0 ≤ z16_place ∧ z16_place ≤ 8192) (hNz16_value : -2147483648 ≤ z16_value ∧ z16_value ≤ 2147483647) (hNz16_before : 0 ≤ z16_before ∧ z16_before ≤ 6) (hR_a_t : ∀ j : Int, -128 ≤ a_t j ∧ a_t j ≤ 127) (hNd : z16_at ≤ z16_n) (sz : Nat) (sa_RX16_9 : Nat) (HU : Heap) (sv_RX16_9 : Nat) (sa_RX16_119 : Nat) (sv_RX16_119 : Nat) (sa_RX16_100 : Nat) (sv_RX16_100 : Nat) (sa_RX16_117 : Nat) (sa_RX16_100 : Nat) (sv_RX16_117 : Nat) (sa_RX16_98 : Nat) (sv_RX16_98 : Nat) : Met l yX16_next v_X16_nextK ({ frames := 7, cells := ((z16_n - z16_at + 20).toNat), slots := ((10 * (z16_n - z16_at) + 120).toNat), locals := 194 }) (va_Pc [.ref h0] (fun U => U.heap.size = sz ∧ va_P (dC, dI) vwQ ([(h0, .inr (14, [.ref q_t, .int (zI (z16_n)), .int (zI (z16_at)), .int (zI (z16_kind)), .int (zI (z16_place)), .int (zI (z16_value)), .int (zI (z16_before)), v16_7, v16_8, v16_9, v16_10, v16_11, v16_12, v16_13])), (q_t, .inl (cT, 8192, .inl (fun j : Nat => zI (a_t (j : Int)))))] ++ va_pl L (pE P)) U.heap ∧ va_K (dC, dI) vwQ [(cT, .byte)] U ∧ va_D (fun _ => True) ([(h0, .inr (14, [.ref q_t, .int (zI (z16_n)), .int (zI (z16_at)), .int (zI (z16_kind)), .int (zI (z16_place)), .int (zI (z16_value)), .int (zI (z16_before)), v16_7, v16_8, v16_9, v16_10, v16_11, v16_12, v16_13])), (q_t, .inl (cT, 8192, .inl (fun j : Nat => zI (a_t (j : Int)))))] ++ va_pl L (pE P)) ∧ vk_R RX16 9 "" sa_RX16_9 U ∧ U.heap = HU ∧ va_Z "java/lang/String" "COMPACT_STRINGS" "Z" (.int 1) (va_A ([(h0, .inr (14, [.ref q_t, .int (zI (z16_n)), .int (zI (z16_at)), .int (zI (z16_kind)), .int (zI (z16_place)), .int (zI (z16_value)), .int (zI (z16_before)), v16_7, v16_8, v16_9, v16_10, v16_11, v16_12, v16_13])), (q_t, .inl (cT, 8192, .inl (fun j : Nat => zI (a_t (j : Int)))))] ++ va_pl L (pE P)) sz) U U.heap ∧ vs_S sa_RX16_9 sv_RX16_9 0 (fun j : Nat => ([] : List Int32).getD j 0) (va_A ([(h0, .inr (14, [.ref q_t, .int (zI (z16_n)), .int (zI (z16_at)), .int (zI (z16_kind)), .int (zI (z16_place)), .int (zI (z16_value)), .int (zI (z16_before)), v16_7, v16_8, v16_9, v16_10, v16_11, v16_12, v16_13])), (q_t, .inl (cT, 8192, .inl (fun j : Nat => zI (a_t (j : Int)))))] ++ va_pl L (pE P)) sz) U U.heap ∧ va_Nw (.castable "[B" "java/lang/Cloneable") U ∧ vk_R RX16 119 "+-*/%&|^<(),:=" sa_RX16_119 U ∧ vs_S sa_RX16_119 sv_RX16_119 14 (fun j : Nat => ([43, 45, 42, 47, 37, 38, 124, 94, 60, 40, 41, 44, 58, 61] : List Int32).getD j 0) (va_A ([(h0, .inr (14, [.ref q_t, .int (zI (z16_n)), .int (zI (z16_at)), .int (zI (z16_kind)), .int (zI (z16_place)), .int (zI (z16_value)), .int (zI (z16_before)), v16_7, v16_8, v16_9, v16_10, v16_11, v16_12, v16_13])), (q_t, .inl (cT, 8192, .inl (fun j : Nat => zI (a_t (j : Int)))))] ++ va_pl L (pE P)) sz) U U.heap ∧ vs_S sa_RX16_100 sv_RX16_100 1 (fun j : Nat => ([32] : List Int32).getD j 0) (va_A ([(h0, .inr (14, [.ref q_t, .int (zI (z16_n)), .int (zI (z16_at)), .int (zI (z16_kind)), .int (zI (z16_place)), .int (zI (z16_value)), .int (zI (z16_before)), v16_7, v16_8, v16_9, v16_10, v16_11, v16_12, v16_13])), (q_t, .inl (cT, 8192, .inl (fun j : Nat => zI (a_t (j : Int)))))] ++ va_pl L (pE P)) sz) U U.heap ∧ vk_R RX16 117 " << >> <= == != " sa_RX16_117 U ∧ vk_R RX16 100 " " sa_RX16_100 U ∧ vs_S sa_RX16_117 sv_RX16_117 16 (fun j : Nat => ([32, 60, 60, 32, 62, 62, 32, 60, 61, 32, 61, 61, 32, 33, 61, 32] : List Int32).getD j 0) (va_A ([(h0, .inr (14, [.ref q_t, .int (zI (z16_n)), .int (zI (z16_at)), .int (zI (z16_kind)), .int (zI (z16_place)), .int (zI (z16_value)), .int (zI (z16_before)), v16_7, v16_8, v16_9, v16_10, v16_11, v16_12, v16_13])), (q_t, .inl (cT, 8192, .inl (fun j : Nat => zI (a_t (j : Int)))))] ++ va_pl L (pE P)) sz) U U.heap ∧ vk_R RX16 98 " in show if jump ret phi " sa_RX16_98 U ∧ vs_S sa_RX16_98 sv_RX16_98 25 (fun j : Nat => ([32, 105, 110, 32, 115, 104, 111, 119, 32, 105, 102, 32, 106, 117, 109, 112, 32, 114, 101, 116, 32, 112, 104, 105, 32] : List Int32).getD j 0) (va_A ([(h0, .inr (14, [.ref q_t, .int (zI (z16_n)), .int (zI (z16_at)), .int (zI (z16_kind)), .int (zI (z16_place)), .int (zI (z16_value)), .int (zI (z16_before)), v16_7, v16_8, v16_9, v16_10, v16_11, v16_12, v16_13])), (q_t, .inl (cT, 8192, .inl (fun j : Nat => zI (a_t (j : Int)))))] ++ va_pl L (pE P)) sz) U U.heap)) (va_Qv (fun _ : Unit => True) (fun (_ : Unit) (t : State) => ∃ (z0_9 : Int) (z1_9 : Int) (z2_9 : Int) (z3_9 : Int) (z4_9 : Int) (q5_9 : Nat) (Ln_9 : List Nat) (Pn_9 : PO) (kc_9 : Nat) (ks_9 : Nat), ((RM HU t.heap kc_9 ks_9 ∧ ((ks_9 : Int) ≤ TKV (z1_9) (z0_9 - z2_9) ∧ (kc_9 : Int) ≤ TKW (z1_9) (z0_9 - z2_9))) ∧ ((0 ≤ z0_9 ∧ z0_9 ≤ 8192) ∧ (0 ≤ z1_9 ∧ z1_9 ≤ 6) ∧ (0 ≤ z2_9 ∧ z2_9 ≤ 8192) ∧ (-2147483648 ≤ z3_9 ∧ z3_9 ≤ 2147483647) ∧ (0 ≤ z4_9 ∧ z4_9 ≤ 6) ∧ (((z16_at ≤ z2_9 ∧ z2_9 ≤ z0_9 ∧ z0_9 ≤ z16_n) ∧ TKQ (z1_9) (z2_9) (z0_9)) ∧ KDN (z1_9) (z0_9) (z3_9) z16_n z16_at ∧ EXT9 L P Ln_9 Pn_9 ∧ TXN L Ln_9 Pn_9 ∧ TXT Ln_9 Pn_9 cT sa_RX16_9 q5_9 ∧ TXK9 (z1_9) Pn_9 sa_RX16_9 q5_9))) ∧ va_P (dC, dI) vwQ ([(h0, .inr (14, [.ref q_t, .int (zI (z16_n)), .int (zI (z0_9)), .int (zI (z1_9)), .int (zI (z2_9)), .int (zI (z3_9)), .int (zI (z4_9)), .ref q5_9, v16_8, v16_9, v16_10, v16_11, v16_12, v16_13])), (q_t, .inl (cT, 8192, .inl (fun j : Nat => zI (a_t (j : Int)))))] ++ va_pl Ln_9 (pE Pn_9)) t.heap ∧ va_K (dC, dI) vwQ [(cT, .byte)] t ∧ va_D (va_A ([(h0, .inr (14, [.ref q_t, .int (zI (z16_n)), .int (zI (z16_at)), .int (zI (z16_kind)), .int (zI (z16_place)), .int (zI (z16_value)), .int (zI (z16_before)), v16_7, v16_8, v16_9, v16_10, v16_11, v16_12, v16_13])), (q_t, .inl (cT, 8192, .inl (fun j : Nat => zI (a_t (j : Int)))))] ++ va_pl L (pE P)) sz) ([(h0, .inr (14, [.ref q_t, .int (zI (z16_n)), .int (zI (z0_9)), .int (zI (z1_9)), .int (zI (z2_9)), .int (zI (z3_9)), .int (zI (z4_9)), .ref q5_9, v16_8, v16_9, v16_10, v16_11, v16_12, v16_13])), (q_t, .inl (cT, 8192, .inl (fun j : Nat => zI (a_t (j : Int)))))] ++ va_pl Ln_9 (pE Pn_9))) (va_A ([(h0, .inr (14, [.ref q_t, .int (zI (z16_n)), .int (zI (z16_at)), .int (zI (z16_kind)), .int (zI (z16_place)), .int (zI (z16_value)), .int (zI (z16_before)), v16_7, v16_8, v16_9, v16_10, v16_11, v16_12, v16_13])), (q_t, .inl (cT, 8192, .inl (fun j : Nat => zI (a_t (j : Int)))))] ++ va_pl L (pE P)) sz)) ((z16_n - z16_at + 20).toNat) ((10 * (z16_n - z16_at) + 120).toNat) (va_A ([(h0, .inr (14, [.ref q_t, .int (zI (z16_n)), .int (zI (z16_at)), .int (zI (z16_kind)), .int (zI (z16_place)), .int (zI (z16_value)), .int (zI (z16_before)), v16_7, v16_8, v16_9, v16_10, v16_11, v16_12, v16_13])), (q_t, .inl (cT, 8192, .inl (fun j : Nat => zI (a_t (j : Int)))))] ++ va_pl L (pE P)) sz) := by
  refine Met.ofW (cc := cX16_next) (maxL := 3) (ret := none) (by decide) rfl ?_
  intro p e s m args below meth c s₁ B hml hv
  obtain ⟨rfl, hsz, hP, hK, hD0, hp0, hp1, hp2, hp3, hp4, hp5, hp6, hp7, hp8, hp9, hp10, hp11, hp12⟩ := hv
  have hx := B.exec
  have hb := B.bytes
  have hr := B.returns
  have hts := atoms_spec (ws := v_X16_nextK) B.pre
  have hown : s.vm.findClass RX16 = some m.cls := findClass_of_methodNamed B.named
  have hlocks := B.notSynchronized
  have ow : ∀ {k : Nat} {w : Cond}, o_X16_nextK[k]? = some w → w.before ([.ref h0] : List Value).toArray s = true := fun h => hts _ (mow_X16_nextK _ (List.mem_of_getElem? h))
  subst hsz
  have hD := hD0.self (sz := s.heap.size)
  generalize hAe : va_A ([(h0, .inr (14, [.ref q_t, .int (zI (z16_n)), .int (zI (z16_at)), .int (zI (z16_kind)), .int (zI (z16_place)), .int (zI (z16_value)), .int (zI (z16_before)), v16_7, v16_8, v16_9, v16_10, v16_11, v16_12, v16_13])), (q_t, .inl (cT, 8192, .inl (fun j : Nat => zI (a_t (j : Int)))))] ++ va_pl L (pE P)) s.heap.size = A at hD hp2 hp3 hp6 hp7 hp10 hp12 ⊢
  have hA : ∀ q : Nat, s.heap.size ≤ q → A q := fun q h => by rw [← hAe]; exact Or.inr h
  have hS : va_S A s.heap s.heap [] := va_S.rf
  have hP : va_P (dC, dI) vwQ ([(h0, .inr (14, [.ref q_t, .int (zI (z16_n)), .int (zI (z16_at)), .int (zI (z16_kind)), .int (zI (z16_place)), .int (zI (z16_value)), .int (zI (z16_before)), v16_7, v16_8, v16_9, v16_10, v16_11, v16_12, v16_13])), (q_t, .inl (cT, 8192, .inl (fun j : Nat => zI (a_t (j : Int)))))] ++ va_pl L (pE P)) s.heap := hP
  have hl := lv_entry ([.ref h0]) (n := 3) (Nat.le_of_ble_eq_true rfl)
  rw [lg_entry_eq]
  generalize (lg_sl ([.ref h0]) ++ List.replicate (3 - (lg_sl ([.ref h0])).length) Slot.unset).toArray = ls at hl ⊢
  have hl : lv_has ls 3 [(0, .ref h0)] := hl
  obtain ⟨H, hH⟩ : ∃ H, H = s.heap := ⟨_, rfl⟩
  rw [← hH] at hP
  have hS : va_S A s.heap H [] := by rw [hH]; exact hS
  rw [← hH]
  refine zW_cap (fun Q hQ => ?_)
  refine lv_aload_n hx hb dX16_next_0 rfl (lv_at hl 0 rfl) ?_
  refine lv_aload_n hx hb dX16_next_1 rfl (lv_at hl 0 rfl) ?_
  refine va_get (D := (dC, dI)) (ci := 14) (v := .int (zI (z16_kind))) (C := RX16) (T := TX16) (N := 14) hx hb hts mem_X16_nextK_0 hown hK hP 0 rfl rfl 3 (by decide) (ow (k := 0) rfl) (fun _ h9 => h9) rfl dX16_next_2 ?_
  refine va_put (D := (dC, dI)) (ci := 14) (v := .int (zI (z16_kind))) (ty := .int) (C := RX16) (T := TX16) (N := 14) hx hb hts mem_X16_nextK_0 tyX16 tyX16_ok nmX16 hown hK hP hD hS 0 rfl rfl 6 (by decide) (ow (k := 1) rfl) (fun _ h9 => h9) rfl (by decide +kernel) rfl rfl (by first | exact Nat.le_of_ble_eq_true rfl | exact (show 0 ≤ (z16_n - z16_at + 20).toNat from (by omega)) | exact (show 0 ≤ (10 * (z16_n - z16_at) + 120).toNat from (by omega))) dX16_next_5 (fun H locs hP hD hS => ?_)
  have hP : va_P (dC, dI) vwQ ([(h0, .inr (14, [.ref q_t, .int (zI (z16_n)), .int (zI (z16_at)), .int (zI (z16_kind)), .int (zI (z16_place)), .int (zI (z16_value)), .int (zI (z16_kind)), v16_7, v16_8, v16_9, v16_10, v16_11, v16_12, v16_13])), (q_t, .inl (cT, 8192, .inl (fun j : Nat => zI (a_t (j : Int)))))] ++ va_pl L (pE P)) H := hP
  have hD : va_D A ([(h0, .inr (14, [.ref q_t, .int (zI (z16_n)), .int (zI (z16_at)), .int (zI (z16_kind)), .int (zI (z16_place)), .int (zI (z16_value)), .int (zI (z16_kind)), v16_7, v16_8, v16_9, v16_10, v16_11, v16_12, v16_13])), (q_t, .inl (cT, 8192, .inl (fun j : Nat => zI (a_t (j : Int)))))] ++ va_pl L (pE P)) := hD
  have key8 : ∀ n8 : Nat, ∀ (e8_0_2 : Int) (ls : Array Slot) (H : Heap) (locs : List Loc), (0 ≤ e8_0_2 ∧ e8_0_2 ≤ 8192) → (z16_at ≤ e8_0_2 ∧ e8_0_2 ≤ z16_n) → ((z16_n - e8_0_2 : Int).toNat) < n8 → lv_has ls 3 [(0, .ref h0)] → va_P (dC, dI) vwQ ([(h0, .inr (14, [.ref q_t, .int (zI (z16_n)), .int (zI (e8_0_2)), .int (zI (z16_kind)), .int (zI (z16_place)), .int (zI (z16_value)), .int (zI (z16_kind)), v16_7, v16_8, v16_9, v16_10, v16_11, v16_12, v16_13])), (q_t, .inl (cT, 8192, .inl (fun j : Nat => zI (a_t (j : Int)))))] ++ va_pl L (pE P)) H → va_D A ([(h0, .inr (14, [.ref q_t, .int (zI (z16_n)), .int (zI (e8_0_2)), .int (zI (z16_kind)), .int (zI (z16_place)), .int (zI (z16_value)), .int (zI (z16_kind)), v16_7, v16_8, v16_9, v16_10, v16_11, v16_12, v16_13])), (q_t, .inl (cT, 8192, .inl (fun j : Nat => zI (a_t (j : Int)))))] ++ va_pl L (pE P)) → va_S A s.heap H locs → W p l e (headSpec v_X16_nextK ({ frames := 7, cells := ((z16_n - z16_at + 20).toNat), slots := ((10 * (z16_n - z16_at) + 120).toNat), locals := 194 })).room s m ([.ref h0] : List Value).toArray below meth c H locs 0 0 Q (F0 m 8 ls []) := by
    intro n8
    induction n8 with
    | zero => intro e8_0_2 ls H locs je8_0_2 ja hm8; exact absurd hm8 (by omega)
    | succ n8 ih8 =>
      intro e8_0_2 ls H locs je8_0_2 ja hm8 hl hP hD hS
      refine lv_aload_n hx hb dX16_next_8 rfl (lv_at hl 0 rfl) ?_
      refine va_get (D := (dC, dI)) (ci := 14) (v := .int (zI (e8_0_2))) (C := RX16) (T := TX16) (N := 14) hx hb hts mem_X16_nextK_0 hown hK hP 0 rfl rfl 2 (by decide) (ow (k := 2) rfl) (fun _ h9 => h9) rfl dX16_next_9 ?_
      refine lv_aload_n hx hb dX16_next_12 rfl (lv_at hl 0 rfl) ?_
      refine va_get (D := (dC, dI)) (ci := 14) (v := .int (zI (z16_n))) (C := RX16) (T := TX16) (N := 14) hx hb hts mem_X16_nextK_0 hown hK hP 0 rfl rfl 1 (by decide) (ow (k := 3) rfl) (fun _ h9 => h9) rfl dX16_next_13 ?_
      refine lv_icmp_ge (tgt := 110) hx hb dX16_next_16 (by decide) (fun b16 => ?_) (fun b16 => ?_)
      · have yb16 : (z16_n : Int) ≤ (e8_0_2 : Int) := (zI_le (a := z16_n) (b := e8_0_2) (by omega) (by omega) (by omega) (by omega)).mp b16
        refine lv_aload_n hx hb dX16_next_110 rfl (lv_at hl 0 rfl) ?_
        refine lv_aload_n hx hb dX16_next_111 rfl (lv_at hl 0 rfl) ?_
        refine va_get (D := (dC, dI)) (ci := 14) (v := .int (zI (e8_0_2))) (C := RX16) (T := TX16) (N := 14) hx hb hts mem_X16_nextK_0 hown hK hP 0 rfl rfl 2 (by decide) (ow (k := 2) rfl) (fun _ h9 => h9) rfl dX16_next_112 ?_
        refine va_put (D := (dC, dI)) (ci := 14) (v := .int (zI (e8_0_2))) (ty := .int) (C := RX16) (T := TX16) (N := 14) hx hb hts mem_X16_nextK_0 tyX16 tyX16_ok nmX16 hown hK hP hD hS 0 rfl rfl 4 (by decide) (ow (k := 4) rfl) (fun _ h9 => h9) rfl (by decide +kernel) rfl rfl (by first | exact Nat.le_of_ble_eq_true rfl | exact (show 0 ≤ (z16_n - z16_at + 20).toNat from (by omega)) | exact (show 0 ≤ (10 * (z16_n - z16_at) + 120).toNat from (by omega))) dX16_next_115 (fun H locs hP hD hS => ?_)
        have hP : va_P (dC, dI) vwQ ([(h0, .inr (14, [.ref q_t, .int (zI (z16_n)), .int (zI (e8_0_2)), .int (zI (z16_kind)), .int (zI (e8_0_2)), .int (zI (z16_value)), .int (zI (z16_kind)), v16_7, v16_8, v16_9, v16_10, v16_11, v16_12, v16_13])), (q_t, .inl (cT, 8192, .inl (fun j : Nat => zI (a_t (j : Int)))))] ++ va_pl L (pE P)) H := hP
        have hD : va_D A ([(h0, .inr (14, [.ref q_t, .int (zI (z16_n)), .int (zI (e8_0_2)), .int (zI (z16_kind)), .int (zI (e8_0_2)), .int (zI (z16_value)), .int (zI (z16_kind)), v16_7, v16_8, v16_9, v16_10, v16_11, v16_12, v16_13])), (q_t, .inl (cT, 8192, .inl (fun j : Nat => zI (a_t (j : Int)))))] ++ va_pl L (pE P)) := hD
        refine lv_aload_n hx hb dX16_next_118 rfl (lv_at hl 0 rfl) ?_
        refine va_ldcS hx hb hown hp0 dX16_next_119 ?_
        refine va_put (D := (dC, dI)) (ci := 14) (v := .ref sa_RX16_9) (ty := .object "java/lang/String") (C := RX16) (T := TX16) (N := 14) hx hb hts mem_X16_nextK_0 tyX16 tyX16_ok nmX16 hown hK hP hD hS 0 rfl rfl 7 (by decide) (ow (k := 5) rfl) (fun _ h9 => h9) rfl (by decide +kernel) rfl rfl (by first | exact Nat.le_of_ble_eq_true rfl | exact (show 0 ≤ (z16_n - z16_at + 20).toNat from (by omega)) | exact (show 0 ≤ (10 * (z16_n - z16_at) + 120).toNat from (by omega))) dX16_next_121 (fun H locs hP hD hS => ?_)
        have hP : va_P (dC, dI) vwQ ([(h0, .inr (14, [.ref q_t, .int (zI (z16_n)), .int (zI (e8_0_2)), .int (zI (z16_kind)), .int (zI (e8_0_2)), .int (zI (z16_value)), .int (zI (z16_kind)), .ref sa_RX16_9, v16_8, v16_9, v16_10, v16_11, v16_12, v16_13])), (q_t, .inl (cT, 8192, .inl (fun j : Nat => zI (a_t (j : Int)))))] ++ va_pl L (pE P)) H := hP
        have hD : va_D A ([(h0, .inr (14, [.ref q_t, .int (zI (z16_n)), .int (zI (e8_0_2)), .int (zI (z16_kind)), .int (zI (e8_0_2)), .int (zI (z16_value)), .int (zI (z16_kind)), .ref sa_RX16_9, v16_8, v16_9, v16_10, v16_11, v16_12, v16_13])), (q_t, .inl (cT, 8192, .inl (fun j : Nat => zI (a_t (j : Int)))))] ++ va_pl L (pE P)) := hD
        refine lv_aload_n hx hb dX16_next_124 rfl (lv_at hl 0 rfl) ?_
        refine va_get (D := (dC, dI)) (ci := 14) (v := .int (zI (e8_0_2))) (C := RX16) (T := TX16) (N := 14) hx hb hts mem_X16_nextK_0 hown hK hP 0 rfl rfl 2 (by decide) (ow (k := 2) rfl) (fun _ h9 => h9) rfl dX16_next_125 ?_
        refine lv_aload_n hx hb dX16_next_128 rfl (lv_at hl 0 rfl) ?_
        refine va_get (D := (dC, dI)) (ci := 14) (v := .int (zI (z16_n))) (C := RX16) (T := TX16) (N := 14) hx hb hts mem_X16_nextK_0 hown hK hP 0 rfl rfl 1 (by decide) (ow (k := 3) rfl) (fun _ h9 => h9) rfl dX16_next_129 ?_
        refine lv_icmp_ne (tgt := 141) hx hb dX16_next_132 (by decide) (fun b132 => ?_) (fun b132 => ?_)
        · have yb132 : ¬ (e8_0_2 : Int) = (z16_n : Int) := fun q => b132 ((zI_eq (a := e8_0_2) (b := z16_n) (by omega) (by omega) (by omega) (by omega)).mpr q)
          refine lv_aload_n hx hb dX16_next_141 rfl (lv_at hl 0 rfl) ?_
          refine va_get (D := (dC, dI)) (ci := 14) (v := .ref q_t) (C := RX16) (T := TX16) (N := 14) hx hb hts mem_X16_nextK_0 hown hK hP 0 rfl rfl 0 (by decide) (ow (k := 6) rfl) (fun _ h9 => h9) rfl dX16_next_142 ?_
          refine lv_aload_n hx hb dX16_next_145 rfl (lv_at hl 0 rfl) ?_
          refine va_get (D := (dC, dI)) (ci := 14) (v := .int (zI (e8_0_2))) (C := RX16) (T := TX16) (N := 14) hx hb hts mem_X16_nextK_0 hown hK hP 0 rfl rfl 2 (by decide) (ow (k := 2) rfl) (fun _ h9 => h9) rfl dX16_next_146 ?_
          refine va_bald hx hb hK hP 1 0 rfl rfl (zI_in (a := e8_0_2) (n := 8192) (by omega) (by omega) (by decide)) dX16_next_149 ?_
          refine lv_topi (fun z ez => ?_)
          obtain rfl : z = zI (a_t (e8_0_2)) := ez.trans (zI_ld (a_t) (by omega) (by omega))
          have k1 := hR_a_t (e8_0_2)
          refine lv_istore_n (lv' := [(1, .int (zI (a_t (e8_0_2)))), (0, .ref h0)]) hx hb dX16_next_150 rfl hl (by decide) rfl (fun ls hl => ?_)
          have key209 : ∀ (mm : Int) (ls : Array Slot) (H : Heap) (locs : List Loc), (mm = 0 ∨ (mm = 1 ∧ e8_0_2 + 1 < z16_n)) → lv_has ls 3 [(0, .ref h0), (1, .int (zI (a_t (e8_0_2)))), (2, .int (zI (mm)))] → va_P (dC, dI) vwQ ([(h0, .inr (14, [.ref q_t, .int (zI (z16_n)), .int (zI (e8_0_2)), .int (zI (z16_kind)), .int (zI (e8_0_2)), .int (zI (z16_value)), .int (zI (z16_kind)), .ref sa_RX16_9, v16_8, v16_9, v16_10, v16_11, v16_12, v16_13])), (q_t, .inl (cT, 8192, .inl (fun j : Nat => zI (a_t (j : Int)))))] ++ va_pl L (pE P)) H → va_D A ([(h0, .inr (14, [.ref q_t, .int (zI (z16_n)), .int (zI (e8_0_2)), .int (zI (z16_kind)), .int (zI (e8_0_2)), .int (zI (z16_value)), .int (zI (z16_kind)), .ref sa_RX16_9, v16_8, v16_9, v16_10, v16_11, v16_12, v16_13])), (q_t, .inl (cT, 8192, .inl (fun j : Nat => zI (a_t (j : Int)))))] ++ va_pl L (pE P)) → va_S A s.heap H locs → W p l e (headSpec v_X16_nextK ({ frames := 7, cells := ((z16_n - z16_at + 20).toNat), slots := ((10 * (z16_n - z16_at) + 120).toNat), locals := 194 })).room s m ([.ref h0] : List Value).toArray below meth c H locs 0 0 Q (F0 m 209 ls []) := by
            intro mm ls H locs jm hl hP hD hS
            refine lv_iload_n hx hb dX16_next_209 rfl (lv_at hl 1 rfl) ?_
            have hPc := hP.sub (ws' := []) [] rfl
            have hDc := hD.sub (ws' := []) [] (by decide) rfl
            have hKc := hK.sub (tys' := []) [] rfl
            have hFc := va_free (wc := []) hD hS hA [] rfl
            refine va_calli (va_runS (As := [.int (zI (a_t (e8_0_2)))]) (rest := []) ⟨hx, hb, hml, hown, hts⟩ (c_X16_isLetter l dC dI (a_t (e8_0_2)) (by omega) H.size) (cwS 1 hts g_X16_nextK_X16_isLetter rfl rfl rfl (by decide +kernel) ⟨(Nat.le_of_ble_eq_true rfl), (Nat.le_of_ble_eq_true rfl)⟩) ⟨fun a U g mk q => by obtain ⟨q0, q1, qP, qK, qD⟩ := q; exact ⟨q0, q1, qP, va_K.moved (u := U) (U := U.calling g mk a) (Vm.Alike.refl U.vm) qK, qD⟩, fun U hU hW => ⟨rfl, by rw [hU], by rw [hU]; exact hPc, va_K.moved hW.alike hKc, hDc.weaken (fun _ _ _ _ => trivial)⟩⟩ rfl rfl hl.1 rfl (lv_room (Nat.le_of_ble_eq_true rfl)) dX16_next_210 ⟨(Nat.zero_le _), (Nat.zero_le _)⟩) hS (fun q _ h => hFc q h) hFc (fun r_1 u t H1 locs ht hvm hw hB hz1 hk1 hS => ?_)
            obtain ⟨hP1, hK1, hD1⟩ := hB
            rw [ht] at hP1
            have hK1 := va_K.moved hvm.symm hK1
            obtain ⟨hP, hD⟩ := va_joinQ (X := [(h0, .inr (14, [.ref q_t, .int (zI (z16_n)), .int (zI (e8_0_2)), .int (zI (z16_kind)), .int (zI (e8_0_2)), .int (zI (z16_value)), .int (zI (z16_kind)), .ref sa_RX16_9, v16_8, v16_9, v16_10, v16_11, v16_12, v16_13])), (q_t, .inl (cT, 8192, .inl (fun j : Nat => zI (a_t (j : Int)))))]) (cx := []) (wr := [(h0, .inr (14, [.ref q_t, .int (zI (z16_n)), .int (zI (e8_0_2)), .int (zI (z16_kind)), .int (zI (e8_0_2)), .int (zI (z16_value)), .int (zI (z16_kind)), .ref sa_RX16_9, v16_8, v16_9, v16_10, v16_11, v16_12, v16_13])), (q_t, .inl (cT, 8192, .inl (fun j : Nat => zI (a_t (j : Int)))))]) (w1 := []) (pl := va_pl L (pE P)) hP hD [] [0, 1] rfl rfl (by decide) (by decide) hk1 hFc hP1 hD1
            have hK := (hK.sub (tys' := [(cT, .byte)]) [0] rfl).app hK1
            generalize H1 = H at hP hS ⊢
            have hP : va_P (dC, dI) vwQ ([(h0, .inr (14, [.ref q_t, .int (zI (z16_n)), .int (zI (e8_0_2)), .int (zI (z16_kind)), .int (zI (e8_0_2)), .int (zI (z16_value)), .int (zI (z16_kind)), .ref sa_RX16_9, v16_8, v16_9, v16_10, v16_11, v16_12, v16_13])), (q_t, .inl (cT, 8192, .inl (fun j : Nat => zI (a_t (j : Int)))))] ++ va_pl L (pE P)) H := hP
            have hD : va_D A ([(h0, .inr (14, [.ref q_t, .int (zI (z16_n)), .int (zI (e8_0_2)), .int (zI (z16_kind)), .int (zI (e8_0_2)), .int (zI (z16_value)), .int (zI (z16_kind)), .ref sa_RX16_9, v16_8, v16_9, v16_10, v16_11, v16_12, v16_13])), (q_t, .inl (cT, 8192, .inl (fun j : Nat => zI (a_t (j : Int)))))] ++ va_pl L (pE P)) := hD
            have hK : va_K (dC, dI) vwQ [(cT, .byte)] s := hK
            refine W.widen (k := 0) (n := 0) (Nat.le_of_ble_eq_true rfl) (Nat.le_of_ble_eq_true rfl) ?_
            have hw_2 := hw
            obtain ⟨z_3, rfl, hzz_3⟩ := hw_2
            refine lv_if_eq (tgt := 223) hx hb dX16_next_213 (by decide) (fun b213 => ?_) (fun b213 => ?_)
            · have yb213 : (z_3 : Int) = (0 : Int) := (zI_eq (a := z_3) (b := 0) (by omega) (by omega) (by omega) (by omega)).mp b213
              refine lv_iload_n hx hb dX16_next_223 rfl (lv_at hl 1 rfl) ?_
              have hPc := hP.sub (ws' := []) [] rfl
              have hDc := hD.sub (ws' := []) [] (by decide) rfl
              have hKc := hK.sub (tys' := []) [] rfl
              have hFc := va_free (wc := []) hD hS hA [] rfl
              refine va_calli (va_runS (As := [.int (zI (a_t (e8_0_2)))]) (rest := []) ⟨hx, hb, hml, hown, hts⟩ (c_X16_isDigit l dC dI (a_t (e8_0_2)) (by omega) H.size) (cwS 1 hts g_X16_nextK_X16_isDigit rfl rfl rfl (by decide +kernel) ⟨(Nat.le_of_ble_eq_true rfl), (Nat.le_of_ble_eq_true rfl)⟩) ⟨fun a U g mk q => by obtain ⟨q0, q1, qP, qK, qD⟩ := q; exact ⟨q0, q1, qP, va_K.moved (u := U) (U := U.calling g mk a) (Vm.Alike.refl U.vm) qK, qD⟩, fun U hU hW => ⟨rfl, by rw [hU], by rw [hU]; exact hPc, va_K.moved hW.alike hKc, hDc.weaken (fun _ _ _ _ => trivial)⟩⟩ rfl rfl hl.1 rfl (lv_room (Nat.le_of_ble_eq_true rfl)) dX16_next_224 ⟨(Nat.zero_le _), (Nat.zero_le _)⟩) hS (fun q _ h => hFc q h) hFc (fun r_4 u t H1 locs ht hvm hw hB hz1 hk1 hS => ?_)
              obtain ⟨hP1, hK1, hD1⟩ := hB
              rw [ht] at hP1
              have hK1 := va_K.moved hvm.symm hK1
              obtain ⟨hP, hD⟩ := va_joinQ (X := [(h0, .inr (14, [.ref q_t, .int (zI (z16_n)), .int (zI (e8_0_2)), .int (zI (z16_kind)), .int (zI (e8_0_2)), .int (zI (z16_value)), .int (zI (z16_kind)), .ref sa_RX16_9, v16_8, v16_9, v16_10, v16_11, v16_12, v16_13])), (q_t, .inl (cT, 8192, .inl (fun j : Nat => zI (a_t (j : Int)))))]) (cx := []) (wr := [(h0, .inr (14, [.ref q_t, .int (zI (z16_n)), .int (zI (e8_0_2)), .int (zI (z16_kind)), .int (zI (e8_0_2)), .int (zI (z16_value)), .int (zI (z16_kind)), .ref sa_RX16_9, v16_8, v16_9, v16_10, v16_11, v16_12, v16_13])), (q_t, .inl (cT, 8192, .inl (fun j : Nat => zI (a_t (j : Int)))))]) (w1 := []) (pl := va_pl L (pE P)) hP hD [] [0, 1] rfl rfl (by decide) (by decide) hk1 hFc hP1 hD1
              have hK := (hK.sub (tys' := [(cT, .byte)]) [0] rfl).app hK1
              generalize H1 = H at hP hS ⊢
              have hP : va_P (dC, dI) vwQ ([(h0, .inr (14, [.ref q_t, .int (zI (z16_n)), .int (zI (e8_0_2)), .int (zI (z16_kind)), .int (zI (e8_0_2)), .int (zI (z16_value)), .int (zI (z16_kind)), .ref sa_RX16_9, v16_8, v16_9, v16_10, v16_11, v16_12, v16_13])), (q_t, .inl (cT, 8192, .inl (fun j : Nat => zI (a_t (j : Int)))))] ++ va_pl L (pE P)) H := hP
              have hD : va_D A ([(h0, .inr (14, [.ref q_t, .int (zI (z16_n)), .int (zI (e8_0_2)), .int (zI (z16_kind)), .int (zI (e8_0_2)), .int (zI (z16_value)), .int (zI (z16_kind)), .ref sa_RX16_9, v16_8, v16_9, v16_10, v16_11, v16_12, v16_13])), (q_t, .inl (cT, 8192, .inl (fun j : Nat => zI (a_t (j : Int)))))] ++ va_pl L (pE P)) := hD
              have hK : va_K (dC, dI) vwQ [(cT, .byte)] s := hK
              refine W.widen (k := 0) (n := 0) (Nat.le_of_ble_eq_true rfl) (Nat.le_of_ble_eq_true rfl) ?_
              have hw_5 := hw
              obtain ⟨z_6, rfl, hzz_6⟩ := hw_5
              refine lv_if_ne (tgt := 234) hx hb dX16_next_227 (by decide) (fun b227 => ?_) (fun b227 => ?_)
              · have yb227 : ¬ (z_6 : Int) = (0 : Int) := fun q => b227 ((zI_eq (a := z_6) (b := 0) (by omega) (by omega) (by omega) (by omega)).mpr q)
                refine lv_aload_n hx hb dX16_next_234 rfl (lv_at hl 0 rfl) ?_
                refine lv_iload_n hx hb dX16_next_235 rfl (lv_at hl 2 rfl) ?_
                have hPc := hP.sub (ws' := [(h0, .inr (14, [.ref q_t, .int (zI (z16_n)), .int (zI (e8_0_2)), .int (zI (z16_kind)), .int (zI (e8_0_2)), .int (zI (z16_value)), .int (zI (z16_kind)), .ref sa_RX16_9, v16_8, v16_9, v16_10, v16_11, v16_12, v16_13])), (q_t, .inl (cT, 8192, .inl (fun j : Nat => zI (a_t (j : Int)))))]) [0, 1] rfl
                have hDc := hD.sub (ws' := [(h0, .inr (14, [.ref q_t, .int (zI (z16_n)), .int (zI (e8_0_2)), .int (zI (z16_kind)), .int (zI (e8_0_2)), .int (zI (z16_value)), .int (zI (z16_kind)), .ref sa_RX16_9, v16_8, v16_9, v16_10, v16_11, v16_12, v16_13])), (q_t, .inl (cT, 8192, .inl (fun j : Nat => zI (a_t (j : Int)))))]) [0, 1] (by decide) rfl
                have hKc := hK.sub (tys' := [(cT, .byte)]) [0] rfl
                have hFc := va_free (wc := [(h0, .inr (14, [.ref q_t, .int (zI (z16_n)), .int (zI (e8_0_2)), .int (zI (z16_kind)), .int (zI (e8_0_2)), .int (zI (z16_value)), .int (zI (z16_kind)), .ref sa_RX16_9, v16_8, v16_9, v16_10, v16_11, v16_12, v16_13])), (q_t, .inl (cT, 8192, .inl (fun j : Nat => zI (a_t (j : Int)))))]) hD hS hA [0, 1] rfl
                refine va_callv (va_runV (As := [.int (zI (mm))]) (rest := []) ⟨hx, hb, hml, hown, hts⟩ (c_X16_number l dC dI h0 z16_n e8_0_2 z16_kind (.int (zI (e8_0_2))) z16_value (.int (zI (z16_kind))) (.ref sa_RX16_9) v16_8 v16_9 v16_10 v16_11 v16_12 v16_13 q_t cT a_t mm (by omega) (by omega) (by omega) (by omega) hR_a_t (by omega) H.size) (cwV 1 hts g_X16_nextK_X16_number rfl rfl rfl (by decide +kernel) ⟨(Nat.le_of_ble_eq_true rfl), (Nat.le_of_ble_eq_true rfl)⟩) ⟨fun a U g mk q => by obtain ⟨q0, q1, qP, qK, qD⟩ := q; exact ⟨q0, q1, qP, va_K.moved (u := U) (U := U.calling g mk a) (Vm.Alike.refl U.vm) qK, qD⟩, va_recv hKc hPc (ci := 14) (q0 := 0) rfl rfl, fun U hU hW => ⟨rfl, by rw [hU], by rw [hU]; exact hPc, va_K.moved hW.alike hKc, hDc.weaken (fun _ _ _ _ => trivial)⟩⟩ rfl rfl hl.1 rfl (lv_room (Nat.le_of_ble_eq_true rfl)) dX16_next_236 ⟨(Nat.zero_le _), (Nat.zero_le _)⟩) hS (fun q _ h => hFc q h) hFc (fun  u t H1 locs ht hvm hw hB hz1 hk1 hS => ?_)
                obtain ⟨z0_7, z1_8, z2_9, hxt_9, hP1, hK1, hD1⟩ := hB
                rw [ht] at hP1
                have hK1 := va_K.moved hvm.symm hK1
                obtain ⟨hP, hD⟩ := va_joinQ (X := [(h0, .inr (14, [.ref q_t, .int (zI (z16_n)), .int (zI (e8_0_2)), .int (zI (z16_kind)), .int (zI (e8_0_2)), .int (zI (z16_value)), .int (zI (z16_kind)), .ref sa_RX16_9, v16_8, v16_9, v16_10, v16_11, v16_12, v16_13])), (q_t, .inl (cT, 8192, .inl (fun j : Nat => zI (a_t (j : Int)))))]) (cx := [(h0, .inr (14, [.ref q_t, .int (zI (z16_n)), .int (zI (e8_0_2)), .int (zI (z16_kind)), .int (zI (e8_0_2)), .int (zI (z16_value)), .int (zI (z16_kind)), .ref sa_RX16_9, v16_8, v16_9, v16_10, v16_11, v16_12, v16_13])), (q_t, .inl (cT, 8192, .inl (fun j : Nat => zI (a_t (j : Int)))))]) (wr := []) (w1 := [(h0, .inr (14, [.ref q_t, .int (zI (z16_n)), .int (zI (z0_7)), .int (zI (z1_8)), .int (zI (e8_0_2)), .int (zI (z2_9)), .int (zI (z16_kind)), .ref sa_RX16_9, v16_8, v16_9, v16_10, v16_11, v16_12, v16_13])), (q_t, .inl (cT, 8192, .inl (fun j : Nat => zI (a_t (j : Int)))))]) (pl := va_pl L (pE P)) hP hD [0, 1] [] rfl rfl (by decide) (by decide) hk1 hFc hP1 hD1
                have hK := (hK.sub (tys' := []) [] rfl).app hK1
                generalize H1 = H at hP hS ⊢
                have hP : va_P (dC, dI) vwQ ([(h0, .inr (14, [.ref q_t, .int (zI (z16_n)), .int (zI (z0_7)), .int (zI (z1_8)), .int (zI (e8_0_2)), .int (zI (z2_9)), .int (zI (z16_kind)), .ref sa_RX16_9, v16_8, v16_9, v16_10, v16_11, v16_12, v16_13])), (q_t, .inl (cT, 8192, .inl (fun j : Nat => zI (a_t (j : Int)))))] ++ va_pl L (pE P)) H := hP
                have hD : va_D A ([(h0, .inr (14, [.ref q_t, .int (zI (z16_n)), .int (zI (z0_7)), .int (zI (z1_8)), .int (zI (e8_0_2)), .int (zI (z2_9)), .int (zI (z16_kind)), .ref sa_RX16_9, v16_8, v16_9, v16_10, v16_11, v16_12, v16_13])), (q_t, .inl (cT, 8192, .inl (fun j : Nat => zI (a_t (j : Int)))))] ++ va_pl L (pE P)) := hD
                have hK : va_K (dC, dI) vwQ [(cT, .byte)] s := hK
                refine W.widen (k := 0) (n := 0) (Nat.le_of_ble_eq_true rfl) (Nat.le_of_ble_eq_true rfl) ?_
                obtain ⟨rk_10, rk_11, rk_12, hu_12⟩ := hxt_9
                refine lv_goto (tgt := 247) hx hb dX16_next_239 (by decide) ?_
                subst hQ
                refine W_knowS (fun hrm9 => ?_)
                refine W.widen (k := ((z16_n - z16_at + 20).toNat)) (n := ((10 * (z16_n - z16_at) + 120).toNat)) (by omega) (by omega) ?_
                exact W.vret hx hb hr (fun t ht hW => ⟨⟨(), rfl, trivial, z0_7, z1_8, e8_0_2, z2_9, z16_kind, sa_RX16_9, L, P, 0, 0, ⟨⟨(by rw [ht, ← hp1]; exact hrm9), (by first | exact hrb | exact TKV.z (by omega) (by omega) (by omega) | exact TKV.s (by omega) (by omega) (by omega) (by omega) | omega)⟩, ⟨(by omega), (by omega), (by omega), (by omega), (by omega), ⟨⟨⟨by omega, by omega, by omega⟩, (TKQ.of (by omega) (by omega) (by omega))⟩, (KDN.of (by omega) (by omega) (by omega)), EXT9.refl _ _, TXN.refl _ _, Or.inl rfl, (fun q9 => by omega)⟩⟩⟩, by rw [ht]; exact hP, va_K.moved hW.alike hK, hD⟩, hS.F ht⟩) hS.2.2 dX16_next_247
              · have yb227 : (z_6 : Int) = (0 : Int) := (zI_eq (a := z_6) (b := 0) (by omega) (by omega) (by omega) (by omega)).mp b227
                refine lv_iload_n hx hb dX16_next_230 rfl (lv_at hl 2 rfl) ?_
                refine lv_if_eq (tgt := 242) hx hb dX16_next_231 (by decide) (fun b231 => ?_) (fun b231 => ?_)
                · have yb231 : (mm : Int) = (0 : Int) := (zI_eq (a := mm) (b := 0) (by omega) (by omega) (by omega) (by omega)).mp b231
                  skip
                  refine lv_aload_n hx hb dX16_next_242 rfl (lv_at hl 0 rfl) ?_
                  refine lv_iload_n hx hb dX16_next_243 rfl (lv_at hl 1 rfl) ?_
                  have hPc := hP.part (X := [(h0, .inr (14, [.ref q_t, .int (zI (z16_n)), .int (zI (e8_0_2)), .int (zI (z16_kind)), .int (zI (e8_0_2)), .int (zI (z16_value)), .int (zI (z16_kind)), .ref sa_RX16_9, v16_8, v16_9, v16_10, v16_11, v16_12, v16_13])), (q_t, .inl (cT, 8192, .inl (fun j : Nat => zI (a_t (j : Int)))))]) (cx := [(h0, .inr (14, [.ref q_t, .int (zI (z16_n)), .int (zI (e8_0_2)), .int (zI (z16_kind)), .int (zI (e8_0_2)), .int (zI (z16_value)), .int (zI (z16_kind)), .ref sa_RX16_9, v16_8, v16_9, v16_10, v16_11, v16_12, v16_13])), (q_t, .inl (cT, 8192, .inl (fun j : Nat => zI (a_t (j : Int)))))]) (pl := va_pl L (pE P)) [0, 1] rfl
                  have hDc := hD.part (X := [(h0, .inr (14, [.ref q_t, .int (zI (z16_n)), .int (zI (e8_0_2)), .int (zI (z16_kind)), .int (zI (e8_0_2)), .int (zI (z16_value)), .int (zI (z16_kind)), .ref sa_RX16_9, v16_8, v16_9, v16_10, v16_11, v16_12, v16_13])), (q_t, .inl (cT, 8192, .inl (fun j : Nat => zI (a_t (j : Int)))))]) (cx := [(h0, .inr (14, [.ref q_t, .int (zI (z16_n)), .int (zI (e8_0_2)), .int (zI (z16_kind)), .int (zI (e8_0_2)), .int (zI (z16_value)), .int (zI (z16_kind)), .ref sa_RX16_9, v16_8, v16_9, v16_10, v16_11, v16_12, v16_13])), (q_t, .inl (cT, 8192, .inl (fun j : Nat => zI (a_t (j : Int)))))]) (pl := va_pl L (pE P)) [0, 1] (by decide) rfl
                  have hKc := hK.sub (tys' := [(cT, .byte)]) [0] rfl
                  have hFc := va_freeP (X := [(h0, .inr (14, [.ref q_t, .int (zI (z16_n)), .int (zI (e8_0_2)), .int (zI (z16_kind)), .int (zI (e8_0_2)), .int (zI (z16_value)), .int (zI (z16_kind)), .ref sa_RX16_9, v16_8, v16_9, v16_10, v16_11, v16_12, v16_13])), (q_t, .inl (cT, 8192, .inl (fun j : Nat => zI (a_t (j : Int)))))]) (cx := [(h0, .inr (14, [.ref q_t, .int (zI (z16_n)), .int (zI (e8_0_2)), .int (zI (z16_kind)), .int (zI (e8_0_2)), .int (zI (z16_value)), .int (zI (z16_kind)), .ref sa_RX16_9, v16_8, v16_9, v16_10, v16_11, v16_12, v16_13])), (q_t, .inl (cT, 8192, .inl (fun j : Nat => zI (a_t (j : Int)))))]) (pl := va_pl L (pE P)) hD hS hA [0, 1] rfl
                  refine W_knowS (fun hrmA => ?_)
                  refine va_callv (va_runV (As := [.int (zI (a_t (e8_0_2)))]) (rest := []) ⟨hx, hb, hml, hown, hts⟩ (c_X16_symbolK l dC dI h0 z16_n e8_0_2 z16_kind (.int (zI (e8_0_2))) (.int (zI (z16_value))) (.int (zI (z16_kind))) v16_8 v16_9 v16_10 v16_11 v16_12 v16_13 q_t cT a_t sa_RX16_9 L P (a_t (e8_0_2)) (by omega) (by omega) (by omega) hR_a_t (by omega) H.size sa_RX16_9 H sv_RX16_9 sa_RX16_119 sv_RX16_119 sa_RX16_100 sv_RX16_100 sa_RX16_117 sa_RX16_100 sv_RX16_117) (cwV 1 hts g_X16_nextK_X16_symbolK rfl rfl rfl (by decide +kernel) ⟨(Nat.le_of_ble_eq_true rfl), (Nat.le_of_ble_eq_true rfl)⟩) ⟨fun a U g mk q => by obtain ⟨q0, q1, qP, qK, qD, e0, e1, e2, e3, e4, e5, e6, e7, e8, e9, e10⟩ := q; exact ⟨q0, q1, qP, va_K.moved (u := U) (U := U.calling g mk a) (Vm.Alike.refl U.vm) qK, qD, vk_R.same (u := U) (U := U.calling g mk a) rfl e0, e1, va_Z.moved (u := U) (U := U.calling g mk a) (Vm.Alike.refl U.vm) e2, vs_S.moved (u := U) (U := U.calling g mk a) (Vm.Alike.refl U.vm) e3, va_Nw.same rfl (u := U) (U := U.calling g mk a) rfl e4, vk_R.same (u := U) (U := U.calling g mk a) rfl e5, vs_S.moved (u := U) (U := U.calling g mk a) (Vm.Alike.refl U.vm) e6, vs_S.moved (u := U) (U := U.calling g mk a) (Vm.Alike.refl U.vm) e7, vk_R.same (u := U) (U := U.calling g mk a) rfl e8, vk_R.same (u := U) (U := U.calling g mk a) rfl e9, vs_S.moved (u := U) (U := U.calling g mk a) (Vm.Alike.refl U.vm) e10⟩, va_recv hKc hPc (ci := 14) (q0 := 0) rfl rfl, fun U hU hW => ⟨rfl, by rw [hU], by rw [hU]; exact hPc, va_K.moved hW.alike hKc, hDc.weaken (fun _ _ _ _ => trivial), vk_R.warm hW hp0, hU, by rw [hU]; exact va_Z.narrow (va_Z.moved hW.alike (va_Z.kept hp2 hS.2.1)) hFc, by rw [hU]; exact vs_S.narrow (vs_S.moved hW.alike (vs_S.kept hp3 hS.2.1)) hFc, va_Nw.warmC hW hp4, vk_R.warm hW hp5, by rw [hU]; exact vs_S.narrow (vs_S.moved hW.alike (vs_S.kept hp6 hS.2.1)) hFc, by rw [hU]; exact vs_S.narrow (vs_S.moved hW.alike (vs_S.kept hp7 hS.2.1)) hFc, vk_R.warm hW hp8, vk_R.warm hW hp9, by rw [hU]; exact vs_S.narrow (vs_S.moved hW.alike (vs_S.kept hp10 hS.2.1)) hFc⟩⟩ rfl rfl hl.1 rfl (lv_room (Nat.le_of_ble_eq_true rfl)) dX16_next_244 ⟨(show 0 + (12) ≤ (z16_n - z16_at + 20).toNat from (by omega)), (show 0 + (100) ≤ (10 * (z16_n - z16_at) + 120).toNat from (by omega))⟩) hS (fun q _ h => hFc q h) hFc (fun  u t H1 locs ht hvm hw hB hz1 hk1 hS => ?_)
                  obtain ⟨z0_13, z1_14, q2_15, Ln_16, Pn_17, kc_18, ks_19, hxt_19, hP1, hK1, hD1⟩ := hB
                  rw [ht] at hP1
                  have hK1 := va_K.moved hvm.symm hK1
                  obtain ⟨hP, hD⟩ := va_joinP (X := [(h0, .inr (14, [.ref q_t, .int (zI (z16_n)), .int (zI (e8_0_2)), .int (zI (z16_kind)), .int (zI (e8_0_2)), .int (zI (z16_value)), .int (zI (z16_kind)), .ref sa_RX16_9, v16_8, v16_9, v16_10, v16_11, v16_12, v16_13])), (q_t, .inl (cT, 8192, .inl (fun j : Nat => zI (a_t (j : Int)))))]) (cx := [(h0, .inr (14, [.ref q_t, .int (zI (z16_n)), .int (zI (e8_0_2)), .int (zI (z16_kind)), .int (zI (e8_0_2)), .int (zI (z16_value)), .int (zI (z16_kind)), .ref sa_RX16_9, v16_8, v16_9, v16_10, v16_11, v16_12, v16_13])), (q_t, .inl (cT, 8192, .inl (fun j : Nat => zI (a_t (j : Int)))))]) (wr := []) (rx := [(h0, .inr (14, [.ref q_t, .int (zI (z16_n)), .int (zI (z0_13)), .int (zI (z1_14)), .int (zI (e8_0_2)), .int (zI (z16_value)), .int (zI (z16_kind)), .ref q2_15, v16_8, v16_9, v16_10, v16_11, v16_12, v16_13])), (q_t, .inl (cT, 8192, .inl (fun j : Nat => zI (a_t (j : Int)))))]) (pl := va_pl L (pE P)) (pl1 := va_pl Ln_16 (pE Pn_17)) hP hD [0, 1] [] rfl rfl (by decide) (by decide) hk1 hFc hP1 hD1
                  have hK := (hK.sub (tys' := []) [] rfl).app hK1
                  have hrmC := hxt_19.1.1
                  rw [ht] at hrmC
                  refine W_tightS (hrmA.trans hrmC) ?_
                  have hrb := hxt_19.1.2
                  generalize H1 = H at hP hS ⊢
                  have hP : va_P (dC, dI) vwQ ([(h0, .inr (14, [.ref q_t, .int (zI (z16_n)), .int (zI (z0_13)), .int (zI (z1_14)), .int (zI (e8_0_2)), .int (zI (z16_value)), .int (zI (z16_kind)), .ref q2_15, v16_8, v16_9, v16_10, v16_11, v16_12, v16_13])), (q_t, .inl (cT, 8192, .inl (fun j : Nat => zI (a_t (j : Int)))))] ++ va_pl Ln_16 (pE Pn_17)) H := hP
                  have hD : va_D A ([(h0, .inr (14, [.ref q_t, .int (zI (z16_n)), .int (zI (z0_13)), .int (zI (z1_14)), .int (zI (e8_0_2)), .int (zI (z16_value)), .int (zI (z16_kind)), .ref q2_15, v16_8, v16_9, v16_10, v16_11, v16_12, v16_13])), (q_t, .inl (cT, 8192, .inl (fun j : Nat => zI (a_t (j : Int)))))] ++ va_pl Ln_16 (pE Pn_17)) := hD
                  have hK : va_K (dC, dI) vwQ [(cT, .byte)] s := hK
                  refine W.widen (k := (0 + kc_18)) (n := (0 + ks_19)) (by omega) (by omega) ?_
                  obtain ⟨rk_20, rk_21, hu_21⟩ := hxt_19.2
                  subst hQ
                  refine W_knowS (fun hrm9 => ?_)
                  refine W.widen (k := ((z16_n - z16_at + 20).toNat)) (n := ((10 * (z16_n - z16_at) + 120).toNat)) (by omega) (by omega) ?_
                  exact W.vret hx hb hr (fun t ht hW => ⟨⟨(), rfl, trivial, z0_13, z1_14, e8_0_2, z16_value, z16_kind, q2_15, Ln_16, Pn_17, (0 + kc_18), (0 + ks_19), ⟨⟨(by rw [ht, ← hp1]; exact hrm9), (by first | exact hrb | exact TKV.z (by omega) (by omega) (by omega) | exact TKV.s (by omega) (by omega) (by omega) (by omega) | omega)⟩, ⟨(by omega), (by omega), (by omega), (by omega), (by omega), ⟨⟨⟨by omega, by omega, by omega⟩, (TKQ.of (by omega) (by omega) (by omega))⟩, (KDN.of (by omega) (by omega) (by omega)), hu_21.2.2.2.2.1, hu_21.2.2.2.2.2.1, hu_21.2.2.2.2.2.2, hu_21.2.2.2.1⟩⟩⟩, by rw [ht]; exact hP, va_K.moved hW.alike hK, hD⟩, hS.F ht⟩) hS.2.2 dX16_next_247
                · have yb231 : ¬ (mm : Int) = (0 : Int) := fun q => b231 ((zI_eq (a := mm) (b := 0) (by omega) (by omega) (by omega) (by omega)).mpr q)
                  refine lv_aload_n hx hb dX16_next_234 rfl (lv_at hl 0 rfl) ?_
                  refine lv_iload_n hx hb dX16_next_235 rfl (lv_at hl 2 rfl) ?_
                  have hPc := hP.sub (ws' := [(h0, .inr (14, [.ref q_t, .int (zI (z16_n)), .int (zI (e8_0_2)), .int (zI (z16_kind)), .int (zI (e8_0_2)), .int (zI (z16_value)), .int (zI (z16_kind)), .ref sa_RX16_9, v16_8, v16_9, v16_10, v16_11, v16_12, v16_13])), (q_t, .inl (cT, 8192, .inl (fun j : Nat => zI (a_t (j : Int)))))]) [0, 1] rfl
                  have hDc := hD.sub (ws' := [(h0, .inr (14, [.ref q_t, .int (zI (z16_n)), .int (zI (e8_0_2)), .int (zI (z16_kind)), .int (zI (e8_0_2)), .int (zI (z16_value)), .int (zI (z16_kind)), .ref sa_RX16_9, v16_8, v16_9, v16_10, v16_11, v16_12, v16_13])), (q_t, .inl (cT, 8192, .inl (fun j : Nat => zI (a_t (j : Int)))))]) [0, 1] (by decide) rfl
                  have hKc := hK.sub (tys' := [(cT, .byte)]) [0] rfl
                  have hFc := va_free (wc := [(h0, .inr (14, [.ref q_t, .int (zI (z16_n)), .int (zI (e8_0_2)), .int (zI (z16_kind)), .int (zI (e8_0_2)), .int (zI (z16_value)), .int (zI (z16_kind)), .ref sa_RX16_9, v16_8, v16_9, v16_10, v16_11, v16_12, v16_13])), (q_t, .inl (cT, 8192, .inl (fun j : Nat => zI (a_t (j : Int)))))]) hD hS hA [0, 1] rfl
                  refine va_callv (va_runV (As := [.int (zI (mm))]) (rest := []) ⟨hx, hb, hml, hown, hts⟩ (c_X16_number l dC dI h0 z16_n e8_0_2 z16_kind (.int (zI (e8_0_2))) z16_value (.int (zI (z16_kind))) (.ref sa_RX16_9) v16_8 v16_9 v16_10 v16_11 v16_12 v16_13 q_t cT a_t mm (by omega) (by omega) (by omega) (by omega) hR_a_t (by omega) H.size) (cwV 1 hts g_X16_nextK_X16_number rfl rfl rfl (by decide +kernel) ⟨(Nat.le_of_ble_eq_true rfl), (Nat.le_of_ble_eq_true rfl)⟩) ⟨fun a U g mk q => by obtain ⟨q0, q1, qP, qK, qD⟩ := q; exact ⟨q0, q1, qP, va_K.moved (u := U) (U := U.calling g mk a) (Vm.Alike.refl U.vm) qK, qD⟩, va_recv hKc hPc (ci := 14) (q0 := 0) rfl rfl, fun U hU hW => ⟨rfl, by rw [hU], by rw [hU]; exact hPc, va_K.moved hW.alike hKc, hDc.weaken (fun _ _ _ _ => trivial)⟩⟩ rfl rfl hl.1 rfl (lv_room (Nat.le_of_ble_eq_true rfl)) dX16_next_236 ⟨(Nat.zero_le _), (Nat.zero_le _)⟩) hS (fun q _ h => hFc q h) hFc (fun  u t H1 locs ht hvm hw hB hz1 hk1 hS => ?_)
                  obtain ⟨z0_22, z1_23, z2_24, hxt_24, hP1, hK1, hD1⟩ := hB
                  rw [ht] at hP1
                  have hK1 := va_K.moved hvm.symm hK1
                  obtain ⟨hP, hD⟩ := va_joinQ (X := [(h0, .inr (14, [.ref q_t, .int (zI (z16_n)), .int (zI (e8_0_2)), .int (zI (z16_kind)), .int (zI (e8_0_2)), .int (zI (z16_value)), .int (zI (z16_kind)), .ref sa_RX16_9, v16_8, v16_9, v16_10, v16_11, v16_12, v16_13])), (q_t, .inl (cT, 8192, .inl (fun j : Nat => zI (a_t (j : Int)))))]) (cx := [(h0, .inr (14, [.ref q_t, .int (zI (z16_n)), .int (zI (e8_0_2)), .int (zI (z16_kind)), .int (zI (e8_0_2)), .int (zI (z16_value)), .int (zI (z16_kind)), .ref sa_RX16_9, v16_8, v16_9, v16_10, v16_11, v16_12, v16_13])), (q_t, .inl (cT, 8192, .inl (fun j : Nat => zI (a_t (j : Int)))))]) (wr := []) (w1 := [(h0, .inr (14, [.ref q_t, .int (zI (z16_n)), .int (zI (z0_22)), .int (zI (z1_23)), .int (zI (e8_0_2)), .int (zI (z2_24)), .int (zI (z16_kind)), .ref sa_RX16_9, v16_8, v16_9, v16_10, v16_11, v16_12, v16_13])), (q_t, .inl (cT, 8192, .inl (fun j : Nat => zI (a_t (j : Int)))))]) (pl := va_pl L (pE P)) hP hD [0, 1] [] rfl rfl (by decide) (by decide) hk1 hFc hP1 hD1
                  have hK := (hK.sub (tys' := []) [] rfl).app hK1
                  generalize H1 = H at hP hS ⊢
                  have hP : va_P (dC, dI) vwQ ([(h0, .inr (14, [.ref q_t, .int (zI (z16_n)), .int (zI (z0_22)), .int (zI (z1_23)), .int (zI (e8_0_2)), .int (zI (z2_24)), .int (zI (z16_kind)), .ref sa_RX16_9, v16_8, v16_9, v16_10, v16_11, v16_12, v16_13])), (q_t, .inl (cT, 8192, .inl (fun j : Nat => zI (a_t (j : Int)))))] ++ va_pl L (pE P)) H := hP
                  have hD : va_D A ([(h0, .inr (14, [.ref q_t, .int (zI (z16_n)), .int (zI (z0_22)), .int (zI (z1_23)), .int (zI (e8_0_2)), .int (zI (z2_24)), .int (zI (z16_kind)), .ref sa_RX16_9, v16_8, v16_9, v16_10, v16_11, v16_12, v16_13])), (q_t, .inl (cT, 8192, .inl (fun j : Nat => zI (a_t (j : Int)))))] ++ va_pl L (pE P)) := hD
                  have hK : va_K (dC, dI) vwQ [(cT, .byte)] s := hK
                  refine W.widen (k := 0) (n := 0) (Nat.le_of_ble_eq_true rfl) (Nat.le_of_ble_eq_true rfl) ?_
                  obtain ⟨rk_25, rk_26, rk_27, hu_27⟩ := hxt_24
                  refine lv_goto (tgt := 247) hx hb dX16_next_239 (by decide) ?_
                  subst hQ
                  refine W_knowS (fun hrm9 => ?_)
                  refine W.widen (k := ((z16_n - z16_at + 20).toNat)) (n := ((10 * (z16_n - z16_at) + 120).toNat)) (by omega) (by omega) ?_
                  exact W.vret hx hb hr (fun t ht hW => ⟨⟨(), rfl, trivial, z0_22, z1_23, e8_0_2, z2_24, z16_kind, sa_RX16_9, L, P, 0, 0, ⟨⟨(by rw [ht, ← hp1]; exact hrm9), (by first | exact hrb | exact TKV.z (by omega) (by omega) (by omega) | exact TKV.s (by omega) (by omega) (by omega) (by omega) | omega)⟩, ⟨(by omega), (by omega), (by omega), (by omega), (by omega), ⟨⟨⟨by omega, by omega, by omega⟩, (TKQ.of (by omega) (by omega) (by omega))⟩, (KDN.of (by omega) (by omega) (by omega)), EXT9.refl _ _, TXN.refl _ _, Or.inl rfl, (fun q9 => by omega)⟩⟩⟩, by rw [ht]; exact hP, va_K.moved hW.alike hK, hD⟩, hS.F ht⟩) hS.2.2 dX16_next_247
            · have yb213 : ¬ (z_3 : Int) = (0 : Int) := fun q => b213 ((zI_eq (a := z_3) (b := 0) (by omega) (by omega) (by omega) (by omega)).mpr q)
              refine lv_aload_n hx hb dX16_next_216 rfl (lv_at hl 0 rfl) ?_
              have hPc := hP.part (X := [(h0, .inr (14, [.ref q_t, .int (zI (z16_n)), .int (zI (e8_0_2)), .int (zI (z16_kind)), .int (zI (e8_0_2)), .int (zI (z16_value)), .int (zI (z16_kind)), .ref sa_RX16_9, v16_8, v16_9, v16_10, v16_11, v16_12, v16_13])), (q_t, .inl (cT, 8192, .inl (fun j : Nat => zI (a_t (j : Int)))))]) (cx := [(h0, .inr (14, [.ref q_t, .int (zI (z16_n)), .int (zI (e8_0_2)), .int (zI (z16_kind)), .int (zI (e8_0_2)), .int (zI (z16_value)), .int (zI (z16_kind)), .ref sa_RX16_9, v16_8, v16_9, v16_10, v16_11, v16_12, v16_13])), (q_t, .inl (cT, 8192, .inl (fun j : Nat => zI (a_t (j : Int)))))]) (pl := va_pl L (pE P)) [0, 1] rfl
              have hDc := hD.part (X := [(h0, .inr (14, [.ref q_t, .int (zI (z16_n)), .int (zI (e8_0_2)), .int (zI (z16_kind)), .int (zI (e8_0_2)), .int (zI (z16_value)), .int (zI (z16_kind)), .ref sa_RX16_9, v16_8, v16_9, v16_10, v16_11, v16_12, v16_13])), (q_t, .inl (cT, 8192, .inl (fun j : Nat => zI (a_t (j : Int)))))]) (cx := [(h0, .inr (14, [.ref q_t, .int (zI (z16_n)), .int (zI (e8_0_2)), .int (zI (z16_kind)), .int (zI (e8_0_2)), .int (zI (z16_value)), .int (zI (z16_kind)), .ref sa_RX16_9, v16_8, v16_9, v16_10, v16_11, v16_12, v16_13])), (q_t, .inl (cT, 8192, .inl (fun j : Nat => zI (a_t (j : Int)))))]) (pl := va_pl L (pE P)) [0, 1] (by decide) rfl
              have hKc := hK.sub (tys' := [(cT, .byte)]) [0] rfl
              have hFc := va_freeP (X := [(h0, .inr (14, [.ref q_t, .int (zI (z16_n)), .int (zI (e8_0_2)), .int (zI (z16_kind)), .int (zI (e8_0_2)), .int (zI (z16_value)), .int (zI (z16_kind)), .ref sa_RX16_9, v16_8, v16_9, v16_10, v16_11, v16_12, v16_13])), (q_t, .inl (cT, 8192, .inl (fun j : Nat => zI (a_t (j : Int)))))]) (cx := [(h0, .inr (14, [.ref q_t, .int (zI (z16_n)), .int (zI (e8_0_2)), .int (zI (z16_kind)), .int (zI (e8_0_2)), .int (zI (z16_value)), .int (zI (z16_kind)), .ref sa_RX16_9, v16_8, v16_9, v16_10, v16_11, v16_12, v16_13])), (q_t, .inl (cT, 8192, .inl (fun j : Nat => zI (a_t (j : Int)))))]) (pl := va_pl L (pE P)) hD hS hA [0, 1] rfl
              refine W_knowS (fun hrmA => ?_)
              refine va_callv (va_runV (As := []) (rest := []) ⟨hx, hb, hml, hown, hts⟩ (c_X16_wordK l dC dI h0 z16_n e8_0_2 z16_kind (.int (zI (e8_0_2))) z16_value (.int (zI (z16_kind))) v16_8 v16_9 v16_10 v16_11 v16_12 v16_13 q_t cT a_t sa_RX16_9 L P (by omega) (by omega) (by omega) (by omega) hR_a_t (by omega) H.size sa_RX16_98 sa_RX16_100 sv_RX16_100 sv_RX16_98 H) (cwV 0 hts g_X16_nextK_X16_wordK rfl rfl rfl (by decide +kernel) ⟨(Nat.le_of_ble_eq_true rfl), (Nat.le_of_ble_eq_true rfl)⟩) ⟨fun a U g mk q => by obtain ⟨q0, q1, qP, qK, qD, e0, e1, e2, e3, e4, e5, e6⟩ := q; exact ⟨q0, q1, qP, va_K.moved (u := U) (U := U.calling g mk a) (Vm.Alike.refl U.vm) qK, qD, va_Z.moved (u := U) (U := U.calling g mk a) (Vm.Alike.refl U.vm) e0, va_Nw.same rfl (u := U) (U := U.calling g mk a) rfl e1, vk_R.same (u := U) (U := U.calling g mk a) rfl e2, vk_R.same (u := U) (U := U.calling g mk a) rfl e3, vs_S.moved (u := U) (U := U.calling g mk a) (Vm.Alike.refl U.vm) e4, vs_S.moved (u := U) (U := U.calling g mk a) (Vm.Alike.refl U.vm) e5, e6⟩, va_recv hKc hPc (ci := 14) (q0 := 0) rfl rfl, fun U hU hW => ⟨rfl, by rw [hU], by rw [hU]; exact hPc, va_K.moved hW.alike hKc, hDc.weaken (fun _ _ _ _ => trivial), by rw [hU]; exact va_Z.narrow (va_Z.moved hW.alike (va_Z.kept hp2 hS.2.1)) hFc, va_Nw.warmC hW hp4, vk_R.warm hW hp11, vk_R.warm hW hp9, by rw [hU]; exact vs_S.narrow (vs_S.moved hW.alike (vs_S.kept hp7 hS.2.1)) hFc, by rw [hU]; exact vs_S.narrow (vs_S.moved hW.alike (vs_S.kept hp12 hS.2.1)) hFc, hU⟩⟩ rfl rfl hl.1 rfl (lv_room (Nat.le_of_ble_eq_true rfl)) dX16_next_217 ⟨(show 0 + ((z16_n - e8_0_2 + 20).toNat) ≤ (z16_n - z16_at + 20).toNat from (by omega)), (show 0 + ((10 * (z16_n - e8_0_2) + 120).toNat) ≤ (10 * (z16_n - z16_at) + 120).toNat from (by omega))⟩) hS (fun q _ h => hFc q h) hFc (fun  u t H1 locs ht hvm hw hB hz1 hk1 hS => ?_)
              obtain ⟨z0_28, z1_29, z2_30, q3_31, Ln_32, Pn_33, kc_34, ks_35, hxt_35, hP1, hK1, hD1⟩ := hB
              rw [ht] at hP1
              have hK1 := va_K.moved hvm.symm hK1
              obtain ⟨hP, hD⟩ := va_joinP (X := [(h0, .inr (14, [.ref q_t, .int (zI (z16_n)), .int (zI (e8_0_2)), .int (zI (z16_kind)), .int (zI (e8_0_2)), .int (zI (z16_value)), .int (zI (z16_kind)), .ref sa_RX16_9, v16_8, v16_9, v16_10, v16_11, v16_12, v16_13])), (q_t, .inl (cT, 8192, .inl (fun j : Nat => zI (a_t (j : Int)))))]) (cx := [(h0, .inr (14, [.ref q_t, .int (zI (z16_n)), .int (zI (e8_0_2)), .int (zI (z16_kind)), .int (zI (e8_0_2)), .int (zI (z16_value)), .int (zI (z16_kind)), .ref sa_RX16_9, v16_8, v16_9, v16_10, v16_11, v16_12, v16_13])), (q_t, .inl (cT, 8192, .inl (fun j : Nat => zI (a_t (j : Int)))))]) (wr := []) (rx := [(h0, .inr (14, [.ref q_t, .int (zI (z16_n)), .int (zI (z0_28)), .int (zI (z1_29)), .int (zI (e8_0_2)), .int (zI (z2_30)), .int (zI (z16_kind)), .ref q3_31, v16_8, v16_9, v16_10, v16_11, v16_12, v16_13])), (q_t, .inl (cT, 8192, .inl (fun j : Nat => zI (a_t (j : Int)))))]) (pl := va_pl L (pE P)) (pl1 := va_pl Ln_32 (pE Pn_33)) hP hD [0, 1] [] rfl rfl (by decide) (by decide) hk1 hFc hP1 hD1
              have hK := (hK.sub (tys' := []) [] rfl).app hK1
              have hrmC := hxt_35.1.1
              rw [ht] at hrmC
              refine W_tightS (hrmA.trans hrmC) ?_
              have hrb := hxt_35.1.2
              generalize H1 = H at hP hS ⊢
              have hP : va_P (dC, dI) vwQ ([(h0, .inr (14, [.ref q_t, .int (zI (z16_n)), .int (zI (z0_28)), .int (zI (z1_29)), .int (zI (e8_0_2)), .int (zI (z2_30)), .int (zI (z16_kind)), .ref q3_31, v16_8, v16_9, v16_10, v16_11, v16_12, v16_13])), (q_t, .inl (cT, 8192, .inl (fun j : Nat => zI (a_t (j : Int)))))] ++ va_pl Ln_32 (pE Pn_33)) H := hP
              have hD : va_D A ([(h0, .inr (14, [.ref q_t, .int (zI (z16_n)), .int (zI (z0_28)), .int (zI (z1_29)), .int (zI (e8_0_2)), .int (zI (z2_30)), .int (zI (z16_kind)), .ref q3_31, v16_8, v16_9, v16_10, v16_11, v16_12, v16_13])), (q_t, .inl (cT, 8192, .inl (fun j : Nat => zI (a_t (j : Int)))))] ++ va_pl Ln_32 (pE Pn_33)) := hD
              have hK : va_K (dC, dI) vwQ [(cT, .byte)] s := hK
              refine W.widen (k := (0 + kc_34)) (n := (0 + ks_35)) (by omega) (by omega) ?_
              obtain ⟨rk_36, rk_37, rk_38, hu_38⟩ := hxt_35.2
              have hnn9 := TKV.nn (k := z1_29) (d := z0_28 - e8_0_2) (by omega)
              refine lv_goto (tgt := 247) hx hb dX16_next_220 (by decide) ?_
              subst hQ
              refine W_knowS (fun hrm9 => ?_)
              refine W.widen (k := ((z16_n - z16_at + 20).toNat)) (n := ((10 * (z16_n - z16_at) + 120).toNat)) (by omega) (by omega) ?_
              exact W.vret hx hb hr (fun t ht hW => ⟨⟨(), rfl, trivial, z0_28, z1_29, e8_0_2, z2_30, z16_kind, q3_31, Ln_32, Pn_33, (0 + kc_34), (0 + ks_35), ⟨⟨(by rw [ht, ← hp1]; exact hrm9), (by first | exact hrb | exact TKV.z (by omega) (by omega) (by omega) | exact TKV.s (by omega) (by omega) (by omega) (by omega) | omega)⟩, ⟨(by omega), (by omega), (by omega), (by omega), (by omega), ⟨⟨⟨by omega, by omega, by omega⟩, hu_38.2.2.2.2.2.2⟩, (KDN.of (by omega) (by omega) (by omega)), hu_38.2.2.2.1, hu_38.2.2.2.2.1, hu_38.2.2.2.2.2.1, (fun q9 => by omega)⟩⟩⟩, by rw [ht]; exact hP, va_K.moved hW.alike hK, hD⟩, hS.F ht⟩) hS.2.2 dX16_next_247
          refine lv_iload_n hx hb dX16_next_151 rfl (lv_at hl 0 rfl) ?_
          refine lv_bipush (v := 45) hx hb dX16_next_152 (by decide) ?_
          refine lv_icmp_ne (tgt := 207) hx hb dX16_next_154 (by decide) (fun b154 => ?_) (fun b154 => ?_)
          · have yb154 : ¬ (a_t (e8_0_2) : Int) = (45 : Int) := fun q => b154 ((zI_eq (a := a_t (e8_0_2)) (b := 45) (by omega) (by omega) (by omega) (by omega)).mpr q)
            refine lv_iconst (v := 0) hx hb dX16_next_207 (by decide) ?_
            refine lv_istore_n (lv' := [(2, .int 0), (1, .int (zI (a_t (e8_0_2)))), (0, .ref h0)]) hx hb dX16_next_208 rfl hl (by decide) rfl (fun ls hl => ?_)
            exact key209 0 ls H _ (by omega) (lv_sub hl [2, 1, 0] rfl) hP hD hS
          · have yb154 : (a_t (e8_0_2) : Int) = (45 : Int) := (zI_eq (a := a_t (e8_0_2)) (b := 45) (by omega) (by omega) (by omega) (by omega)).mp b154
            refine lv_aload_n hx hb dX16_next_157 rfl (lv_at hl 1 rfl) ?_
            refine va_get (D := (dC, dI)) (ci := 14) (v := .int (zI (e8_0_2))) (C := RX16) (T := TX16) (N := 14) hx hb hts mem_X16_nextK_0 hown hK hP 0 rfl rfl 2 (by decide) (ow (k := 2) rfl) (fun _ h9 => h9) rfl dX16_next_158 ?_
            refine lv_iconst (v := 1) hx hb dX16_next_161 (by decide) ?_
            refine lv_iadd hx hb dX16_next_162 ?_
            refine lv_topi (fun z ez => ?_)
            obtain rfl : z = zI (e8_0_2 + 1) := ez.trans (zI_add (e8_0_2) (1))
            refine lv_aload_n hx hb dX16_next_163 rfl (lv_at hl 1 rfl) ?_
            refine va_get (D := (dC, dI)) (ci := 14) (v := .int (zI (z16_n))) (C := RX16) (T := TX16) (N := 14) hx hb hts mem_X16_nextK_0 hown hK hP 0 rfl rfl 1 (by decide) (ow (k := 3) rfl) (fun _ h9 => h9) rfl dX16_next_164 ?_
            refine lv_icmp_ge (tgt := 207) hx hb dX16_next_167 (by decide) (fun b167 => ?_) (fun b167 => ?_)
            · have yb167 : (z16_n : Int) ≤ (e8_0_2 + 1 : Int) := (zI_le (a := z16_n) (b := e8_0_2 + 1) (by omega) (by omega) (by omega) (by omega)).mp b167
              refine lv_iconst (v := 0) hx hb dX16_next_207 (by decide) ?_
              refine lv_istore_n (lv' := [(2, .int 0), (1, .int (zI (a_t (e8_0_2)))), (0, .ref h0)]) hx hb dX16_next_208 rfl hl (by decide) rfl (fun ls hl => ?_)
              exact key209 0 ls H _ (by omega) (lv_sub hl [2, 1, 0] rfl) hP hD hS
            · have yb167 : ¬ (z16_n : Int) ≤ (e8_0_2 + 1 : Int) := fun q => b167 ((zI_le (a := z16_n) (b := e8_0_2 + 1) (by omega) (by omega) (by omega) (by omega)).mpr q)
              refine lv_aload_n hx hb dX16_next_170 rfl (lv_at hl 1 rfl) ?_
              refine va_get (D := (dC, dI)) (ci := 14) (v := .ref q_t) (C := RX16) (T := TX16) (N := 14) hx hb hts mem_X16_nextK_0 hown hK hP 0 rfl rfl 0 (by decide) (ow (k := 6) rfl) (fun _ h9 => h9) rfl dX16_next_171 ?_
              refine lv_aload_n hx hb dX16_next_174 rfl (lv_at hl 1 rfl) ?_
              refine va_get (D := (dC, dI)) (ci := 14) (v := .int (zI (e8_0_2))) (C := RX16) (T := TX16) (N := 14) hx hb hts mem_X16_nextK_0 hown hK hP 0 rfl rfl 2 (by decide) (ow (k := 2) rfl) (fun _ h9 => h9) rfl dX16_next_175 ?_
              refine lv_iconst (v := 1) hx hb dX16_next_178 (by decide) ?_
              refine lv_iadd hx hb dX16_next_179 ?_
              refine lv_topi (fun z ez => ?_)
              obtain rfl : z = zI (e8_0_2 + 1) := ez.trans (zI_add (e8_0_2) (1))
              refine va_bald hx hb hK hP 1 0 rfl rfl (zI_in (a := e8_0_2 + 1) (n := 8192) (by omega) (by omega) (by decide)) dX16_next_180 ?_
              refine lv_topi (fun z ez => ?_)
              obtain rfl : z = zI (a_t (e8_0_2 + 1)) := ez.trans (zI_ld (a_t) (by omega) (by omega))
              have k2 := hR_a_t (e8_0_2 + 1)
              have hPc := hP.sub (ws' := []) [] rfl
              have hDc := hD.sub (ws' := []) [] (by decide) rfl
              have hKc := hK.sub (tys' := []) [] rfl
              have hFc := va_free (wc := []) hD hS hA [] rfl
              refine va_calli (va_runS (As := [.int (zI (a_t (e8_0_2 + 1)))]) (rest := []) ⟨hx, hb, hml, hown, hts⟩ (c_X16_isDigit l dC dI (a_t (e8_0_2 + 1)) (by omega) H.size) (cwS 1 hts g_X16_nextK_X16_isDigit rfl rfl rfl (by decide +kernel) ⟨(Nat.le_of_ble_eq_true rfl), (Nat.le_of_ble_eq_true rfl)⟩) ⟨fun a U g mk q => by obtain ⟨q0, q1, qP, qK, qD⟩ := q; exact ⟨q0, q1, qP, va_K.moved (u := U) (U := U.calling g mk a) (Vm.Alike.refl U.vm) qK, qD⟩, fun U hU hW => ⟨rfl, by rw [hU], by rw [hU]; exact hPc, va_K.moved hW.alike hKc, hDc.weaken (fun _ _ _ _ => trivial)⟩⟩ rfl rfl hl.1 rfl (lv_room (Nat.le_of_ble_eq_true rfl)) dX16_next_181 ⟨(Nat.zero_le _), (Nat.zero_le _)⟩) hS (fun q _ h => hFc q h) hFc (fun r_39 u t H1 locs ht hvm hw hB hz1 hk1 hS => ?_)
              obtain ⟨hP1, hK1, hD1⟩ := hB
              rw [ht] at hP1
              have hK1 := va_K.moved hvm.symm hK1
              obtain ⟨hP, hD⟩ := va_joinQ (X := [(h0, .inr (14, [.ref q_t, .int (zI (z16_n)), .int (zI (e8_0_2)), .int (zI (z16_kind)), .int (zI (e8_0_2)), .int (zI (z16_value)), .int (zI (z16_kind)), .ref sa_RX16_9, v16_8, v16_9, v16_10, v16_11, v16_12, v16_13])), (q_t, .inl (cT, 8192, .inl (fun j : Nat => zI (a_t (j : Int)))))]) (cx := []) (wr := [(h0, .inr (14, [.ref q_t, .int (zI (z16_n)), .int (zI (e8_0_2)), .int (zI (z16_kind)), .int (zI (e8_0_2)), .int (zI (z16_value)), .int (zI (z16_kind)), .ref sa_RX16_9, v16_8, v16_9, v16_10, v16_11, v16_12, v16_13])), (q_t, .inl (cT, 8192, .inl (fun j : Nat => zI (a_t (j : Int)))))]) (w1 := []) (pl := va_pl L (pE P)) hP hD [] [0, 1] rfl rfl (by decide) (by decide) hk1 hFc hP1 hD1
              have hK := (hK.sub (tys' := [(cT, .byte)]) [0] rfl).app hK1
              generalize H1 = H at hP hS ⊢
              have hP : va_P (dC, dI) vwQ ([(h0, .inr (14, [.ref q_t, .int (zI (z16_n)), .int (zI (e8_0_2)), .int (zI (z16_kind)), .int (zI (e8_0_2)), .int (zI (z16_value)), .int (zI (z16_kind)), .ref sa_RX16_9, v16_8, v16_9, v16_10, v16_11, v16_12, v16_13])), (q_t, .inl (cT, 8192, .inl (fun j : Nat => zI (a_t (j : Int)))))] ++ va_pl L (pE P)) H := hP
              have hD : va_D A ([(h0, .inr (14, [.ref q_t, .int (zI (z16_n)), .int (zI (e8_0_2)), .int (zI (z16_kind)), .int (zI (e8_0_2)), .int (zI (z16_value)), .int (zI (z16_kind)), .ref sa_RX16_9, v16_8, v16_9, v16_10, v16_11, v16_12, v16_13])), (q_t, .inl (cT, 8192, .inl (fun j : Nat => zI (a_t (j : Int)))))] ++ va_pl L (pE P)) := hD
              have hK : va_K (dC, dI) vwQ [(cT, .byte)] s := hK
              refine W.widen (k := 0) (n := 0) (Nat.le_of_ble_eq_true rfl) (Nat.le_of_ble_eq_true rfl) ?_
              have hw_40 := hw
              obtain ⟨z_41, rfl, hzz_41⟩ := hw_40
              refine lv_if_eq (tgt := 207) hx hb dX16_next_184 (by decide) (fun b184 => ?_) (fun b184 => ?_)
              · have yb184 : (z_41 : Int) = (0 : Int) := (zI_eq (a := z_41) (b := 0) (by omega) (by omega) (by omega) (by omega)).mp b184
                refine lv_iconst (v := 0) hx hb dX16_next_207 (by decide) ?_
                refine lv_istore_n (lv' := [(2, .int 0), (1, .int (zI (a_t (e8_0_2)))), (0, .ref h0)]) hx hb dX16_next_208 rfl hl (by decide) rfl (fun ls hl => ?_)
                exact key209 0 ls H _ (by omega) (lv_sub hl [2, 1, 0] rfl) hP hD hS
              · have yb184 : ¬ (z_41 : Int) = (0 : Int) := fun q => b184 ((zI_eq (a := z_41) (b := 0) (by omega) (by omega) (by omega) (by omega)).mpr q)
                refine lv_aload_n hx hb dX16_next_187 rfl (lv_at hl 1 rfl) ?_
                refine va_get (D := (dC, dI)) (ci := 14) (v := .int (zI (z16_kind))) (C := RX16) (T := TX16) (N := 14) hx hb hts mem_X16_nextK_0 hown hK hP 0 rfl rfl 6 (by decide) (ow (k := 1) rfl) (fun _ h9 => h9) rfl dX16_next_188 ?_
                refine lv_iconst (v := 2) hx hb dX16_next_191 (by decide) ?_
                refine lv_icmp_eq (tgt := 207) hx hb dX16_next_192 (by decide) (fun b192 => ?_) (fun b192 => ?_)
                · have yb192 : (z16_kind : Int) = (2 : Int) := (zI_eq (a := z16_kind) (b := 2) (by omega) (by omega) (by omega) (by omega)).mp b192
                  refine lv_iconst (v := 0) hx hb dX16_next_207 (by decide) ?_
                  refine lv_istore_n (lv' := [(2, .int 0), (1, .int (zI (a_t (e8_0_2)))), (0, .ref h0)]) hx hb dX16_next_208 rfl hl (by decide) rfl (fun ls hl => ?_)
                  exact key209 0 ls H _ (by omega) (lv_sub hl [2, 1, 0] rfl) hP hD hS
                · have yb192 : ¬ (z16_kind : Int) = (2 : Int) := fun q => b192 ((zI_eq (a := z16_kind) (b := 2) (by omega) (by omega) (by omega) (by omega)).mpr q)
                  refine lv_aload_n hx hb dX16_next_195 rfl (lv_at hl 1 rfl) ?_
                  refine va_get (D := (dC, dI)) (ci := 14) (v := .int (zI (z16_kind))) (C := RX16) (T := TX16) (N := 14) hx hb hts mem_X16_nextK_0 hown hK hP 0 rfl rfl 6 (by decide) (ow (k := 1) rfl) (fun _ h9 => h9) rfl dX16_next_196 ?_
                  refine lv_iconst (v := 4) hx hb dX16_next_199 (by decide) ?_
                  refine lv_icmp_eq (tgt := 207) hx hb dX16_next_200 (by decide) (fun b200 => ?_) (fun b200 => ?_)
                  · have yb200 : (z16_kind : Int) = (4 : Int) := (zI_eq (a := z16_kind) (b := 4) (by omega) (by omega) (by omega) (by omega)).mp b200
                    refine lv_iconst (v := 0) hx hb dX16_next_207 (by decide) ?_
                    refine lv_istore_n (lv' := [(2, .int 0), (1, .int (zI (a_t (e8_0_2)))), (0, .ref h0)]) hx hb dX16_next_208 rfl hl (by decide) rfl (fun ls hl => ?_)
                    exact key209 0 ls H _ (by omega) (lv_sub hl [2, 1, 0] rfl) hP hD hS
                  · have yb200 : ¬ (z16_kind : Int) = (4 : Int) := fun q => b200 ((zI_eq (a := z16_kind) (b := 4) (by omega) (by omega) (by omega) (by omega)).mpr q)
                    refine lv_iconst (v := 1) hx hb dX16_next_203 (by decide) ?_
                    refine lv_goto (tgt := 208) hx hb dX16_next_204 (by decide) ?_
                    refine lv_istore_n (lv' := [(2, .int 1), (1, .int (zI (a_t (e8_0_2)))), (0, .ref h0)]) hx hb dX16_next_208 rfl hl (by decide) rfl (fun ls hl => ?_)
                    exact key209 1 ls H _ (by omega) (lv_sub hl [2, 1, 0] rfl) hP hD hS
        · have yb132 : (e8_0_2 : Int) = (z16_n : Int) := (zI_eq (a := e8_0_2) (b := z16_n) (by omega) (by omega) (by omega) (by omega)).mp b132
          refine lv_aload_n hx hb dX16_next_135 rfl (lv_at hl 0 rfl) ?_
          refine lv_iconst (v := 0) hx hb dX16_next_136 (by decide) ?_
          refine va_put (D := (dC, dI)) (ci := 14) (v := .int 0) (ty := .int) (C := RX16) (T := TX16) (N := 14) hx hb hts mem_X16_nextK_0 tyX16 tyX16_ok nmX16 hown hK hP hD hS 0 rfl rfl 3 (by decide) (ow (k := 0) rfl) (fun _ h9 => h9) rfl (by decide +kernel) rfl rfl (by first | exact Nat.le_of_ble_eq_true rfl | exact (show 0 ≤ (z16_n - z16_at + 20).toNat from (by omega)) | exact (show 0 ≤ (10 * (z16_n - z16_at) + 120).toNat from (by omega))) dX16_next_137 (fun H locs hP hD hS => ?_)
          have hP : va_P (dC, dI) vwQ ([(h0, .inr (14, [.ref q_t, .int (zI (z16_n)), .int (zI (e8_0_2)), .int 0, .int (zI (e8_0_2)), .int (zI (z16_value)), .int (zI (z16_kind)), .ref sa_RX16_9, v16_8, v16_9, v16_10, v16_11, v16_12, v16_13])), (q_t, .inl (cT, 8192, .inl (fun j : Nat => zI (a_t (j : Int)))))] ++ va_pl L (pE P)) H := hP
          have hD : va_D A ([(h0, .inr (14, [.ref q_t, .int (zI (z16_n)), .int (zI (e8_0_2)), .int 0, .int (zI (e8_0_2)), .int (zI (z16_value)), .int (zI (z16_kind)), .ref sa_RX16_9, v16_8, v16_9, v16_10, v16_11, v16_12, v16_13])), (q_t, .inl (cT, 8192, .inl (fun j : Nat => zI (a_t (j : Int)))))] ++ va_pl L (pE P)) := hD
          subst hQ
          refine W_knowS (fun hrm9 => ?_)
          refine W.widen (k := ((z16_n - z16_at + 20).toNat)) (n := ((10 * (z16_n - z16_at) + 120).toNat)) (by omega) (by omega) ?_
          exact W.vret hx hb hr (fun t ht hW => ⟨⟨(), rfl, trivial, e8_0_2, 0, e8_0_2, z16_value, z16_kind, sa_RX16_9, L, P, 0, 0, ⟨⟨(by rw [ht, ← hp1]; exact hrm9), (by first | exact hrb | exact TKV.z (by omega) (by omega) (by omega) | exact TKV.s (by omega) (by omega) (by omega) (by omega) | omega)⟩, ⟨(by omega), (by omega), (by omega), (by omega), (by omega), ⟨⟨⟨by omega, by omega, by omega⟩, (TKQ.of (by omega) (by omega) (by omega))⟩, (KDN.of (by omega) (by omega) (by omega)), EXT9.refl _ _, TXN.refl _ _, Or.inl rfl, (fun q9 => by omega)⟩⟩⟩, by rw [ht]; exact hP, va_K.moved hW.alike hK, hD⟩, hS.F ht⟩) hS.2.2 dX16_next_140
      · have yb16 : ¬ (z16_n : Int) ≤ (e8_0_2 : Int) := fun q => b16 ((zI_le (a := z16_n) (b := e8_0_2) (by omega) (by omega) (by omega) (by omega)).mpr q)
        refine lv_aload_n hx hb dX16_next_19 rfl (lv_at hl 0 rfl) ?_
        refine va_get (D := (dC, dI)) (ci := 14) (v := .ref q_t) (C := RX16) (T := TX16) (N := 14) hx hb hts mem_X16_nextK_0 hown hK hP 0 rfl rfl 0 (by decide) (ow (k := 6) rfl) (fun _ h9 => h9) rfl dX16_next_20 ?_
        refine lv_aload_n hx hb dX16_next_23 rfl (lv_at hl 0 rfl) ?_
        refine va_get (D := (dC, dI)) (ci := 14) (v := .int (zI (e8_0_2))) (C := RX16) (T := TX16) (N := 14) hx hb hts mem_X16_nextK_0 hown hK hP 0 rfl rfl 2 (by decide) (ow (k := 2) rfl) (fun _ h9 => h9) rfl dX16_next_24 ?_
        refine va_bald hx hb hK hP 1 0 rfl rfl (zI_in (a := e8_0_2) (n := 8192) (by omega) (by omega) (by decide)) dX16_next_27 ?_
        refine lv_topi (fun z ez => ?_)
        obtain rfl : z = zI (a_t (e8_0_2)) := ez.trans (zI_ld (a_t) (by omega) (by omega))
        have k3 := hR_a_t (e8_0_2)
        refine lv_istore_n (lv' := [(1, .int (zI (a_t (e8_0_2)))), (0, .ref h0)]) hx hb dX16_next_28 rfl hl (by decide) rfl (fun ls hl => ?_)
        refine lv_iload_n hx hb dX16_next_29 rfl (lv_at hl 0 rfl) ?_
        refine lv_bipush (v := 59) hx hb dX16_next_30 (by decide) ?_
        refine lv_icmp_ne (tgt := 73) hx hb dX16_next_32 (by decide) (fun b32 => ?_) (fun b32 => ?_)
        · have yb32 : ¬ (a_t (e8_0_2) : Int) = (59 : Int) := fun q => b32 ((zI_eq (a := a_t (e8_0_2)) (b := 59) (by omega) (by omega) (by omega) (by omega)).mpr q)
          refine lv_iload_n hx hb dX16_next_73 rfl (lv_at hl 0 rfl) ?_
          refine lv_bipush (v := 9) hx hb dX16_next_74 (by decide) ?_
          refine lv_icmp_eq (tgt := 97) hx hb dX16_next_76 (by decide) (fun b76 => ?_) (fun b76 => ?_)
          · have yb76 : (a_t (e8_0_2) : Int) = (9 : Int) := (zI_eq (a := a_t (e8_0_2)) (b := 9) (by omega) (by omega) (by omega) (by omega)).mp b76
            refine lv_aload_n hx hb dX16_next_97 rfl (lv_at hl 1 rfl) ?_
            refine lv_dup hx hb dX16_next_98 rfl ?_
            refine va_get (D := (dC, dI)) (ci := 14) (v := .int (zI (e8_0_2))) (C := RX16) (T := TX16) (N := 14) hx hb hts mem_X16_nextK_0 hown hK hP 0 rfl rfl 2 (by decide) (ow (k := 2) rfl) (fun _ h9 => h9) rfl dX16_next_99 ?_
            refine lv_iconst (v := 1) hx hb dX16_next_102 (by decide) ?_
            refine lv_iadd hx hb dX16_next_103 ?_
            refine lv_topi (fun z ez => ?_)
            obtain rfl : z = zI (e8_0_2 + 1) := ez.trans (zI_add (e8_0_2) (1))
            refine va_put (D := (dC, dI)) (ci := 14) (v := .int (zI (e8_0_2 + 1))) (ty := .int) (C := RX16) (T := TX16) (N := 14) hx hb hts mem_X16_nextK_0 tyX16 tyX16_ok nmX16 hown hK hP hD hS 0 rfl rfl 2 (by decide) (ow (k := 2) rfl) (fun _ h9 => h9) rfl (by decide +kernel) rfl rfl (by first | exact Nat.le_of_ble_eq_true rfl | exact (show 0 ≤ (z16_n - z16_at + 20).toNat from (by omega)) | exact (show 0 ≤ (10 * (z16_n - z16_at) + 120).toNat from (by omega))) dX16_next_104 (fun H locs hP hD hS => ?_)
            have hP : va_P (dC, dI) vwQ ([(h0, .inr (14, [.ref q_t, .int (zI (z16_n)), .int (zI (e8_0_2 + 1)), .int (zI (z16_kind)), .int (zI (z16_place)), .int (zI (z16_value)), .int (zI (z16_kind)), v16_7, v16_8, v16_9, v16_10, v16_11, v16_12, v16_13])), (q_t, .inl (cT, 8192, .inl (fun j : Nat => zI (a_t (j : Int)))))] ++ va_pl L (pE P)) H := hP
            have hD : va_D A ([(h0, .inr (14, [.ref q_t, .int (zI (z16_n)), .int (zI (e8_0_2 + 1)), .int (zI (z16_kind)), .int (zI (z16_place)), .int (zI (z16_value)), .int (zI (z16_kind)), v16_7, v16_8, v16_9, v16_10, v16_11, v16_12, v16_13])), (q_t, .inl (cT, 8192, .inl (fun j : Nat => zI (a_t (j : Int)))))] ++ va_pl L (pE P)) := hD
            obtain ⟨z_42, ez_42⟩ : ∃ z9 : Int, z9 = e8_0_2 + 1 := ⟨_, rfl⟩
            rw [← ez_42] at hP hD
            have hP : va_P (dC, dI) vwQ ([(h0, .inr (14, [.ref q_t, .int (zI (z16_n)), .int (zI (z_42)), .int (zI (z16_kind)), .int (zI (z16_place)), .int (zI (z16_value)), .int (zI (z16_kind)), v16_7, v16_8, v16_9, v16_10, v16_11, v16_12, v16_13])), (q_t, .inl (cT, 8192, .inl (fun j : Nat => zI (a_t (j : Int)))))] ++ va_pl L (pE P)) H := hP
            have hD : va_D A ([(h0, .inr (14, [.ref q_t, .int (zI (z16_n)), .int (zI (z_42)), .int (zI (z16_kind)), .int (zI (z16_place)), .int (zI (z16_value)), .int (zI (z16_kind)), v16_7, v16_8, v16_9, v16_10, v16_11, v16_12, v16_13])), (q_t, .inl (cT, 8192, .inl (fun j : Nat => zI (a_t (j : Int)))))] ++ va_pl L (pE P)) := hD
            refine lv_goto (tgt := 8) hx hb dX16_next_107 (by decide) ?_
            exact ih8 z_42 ls H _ (by omega) (by omega) (by omega) (lv_sub hl [1] rfl) hP hD hS
          · have yb76 : ¬ (a_t (e8_0_2) : Int) = (9 : Int) := fun q => b76 ((zI_eq (a := a_t (e8_0_2)) (b := 9) (by omega) (by omega) (by omega) (by omega)).mpr q)
            refine lv_iload_n hx hb dX16_next_79 rfl (lv_at hl 0 rfl) ?_
            refine lv_bipush (v := 10) hx hb dX16_next_80 (by decide) ?_
            refine lv_icmp_eq (tgt := 97) hx hb dX16_next_82 (by decide) (fun b82 => ?_) (fun b82 => ?_)
            · have yb82 : (a_t (e8_0_2) : Int) = (10 : Int) := (zI_eq (a := a_t (e8_0_2)) (b := 10) (by omega) (by omega) (by omega) (by omega)).mp b82
              refine lv_aload_n hx hb dX16_next_97 rfl (lv_at hl 1 rfl) ?_
              refine lv_dup hx hb dX16_next_98 rfl ?_
              refine va_get (D := (dC, dI)) (ci := 14) (v := .int (zI (e8_0_2))) (C := RX16) (T := TX16) (N := 14) hx hb hts mem_X16_nextK_0 hown hK hP 0 rfl rfl 2 (by decide) (ow (k := 2) rfl) (fun _ h9 => h9) rfl dX16_next_99 ?_
              refine lv_iconst (v := 1) hx hb dX16_next_102 (by decide) ?_
              refine lv_iadd hx hb dX16_next_103 ?_
              refine lv_topi (fun z ez => ?_)
              obtain rfl : z = zI (e8_0_2 + 1) := ez.trans (zI_add (e8_0_2) (1))
              refine va_put (D := (dC, dI)) (ci := 14) (v := .int (zI (e8_0_2 + 1))) (ty := .int) (C := RX16) (T := TX16) (N := 14) hx hb hts mem_X16_nextK_0 tyX16 tyX16_ok nmX16 hown hK hP hD hS 0 rfl rfl 2 (by decide) (ow (k := 2) rfl) (fun _ h9 => h9) rfl (by decide +kernel) rfl rfl (by first | exact Nat.le_of_ble_eq_true rfl | exact (show 0 ≤ (z16_n - z16_at + 20).toNat from (by omega)) | exact (show 0 ≤ (10 * (z16_n - z16_at) + 120).toNat from (by omega))) dX16_next_104 (fun H locs hP hD hS => ?_)
              have hP : va_P (dC, dI) vwQ ([(h0, .inr (14, [.ref q_t, .int (zI (z16_n)), .int (zI (e8_0_2 + 1)), .int (zI (z16_kind)), .int (zI (z16_place)), .int (zI (z16_value)), .int (zI (z16_kind)), v16_7, v16_8, v16_9, v16_10, v16_11, v16_12, v16_13])), (q_t, .inl (cT, 8192, .inl (fun j : Nat => zI (a_t (j : Int)))))] ++ va_pl L (pE P)) H := hP
              have hD : va_D A ([(h0, .inr (14, [.ref q_t, .int (zI (z16_n)), .int (zI (e8_0_2 + 1)), .int (zI (z16_kind)), .int (zI (z16_place)), .int (zI (z16_value)), .int (zI (z16_kind)), v16_7, v16_8, v16_9, v16_10, v16_11, v16_12, v16_13])), (q_t, .inl (cT, 8192, .inl (fun j : Nat => zI (a_t (j : Int)))))] ++ va_pl L (pE P)) := hD
              obtain ⟨z_43, ez_43⟩ : ∃ z9 : Int, z9 = e8_0_2 + 1 := ⟨_, rfl⟩
              rw [← ez_43] at hP hD
              have hP : va_P (dC, dI) vwQ ([(h0, .inr (14, [.ref q_t, .int (zI (z16_n)), .int (zI (z_43)), .int (zI (z16_kind)), .int (zI (z16_place)), .int (zI (z16_value)), .int (zI (z16_kind)), v16_7, v16_8, v16_9, v16_10, v16_11, v16_12, v16_13])), (q_t, .inl (cT, 8192, .inl (fun j : Nat => zI (a_t (j : Int)))))] ++ va_pl L (pE P)) H := hP
              have hD : va_D A ([(h0, .inr (14, [.ref q_t, .int (zI (z16_n)), .int (zI (z_43)), .int (zI (z16_kind)), .int (zI (z16_place)), .int (zI (z16_value)), .int (zI (z16_kind)), v16_7, v16_8, v16_9, v16_10, v16_11, v16_12, v16_13])), (q_t, .inl (cT, 8192, .inl (fun j : Nat => zI (a_t (j : Int)))))] ++ va_pl L (pE P)) := hD
              refine lv_goto (tgt := 8) hx hb dX16_next_107 (by decide) ?_
              exact ih8 z_43 ls H _ (by omega) (by omega) (by omega) (lv_sub hl [1] rfl) hP hD hS
            · have yb82 : ¬ (a_t (e8_0_2) : Int) = (10 : Int) := fun q => b82 ((zI_eq (a := a_t (e8_0_2)) (b := 10) (by omega) (by omega) (by omega) (by omega)).mpr q)
              refine lv_iload_n hx hb dX16_next_85 rfl (lv_at hl 0 rfl) ?_
              refine lv_bipush (v := 13) hx hb dX16_next_86 (by decide) ?_
              refine lv_icmp_eq (tgt := 97) hx hb dX16_next_88 (by decide) (fun b88 => ?_) (fun b88 => ?_)
              · have yb88 : (a_t (e8_0_2) : Int) = (13 : Int) := (zI_eq (a := a_t (e8_0_2)) (b := 13) (by omega) (by omega) (by omega) (by omega)).mp b88
                refine lv_aload_n hx hb dX16_next_97 rfl (lv_at hl 1 rfl) ?_
                refine lv_dup hx hb dX16_next_98 rfl ?_
                refine va_get (D := (dC, dI)) (ci := 14) (v := .int (zI (e8_0_2))) (C := RX16) (T := TX16) (N := 14) hx hb hts mem_X16_nextK_0 hown hK hP 0 rfl rfl 2 (by decide) (ow (k := 2) rfl) (fun _ h9 => h9) rfl dX16_next_99 ?_
                refine lv_iconst (v := 1) hx hb dX16_next_102 (by decide) ?_
                refine lv_iadd hx hb dX16_next_103 ?_
                refine lv_topi (fun z ez => ?_)
                obtain rfl : z = zI (e8_0_2 + 1) := ez.trans (zI_add (e8_0_2) (1))
                refine va_put (D := (dC, dI)) (ci := 14) (v := .int (zI (e8_0_2 + 1))) (ty := .int) (C := RX16) (T := TX16) (N := 14) hx hb hts mem_X16_nextK_0 tyX16 tyX16_ok nmX16 hown hK hP hD hS 0 rfl rfl 2 (by decide) (ow (k := 2) rfl) (fun _ h9 => h9) rfl (by decide +kernel) rfl rfl (by first | exact Nat.le_of_ble_eq_true rfl | exact (show 0 ≤ (z16_n - z16_at + 20).toNat from (by omega)) | exact (show 0 ≤ (10 * (z16_n - z16_at) + 120).toNat from (by omega))) dX16_next_104 (fun H locs hP hD hS => ?_)
                have hP : va_P (dC, dI) vwQ ([(h0, .inr (14, [.ref q_t, .int (zI (z16_n)), .int (zI (e8_0_2 + 1)), .int (zI (z16_kind)), .int (zI (z16_place)), .int (zI (z16_value)), .int (zI (z16_kind)), v16_7, v16_8, v16_9, v16_10, v16_11, v16_12, v16_13])), (q_t, .inl (cT, 8192, .inl (fun j : Nat => zI (a_t (j : Int)))))] ++ va_pl L (pE P)) H := hP
                have hD : va_D A ([(h0, .inr (14, [.ref q_t, .int (zI (z16_n)), .int (zI (e8_0_2 + 1)), .int (zI (z16_kind)), .int (zI (z16_place)), .int (zI (z16_value)), .int (zI (z16_kind)), v16_7, v16_8, v16_9, v16_10, v16_11, v16_12, v16_13])), (q_t, .inl (cT, 8192, .inl (fun j : Nat => zI (a_t (j : Int)))))] ++ va_pl L (pE P)) := hD
                obtain ⟨z_44, ez_44⟩ : ∃ z9 : Int, z9 = e8_0_2 + 1 := ⟨_, rfl⟩
                rw [← ez_44] at hP hD
                have hP : va_P (dC, dI) vwQ ([(h0, .inr (14, [.ref q_t, .int (zI (z16_n)), .int (zI (z_44)), .int (zI (z16_kind)), .int (zI (z16_place)), .int (zI (z16_value)), .int (zI (z16_kind)), v16_7, v16_8, v16_9, v16_10, v16_11, v16_12, v16_13])), (q_t, .inl (cT, 8192, .inl (fun j : Nat => zI (a_t (j : Int)))))] ++ va_pl L (pE P)) H := hP
                have hD : va_D A ([(h0, .inr (14, [.ref q_t, .int (zI (z16_n)), .int (zI (z_44)), .int (zI (z16_kind)), .int (zI (z16_place)), .int (zI (z16_value)), .int (zI (z16_kind)), v16_7, v16_8, v16_9, v16_10, v16_11, v16_12, v16_13])), (q_t, .inl (cT, 8192, .inl (fun j : Nat => zI (a_t (j : Int)))))] ++ va_pl L (pE P)) := hD
                refine lv_goto (tgt := 8) hx hb dX16_next_107 (by decide) ?_
                exact ih8 z_44 ls H _ (by omega) (by omega) (by omega) (lv_sub hl [1] rfl) hP hD hS
              · have yb88 : ¬ (a_t (e8_0_2) : Int) = (13 : Int) := fun q => b88 ((zI_eq (a := a_t (e8_0_2)) (b := 13) (by omega) (by omega) (by omega) (by omega)).mpr q)
                refine lv_iload_n hx hb dX16_next_91 rfl (lv_at hl 0 rfl) ?_
                refine lv_bipush (v := 32) hx hb dX16_next_92 (by decide) ?_
                refine lv_icmp_ne (tgt := 110) hx hb dX16_next_94 (by decide) (fun b94 => ?_) (fun b94 => ?_)
                · have yb94 : ¬ (a_t (e8_0_2) : Int) = (32 : Int) := fun q => b94 ((zI_eq (a := a_t (e8_0_2)) (b := 32) (by omega) (by omega) (by omega) (by omega)).mpr q)
                  refine lv_aload_n hx hb dX16_next_110 rfl (lv_at hl 1 rfl) ?_
                  refine lv_aload_n hx hb dX16_next_111 rfl (lv_at hl 1 rfl) ?_
                  refine va_get (D := (dC, dI)) (ci := 14) (v := .int (zI (e8_0_2))) (C := RX16) (T := TX16) (N := 14) hx hb hts mem_X16_nextK_0 hown hK hP 0 rfl rfl 2 (by decide) (ow (k := 2) rfl) (fun _ h9 => h9) rfl dX16_next_112 ?_
                  refine va_put (D := (dC, dI)) (ci := 14) (v := .int (zI (e8_0_2))) (ty := .int) (C := RX16) (T := TX16) (N := 14) hx hb hts mem_X16_nextK_0 tyX16 tyX16_ok nmX16 hown hK hP hD hS 0 rfl rfl 4 (by decide) (ow (k := 4) rfl) (fun _ h9 => h9) rfl (by decide +kernel) rfl rfl (by first | exact Nat.le_of_ble_eq_true rfl | exact (show 0 ≤ (z16_n - z16_at + 20).toNat from (by omega)) | exact (show 0 ≤ (10 * (z16_n - z16_at) + 120).toNat from (by omega))) dX16_next_115 (fun H locs hP hD hS => ?_)
                  have hP : va_P (dC, dI) vwQ ([(h0, .inr (14, [.ref q_t, .int (zI (z16_n)), .int (zI (e8_0_2)), .int (zI (z16_kind)), .int (zI (e8_0_2)), .int (zI (z16_value)), .int (zI (z16_kind)), v16_7, v16_8, v16_9, v16_10, v16_11, v16_12, v16_13])), (q_t, .inl (cT, 8192, .inl (fun j : Nat => zI (a_t (j : Int)))))] ++ va_pl L (pE P)) H := hP
                  have hD : va_D A ([(h0, .inr (14, [.ref q_t, .int (zI (z16_n)), .int (zI (e8_0_2)), .int (zI (z16_kind)), .int (zI (e8_0_2)), .int (zI (z16_value)), .int (zI (z16_kind)), v16_7, v16_8, v16_9, v16_10, v16_11, v16_12, v16_13])), (q_t, .inl (cT, 8192, .inl (fun j : Nat => zI (a_t (j : Int)))))] ++ va_pl L (pE P)) := hD
                  refine lv_aload_n hx hb dX16_next_118 rfl (lv_at hl 1 rfl) ?_
                  refine va_ldcS hx hb hown hp0 dX16_next_119 ?_
                  refine va_put (D := (dC, dI)) (ci := 14) (v := .ref sa_RX16_9) (ty := .object "java/lang/String") (C := RX16) (T := TX16) (N := 14) hx hb hts mem_X16_nextK_0 tyX16 tyX16_ok nmX16 hown hK hP hD hS 0 rfl rfl 7 (by decide) (ow (k := 5) rfl) (fun _ h9 => h9) rfl (by decide +kernel) rfl rfl (by first | exact Nat.le_of_ble_eq_true rfl | exact (show 0 ≤ (z16_n - z16_at + 20).toNat from (by omega)) | exact (show 0 ≤ (10 * (z16_n - z16_at) + 120).toNat from (by omega))) dX16_next_121 (fun H locs hP hD hS => ?_)
                  have hP : va_P (dC, dI) vwQ ([(h0, .inr (14, [.ref q_t, .int (zI (z16_n)), .int (zI (e8_0_2)), .int (zI (z16_kind)), .int (zI (e8_0_2)), .int (zI (z16_value)), .int (zI (z16_kind)), .ref sa_RX16_9, v16_8, v16_9, v16_10, v16_11, v16_12, v16_13])), (q_t, .inl (cT, 8192, .inl (fun j : Nat => zI (a_t (j : Int)))))] ++ va_pl L (pE P)) H := hP
                  have hD : va_D A ([(h0, .inr (14, [.ref q_t, .int (zI (z16_n)), .int (zI (e8_0_2)), .int (zI (z16_kind)), .int (zI (e8_0_2)), .int (zI (z16_value)), .int (zI (z16_kind)), .ref sa_RX16_9, v16_8, v16_9, v16_10, v16_11, v16_12, v16_13])), (q_t, .inl (cT, 8192, .inl (fun j : Nat => zI (a_t (j : Int)))))] ++ va_pl L (pE P)) := hD
                  refine lv_aload_n hx hb dX16_next_124 rfl (lv_at hl 1 rfl) ?_
                  refine va_get (D := (dC, dI)) (ci := 14) (v := .int (zI (e8_0_2))) (C := RX16) (T := TX16) (N := 14) hx hb hts mem_X16_nextK_0 hown hK hP 0 rfl rfl 2 (by decide) (ow (k := 2) rfl) (fun _ h9 => h9) rfl dX16_next_125 ?_
                  refine lv_aload_n hx hb dX16_next_128 rfl (lv_at hl 1 rfl) ?_
                  refine va_get (D := (dC, dI)) (ci := 14) (v := .int (zI (z16_n))) (C := RX16) (T := TX16) (N := 14) hx hb hts mem_X16_nextK_0 hown hK hP 0 rfl rfl 1 (by decide) (ow (k := 3) rfl) (fun _ h9 => h9) rfl dX16_next_129 ?_
                  refine lv_icmp_ne (tgt := 141) hx hb dX16_next_132 (by decide) (fun b132 => ?_) (fun b132 => ?_)
                  · have yb132 : ¬ (e8_0_2 : Int) = (z16_n : Int) := fun q => b132 ((zI_eq (a := e8_0_2) (b := z16_n) (by omega) (by omega) (by omega) (by omega)).mpr q)
                    refine lv_aload_n hx hb dX16_next_141 rfl (lv_at hl 1 rfl) ?_
                    refine va_get (D := (dC, dI)) (ci := 14) (v := .ref q_t) (C := RX16) (T := TX16) (N := 14) hx hb hts mem_X16_nextK_0 hown hK hP 0 rfl rfl 0 (by decide) (ow (k := 6) rfl) (fun _ h9 => h9) rfl dX16_next_142 ?_
                    refine lv_aload_n hx hb dX16_next_145 rfl (lv_at hl 1 rfl) ?_
                    refine va_get (D := (dC, dI)) (ci := 14) (v := .int (zI (e8_0_2))) (C := RX16) (T := TX16) (N := 14) hx hb hts mem_X16_nextK_0 hown hK hP 0 rfl rfl 2 (by decide) (ow (k := 2) rfl) (fun _ h9 => h9) rfl dX16_next_146 ?_
                    refine va_bald hx hb hK hP 1 0 rfl rfl (zI_in (a := e8_0_2) (n := 8192) (by omega) (by omega) (by decide)) dX16_next_149 ?_
                    refine lv_topi (fun z ez => ?_)
                    obtain rfl : z = zI (a_t (e8_0_2)) := ez.trans (zI_ld (a_t) (by omega) (by omega))
                    have k4 := hR_a_t (e8_0_2)
                    refine lv_istore_n (lv' := [(1, .int (zI (a_t (e8_0_2)))), (0, .ref h0)]) hx hb dX16_next_150 rfl hl (by decide) rfl (fun ls hl => ?_)
                    have key209 : ∀ (mm : Int) (ls : Array Slot) (H : Heap) (locs : List Loc), (mm = 0 ∨ (mm = 1 ∧ e8_0_2 + 1 < z16_n)) → lv_has ls 3 [(0, .ref h0), (1, .int (zI (a_t (e8_0_2)))), (2, .int (zI (mm)))] → va_P (dC, dI) vwQ ([(h0, .inr (14, [.ref q_t, .int (zI (z16_n)), .int (zI (e8_0_2)), .int (zI (z16_kind)), .int (zI (e8_0_2)), .int (zI (z16_value)), .int (zI (z16_kind)), .ref sa_RX16_9, v16_8, v16_9, v16_10, v16_11, v16_12, v16_13])), (q_t, .inl (cT, 8192, .inl (fun j : Nat => zI (a_t (j : Int)))))] ++ va_pl L (pE P)) H → va_D A ([(h0, .inr (14, [.ref q_t, .int (zI (z16_n)), .int (zI (e8_0_2)), .int (zI (z16_kind)), .int (zI (e8_0_2)), .int (zI (z16_value)), .int (zI (z16_kind)), .ref sa_RX16_9, v16_8, v16_9, v16_10, v16_11, v16_12, v16_13])), (q_t, .inl (cT, 8192, .inl (fun j : Nat => zI (a_t (j : Int)))))] ++ va_pl L (pE P)) → va_S A s.heap H locs → W p l e (headSpec v_X16_nextK ({ frames := 7, cells := ((z16_n - z16_at + 20).toNat), slots := ((10 * (z16_n - z16_at) + 120).toNat), locals := 194 })).room s m ([.ref h0] : List Value).toArray below meth c H locs 0 0 Q (F0 m 209 ls []) := by
                      intro mm ls H locs jm hl hP hD hS
                      refine lv_iload_n hx hb dX16_next_209 rfl (lv_at hl 1 rfl) ?_
                      have hPc := hP.sub (ws' := []) [] rfl
                      have hDc := hD.sub (ws' := []) [] (by decide) rfl
                      have hKc := hK.sub (tys' := []) [] rfl
                      have hFc := va_free (wc := []) hD hS hA [] rfl
                      refine va_calli (va_runS (As := [.int (zI (a_t (e8_0_2)))]) (rest := []) ⟨hx, hb, hml, hown, hts⟩ (c_X16_isLetter l dC dI (a_t (e8_0_2)) (by omega) H.size) (cwS 1 hts g_X16_nextK_X16_isLetter rfl rfl rfl (by decide +kernel) ⟨(Nat.le_of_ble_eq_true rfl), (Nat.le_of_ble_eq_true rfl)⟩) ⟨fun a U g mk q => by obtain ⟨q0, q1, qP, qK, qD⟩ := q; exact ⟨q0, q1, qP, va_K.moved (u := U) (U := U.calling g mk a) (Vm.Alike.refl U.vm) qK, qD⟩, fun U hU hW => ⟨rfl, by rw [hU], by rw [hU]; exact hPc, va_K.moved hW.alike hKc, hDc.weaken (fun _ _ _ _ => trivial)⟩⟩ rfl rfl hl.1 rfl (lv_room (Nat.le_of_ble_eq_true rfl)) dX16_next_210 ⟨(Nat.zero_le _), (Nat.zero_le _)⟩) hS (fun q _ h => hFc q h) hFc (fun r_45 u t H1 locs ht hvm hw hB hz1 hk1 hS => ?_)
                      obtain ⟨hP1, hK1, hD1⟩ := hB
                      rw [ht] at hP1
                      have hK1 := va_K.moved hvm.symm hK1
                      obtain ⟨hP, hD⟩ := va_joinQ (X := [(h0, .inr (14, [.ref q_t, .int (zI (z16_n)), .int (zI (e8_0_2)), .int (zI (z16_kind)), .int (zI (e8_0_2)), .int (zI (z16_value)), .int (zI (z16_kind)), .ref sa_RX16_9, v16_8, v16_9, v16_10, v16_11, v16_12, v16_13])), (q_t, .inl (cT, 8192, .inl (fun j : Nat => zI (a_t (j : Int)))))]) (cx := []) (wr := [(h0, .inr (14, [.ref q_t, .int (zI (z16_n)), .int (zI (e8_0_2)), .int (zI (z16_kind)), .int (zI (e8_0_2)), .int (zI (z16_value)), .int (zI (z16_kind)), .ref sa_RX16_9, v16_8, v16_9, v16_10, v16_11, v16_12, v16_13])), (q_t, .inl (cT, 8192, .inl (fun j : Nat => zI (a_t (j : Int)))))]) (w1 := []) (pl := va_pl L (pE P)) hP hD [] [0, 1] rfl rfl (by decide) (by decide) hk1 hFc hP1 hD1
                      have hK := (hK.sub (tys' := [(cT, .byte)]) [0] rfl).app hK1
                      generalize H1 = H at hP hS ⊢
                      have hP : va_P (dC, dI) vwQ ([(h0, .inr (14, [.ref q_t, .int (zI (z16_n)), .int (zI (e8_0_2)), .int (zI (z16_kind)), .int (zI (e8_0_2)), .int (zI (z16_value)), .int (zI (z16_kind)), .ref sa_RX16_9, v16_8, v16_9, v16_10, v16_11, v16_12, v16_13])), (q_t, .inl (cT, 8192, .inl (fun j : Nat => zI (a_t (j : Int)))))] ++ va_pl L (pE P)) H := hP
                      have hD : va_D A ([(h0, .inr (14, [.ref q_t, .int (zI (z16_n)), .int (zI (e8_0_2)), .int (zI (z16_kind)), .int (zI (e8_0_2)), .int (zI (z16_value)), .int (zI (z16_kind)), .ref sa_RX16_9, v16_8, v16_9, v16_10, v16_11, v16_12, v16_13])), (q_t, .inl (cT, 8192, .inl (fun j : Nat => zI (a_t (j : Int)))))] ++ va_pl L (pE P)) := hD
                      have hK : va_K (dC, dI) vwQ [(cT, .byte)] s := hK
                      refine W.widen (k := 0) (n := 0) (Nat.le_of_ble_eq_true rfl) (Nat.le_of_ble_eq_true rfl) ?_
                      have hw_46 := hw
                      obtain ⟨z_47, rfl, hzz_47⟩ := hw_46
                      refine lv_if_eq (tgt := 223) hx hb dX16_next_213 (by decide) (fun b213 => ?_) (fun b213 => ?_)
                      · have yb213 : (z_47 : Int) = (0 : Int) := (zI_eq (a := z_47) (b := 0) (by omega) (by omega) (by omega) (by omega)).mp b213
                        refine lv_iload_n hx hb dX16_next_223 rfl (lv_at hl 1 rfl) ?_
                        have hPc := hP.sub (ws' := []) [] rfl
                        have hDc := hD.sub (ws' := []) [] (by decide) rfl
                        have hKc := hK.sub (tys' := []) [] rfl
                        have hFc := va_free (wc := []) hD hS hA [] rfl
                        refine va_calli (va_runS (As := [.int (zI (a_t (e8_0_2)))]) (rest := []) ⟨hx, hb, hml, hown, hts⟩ (c_X16_isDigit l dC dI (a_t (e8_0_2)) (by omega) H.size) (cwS 1 hts g_X16_nextK_X16_isDigit rfl rfl rfl (by decide +kernel) ⟨(Nat.le_of_ble_eq_true rfl), (Nat.le_of_ble_eq_true rfl)⟩) ⟨fun a U g mk q => by obtain ⟨q0, q1, qP, qK, qD⟩ := q; exact ⟨q0, q1, qP, va_K.moved (u := U) (U := U.calling g mk a) (Vm.Alike.refl U.vm) qK, qD⟩, fun U hU hW => ⟨rfl, by rw [hU], by rw [hU]; exact hPc, va_K.moved hW.alike hKc, hDc.weaken (fun _ _ _ _ => trivial)⟩⟩ rfl rfl hl.1 rfl (lv_room (Nat.le_of_ble_eq_true rfl)) dX16_next_224 ⟨(Nat.zero_le _), (Nat.zero_le _)⟩) hS (fun q _ h => hFc q h) hFc (fun r_48 u t H1 locs ht hvm hw hB hz1 hk1 hS => ?_)
                        obtain ⟨hP1, hK1, hD1⟩ := hB
                        rw [ht] at hP1
                        have hK1 := va_K.moved hvm.symm hK1
                        obtain ⟨hP, hD⟩ := va_joinQ (X := [(h0, .inr (14, [.ref q_t, .int (zI (z16_n)), .int (zI (e8_0_2)), .int (zI (z16_kind)), .int (zI (e8_0_2)), .int (zI (z16_value)), .int (zI (z16_kind)), .ref sa_RX16_9, v16_8, v16_9, v16_10, v16_11, v16_12, v16_13])), (q_t, .inl (cT, 8192, .inl (fun j : Nat => zI (a_t (j : Int)))))]) (cx := []) (wr := [(h0, .inr (14, [.ref q_t, .int (zI (z16_n)), .int (zI (e8_0_2)), .int (zI (z16_kind)), .int (zI (e8_0_2)), .int (zI (z16_value)), .int (zI (z16_kind)), .ref sa_RX16_9, v16_8, v16_9, v16_10, v16_11, v16_12, v16_13])), (q_t, .inl (cT, 8192, .inl (fun j : Nat => zI (a_t (j : Int)))))]) (w1 := []) (pl := va_pl L (pE P)) hP hD [] [0, 1] rfl rfl (by decide) (by decide) hk1 hFc hP1 hD1
                        have hK := (hK.sub (tys' := [(cT, .byte)]) [0] rfl).app hK1
                        generalize H1 = H at hP hS ⊢
                        have hP : va_P (dC, dI) vwQ ([(h0, .inr (14, [.ref q_t, .int (zI (z16_n)), .int (zI (e8_0_2)), .int (zI (z16_kind)), .int (zI (e8_0_2)), .int (zI (z16_value)), .int (zI (z16_kind)), .ref sa_RX16_9, v16_8, v16_9, v16_10, v16_11, v16_12, v16_13])), (q_t, .inl (cT, 8192, .inl (fun j : Nat => zI (a_t (j : Int)))))] ++ va_pl L (pE P)) H := hP
                        have hD : va_D A ([(h0, .inr (14, [.ref q_t, .int (zI (z16_n)), .int (zI (e8_0_2)), .int (zI (z16_kind)), .int (zI (e8_0_2)), .int (zI (z16_value)), .int (zI (z16_kind)), .ref sa_RX16_9, v16_8, v16_9, v16_10, v16_11, v16_12, v16_13])), (q_t, .inl (cT, 8192, .inl (fun j : Nat => zI (a_t (j : Int)))))] ++ va_pl L (pE P)) := hD
                        have hK : va_K (dC, dI) vwQ [(cT, .byte)] s := hK
                        refine W.widen (k := 0) (n := 0) (Nat.le_of_ble_eq_true rfl) (Nat.le_of_ble_eq_true rfl) ?_
                        have hw_49 := hw
                        obtain ⟨z_50, rfl, hzz_50⟩ := hw_49
                        refine lv_if_ne (tgt := 234) hx hb dX16_next_227 (by decide) (fun b227 => ?_) (fun b227 => ?_)
                        · have yb227 : ¬ (z_50 : Int) = (0 : Int) := fun q => b227 ((zI_eq (a := z_50) (b := 0) (by omega) (by omega) (by omega) (by omega)).mpr q)
                          refine lv_aload_n hx hb dX16_next_234 rfl (lv_at hl 0 rfl) ?_
                          refine lv_iload_n hx hb dX16_next_235 rfl (lv_at hl 2 rfl) ?_
                          have hPc := hP.sub (ws' := [(h0, .inr (14, [.ref q_t, .int (zI (z16_n)), .int (zI (e8_0_2)), .int (zI (z16_kind)), .int (zI (e8_0_2)), .int (zI (z16_value)), .int (zI (z16_kind)), .ref sa_RX16_9, v16_8, v16_9, v16_10, v16_11, v16_12, v16_13])), (q_t, .inl (cT, 8192, .inl (fun j : Nat => zI (a_t (j : Int)))))]) [0, 1] rfl
                          have hDc := hD.sub (ws' := [(h0, .inr (14, [.ref q_t, .int (zI (z16_n)), .int (zI (e8_0_2)), .int (zI (z16_kind)), .int (zI (e8_0_2)), .int (zI (z16_value)), .int (zI (z16_kind)), .ref sa_RX16_9, v16_8, v16_9, v16_10, v16_11, v16_12, v16_13])), (q_t, .inl (cT, 8192, .inl (fun j : Nat => zI (a_t (j : Int)))))]) [0, 1] (by decide) rfl
                          have hKc := hK.sub (tys' := [(cT, .byte)]) [0] rfl
                          have hFc := va_free (wc := [(h0, .inr (14, [.ref q_t, .int (zI (z16_n)), .int (zI (e8_0_2)), .int (zI (z16_kind)), .int (zI (e8_0_2)), .int (zI (z16_value)), .int (zI (z16_kind)), .ref sa_RX16_9, v16_8, v16_9, v16_10, v16_11, v16_12, v16_13])), (q_t, .inl (cT, 8192, .inl (fun j : Nat => zI (a_t (j : Int)))))]) hD hS hA [0, 1] rfl
                          refine va_callv (va_runV (As := [.int (zI (mm))]) (rest := []) ⟨hx, hb, hml, hown, hts⟩ (c_X16_number l dC dI h0 z16_n e8_0_2 z16_kind (.int (zI (e8_0_2))) z16_value (.int (zI (z16_kind))) (.ref sa_RX16_9) v16_8 v16_9 v16_10 v16_11 v16_12 v16_13 q_t cT a_t mm (by omega) (by omega) (by omega) (by omega) hR_a_t (by omega) H.size) (cwV 1 hts g_X16_nextK_X16_number rfl rfl rfl (by decide +kernel) ⟨(Nat.le_of_ble_eq_true rfl), (Nat.le_of_ble_eq_true rfl)⟩) ⟨fun a U g mk q => by obtain ⟨q0, q1, qP, qK, qD⟩ := q; exact ⟨q0, q1, qP, va_K.moved (u := U) (U := U.calling g mk a) (Vm.Alike.refl U.vm) qK, qD⟩, va_recv hKc hPc (ci := 14) (q0 := 0) rfl rfl, fun U hU hW => ⟨rfl, by rw [hU], by rw [hU]; exact hPc, va_K.moved hW.alike hKc, hDc.weaken (fun _ _ _ _ => trivial)⟩⟩ rfl rfl hl.1 rfl (lv_room (Nat.le_of_ble_eq_true rfl)) dX16_next_236 ⟨(Nat.zero_le _), (Nat.zero_le _)⟩) hS (fun q _ h => hFc q h) hFc (fun  u t H1 locs ht hvm hw hB hz1 hk1 hS => ?_)
                          obtain ⟨z0_51, z1_52, z2_53, hxt_53, hP1, hK1, hD1⟩ := hB
                          rw [ht] at hP1
                          have hK1 := va_K.moved hvm.symm hK1
                          obtain ⟨hP, hD⟩ := va_joinQ (X := [(h0, .inr (14, [.ref q_t, .int (zI (z16_n)), .int (zI (e8_0_2)), .int (zI (z16_kind)), .int (zI (e8_0_2)), .int (zI (z16_value)), .int (zI (z16_kind)), .ref sa_RX16_9, v16_8, v16_9, v16_10, v16_11, v16_12, v16_13])), (q_t, .inl (cT, 8192, .inl (fun j : Nat => zI (a_t (j : Int)))))]) (cx := [(h0, .inr (14, [.ref q_t, .int (zI (z16_n)), .int (zI (e8_0_2)), .int (zI (z16_kind)), .int (zI (e8_0_2)), .int (zI (z16_value)), .int (zI (z16_kind)), .ref sa_RX16_9, v16_8, v16_9, v16_10, v16_11, v16_12, v16_13])), (q_t, .inl (cT, 8192, .inl (fun j : Nat => zI (a_t (j : Int)))))]) (wr := []) (w1 := [(h0, .inr (14, [.ref q_t, .int (zI (z16_n)), .int (zI (z0_51)), .int (zI (z1_52)), .int (zI (e8_0_2)), .int (zI (z2_53)), .int (zI (z16_kind)), .ref sa_RX16_9, v16_8, v16_9, v16_10, v16_11, v16_12, v16_13])), (q_t, .inl (cT, 8192, .inl (fun j : Nat => zI (a_t (j : Int)))))]) (pl := va_pl L (pE P)) hP hD [0, 1] [] rfl rfl (by decide) (by decide) hk1 hFc hP1 hD1
                          have hK := (hK.sub (tys' := []) [] rfl).app hK1
                          generalize H1 = H at hP hS ⊢
                          have hP : va_P (dC, dI) vwQ ([(h0, .inr (14, [.ref q_t, .int (zI (z16_n)), .int (zI (z0_51)), .int (zI (z1_52)), .int (zI (e8_0_2)), .int (zI (z2_53)), .int (zI (z16_kind)), .ref sa_RX16_9, v16_8, v16_9, v16_10, v16_11, v16_12, v16_13])), (q_t, .inl (cT, 8192, .inl (fun j : Nat => zI (a_t (j : Int)))))] ++ va_pl L (pE P)) H := hP
                          have hD : va_D A ([(h0, .inr (14, [.ref q_t, .int (zI (z16_n)), .int (zI (z0_51)), .int (zI (z1_52)), .int (zI (e8_0_2)), .int (zI (z2_53)), .int (zI (z16_kind)), .ref sa_RX16_9, v16_8, v16_9, v16_10, v16_11, v16_12, v16_13])), (q_t, .inl (cT, 8192, .inl (fun j : Nat => zI (a_t (j : Int)))))] ++ va_pl L (pE P)) := hD
                          have hK : va_K (dC, dI) vwQ [(cT, .byte)] s := hK
                          refine W.widen (k := 0) (n := 0) (Nat.le_of_ble_eq_true rfl) (Nat.le_of_ble_eq_true rfl) ?_
                          obtain ⟨rk_54, rk_55, rk_56, hu_56⟩ := hxt_53
                          refine lv_goto (tgt := 247) hx hb dX16_next_239 (by decide) ?_
                          subst hQ
                          refine W_knowS (fun hrm9 => ?_)
                          refine W.widen (k := ((z16_n - z16_at + 20).toNat)) (n := ((10 * (z16_n - z16_at) + 120).toNat)) (by omega) (by omega) ?_
                          exact W.vret hx hb hr (fun t ht hW => ⟨⟨(), rfl, trivial, z0_51, z1_52, e8_0_2, z2_53, z16_kind, sa_RX16_9, L, P, 0, 0, ⟨⟨(by rw [ht, ← hp1]; exact hrm9), (by first | exact hrb | exact TKV.z (by omega) (by omega) (by omega) | exact TKV.s (by omega) (by omega) (by omega) (by omega) | omega)⟩, ⟨(by omega), (by omega), (by omega), (by omega), (by omega), ⟨⟨⟨by omega, by omega, by omega⟩, (TKQ.of (by omega) (by omega) (by omega))⟩, (KDN.of (by omega) (by omega) (by omega)), EXT9.refl _ _, TXN.refl _ _, Or.inl rfl, (fun q9 => by omega)⟩⟩⟩, by rw [ht]; exact hP, va_K.moved hW.alike hK, hD⟩, hS.F ht⟩) hS.2.2 dX16_next_247
                        · have yb227 : (z_50 : Int) = (0 : Int) := (zI_eq (a := z_50) (b := 0) (by omega) (by omega) (by omega) (by omega)).mp b227
                          refine lv_iload_n hx hb dX16_next_230 rfl (lv_at hl 2 rfl) ?_
                          refine lv_if_eq (tgt := 242) hx hb dX16_next_231 (by decide) (fun b231 => ?_) (fun b231 => ?_)
                          · have yb231 : (mm : Int) = (0 : Int) := (zI_eq (a := mm) (b := 0) (by omega) (by omega) (by omega) (by omega)).mp b231
                            skip
                            refine lv_aload_n hx hb dX16_next_242 rfl (lv_at hl 0 rfl) ?_
                            refine lv_iload_n hx hb dX16_next_243 rfl (lv_at hl 1 rfl) ?_
                            have hPc := hP.part (X := [(h0, .inr (14, [.ref q_t, .int (zI (z16_n)), .int (zI (e8_0_2)), .int (zI (z16_kind)), .int (zI (e8_0_2)), .int (zI (z16_value)), .int (zI (z16_kind)), .ref sa_RX16_9, v16_8, v16_9, v16_10, v16_11, v16_12, v16_13])), (q_t, .inl (cT, 8192, .inl (fun j : Nat => zI (a_t (j : Int)))))]) (cx := [(h0, .inr (14, [.ref q_t, .int (zI (z16_n)), .int (zI (e8_0_2)), .int (zI (z16_kind)), .int (zI (e8_0_2)), .int (zI (z16_value)), .int (zI (z16_kind)), .ref sa_RX16_9, v16_8, v16_9, v16_10, v16_11, v16_12, v16_13])), (q_t, .inl (cT, 8192, .inl (fun j : Nat => zI (a_t (j : Int)))))]) (pl := va_pl L (pE P)) [0, 1] rfl
                            have hDc := hD.part (X := [(h0, .inr (14, [.ref q_t, .int (zI (z16_n)), .int (zI (e8_0_2)), .int (zI (z16_kind)), .int (zI (e8_0_2)), .int (zI (z16_value)), .int (zI (z16_kind)), .ref sa_RX16_9, v16_8, v16_9, v16_10, v16_11, v16_12, v16_13])), (q_t, .inl (cT, 8192, .inl (fun j : Nat => zI (a_t (j : Int)))))]) (cx := [(h0, .inr (14, [.ref q_t, .int (zI (z16_n)), .int (zI (e8_0_2)), .int (zI (z16_kind)), .int (zI (e8_0_2)), .int (zI (z16_value)), .int (zI (z16_kind)), .ref sa_RX16_9, v16_8, v16_9, v16_10, v16_11, v16_12, v16_13])), (q_t, .inl (cT, 8192, .inl (fun j : Nat => zI (a_t (j : Int)))))]) (pl := va_pl L (pE P)) [0, 1] (by decide) rfl
                            have hKc := hK.sub (tys' := [(cT, .byte)]) [0] rfl
                            have hFc := va_freeP (X := [(h0, .inr (14, [.ref q_t, .int (zI (z16_n)), .int (zI (e8_0_2)), .int (zI (z16_kind)), .int (zI (e8_0_2)), .int (zI (z16_value)), .int (zI (z16_kind)), .ref sa_RX16_9, v16_8, v16_9, v16_10, v16_11, v16_12, v16_13])), (q_t, .inl (cT, 8192, .inl (fun j : Nat => zI (a_t (j : Int)))))]) (cx := [(h0, .inr (14, [.ref q_t, .int (zI (z16_n)), .int (zI (e8_0_2)), .int (zI (z16_kind)), .int (zI (e8_0_2)), .int (zI (z16_value)), .int (zI (z16_kind)), .ref sa_RX16_9, v16_8, v16_9, v16_10, v16_11, v16_12, v16_13])), (q_t, .inl (cT, 8192, .inl (fun j : Nat => zI (a_t (j : Int)))))]) (pl := va_pl L (pE P)) hD hS hA [0, 1] rfl
                            refine W_knowS (fun hrmA => ?_)
                            refine va_callv (va_runV (As := [.int (zI (a_t (e8_0_2)))]) (rest := []) ⟨hx, hb, hml, hown, hts⟩ (c_X16_symbolK l dC dI h0 z16_n e8_0_2 z16_kind (.int (zI (e8_0_2))) (.int (zI (z16_value))) (.int (zI (z16_kind))) v16_8 v16_9 v16_10 v16_11 v16_12 v16_13 q_t cT a_t sa_RX16_9 L P (a_t (e8_0_2)) (by omega) (by omega) (by omega) hR_a_t (by omega) H.size sa_RX16_9 H sv_RX16_9 sa_RX16_119 sv_RX16_119 sa_RX16_100 sv_RX16_100 sa_RX16_117 sa_RX16_100 sv_RX16_117) (cwV 1 hts g_X16_nextK_X16_symbolK rfl rfl rfl (by decide +kernel) ⟨(Nat.le_of_ble_eq_true rfl), (Nat.le_of_ble_eq_true rfl)⟩) ⟨fun a U g mk q => by obtain ⟨q0, q1, qP, qK, qD, e0, e1, e2, e3, e4, e5, e6, e7, e8, e9, e10⟩ := q; exact ⟨q0, q1, qP, va_K.moved (u := U) (U := U.calling g mk a) (Vm.Alike.refl U.vm) qK, qD, vk_R.same (u := U) (U := U.calling g mk a) rfl e0, e1, va_Z.moved (u := U) (U := U.calling g mk a) (Vm.Alike.refl U.vm) e2, vs_S.moved (u := U) (U := U.calling g mk a) (Vm.Alike.refl U.vm) e3, va_Nw.same rfl (u := U) (U := U.calling g mk a) rfl e4, vk_R.same (u := U) (U := U.calling g mk a) rfl e5, vs_S.moved (u := U) (U := U.calling g mk a) (Vm.Alike.refl U.vm) e6, vs_S.moved (u := U) (U := U.calling g mk a) (Vm.Alike.refl U.vm) e7, vk_R.same (u := U) (U := U.calling g mk a) rfl e8, vk_R.same (u := U) (U := U.calling g mk a) rfl e9, vs_S.moved (u := U) (U := U.calling g mk a) (Vm.Alike.refl U.vm) e10⟩, va_recv hKc hPc (ci := 14) (q0 := 0) rfl rfl, fun U hU hW => ⟨rfl, by rw [hU], by rw [hU]; exact hPc, va_K.moved hW.alike hKc, hDc.weaken (fun _ _ _ _ => trivial), vk_R.warm hW hp0, hU, by rw [hU]; exact va_Z.narrow (va_Z.moved hW.alike (va_Z.kept hp2 hS.2.1)) hFc, by rw [hU]; exact vs_S.narrow (vs_S.moved hW.alike (vs_S.kept hp3 hS.2.1)) hFc, va_Nw.warmC hW hp4, vk_R.warm hW hp5, by rw [hU]; exact vs_S.narrow (vs_S.moved hW.alike (vs_S.kept hp6 hS.2.1)) hFc, by rw [hU]; exact vs_S.narrow (vs_S.moved hW.alike (vs_S.kept hp7 hS.2.1)) hFc, vk_R.warm hW hp8, vk_R.warm hW hp9, by rw [hU]; exact vs_S.narrow (vs_S.moved hW.alike (vs_S.kept hp10 hS.2.1)) hFc⟩⟩ rfl rfl hl.1 rfl (lv_room (Nat.le_of_ble_eq_true rfl)) dX16_next_244 ⟨(show 0 + (12) ≤ (z16_n - z16_at + 20).toNat from (by omega)), (show 0 + (100) ≤ (10 * (z16_n - z16_at) + 120).toNat from (by omega))⟩) hS (fun q _ h => hFc q h) hFc (fun  u t H1 locs ht hvm hw hB hz1 hk1 hS => ?_)
                            obtain ⟨z0_57, z1_58, q2_59, Ln_60, Pn_61, kc_62, ks_63, hxt_63, hP1, hK1, hD1⟩ := hB
                            rw [ht] at hP1
                            have hK1 := va_K.moved hvm.symm hK1
                            obtain ⟨hP, hD⟩ := va_joinP (X := [(h0, .inr (14, [.ref q_t, .int (zI (z16_n)), .int (zI (e8_0_2)), .int (zI (z16_kind)), .int (zI (e8_0_2)), .int (zI (z16_value)), .int (zI (z16_kind)), .ref sa_RX16_9, v16_8, v16_9, v16_10, v16_11, v16_12, v16_13])), (q_t, .inl (cT, 8192, .inl (fun j : Nat => zI (a_t (j : Int)))))]) (cx := [(h0, .inr (14, [.ref q_t, .int (zI (z16_n)), .int (zI (e8_0_2)), .int (zI (z16_kind)), .int (zI (e8_0_2)), .int (zI (z16_value)), .int (zI (z16_kind)), .ref sa_RX16_9, v16_8, v16_9, v16_10, v16_11, v16_12, v16_13])), (q_t, .inl (cT, 8192, .inl (fun j : Nat => zI (a_t (j : Int)))))]) (wr := []) (rx := [(h0, .inr (14, [.ref q_t, .int (zI (z16_n)), .int (zI (z0_57)), .int (zI (z1_58)), .int (zI (e8_0_2)), .int (zI (z16_value)), .int (zI (z16_kind)), .ref q2_59, v16_8, v16_9, v16_10, v16_11, v16_12, v16_13])), (q_t, .inl (cT, 8192, .inl (fun j : Nat => zI (a_t (j : Int)))))]) (pl := va_pl L (pE P)) (pl1 := va_pl Ln_60 (pE Pn_61)) hP hD [0, 1] [] rfl rfl (by decide) (by decide) hk1 hFc hP1 hD1
                            have hK := (hK.sub (tys' := []) [] rfl).app hK1
                            have hrmC := hxt_63.1.1
                            rw [ht] at hrmC
                            refine W_tightS (hrmA.trans hrmC) ?_
                            have hrb := hxt_63.1.2
                            generalize H1 = H at hP hS ⊢
                            have hP : va_P (dC, dI) vwQ ([(h0, .inr (14, [.ref q_t, .int (zI (z16_n)), .int (zI (z0_57)), .int (zI (z1_58)), .int (zI (e8_0_2)), .int (zI (z16_value)), .int (zI (z16_kind)), .ref q2_59, v16_8, v16_9, v16_10, v16_11, v16_12, v16_13])), (q_t, .inl (cT, 8192, .inl (fun j : Nat => zI (a_t (j : Int)))))] ++ va_pl Ln_60 (pE Pn_61)) H := hP
                            have hD : va_D A ([(h0, .inr (14, [.ref q_t, .int (zI (z16_n)), .int (zI (z0_57)), .int (zI (z1_58)), .int (zI (e8_0_2)), .int (zI (z16_value)), .int (zI (z16_kind)), .ref q2_59, v16_8, v16_9, v16_10, v16_11, v16_12, v16_13])), (q_t, .inl (cT, 8192, .inl (fun j : Nat => zI (a_t (j : Int)))))] ++ va_pl Ln_60 (pE Pn_61)) := hD
                            have hK : va_K (dC, dI) vwQ [(cT, .byte)] s := hK
                            refine W.widen (k := (0 + kc_62)) (n := (0 + ks_63)) (by omega) (by omega) ?_
                            obtain ⟨rk_64, rk_65, hu_65⟩ := hxt_63.2
                            subst hQ
                            refine W_knowS (fun hrm9 => ?_)
                            refine W.widen (k := ((z16_n - z16_at + 20).toNat)) (n := ((10 * (z16_n - z16_at) + 120).toNat)) (by omega) (by omega) ?_
                            exact W.vret hx hb hr (fun t ht hW => ⟨⟨(), rfl, trivial, z0_57, z1_58, e8_0_2, z16_value, z16_kind, q2_59, Ln_60, Pn_61, (0 + kc_62), (0 + ks_63), ⟨⟨(by rw [ht, ← hp1]; exact hrm9), (by first | exact hrb | exact TKV.z (by omega) (by omega) (by omega) | exact TKV.s (by omega) (by omega) (by omega) (by omega) | omega)⟩, ⟨(by omega), (by omega), (by omega), (by omega), (by omega), ⟨⟨⟨by omega, by omega, by omega⟩, (TKQ.of (by omega) (by omega) (by omega))⟩, (KDN.of (by omega) (by omega) (by omega)), hu_65.2.2.2.2.1, hu_65.2.2.2.2.2.1, hu_65.2.2.2.2.2.2, hu_65.2.2.2.1⟩⟩⟩, by rw [ht]; exact hP, va_K.moved hW.alike hK, hD⟩, hS.F ht⟩) hS.2.2 dX16_next_247
                          · have yb231 : ¬ (mm : Int) = (0 : Int) := fun q => b231 ((zI_eq (a := mm) (b := 0) (by omega) (by omega) (by omega) (by omega)).mpr q)
                            refine lv_aload_n hx hb dX16_next_234 rfl (lv_at hl 0 rfl) ?_
                            refine lv_iload_n hx hb dX16_next_235 rfl (lv_at hl 2 rfl) ?_
                            have hPc := hP.sub (ws' := [(h0, .inr (14, [.ref q_t, .int (zI (z16_n)), .int (zI (e8_0_2)), .int (zI (z16_kind)), .int (zI (e8_0_2)), .int (zI (z16_value)), .int (zI (z16_kind)), .ref sa_RX16_9, v16_8, v16_9, v16_10, v16_11, v16_12, v16_13])), (q_t, .inl (cT, 8192, .inl (fun j : Nat => zI (a_t (j : Int)))))]) [0, 1] rfl
                            have hDc := hD.sub (ws' := [(h0, .inr (14, [.ref q_t, .int (zI (z16_n)), .int (zI (e8_0_2)), .int (zI (z16_kind)), .int (zI (e8_0_2)), .int (zI (z16_value)), .int (zI (z16_kind)), .ref sa_RX16_9, v16_8, v16_9, v16_10, v16_11, v16_12, v16_13])), (q_t, .inl (cT, 8192, .inl (fun j : Nat => zI (a_t (j : Int)))))]) [0, 1] (by decide) rfl
                            have hKc := hK.sub (tys' := [(cT, .byte)]) [0] rfl
                            have hFc := va_free (wc := [(h0, .inr (14, [.ref q_t, .int (zI (z16_n)), .int (zI (e8_0_2)), .int (zI (z16_kind)), .int (zI (e8_0_2)), .int (zI (z16_value)), .int (zI (z16_kind)), .ref sa_RX16_9, v16_8, v16_9, v16_10, v16_11, v16_12, v16_13])), (q_t, .inl (cT, 8192, .inl (fun j : Nat => zI (a_t (j : Int)))))]) hD hS hA [0, 1] rfl
                            refine va_callv (va_runV (As := [.int (zI (mm))]) (rest := []) ⟨hx, hb, hml, hown, hts⟩ (c_X16_number l dC dI h0 z16_n e8_0_2 z16_kind (.int (zI (e8_0_2))) z16_value (.int (zI (z16_kind))) (.ref sa_RX16_9) v16_8 v16_9 v16_10 v16_11 v16_12 v16_13 q_t cT a_t mm (by omega) (by omega) (by omega) (by omega) hR_a_t (by omega) H.size) (cwV 1 hts g_X16_nextK_X16_number rfl rfl rfl (by decide +kernel) ⟨(Nat.le_of_ble_eq_true rfl), (Nat.le_of_ble_eq_true rfl)⟩) ⟨fun a U g mk q => by obtain ⟨q0, q1, qP, qK, qD⟩ := q; exact ⟨q0, q1, qP, va_K.moved (u := U) (U := U.calling g mk a) (Vm.Alike.refl U.vm) qK, qD⟩, va_recv hKc hPc (ci := 14) (q0 := 0) rfl rfl, fun U hU hW => ⟨rfl, by rw [hU], by rw [hU]; exact hPc, va_K.moved hW.alike hKc, hDc.weaken (fun _ _ _ _ => trivial)⟩⟩ rfl rfl hl.1 rfl (lv_room (Nat.le_of_ble_eq_true rfl)) dX16_next_236 ⟨(Nat.zero_le _), (Nat.zero_le _)⟩) hS (fun q _ h => hFc q h) hFc (fun  u t H1 locs ht hvm hw hB hz1 hk1 hS => ?_)
                            obtain ⟨z0_66, z1_67, z2_68, hxt_68, hP1, hK1, hD1⟩ := hB
                            rw [ht] at hP1
                            have hK1 := va_K.moved hvm.symm hK1
                            obtain ⟨hP, hD⟩ := va_joinQ (X := [(h0, .inr (14, [.ref q_t, .int (zI (z16_n)), .int (zI (e8_0_2)), .int (zI (z16_kind)), .int (zI (e8_0_2)), .int (zI (z16_value)), .int (zI (z16_kind)), .ref sa_RX16_9, v16_8, v16_9, v16_10, v16_11, v16_12, v16_13])), (q_t, .inl (cT, 8192, .inl (fun j : Nat => zI (a_t (j : Int)))))]) (cx := [(h0, .inr (14, [.ref q_t, .int (zI (z16_n)), .int (zI (e8_0_2)), .int (zI (z16_kind)), .int (zI (e8_0_2)), .int (zI (z16_value)), .int (zI (z16_kind)), .ref sa_RX16_9, v16_8, v16_9, v16_10, v16_11, v16_12, v16_13])), (q_t, .inl (cT, 8192, .inl (fun j : Nat => zI (a_t (j : Int)))))]) (wr := []) (w1 := [(h0, .inr (14, [.ref q_t, .int (zI (z16_n)), .int (zI (z0_66)), .int (zI (z1_67)), .int (zI (e8_0_2)), .int (zI (z2_68)), .int (zI (z16_kind)), .ref sa_RX16_9, v16_8, v16_9, v16_10, v16_11, v16_12, v16_13])), (q_t, .inl (cT, 8192, .inl (fun j : Nat => zI (a_t (j : Int)))))]) (pl := va_pl L (pE P)) hP hD [0, 1] [] rfl rfl (by decide) (by decide) hk1 hFc hP1 hD1
                            have hK := (hK.sub (tys' := []) [] rfl).app hK1
                            generalize H1 = H at hP hS ⊢
                            have hP : va_P (dC, dI) vwQ ([(h0, .inr (14, [.ref q_t, .int (zI (z16_n)), .int (zI (z0_66)), .int (zI (z1_67)), .int (zI (e8_0_2)), .int (zI (z2_68)), .int (zI (z16_kind)), .ref sa_RX16_9, v16_8, v16_9, v16_10, v16_11, v16_12, v16_13])), (q_t, .inl (cT, 8192, .inl (fun j : Nat => zI (a_t (j : Int)))))] ++ va_pl L (pE P)) H := hP
                            have hD : va_D A ([(h0, .inr (14, [.ref q_t, .int (zI (z16_n)), .int (zI (z0_66)), .int (zI (z1_67)), .int (zI (e8_0_2)), .int (zI (z2_68)), .int (zI (z16_kind)), .ref sa_RX16_9, v16_8, v16_9, v16_10, v16_11, v16_12, v16_13])), (q_t, .inl (cT, 8192, .inl (fun j : Nat => zI (a_t (j : Int)))))] ++ va_pl L (pE P)) := hD
                            have hK : va_K (dC, dI) vwQ [(cT, .byte)] s := hK
                            refine W.widen (k := 0) (n := 0) (Nat.le_of_ble_eq_true rfl) (Nat.le_of_ble_eq_true rfl) ?_
                            obtain ⟨rk_69, rk_70, rk_71, hu_71⟩ := hxt_68
                            refine lv_goto (tgt := 247) hx hb dX16_next_239 (by decide) ?_
                            subst hQ
                            refine W_knowS (fun hrm9 => ?_)
                            refine W.widen (k := ((z16_n - z16_at + 20).toNat)) (n := ((10 * (z16_n - z16_at) + 120).toNat)) (by omega) (by omega) ?_
                            exact W.vret hx hb hr (fun t ht hW => ⟨⟨(), rfl, trivial, z0_66, z1_67, e8_0_2, z2_68, z16_kind, sa_RX16_9, L, P, 0, 0, ⟨⟨(by rw [ht, ← hp1]; exact hrm9), (by first | exact hrb | exact TKV.z (by omega) (by omega) (by omega) | exact TKV.s (by omega) (by omega) (by omega) (by omega) | omega)⟩, ⟨(by omega), (by omega), (by omega), (by omega), (by omega), ⟨⟨⟨by omega, by omega, by omega⟩, (TKQ.of (by omega) (by omega) (by omega))⟩, (KDN.of (by omega) (by omega) (by omega)), EXT9.refl _ _, TXN.refl _ _, Or.inl rfl, (fun q9 => by omega)⟩⟩⟩, by rw [ht]; exact hP, va_K.moved hW.alike hK, hD⟩, hS.F ht⟩) hS.2.2 dX16_next_247
                      · have yb213 : ¬ (z_47 : Int) = (0 : Int) := fun q => b213 ((zI_eq (a := z_47) (b := 0) (by omega) (by omega) (by omega) (by omega)).mpr q)
                        refine lv_aload_n hx hb dX16_next_216 rfl (lv_at hl 0 rfl) ?_
                        have hPc := hP.part (X := [(h0, .inr (14, [.ref q_t, .int (zI (z16_n)), .int (zI (e8_0_2)), .int (zI (z16_kind)), .int (zI (e8_0_2)), .int (zI (z16_value)), .int (zI (z16_kind)), .ref sa_RX16_9, v16_8, v16_9, v16_10, v16_11, v16_12, v16_13])), (q_t, .inl (cT, 8192, .inl (fun j : Nat => zI (a_t (j : Int)))))]) (cx := [(h0, .inr (14, [.ref q_t, .int (zI (z16_n)), .int (zI (e8_0_2)), .int (zI (z16_kind)), .int (zI (e8_0_2)), .int (zI (z16_value)), .int (zI (z16_kind)), .ref sa_RX16_9, v16_8, v16_9, v16_10, v16_11, v16_12, v16_13])), (q_t, .inl (cT, 8192, .inl (fun j : Nat => zI (a_t (j : Int)))))]) (pl := va_pl L (pE P)) [0, 1] rfl
                        have hDc := hD.part (X := [(h0, .inr (14, [.ref q_t, .int (zI (z16_n)), .int (zI (e8_0_2)), .int (zI (z16_kind)), .int (zI (e8_0_2)), .int (zI (z16_value)), .int (zI (z16_kind)), .ref sa_RX16_9, v16_8, v16_9, v16_10, v16_11, v16_12, v16_13])), (q_t, .inl (cT, 8192, .inl (fun j : Nat => zI (a_t (j : Int)))))]) (cx := [(h0, .inr (14, [.ref q_t, .int (zI (z16_n)), .int (zI (e8_0_2)), .int (zI (z16_kind)), .int (zI (e8_0_2)), .int (zI (z16_value)), .int (zI (z16_kind)), .ref sa_RX16_9, v16_8, v16_9, v16_10, v16_11, v16_12, v16_13])), (q_t, .inl (cT, 8192, .inl (fun j : Nat => zI (a_t (j : Int)))))]) (pl := va_pl L (pE P)) [0, 1] (by decide) rfl
                        have hKc := hK.sub (tys' := [(cT, .byte)]) [0] rfl
                        have hFc := va_freeP (X := [(h0, .inr (14, [.ref q_t, .int (zI (z16_n)), .int (zI (e8_0_2)), .int (zI (z16_kind)), .int (zI (e8_0_2)), .int (zI (z16_value)), .int (zI (z16_kind)), .ref sa_RX16_9, v16_8, v16_9, v16_10, v16_11, v16_12, v16_13])), (q_t, .inl (cT, 8192, .inl (fun j : Nat => zI (a_t (j : Int)))))]) (cx := [(h0, .inr (14, [.ref q_t, .int (zI (z16_n)), .int (zI (e8_0_2)), .int (zI (z16_kind)), .int (zI (e8_0_2)), .int (zI (z16_value)), .int (zI (z16_kind)), .ref sa_RX16_9, v16_8, v16_9, v16_10, v16_11, v16_12, v16_13])), (q_t, .inl (cT, 8192, .inl (fun j : Nat => zI (a_t (j : Int)))))]) (pl := va_pl L (pE P)) hD hS hA [0, 1] rfl
                        refine W_knowS (fun hrmA => ?_)
                        refine va_callv (va_runV (As := []) (rest := []) ⟨hx, hb, hml, hown, hts⟩ (c_X16_wordK l dC dI h0 z16_n e8_0_2 z16_kind (.int (zI (e8_0_2))) z16_value (.int (zI (z16_kind))) v16_8 v16_9 v16_10 v16_11 v16_12 v16_13 q_t cT a_t sa_RX16_9 L P (by omega) (by omega) (by omega) (by omega) hR_a_t (by omega) H.size sa_RX16_98 sa_RX16_100 sv_RX16_100 sv_RX16_98 H) (cwV 0 hts g_X16_nextK_X16_wordK rfl rfl rfl (by decide +kernel) ⟨(Nat.le_of_ble_eq_true rfl), (Nat.le_of_ble_eq_true rfl)⟩) ⟨fun a U g mk q => by obtain ⟨q0, q1, qP, qK, qD, e0, e1, e2, e3, e4, e5, e6⟩ := q; exact ⟨q0, q1, qP, va_K.moved (u := U) (U := U.calling g mk a) (Vm.Alike.refl U.vm) qK, qD, va_Z.moved (u := U) (U := U.calling g mk a) (Vm.Alike.refl U.vm) e0, va_Nw.same rfl (u := U) (U := U.calling g mk a) rfl e1, vk_R.same (u := U) (U := U.calling g mk a) rfl e2, vk_R.same (u := U) (U := U.calling g mk a) rfl e3, vs_S.moved (u := U) (U := U.calling g mk a) (Vm.Alike.refl U.vm) e4, vs_S.moved (u := U) (U := U.calling g mk a) (Vm.Alike.refl U.vm) e5, e6⟩, va_recv hKc hPc (ci := 14) (q0 := 0) rfl rfl, fun U hU hW => ⟨rfl, by rw [hU], by rw [hU]; exact hPc, va_K.moved hW.alike hKc, hDc.weaken (fun _ _ _ _ => trivial), by rw [hU]; exact va_Z.narrow (va_Z.moved hW.alike (va_Z.kept hp2 hS.2.1)) hFc, va_Nw.warmC hW hp4, vk_R.warm hW hp11, vk_R.warm hW hp9, by rw [hU]; exact vs_S.narrow (vs_S.moved hW.alike (vs_S.kept hp7 hS.2.1)) hFc, by rw [hU]; exact vs_S.narrow (vs_S.moved hW.alike (vs_S.kept hp12 hS.2.1)) hFc, hU⟩⟩ rfl rfl hl.1 rfl (lv_room (Nat.le_of_ble_eq_true rfl)) dX16_next_217 ⟨(show 0 + ((z16_n - e8_0_2 + 20).toNat) ≤ (z16_n - z16_at + 20).toNat from (by omega)), (show 0 + ((10 * (z16_n - e8_0_2) + 120).toNat) ≤ (10 * (z16_n - z16_at) + 120).toNat from (by omega))⟩) hS (fun q _ h => hFc q h) hFc (fun  u t H1 locs ht hvm hw hB hz1 hk1 hS => ?_)
                        obtain ⟨z0_72, z1_73, z2_74, q3_75, Ln_76, Pn_77, kc_78, ks_79, hxt_79, hP1, hK1, hD1⟩ := hB
                        rw [ht] at hP1
                        have hK1 := va_K.moved hvm.symm hK1
                        obtain ⟨hP, hD⟩ := va_joinP (X := [(h0, .inr (14, [.ref q_t, .int (zI (z16_n)), .int (zI (e8_0_2)), .int (zI (z16_kind)), .int (zI (e8_0_2)), .int (zI (z16_value)), .int (zI (z16_kind)), .ref sa_RX16_9, v16_8, v16_9, v16_10, v16_11, v16_12, v16_13])), (q_t, .inl (cT, 8192, .inl (fun j : Nat => zI (a_t (j : Int)))))]) (cx := [(h0, .inr (14, [.ref q_t, .int (zI (z16_n)), .int (zI (e8_0_2)), .int (zI (z16_kind)), .int (zI (e8_0_2)), .int (zI (z16_value)), .int (zI (z16_kind)), .ref sa_RX16_9, v16_8, v16_9, v16_10, v16_11, v16_12, v16_13])), (q_t, .inl (cT, 8192, .inl (fun j : Nat => zI (a_t (j : Int)))))]) (wr := []) (rx := [(h0, .inr (14, [.ref q_t, .int (zI (z16_n)), .int (zI (z0_72)), .int (zI (z1_73)), .int (zI (e8_0_2)), .int (zI (z2_74)), .int (zI (z16_kind)), .ref q3_75, v16_8, v16_9, v16_10, v16_11, v16_12, v16_13])), (q_t, .inl (cT, 8192, .inl (fun j : Nat => zI (a_t (j : Int)))))]) (pl := va_pl L (pE P)) (pl1 := va_pl Ln_76 (pE Pn_77)) hP hD [0, 1] [] rfl rfl (by decide) (by decide) hk1 hFc hP1 hD1
                        have hK := (hK.sub (tys' := []) [] rfl).app hK1
                        have hrmC := hxt_79.1.1
                        rw [ht] at hrmC
                        refine W_tightS (hrmA.trans hrmC) ?_
                        have hrb := hxt_79.1.2
                        generalize H1 = H at hP hS ⊢
                        have hP : va_P (dC, dI) vwQ ([(h0, .inr (14, [.ref q_t, .int (zI (z16_n)), .int (zI (z0_72)), .int (zI (z1_73)), .int (zI (e8_0_2)), .int (zI (z2_74)), .int (zI (z16_kind)), .ref q3_75, v16_8, v16_9, v16_10, v16_11, v16_12, v16_13])), (q_t, .inl (cT, 8192, .inl (fun j : Nat => zI (a_t (j : Int)))))] ++ va_pl Ln_76 (pE Pn_77)) H := hP
                        have hD : va_D A ([(h0, .inr (14, [.ref q_t, .int (zI (z16_n)), .int (zI (z0_72)), .int (zI (z1_73)), .int (zI (e8_0_2)), .int (zI (z2_74)), .int (zI (z16_kind)), .ref q3_75, v16_8, v16_9, v16_10, v16_11, v16_12, v16_13])), (q_t, .inl (cT, 8192, .inl (fun j : Nat => zI (a_t (j : Int)))))] ++ va_pl Ln_76 (pE Pn_77)) := hD
                        have hK : va_K (dC, dI) vwQ [(cT, .byte)] s := hK
                        refine W.widen (k := (0 + kc_78)) (n := (0 + ks_79)) (by omega) (by omega) ?_
                        obtain ⟨rk_80, rk_81, rk_82, hu_82⟩ := hxt_79.2
                        have hnn9 := TKV.nn (k := z1_73) (d := z0_72 - e8_0_2) (by omega)
                        refine lv_goto (tgt := 247) hx hb dX16_next_220 (by decide) ?_
                        subst hQ
                        refine W_knowS (fun hrm9 => ?_)
                        refine W.widen (k := ((z16_n - z16_at + 20).toNat)) (n := ((10 * (z16_n - z16_at) + 120).toNat)) (by omega) (by omega) ?_
                        exact W.vret hx hb hr (fun t ht hW => ⟨⟨(), rfl, trivial, z0_72, z1_73, e8_0_2, z2_74, z16_kind, q3_75, Ln_76, Pn_77, (0 + kc_78), (0 + ks_79), ⟨⟨(by rw [ht, ← hp1]; exact hrm9), (by first | exact hrb | exact TKV.z (by omega) (by omega) (by omega) | exact TKV.s (by omega) (by omega) (by omega) (by omega) | omega)⟩, ⟨(by omega), (by omega), (by omega), (by omega), (by omega), ⟨⟨⟨by omega, by omega, by omega⟩, hu_82.2.2.2.2.2.2⟩, (KDN.of (by omega) (by omega) (by omega)), hu_82.2.2.2.1, hu_82.2.2.2.2.1, hu_82.2.2.2.2.2.1, (fun q9 => by omega)⟩⟩⟩, by rw [ht]; exact hP, va_K.moved hW.alike hK, hD⟩, hS.F ht⟩) hS.2.2 dX16_next_247
                    refine lv_iload_n hx hb dX16_next_151 rfl (lv_at hl 0 rfl) ?_
                    refine lv_bipush (v := 45) hx hb dX16_next_152 (by decide) ?_
                    refine lv_icmp_ne (tgt := 207) hx hb dX16_next_154 (by decide) (fun b154 => ?_) (fun b154 => ?_)
                    · have yb154 : ¬ (a_t (e8_0_2) : Int) = (45 : Int) := fun q => b154 ((zI_eq (a := a_t (e8_0_2)) (b := 45) (by omega) (by omega) (by omega) (by omega)).mpr q)
                      refine lv_iconst (v := 0) hx hb dX16_next_207 (by decide) ?_
                      refine lv_istore_n (lv' := [(2, .int 0), (1, .int (zI (a_t (e8_0_2)))), (0, .ref h0)]) hx hb dX16_next_208 rfl hl (by decide) rfl (fun ls hl => ?_)
                      exact key209 0 ls H _ (by omega) (lv_sub hl [2, 1, 0] rfl) hP hD hS
                    · have yb154 : (a_t (e8_0_2) : Int) = (45 : Int) := (zI_eq (a := a_t (e8_0_2)) (b := 45) (by omega) (by omega) (by omega) (by omega)).mp b154
                      refine lv_aload_n hx hb dX16_next_157 rfl (lv_at hl 1 rfl) ?_
                      refine va_get (D := (dC, dI)) (ci := 14) (v := .int (zI (e8_0_2))) (C := RX16) (T := TX16) (N := 14) hx hb hts mem_X16_nextK_0 hown hK hP 0 rfl rfl 2 (by decide) (ow (k := 2) rfl) (fun _ h9 => h9) rfl dX16_next_158 ?_
                      refine lv_iconst (v := 1) hx hb dX16_next_161 (by decide) ?_
                      refine lv_iadd hx hb dX16_next_162 ?_
                      refine lv_topi (fun z ez => ?_)
                      obtain rfl : z = zI (e8_0_2 + 1) := ez.trans (zI_add (e8_0_2) (1))
                      refine lv_aload_n hx hb dX16_next_163 rfl (lv_at hl 1 rfl) ?_
                      refine va_get (D := (dC, dI)) (ci := 14) (v := .int (zI (z16_n))) (C := RX16) (T := TX16) (N := 14) hx hb hts mem_X16_nextK_0 hown hK hP 0 rfl rfl 1 (by decide) (ow (k := 3) rfl) (fun _ h9 => h9) rfl dX16_next_164 ?_
                      refine lv_icmp_ge (tgt := 207) hx hb dX16_next_167 (by decide) (fun b167 => ?_) (fun b167 => ?_)
                      · have yb167 : (z16_n : Int) ≤ (e8_0_2 + 1 : Int) := (zI_le (a := z16_n) (b := e8_0_2 + 1) (by omega) (by omega) (by omega) (by omega)).mp b167
                        refine lv_iconst (v := 0) hx hb dX16_next_207 (by decide) ?_
                        refine lv_istore_n (lv' := [(2, .int 0), (1, .int (zI (a_t (e8_0_2)))), (0, .ref h0)]) hx hb dX16_next_208 rfl hl (by decide) rfl (fun ls hl => ?_)
                        exact key209 0 ls H _ (by omega) (lv_sub hl [2, 1, 0] rfl) hP hD hS
                      · have yb167 : ¬ (z16_n : Int) ≤ (e8_0_2 + 1 : Int) := fun q => b167 ((zI_le (a := z16_n) (b := e8_0_2 + 1) (by omega) (by omega) (by omega) (by omega)).mpr q)
                        refine lv_aload_n hx hb dX16_next_170 rfl (lv_at hl 1 rfl) ?_
                        refine va_get (D := (dC, dI)) (ci := 14) (v := .ref q_t) (C := RX16) (T := TX16) (N := 14) hx hb hts mem_X16_nextK_0 hown hK hP 0 rfl rfl 0 (by decide) (ow (k := 6) rfl) (fun _ h9 => h9) rfl dX16_next_171 ?_
                        refine lv_aload_n hx hb dX16_next_174 rfl (lv_at hl 1 rfl) ?_
                        refine va_get (D := (dC, dI)) (ci := 14) (v := .int (zI (e8_0_2))) (C := RX16) (T := TX16) (N := 14) hx hb hts mem_X16_nextK_0 hown hK hP 0 rfl rfl 2 (by decide) (ow (k := 2) rfl) (fun _ h9 => h9) rfl dX16_next_175 ?_
                        refine lv_iconst (v := 1) hx hb dX16_next_178 (by decide) ?_
                        refine lv_iadd hx hb dX16_next_179 ?_
                        refine lv_topi (fun z ez => ?_)
                        obtain rfl : z = zI (e8_0_2 + 1) := ez.trans (zI_add (e8_0_2) (1))
                        refine va_bald hx hb hK hP 1 0 rfl rfl (zI_in (a := e8_0_2 + 1) (n := 8192) (by omega) (by omega) (by decide)) dX16_next_180 ?_
                        refine lv_topi (fun z ez => ?_)
                        obtain rfl : z = zI (a_t (e8_0_2 + 1)) := ez.trans (zI_ld (a_t) (by omega) (by omega))
                        have k5 := hR_a_t (e8_0_2 + 1)
                        have hPc := hP.sub (ws' := []) [] rfl
                        have hDc := hD.sub (ws' := []) [] (by decide) rfl
                        have hKc := hK.sub (tys' := []) [] rfl
                        have hFc := va_free (wc := []) hD hS hA [] rfl
                        refine va_calli (va_runS (As := [.int (zI (a_t (e8_0_2 + 1)))]) (rest := []) ⟨hx, hb, hml, hown, hts⟩ (c_X16_isDigit l dC dI (a_t (e8_0_2 + 1)) (by omega) H.size) (cwS 1 hts g_X16_nextK_X16_isDigit rfl rfl rfl (by decide +kernel) ⟨(Nat.le_of_ble_eq_true rfl), (Nat.le_of_ble_eq_true rfl)⟩) ⟨fun a U g mk q => by obtain ⟨q0, q1, qP, qK, qD⟩ := q; exact ⟨q0, q1, qP, va_K.moved (u := U) (U := U.calling g mk a) (Vm.Alike.refl U.vm) qK, qD⟩, fun U hU hW => ⟨rfl, by rw [hU], by rw [hU]; exact hPc, va_K.moved hW.alike hKc, hDc.weaken (fun _ _ _ _ => trivial)⟩⟩ rfl rfl hl.1 rfl (lv_room (Nat.le_of_ble_eq_true rfl)) dX16_next_181 ⟨(Nat.zero_le _), (Nat.zero_le _)⟩) hS (fun q _ h => hFc q h) hFc (fun r_83 u t H1 locs ht hvm hw hB hz1 hk1 hS => ?_)
                        obtain ⟨hP1, hK1, hD1⟩ := hB
                        rw [ht] at hP1
                        have hK1 := va_K.moved hvm.symm hK1
                        obtain ⟨hP, hD⟩ := va_joinQ (X := [(h0, .inr (14, [.ref q_t, .int (zI (z16_n)), .int (zI (e8_0_2)), .int (zI (z16_kind)), .int (zI (e8_0_2)), .int (zI (z16_value)), .int (zI (z16_kind)), .ref sa_RX16_9, v16_8, v16_9, v16_10, v16_11, v16_12, v16_13])), (q_t, .inl (cT, 8192, .inl (fun j : Nat => zI (a_t (j : Int)))))]) (cx := []) (wr := [(h0, .inr (14, [.ref q_t, .int (zI (z16_n)), .int (zI (e8_0_2)), .int (zI (z16_kind)), .int (zI (e8_0_2)), .int (zI (z16_value)), .int (zI (z16_kind)), .ref sa_RX16_9, v16_8, v16_9, v16_10, v16_11, v16_12, v16_13])), (q_t, .inl (cT, 8192, .inl (fun j : Nat => zI (a_t (j : Int)))))]) (w1 := []) (pl := va_pl L (pE P)) hP hD [] [0, 1] rfl rfl (by decide) (by decide) hk1 hFc hP1 hD1
                        have hK := (hK.sub (tys' := [(cT, .byte)]) [0] rfl).app hK1
                        generalize H1 = H at hP hS ⊢
                        have hP : va_P (dC, dI) vwQ ([(h0, .inr (14, [.ref q_t, .int (zI (z16_n)), .int (zI (e8_0_2)), .int (zI (z16_kind)), .int (zI (e8_0_2)), .int (zI (z16_value)), .int (zI (z16_kind)), .ref sa_RX16_9, v16_8, v16_9, v16_10, v16_11, v16_12, v16_13])), (q_t, .inl (cT, 8192, .inl (fun j : Nat => zI (a_t (j : Int)))))] ++ va_pl L (pE P)) H := hP
                        have hD : va_D A ([(h0, .inr (14, [.ref q_t, .int (zI (z16_n)), .int (zI (e8_0_2)), .int (zI (z16_kind)), .int (zI (e8_0_2)), .int (zI (z16_value)), .int (zI (z16_kind)), .ref sa_RX16_9, v16_8, v16_9, v16_10, v16_11, v16_12, v16_13])), (q_t, .inl (cT, 8192, .inl (fun j : Nat => zI (a_t (j : Int)))))] ++ va_pl L (pE P)) := hD
                        have hK : va_K (dC, dI) vwQ [(cT, .byte)] s := hK
                        refine W.widen (k := 0) (n := 0) (Nat.le_of_ble_eq_true rfl) (Nat.le_of_ble_eq_true rfl) ?_
                        have hw_84 := hw
                        obtain ⟨z_85, rfl, hzz_85⟩ := hw_84
                        refine lv_if_eq (tgt := 207) hx hb dX16_next_184 (by decide) (fun b184 => ?_) (fun b184 => ?_)
                        · have yb184 : (z_85 : Int) = (0 : Int) := (zI_eq (a := z_85) (b := 0) (by omega) (by omega) (by omega) (by omega)).mp b184
                          refine lv_iconst (v := 0) hx hb dX16_next_207 (by decide) ?_
                          refine lv_istore_n (lv' := [(2, .int 0), (1, .int (zI (a_t (e8_0_2)))), (0, .ref h0)]) hx hb dX16_next_208 rfl hl (by decide) rfl (fun ls hl => ?_)
                          exact key209 0 ls H _ (by omega) (lv_sub hl [2, 1, 0] rfl) hP hD hS
                        · have yb184 : ¬ (z_85 : Int) = (0 : Int) := fun q => b184 ((zI_eq (a := z_85) (b := 0) (by omega) (by omega) (by omega) (by omega)).mpr q)
                          refine lv_aload_n hx hb dX16_next_187 rfl (lv_at hl 1 rfl) ?_
                          refine va_get (D := (dC, dI)) (ci := 14) (v := .int (zI (z16_kind))) (C := RX16) (T := TX16) (N := 14) hx hb hts mem_X16_nextK_0 hown hK hP 0 rfl rfl 6 (by decide) (ow (k := 1) rfl) (fun _ h9 => h9) rfl dX16_next_188 ?_
                          refine lv_iconst (v := 2) hx hb dX16_next_191 (by decide) ?_
                          refine lv_icmp_eq (tgt := 207) hx hb dX16_next_192 (by decide) (fun b192 => ?_) (fun b192 => ?_)
                          · have yb192 : (z16_kind : Int) = (2 : Int) := (zI_eq (a := z16_kind) (b := 2) (by omega) (by omega) (by omega) (by omega)).mp b192
                            refine lv_iconst (v := 0) hx hb dX16_next_207 (by decide) ?_
                            refine lv_istore_n (lv' := [(2, .int 0), (1, .int (zI (a_t (e8_0_2)))), (0, .ref h0)]) hx hb dX16_next_208 rfl hl (by decide) rfl (fun ls hl => ?_)
                            exact key209 0 ls H _ (by omega) (lv_sub hl [2, 1, 0] rfl) hP hD hS
                          · have yb192 : ¬ (z16_kind : Int) = (2 : Int) := fun q => b192 ((zI_eq (a := z16_kind) (b := 2) (by omega) (by omega) (by omega) (by omega)).mpr q)
                            refine lv_aload_n hx hb dX16_next_195 rfl (lv_at hl 1 rfl) ?_
                            refine va_get (D := (dC, dI)) (ci := 14) (v := .int (zI (z16_kind))) (C := RX16) (T := TX16) (N := 14) hx hb hts mem_X16_nextK_0 hown hK hP 0 rfl rfl 6 (by decide) (ow (k := 1) rfl) (fun _ h9 => h9) rfl dX16_next_196 ?_
                            refine lv_iconst (v := 4) hx hb dX16_next_199 (by decide) ?_
                            refine lv_icmp_eq (tgt := 207) hx hb dX16_next_200 (by decide) (fun b200 => ?_) (fun b200 => ?_)
                            · have yb200 : (z16_kind : Int) = (4 : Int) := (zI_eq (a := z16_kind) (b := 4) (by omega) (by omega) (by omega) (by omega)).mp b200
                              refine lv_iconst (v := 0) hx hb dX16_next_207 (by decide) ?_
                              refine lv_istore_n (lv' := [(2, .int 0), (1, .int (zI (a_t (e8_0_2)))), (0, .ref h0)]) hx hb dX16_next_208 rfl hl (by decide) rfl (fun ls hl => ?_)
                              exact key209 0 ls H _ (by omega) (lv_sub hl [2, 1, 0] rfl) hP hD hS
                            · have yb200 : ¬ (z16_kind : Int) = (4 : Int) := fun q => b200 ((zI_eq (a := z16_kind) (b := 4) (by omega) (by omega) (by omega) (by omega)).mpr q)
                              refine lv_iconst (v := 1) hx hb dX16_next_203 (by decide) ?_
                              refine lv_goto (tgt := 208) hx hb dX16_next_204 (by decide) ?_
                              refine lv_istore_n (lv' := [(2, .int 1), (1, .int (zI (a_t (e8_0_2)))), (0, .ref h0)]) hx hb dX16_next_208 rfl hl (by decide) rfl (fun ls hl => ?_)
                              exact key209 1 ls H _ (by omega) (lv_sub hl [2, 1, 0] rfl) hP hD hS
                  · have yb132 : (e8_0_2 : Int) = (z16_n : Int) := (zI_eq (a := e8_0_2) (b := z16_n) (by omega) (by omega) (by omega) (by omega)).mp b132
                    refine lv_aload_n hx hb dX16_next_135 rfl (lv_at hl 1 rfl) ?_
                    refine lv_iconst (v := 0) hx hb dX16_next_136 (by decide) ?_
                    refine va_put (D := (dC, dI)) (ci := 14) (v := .int 0) (ty := .int) (C := RX16) (T := TX16) (N := 14) hx hb hts mem_X16_nextK_0 tyX16 tyX16_ok nmX16 hown hK hP hD hS 0 rfl rfl 3 (by decide) (ow (k := 0) rfl) (fun _ h9 => h9) rfl (by decide +kernel) rfl rfl (by first | exact Nat.le_of_ble_eq_true rfl | exact (show 0 ≤ (z16_n - z16_at + 20).toNat from (by omega)) | exact (show 0 ≤ (10 * (z16_n - z16_at) + 120).toNat from (by omega))) dX16_next_137 (fun H locs hP hD hS => ?_)
                    have hP : va_P (dC, dI) vwQ ([(h0, .inr (14, [.ref q_t, .int (zI (z16_n)), .int (zI (e8_0_2)), .int 0, .int (zI (e8_0_2)), .int (zI (z16_value)), .int (zI (z16_kind)), .ref sa_RX16_9, v16_8, v16_9, v16_10, v16_11, v16_12, v16_13])), (q_t, .inl (cT, 8192, .inl (fun j : Nat => zI (a_t (j : Int)))))] ++ va_pl L (pE P)) H := hP
                    have hD : va_D A ([(h0, .inr (14, [.ref q_t, .int (zI (z16_n)), .int (zI (e8_0_2)), .int 0, .int (zI (e8_0_2)), .int (zI (z16_value)), .int (zI (z16_kind)), .ref sa_RX16_9, v16_8, v16_9, v16_10, v16_11, v16_12, v16_13])), (q_t, .inl (cT, 8192, .inl (fun j : Nat => zI (a_t (j : Int)))))] ++ va_pl L (pE P)) := hD
                    subst hQ
                    refine W_knowS (fun hrm9 => ?_)
                    refine W.widen (k := ((z16_n - z16_at + 20).toNat)) (n := ((10 * (z16_n - z16_at) + 120).toNat)) (by omega) (by omega) ?_
                    exact W.vret hx hb hr (fun t ht hW => ⟨⟨(), rfl, trivial, e8_0_2, 0, e8_0_2, z16_value, z16_kind, sa_RX16_9, L, P, 0, 0, ⟨⟨(by rw [ht, ← hp1]; exact hrm9), (by first | exact hrb | exact TKV.z (by omega) (by omega) (by omega) | exact TKV.s (by omega) (by omega) (by omega) (by omega) | omega)⟩, ⟨(by omega), (by omega), (by omega), (by omega), (by omega), ⟨⟨⟨by omega, by omega, by omega⟩, (TKQ.of (by omega) (by omega) (by omega))⟩, (KDN.of (by omega) (by omega) (by omega)), EXT9.refl _ _, TXN.refl _ _, Or.inl rfl, (fun q9 => by omega)⟩⟩⟩, by rw [ht]; exact hP, va_K.moved hW.alike hK, hD⟩, hS.F ht⟩) hS.2.2 dX16_next_140
                · have yb94 : (a_t (e8_0_2) : Int) = (32 : Int) := (zI_eq (a := a_t (e8_0_2)) (b := 32) (by omega) (by omega) (by omega) (by omega)).mp b94
                  refine lv_aload_n hx hb dX16_next_97 rfl (lv_at hl 1 rfl) ?_
                  refine lv_dup hx hb dX16_next_98 rfl ?_
                  refine va_get (D := (dC, dI)) (ci := 14) (v := .int (zI (e8_0_2))) (C := RX16) (T := TX16) (N := 14) hx hb hts mem_X16_nextK_0 hown hK hP 0 rfl rfl 2 (by decide) (ow (k := 2) rfl) (fun _ h9 => h9) rfl dX16_next_99 ?_
                  refine lv_iconst (v := 1) hx hb dX16_next_102 (by decide) ?_
                  refine lv_iadd hx hb dX16_next_103 ?_
                  refine lv_topi (fun z ez => ?_)
                  obtain rfl : z = zI (e8_0_2 + 1) := ez.trans (zI_add (e8_0_2) (1))
                  refine va_put (D := (dC, dI)) (ci := 14) (v := .int (zI (e8_0_2 + 1))) (ty := .int) (C := RX16) (T := TX16) (N := 14) hx hb hts mem_X16_nextK_0 tyX16 tyX16_ok nmX16 hown hK hP hD hS 0 rfl rfl 2 (by decide) (ow (k := 2) rfl) (fun _ h9 => h9) rfl (by decide +kernel) rfl rfl (by first | exact Nat.le_of_ble_eq_true rfl | exact (show 0 ≤ (z16_n - z16_at + 20).toNat from (by omega)) | exact (show 0 ≤ (10 * (z16_n - z16_at) + 120).toNat from (by omega))) dX16_next_104 (fun H locs hP hD hS => ?_)
                  have hP : va_P (dC, dI) vwQ ([(h0, .inr (14, [.ref q_t, .int (zI (z16_n)), .int (zI (e8_0_2 + 1)), .int (zI (z16_kind)), .int (zI (z16_place)), .int (zI (z16_value)), .int (zI (z16_kind)), v16_7, v16_8, v16_9, v16_10, v16_11, v16_12, v16_13])), (q_t, .inl (cT, 8192, .inl (fun j : Nat => zI (a_t (j : Int)))))] ++ va_pl L (pE P)) H := hP
                  have hD : va_D A ([(h0, .inr (14, [.ref q_t, .int (zI (z16_n)), .int (zI (e8_0_2 + 1)), .int (zI (z16_kind)), .int (zI (z16_place)), .int (zI (z16_value)), .int (zI (z16_kind)), v16_7, v16_8, v16_9, v16_10, v16_11, v16_12, v16_13])), (q_t, .inl (cT, 8192, .inl (fun j : Nat => zI (a_t (j : Int)))))] ++ va_pl L (pE P)) := hD
                  obtain ⟨z_86, ez_86⟩ : ∃ z9 : Int, z9 = e8_0_2 + 1 := ⟨_, rfl⟩
                  rw [← ez_86] at hP hD
                  have hP : va_P (dC, dI) vwQ ([(h0, .inr (14, [.ref q_t, .int (zI (z16_n)), .int (zI (z_86)), .int (zI (z16_kind)), .int (zI (z16_place)), .int (zI (z16_value)), .int (zI (z16_kind)), v16_7, v16_8, v16_9, v16_10, v16_11, v16_12, v16_13])), (q_t, .inl (cT, 8192, .inl (fun j : Nat => zI (a_t (j : Int)))))] ++ va_pl L (pE P)) H := hP
                  have hD : va_D A ([(h0, .inr (14, [.ref q_t, .int (zI (z16_n)), .int (zI (z_86)), .int (zI (z16_kind)), .int (zI (z16_place)), .int (zI (z16_value)), .int (zI (z16_kind)), v16_7, v16_8, v16_9, v16_10, v16_11, v16_12, v16_13])), (q_t, .inl (cT, 8192, .inl (fun j : Nat => zI (a_t (j : Int)))))] ++ va_pl L (pE P)) := hD
                  refine lv_goto (tgt := 8) hx hb dX16_next_107 (by decide) ?_
                  exact ih8 z_86 ls H _ (by omega) (by omega) (by omega) (lv_sub hl [1] rfl) hP hD hS
        · have yb32 : (a_t (e8_0_2) : Int) = (59 : Int) := (zI_eq (a := a_t (e8_0_2)) (b := 59) (by omega) (by omega) (by omega) (by omega)).mp b32
          have key35 : ∀ n35 : Nat, ∀ (e35_0_2 : Int) (ls : Array Slot) (H : Heap) (locs : List Loc), (0 ≤ e35_0_2 ∧ e35_0_2 ≤ 8192) → (e8_0_2 ≤ e35_0_2 ∧ e35_0_2 ≤ z16_n) → ((z16_n - e35_0_2 : Int).toNat) < n35 → lv_has ls 3 [(0, .ref h0), (1, .int (zI (a_t (e8_0_2))))] → va_P (dC, dI) vwQ ([(h0, .inr (14, [.ref q_t, .int (zI (z16_n)), .int (zI (e35_0_2)), .int (zI (z16_kind)), .int (zI (z16_place)), .int (zI (z16_value)), .int (zI (z16_kind)), v16_7, v16_8, v16_9, v16_10, v16_11, v16_12, v16_13])), (q_t, .inl (cT, 8192, .inl (fun j : Nat => zI (a_t (j : Int)))))] ++ va_pl L (pE P)) H → va_D A ([(h0, .inr (14, [.ref q_t, .int (zI (z16_n)), .int (zI (e35_0_2)), .int (zI (z16_kind)), .int (zI (z16_place)), .int (zI (z16_value)), .int (zI (z16_kind)), v16_7, v16_8, v16_9, v16_10, v16_11, v16_12, v16_13])), (q_t, .inl (cT, 8192, .inl (fun j : Nat => zI (a_t (j : Int)))))] ++ va_pl L (pE P)) → va_S A s.heap H locs → W p l e (headSpec v_X16_nextK ({ frames := 7, cells := ((z16_n - z16_at + 20).toNat), slots := ((10 * (z16_n - z16_at) + 120).toNat), locals := 194 })).room s m ([.ref h0] : List Value).toArray below meth c H locs 0 0 Q (F0 m 35 ls []) := by
            intro n35
            induction n35 with
            | zero => intro e35_0_2 ls H locs je35_0_2 jb hm35; exact absurd hm35 (by omega)
            | succ n35 ih35 =>
              intro e35_0_2 ls H locs je35_0_2 jb hm35 hl hP hD hS
              refine lv_aload_n hx hb dX16_next_35 rfl (lv_at hl 0 rfl) ?_
              refine va_get (D := (dC, dI)) (ci := 14) (v := .int (zI (e35_0_2))) (C := RX16) (T := TX16) (N := 14) hx hb hts mem_X16_nextK_0 hown hK hP 0 rfl rfl 2 (by decide) (ow (k := 2) rfl) (fun _ h9 => h9) rfl dX16_next_36 ?_
              refine lv_aload_n hx hb dX16_next_39 rfl (lv_at hl 0 rfl) ?_
              refine va_get (D := (dC, dI)) (ci := 14) (v := .int (zI (z16_n))) (C := RX16) (T := TX16) (N := 14) hx hb hts mem_X16_nextK_0 hown hK hP 0 rfl rfl 1 (by decide) (ow (k := 3) rfl) (fun _ h9 => h9) rfl dX16_next_40 ?_
              refine lv_icmp_ge (tgt := 107) hx hb dX16_next_43 (by decide) (fun b43 => ?_) (fun b43 => ?_)
              · have yb43 : (z16_n : Int) ≤ (e35_0_2 : Int) := (zI_le (a := z16_n) (b := e35_0_2) (by omega) (by omega) (by omega) (by omega)).mp b43
                refine lv_goto (tgt := 8) hx hb dX16_next_107 (by decide) ?_
                exact ih8 e35_0_2 ls H _ (by omega) (by omega) (by omega) (lv_sub hl [0] rfl) hP hD hS
              · have yb43 : ¬ (z16_n : Int) ≤ (e35_0_2 : Int) := fun q => b43 ((zI_le (a := z16_n) (b := e35_0_2) (by omega) (by omega) (by omega) (by omega)).mpr q)
                have hq35 : e35_0_2 = e8_0_2 → a_t (e35_0_2) = a_t (e8_0_2) := (fun h => by rw [h])
                refine lv_aload_n hx hb dX16_next_46 rfl (lv_at hl 0 rfl) ?_
                refine va_get (D := (dC, dI)) (ci := 14) (v := .ref q_t) (C := RX16) (T := TX16) (N := 14) hx hb hts mem_X16_nextK_0 hown hK hP 0 rfl rfl 0 (by decide) (ow (k := 6) rfl) (fun _ h9 => h9) rfl dX16_next_47 ?_
                refine lv_aload_n hx hb dX16_next_50 rfl (lv_at hl 0 rfl) ?_
                refine va_get (D := (dC, dI)) (ci := 14) (v := .int (zI (e35_0_2))) (C := RX16) (T := TX16) (N := 14) hx hb hts mem_X16_nextK_0 hown hK hP 0 rfl rfl 2 (by decide) (ow (k := 2) rfl) (fun _ h9 => h9) rfl dX16_next_51 ?_
                refine va_bald hx hb hK hP 1 0 rfl rfl (zI_in (a := e35_0_2) (n := 8192) (by omega) (by omega) (by decide)) dX16_next_54 ?_
                refine lv_topi (fun z ez => ?_)
                obtain rfl : z = zI (a_t (e35_0_2)) := ez.trans (zI_ld (a_t) (by omega) (by omega))
                have k6 := hR_a_t (e35_0_2)
                refine lv_bipush (v := 10) hx hb dX16_next_55 (by decide) ?_
                refine lv_icmp_eq (tgt := 107) hx hb dX16_next_57 (by decide) (fun b57 => ?_) (fun b57 => ?_)
                · have yb57 : (a_t (e35_0_2) : Int) = (10 : Int) := (zI_eq (a := a_t (e35_0_2)) (b := 10) (by omega) (by omega) (by omega) (by omega)).mp b57
                  refine lv_goto (tgt := 8) hx hb dX16_next_107 (by decide) ?_
                  exact ih8 e35_0_2 ls H _ (by omega) (by omega) (by omega) (lv_sub hl [0] rfl) hP hD hS
                · have yb57 : ¬ (a_t (e35_0_2) : Int) = (10 : Int) := fun q => b57 ((zI_eq (a := a_t (e35_0_2)) (b := 10) (by omega) (by omega) (by omega) (by omega)).mpr q)
                  refine lv_aload_n hx hb dX16_next_60 rfl (lv_at hl 0 rfl) ?_
                  refine lv_dup hx hb dX16_next_61 rfl ?_
                  refine va_get (D := (dC, dI)) (ci := 14) (v := .int (zI (e35_0_2))) (C := RX16) (T := TX16) (N := 14) hx hb hts mem_X16_nextK_0 hown hK hP 0 rfl rfl 2 (by decide) (ow (k := 2) rfl) (fun _ h9 => h9) rfl dX16_next_62 ?_
                  refine lv_iconst (v := 1) hx hb dX16_next_65 (by decide) ?_
                  refine lv_iadd hx hb dX16_next_66 ?_
                  refine lv_topi (fun z ez => ?_)
                  obtain rfl : z = zI (e35_0_2 + 1) := ez.trans (zI_add (e35_0_2) (1))
                  refine va_put (D := (dC, dI)) (ci := 14) (v := .int (zI (e35_0_2 + 1))) (ty := .int) (C := RX16) (T := TX16) (N := 14) hx hb hts mem_X16_nextK_0 tyX16 tyX16_ok nmX16 hown hK hP hD hS 0 rfl rfl 2 (by decide) (ow (k := 2) rfl) (fun _ h9 => h9) rfl (by decide +kernel) rfl rfl (by first | exact Nat.le_of_ble_eq_true rfl | exact (show 0 ≤ (z16_n - z16_at + 20).toNat from (by omega)) | exact (show 0 ≤ (10 * (z16_n - z16_at) + 120).toNat from (by omega))) dX16_next_67 (fun H locs hP hD hS => ?_)
                  have hP : va_P (dC, dI) vwQ ([(h0, .inr (14, [.ref q_t, .int (zI (z16_n)), .int (zI (e35_0_2 + 1)), .int (zI (z16_kind)), .int (zI (z16_place)), .int (zI (z16_value)), .int (zI (z16_kind)), v16_7, v16_8, v16_9, v16_10, v16_11, v16_12, v16_13])), (q_t, .inl (cT, 8192, .inl (fun j : Nat => zI (a_t (j : Int)))))] ++ va_pl L (pE P)) H := hP
                  have hD : va_D A ([(h0, .inr (14, [.ref q_t, .int (zI (z16_n)), .int (zI (e35_0_2 + 1)), .int (zI (z16_kind)), .int (zI (z16_place)), .int (zI (z16_value)), .int (zI (z16_kind)), v16_7, v16_8, v16_9, v16_10, v16_11, v16_12, v16_13])), (q_t, .inl (cT, 8192, .inl (fun j : Nat => zI (a_t (j : Int)))))] ++ va_pl L (pE P)) := hD
                  obtain ⟨z_87, ez_87⟩ : ∃ z9 : Int, z9 = e35_0_2 + 1 := ⟨_, rfl⟩
                  rw [← ez_87] at hP hD
                  have hP : va_P (dC, dI) vwQ ([(h0, .inr (14, [.ref q_t, .int (zI (z16_n)), .int (zI (z_87)), .int (zI (z16_kind)), .int (zI (z16_place)), .int (zI (z16_value)), .int (zI (z16_kind)), v16_7, v16_8, v16_9, v16_10, v16_11, v16_12, v16_13])), (q_t, .inl (cT, 8192, .inl (fun j : Nat => zI (a_t (j : Int)))))] ++ va_pl L (pE P)) H := hP
                  have hD : va_D A ([(h0, .inr (14, [.ref q_t, .int (zI (z16_n)), .int (zI (z_87)), .int (zI (z16_kind)), .int (zI (z16_place)), .int (zI (z16_value)), .int (zI (z16_kind)), v16_7, v16_8, v16_9, v16_10, v16_11, v16_12, v16_13])), (q_t, .inl (cT, 8192, .inl (fun j : Nat => zI (a_t (j : Int)))))] ++ va_pl L (pE P)) := hD
                  refine lv_goto (tgt := 35) hx hb dX16_next_70 (by decide) ?_
                  exact ih35 z_87 ls H _ (by omega) (by omega) (by omega) (lv_sub hl [0, 1] rfl) hP hD hS
          exact key35 ((z16_n - e8_0_2 : Int).toNat + 1) e8_0_2 ls H _ (by omega) (by omega) (by omega) (lv_sub hl [1, 0] rfl) hP hD hS
  exact key8 ((z16_n - z16_at : Int).toNat + 1) z16_at ls H _ (by omega) (by omega) (by omega) (lv_sub hl [0] rfl) hP hD hS
