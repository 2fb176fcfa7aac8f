def o_X16_opAK : List Cond := [.fieldLink RX16 38 "SsaForgeModel$Reader" "kind" "I", .fieldLink RX16 80 "SsaForgeModel$Reader" "value" "I", .fieldLink RX16 214 "SsaForgeModel$Row" "a" "I", .fieldLink RX16 217 "SsaForgeModel$Row" "regA" "Z", .methodLink RX16 35 yX16_next, .instanceMethod yX16_next, .selects RX16 yX16_next yX16_next, .initialized RX16, .methodLink RX16 136 yX16_no, .instanceMethod yX16_no, .selects RX16 yX16_no yX16_no]
def v_X16_opAK : List Cond := .code yX16_operand cX16_operand 4 none :: (o_X16_opAK ++ (wsX160 ++ (wsX170 ++ (v_X16_nextK ++ (v_X16_no ++ [])))))
theorem mow_X16_opAK : ∀ w ∈ o_X16_opAK, w ∈ v_X16_opAK := fun _ h => List.mem_cons_of_mem _ (List.mem_append_left _ h)
theorem mem_X16_opAK_0 : ∀ w ∈ wsX160, w ∈ v_X16_opAK := fun _ h => List.mem_cons_of_mem _ (List.mem_append_right _ (List.mem_append_left _ h))
theorem mem_X16_opAK_1 : ∀ w ∈ wsX170, w ∈ v_X16_opAK := fun _ h => List.mem_cons_of_mem _ (List.mem_append_right _ (List.mem_append_right _ (List.mem_append_left _ h)))
theorem mem_X16_opAK_2 : ∀ w ∈ v_X16_nextK, w ∈ v_X16_opAK := fun _ h => List.mem_cons_of_mem _ (List.mem_append_right _ (List.mem_append_right _ (List.mem_append_right _ (List.mem_append_left _ h))))
theorem mem_X16_opAK_3 : ∀ w ∈ v_X16_no, w ∈ v_X16_opAK := fun _ h => List.mem_cons_of_mem _ (List.mem_append_right _ (List.mem_append_right _ (List.mem_append_right _ (List.mem_append_right _ (List.mem_append_left _ h)))))
set_option maxRecDepth 20000 in
theorem gw_X16_opAK : v_X16_opAK.all goodWord = true := by decide +kernel
set_option maxRecDepth 20000 in
theorem g_X16_opAK_X16_nextK : GoodIn v_X16_opAK (wsV RX16 35 RX16 yX16_next v_X16_nextK) := goodIn_app (goodIn_sub (fun w h => mow_X16_opAK w (by revert w h; decide +kernel)) (by decide +kernel)) (goodIn_sub mem_X16_opAK_2 gw_X16_nextK)
set_option maxRecDepth 20000 in
theorem g_X16_opAK_X16_no : GoodIn v_X16_opAK (wsV RX16 136 RX16 yX16_no v_X16_no) := goodIn_app (goodIn_sub (fun w h => mow_X16_opAK w (by revert w h; decide +kernel)) (by decide +kernel)) (goodIn_sub mem_X16_opAK_3 gw_X16_no)
set_option maxHeartbeats 4000000 in
set_option maxRecDepth 100000 in
theorem c_X16_opAK (l : Launch) (dC : Nat → ClassId) (dI : Nat → Nat → Nat) (cI : ClassId) (cZ : ClassId) (h0 : Nat) (z16_n : Int) (z16_at : Int) (z16_kind : Int) (z16_place : Int) (z16_value : Int) (z16_before : Int) (v16_8 : Value) (v16_9 : Value) (v16_10 : Value) (v16_11 : Value) (v16_12 : Value) (v16_13 : Value) (q_t : Nat) (cT : ClassId) (a_t : Int → Int) (tx9 : Nat) (L : List Nat) (P : PO) (sa_RX16_9 : Nat) (cO : ClassId) (la : Nat) (sx_ed : Nat) (xr : Nat) (hNz16_n : 0 ≤ z16_n ∧ z16_n ≤ 8192) (hNz16_at : 0 ≤ z16_at ∧ z16_at ≤ 8192) (hNz16_kind : 0 ≤ z16_kind ∧ z16_kind ≤ 6) (hNz16_place : 0 ≤ z16_place ∧ z16_place ≤ 8192) (hNz16_value : -2147483648 ≤ z16_value ∧ z16_value ≤ 2147483647) (hNz16_before : 0 ≤ z16_before ∧ z16_before ≤ 6) (hR_a_t : ∀ j : Int, -128 ≤ a_t j ∧ a_t j ≤ 127) (hX_g : GLF L P cO cI cZ sx_ed) (hX_la : la ∈ L ∧ P.kd la = 30 ∧ P.ek la = 12 ∧ P.ow la = la) (hX_x : xr ∈ L) (hX_k : P.kd xr = 17) (hNd : z16_at ≤ z16_n ∧ z16_place ≤ z16_at) (hX_kv : KV9 z16_kind z16_value) (hX_tn : TKQ z16_kind z16_place z16_at) (sz : Nat) (sv_RX16_9 : Nat) (sa_RX16_119 : Nat) (sv_RX16_119 : Nat) (sa_RX16_100 : Nat) (sv_RX16_100 : Nat) (sa_RX16_117 : Nat) (sv_RX16_117 : Nat) (sa_RX16_98 : Nat) (sv_RX16_98 : Nat) (HU : Heap) : vx_Met l yX16_operand v_X16_opAK ({ frames := 8, cells := ((z16_n - z16_at + 20).toNat), slots := ((10 * (z16_n - z16_at) + 120).toNat), locals := 216 }) (va_Pc [.ref h0, .ref xr, .int 0] (fun U => U.heap.size = sz ∧ va_P (dC, dI) vwQ ([(h0, .inr (14, [.ref q_t, .int (zI (z16_n)), .int (zI (z16_at)), .int (zI (z16_kind)), .int (zI (z16_place)), .int (zI (z16_value)), .int (zI (z16_before)), .ref tx9, v16_8, v16_9, v16_10, v16_11, v16_12, v16_13])), (q_t, .inl (cT, 8192, .inl (fun j : Nat => zI (a_t (j : Int)))))] ++ va_pl L (pE P)) U.heap ∧ va_K (dC, dI) vwQ [(cT, .byte), (cO, .object "java/lang/Object"), (cI, .int), (cZ, .boolean)] U ∧ va_D (fun _ => True) ([(h0, .inr (14, [.ref q_t, .int (zI (z16_n)), .int (zI (z16_at)), .int (zI (z16_kind)), .int (zI (z16_place)), .int (zI (z16_value)), .int (zI (z16_before)), .ref tx9, v16_8, v16_9, v16_10, v16_11, v16_12, v16_13])), (q_t, .inl (cT, 8192, .inl (fun j : Nat => zI (a_t (j : Int)))))] ++ va_pl L (pE P)) ∧ vk_R RX16 9 "" sa_RX16_9 U ∧ va_Z "java/lang/String" "COMPACT_STRINGS" "Z" (.int 1) (va_A ([(h0, .inr (14, [.ref q_t, .int (zI (z16_n)), .int (zI (z16_at)), .int (zI (z16_kind)), .int (zI (z16_place)), .int (zI (z16_value)), .int (zI (z16_before)), .ref tx9, v16_8, v16_9, v16_10, v16_11, v16_12, v16_13])), (q_t, .inl (cT, 8192, .inl (fun j : Nat => zI (a_t (j : Int)))))] ++ va_pl L (pE P)) sz) U U.heap ∧ vs_S sa_RX16_9 sv_RX16_9 0 (fun j : Nat => ([] : List Int32).getD j 0) (va_A ([(h0, .inr (14, [.ref q_t, .int (zI (z16_n)), .int (zI (z16_at)), .int (zI (z16_kind)), .int (zI (z16_place)), .int (zI (z16_value)), .int (zI (z16_before)), .ref tx9, v16_8, v16_9, v16_10, v16_11, v16_12, v16_13])), (q_t, .inl (cT, 8192, .inl (fun j : Nat => zI (a_t (j : Int)))))] ++ va_pl L (pE P)) sz) U U.heap ∧ va_Nw (.castable "[B" "java/lang/Cloneable") U ∧ vk_R RX16 119 "+-*/%&|^<(),:=" sa_RX16_119 U ∧ vs_S sa_RX16_119 sv_RX16_119 14 (fun j : Nat => ([43, 45, 42, 47, 37, 38, 124, 94, 60, 40, 41, 44, 58, 61] : List Int32).getD j 0) (va_A ([(h0, .inr (14, [.ref q_t, .int (zI (z16_n)), .int (zI (z16_at)), .int (zI (z16_kind)), .int (zI (z16_place)), .int (zI (z16_value)), .int (zI (z16_before)), .ref tx9, v16_8, v16_9, v16_10, v16_11, v16_12, v16_13])), (q_t, .inl (cT, 8192, .inl (fun j : Nat => zI (a_t (j : Int)))))] ++ va_pl L (pE P)) sz) U U.heap ∧ vs_S sa_RX16_100 sv_RX16_100 1 (fun j : Nat => ([32] : List Int32).getD j 0) (va_A ([(h0, .inr (14, [.ref q_t, .int (zI (z16_n)), .int (zI (z16_at)), .int (zI (z16_kind)), .int (zI (z16_place)), .int (zI (z16_value)), .int (zI (z16_before)), .ref tx9, v16_8, v16_9, v16_10, v16_11, v16_12, v16_13])), (q_t, .inl (cT, 8192, .inl (fun j : Nat => zI (a_t (j : Int)))))] ++ va_pl L (pE P)) sz) U U.heap ∧ vk_R RX16 117 " << >> <= == != " sa_RX16_117 U ∧ vk_R RX16 100 " " sa_RX16_100 U ∧ vs_S sa_RX16_117 sv_RX16_117 16 (fun j : Nat => ([32, 60, 60, 32, 62, 62, 32, 60, 61, 32, 61, 61, 32, 33, 61, 32] : List Int32).getD j 0) (va_A ([(h0, .inr (14, [.ref q_t, .int (zI (z16_n)), .int (zI (z16_at)), .int (zI (z16_kind)), .int (zI (z16_place)), .int (zI (z16_value)), .int (zI (z16_before)), .ref tx9, v16_8, v16_9, v16_10, v16_11, v16_12, v16_13])), (q_t, .inl (cT, 8192, .inl (fun j : Nat => zI (a_t (j : Int)))))] ++ va_pl L (pE P)) sz) U U.heap ∧ vk_R RX16 98 " in show if jump ret phi " sa_RX16_98 U ∧ vs_S sa_RX16_98 sv_RX16_98 25 (fun j : Nat => ([32, 105, 110, 32, 115, 104, 111, 119, 32, 105, 102, 32, 106, 117, 109, 112, 32, 114, 101, 116, 32, 112, 104, 105, 32] : List Int32).getD j 0) (va_A ([(h0, .inr (14, [.ref q_t, .int (zI (z16_n)), .int (zI (z16_at)), .int (zI (z16_kind)), .int (zI (z16_place)), .int (zI (z16_value)), .int (zI (z16_before)), .ref tx9, v16_8, v16_9, v16_10, v16_11, v16_12, v16_13])), (q_t, .inl (cT, 8192, .inl (fun j : Nat => zI (a_t (j : Int)))))] ++ va_pl L (pE P)) sz) U U.heap ∧ U.heap = HU ∧ vx_Zq Bundle.tN "UNASSIGNED_STACK" Bundle.steD (va_A ([(h0, .inr (14, [.ref q_t, .int (zI (z16_n)), .int (zI (z16_at)), .int (zI (z16_kind)), .int (zI (z16_place)), .int (zI (z16_value)), .int (zI (z16_before)), .ref tx9, v16_8, v16_9, v16_10, v16_11, v16_12, v16_13])), (q_t, .inl (cT, 8192, .inl (fun j : Nat => zI (a_t (j : Int)))))] ++ va_pl L (pE P)) sz) U U.heap ∧ vx_Zq Bundle.tN "SUPPRESSED_SENTINEL" Bundle.listD (va_A ([(h0, .inr (14, [.ref q_t, .int (zI (z16_n)), .int (zI (z16_at)), .int (zI (z16_kind)), .int (zI (z16_place)), .int (zI (z16_value)), .int (zI (z16_before)), .ref tx9, v16_8, v16_9, v16_10, v16_11, v16_12, v16_13])), (q_t, .inl (cT, 8192, .inl (fun j : Nat => zI (a_t (j : Int)))))] ++ va_pl L (pE P)) sz) U U.heap)) (va_Qv (fun _ : Unit => True) (fun (_ : Unit) (t : State) => ∃ (z0_9 : Int) (z1_9 : Int) (z2_9 : Int) (z3_9 : Int) (z4_9 : Int) (q5_9 : Nat) (Ln_9 : List Nat) (Pn_9 : PO) (kc_9 : Nat) (ks_9 : Nat), ((RM HU t.heap kc_9 ks_9 ∧ ((ks_9 : Int) ≤ TKV (z1_9) (z0_9 - z2_9) ∧ (kc_9 : Int) ≤ TKW (z1_9) (z0_9 - z2_9))) ∧ ((0 ≤ z0_9 ∧ z0_9 ≤ 8192) ∧ (0 ≤ z1_9 ∧ z1_9 ≤ 6) ∧ (0 ≤ z2_9 ∧ z2_9 ≤ 8192) ∧ (-2147483648 ≤ z3_9 ∧ z3_9 ≤ 2147483647) ∧ (0 ≤ z4_9 ∧ z4_9 ≤ 6) ∧ (KEG [] L P Ln_9 Pn_9 ∧ GLF Ln_9 Pn_9 cO cI cZ sx_ed ∧ (OPQ (Pn_9.rA xr) (Pn_9.ra xr) ∧ (0 ≤ Pn_9.rA xr ∧ Pn_9.rA xr ≤ 1 ∧ Pn_9.rB xr = P.rB xr ∧ Pn_9.rb xr = P.rb xr ∧ Pn_9.ro xr = P.ro xr ∧ Pn_9.rt xr = P.rt xr ∧ 1 ≤ z16_kind ∧ TKV z16_kind (z16_at - z16_place) + 40 ≤ 40 * (z16_at - z16_place) ∧ TKW z16_kind (z16_at - z16_place) + 8 ≤ 8 * (z16_at - z16_place) ∧ NTX L P Ln_9 Pn_9)) ∧ CHG (fun z => z = xr) L P Ln_9 Pn_9 ∧ ((z16_at ≤ z2_9 ∧ z2_9 ≤ z0_9 ∧ z0_9 ≤ z16_n) ∧ TKQ (z1_9) (z2_9) (z0_9)) ∧ KDN (z1_9) (z0_9) (z3_9) z16_n z16_at ∧ TXT Ln_9 Pn_9 cT sa_RX16_9 q5_9 ∧ TXK9 (z1_9) Pn_9 sa_RX16_9 q5_9))) ∧ va_P (dC, dI) vwQ ([(h0, .inr (14, [.ref q_t, .int (zI (z16_n)), .int (zI (z0_9)), .int (zI (z1_9)), .int (zI (z2_9)), .int (zI (z3_9)), .int (zI (z4_9)), .ref q5_9, v16_8, v16_9, v16_10, v16_11, v16_12, v16_13])), (q_t, .inl (cT, 8192, .inl (fun j : Nat => zI (a_t (j : Int)))))] ++ va_pl Ln_9 (pE Pn_9)) t.heap ∧ va_K (dC, dI) vwQ [(cT, .byte), (cO, .object "java/lang/Object"), (cI, .int), (cZ, .boolean)] t ∧ va_D (va_A ([(h0, .inr (14, [.ref q_t, .int (zI (z16_n)), .int (zI (z16_at)), .int (zI (z16_kind)), .int (zI (z16_place)), .int (zI (z16_value)), .int (zI (z16_before)), .ref tx9, v16_8, v16_9, v16_10, v16_11, v16_12, v16_13])), (q_t, .inl (cT, 8192, .inl (fun j : Nat => zI (a_t (j : Int)))))] ++ va_pl L (pE P)) sz) ([(h0, .inr (14, [.ref q_t, .int (zI (z16_n)), .int (zI (z0_9)), .int (zI (z1_9)), .int (zI (z2_9)), .int (zI (z3_9)), .int (zI (z4_9)), .ref q5_9, v16_8, v16_9, v16_10, v16_11, v16_12, v16_13])), (q_t, .inl (cT, 8192, .inl (fun j : Nat => zI (a_t (j : Int)))))] ++ va_pl Ln_9 (pE Pn_9))) (va_A ([(h0, .inr (14, [.ref q_t, .int (zI (z16_n)), .int (zI (z16_at)), .int (zI (z16_kind)), .int (zI (z16_place)), .int (zI (z16_value)), .int (zI (z16_before)), .ref tx9, v16_8, v16_9, v16_10, v16_11, v16_12, v16_13])), (q_t, .inl (cT, 8192, .inl (fun j : Nat => zI (a_t (j : Int)))))] ++ va_pl L (pE P)) sz)) (vx_X (fun _ : Unit => True) (fun E (q9 : Addr) (_ : Unit) (t9 : State) => (E = RX18 ∧ ∃ (zp_9 : Int) (Ln_9 : List Nat) (Pn_9 : PO) (kc_9 : Nat) (ks_9 : Nat), ((RM HU t9.heap kc_9 ks_9 ∧ ((ks_9 : Int) ≤ 7 ∧ (kc_9 : Int) ≤ 1)) ∧ ((0 ≤ zp_9 ∧ zp_9 ≤ 8192) ∧ (KEG [] L P Ln_9 Pn_9 ∧ GLF Ln_9 Pn_9 cO cI cZ sx_ed ∧ CPA L P Pn_9 ∧ NTX L P Ln_9 Pn_9))) ∧ va_P (dC, dI) vwQ ([(q_t, .inl (cT, 8192, .inl (fun j : Nat => zI (a_t (j : Int))))), (q9, .inr (15, [.null, .null, .null, .null, .null, .int 0, .int (zI (zp_9))]))] ++ va_pl Ln_9 (pE Pn_9)) t9.heap ∧ va_D (va_A ([(h0, .inr (14, [.ref q_t, .int (zI (z16_n)), .int (zI (z16_at)), .int (zI (z16_kind)), .int (zI (z16_place)), .int (zI (z16_value)), .int (zI (z16_before)), .ref tx9, v16_8, v16_9, v16_10, v16_11, v16_12, v16_13])), (q_t, .inl (cT, 8192, .inl (fun j : Nat => zI (a_t (j : Int)))))] ++ va_pl L (pE P)) sz) ([(q_t, .inl (cT, 8192, .inl (fun j : Nat => zI (a_t (j : Int))))), (q9, .inr (15, [.null, .null, .null, .null, .null, .int 0, .int (zI (zp_9))]))] ++ va_pl Ln_9 (pE Pn_9)))) (va_A ([(h0, .inr (14, [.ref q_t, .int (zI (z16_n)), .int (zI (z16_at)), .int (zI (z16_kind)), .int (zI (z16_place)), .int (zI (z16_value)), .int (zI (z16_before)), .ref tx9, v16_8, v16_9, v16_10, v16_11, v16_12, v16_13])), (q_t, .inl (cT, 8192, .inl (fun j : Nat => zI (a_t (j : Int)))))] ++ va_pl L (pE P)) sz)) ((z16_n - z16_at + 20).toNat) ((10 * (z16_n - z16_at) + 120).toNat) (va_A ([(h0, .inr (14, [.ref q_t, .int (zI (z16_n)), .int (zI (z16_at)), .int (zI (z16_kind)), .int (zI (z16_place)), .int (zI (z16_value)), .int (zI (z16_before)), .ref tx9, v16_8, v16_9, v16_10, v16_11, v16_12, v16_13])), (q_t, .inl (cT, 8192, .inl (fun j : Nat => zI (a_t (j : Int)))))] ++ va_pl L (pE P)) sz) := by
  refine vx_ofW (cc := cX16_operand) (maxL := 4) (ret := none) (by decide) rfl ?_
  intro p e s m args below meth c s₁ B hml hnt hv
  obtain ⟨rfl, hsz, hP, hK, hD0, hp0, hp1, hp2, hp3, hp4, hp5, hp6, hp7, hp8, hp9, hp10, hp11, hp12, hp13, hp14⟩ := hv
  have hx := B.exec
  have hb := B.bytes
  have hr := B.returns
  have hts := atoms_spec (ws := v_X16_opAK) B.pre
  have hown : s.vm.findClass RX16 = some m.cls := findClass_of_methodNamed B.named
  have hlocks := B.notSynchronized
  have ow : ∀ {k : Nat} {w : Cond}, o_X16_opAK[k]? = some w → w.before ([.ref h0, .ref xr, .int 0] : List Value).toArray s = true := fun h => hts _ (mow_X16_opAK _ (List.mem_of_getElem? h))
  subst hsz
  have hD := hD0.self (sz := s.heap.size)
  generalize hAe : va_A ([(h0, .inr (14, [.ref q_t, .int (zI (z16_n)), .int (zI (z16_at)), .int (zI (z16_kind)), .int (zI (z16_place)), .int (zI (z16_value)), .int (zI (z16_before)), .ref tx9, v16_8, v16_9, v16_10, v16_11, v16_12, v16_13])), (q_t, .inl (cT, 8192, .inl (fun j : Nat => zI (a_t (j : Int)))))] ++ va_pl L (pE P)) s.heap.size = A at hD hp1 hp2 hp5 hp6 hp9 hp11 hp13 hp14 ⊢
  have hA : ∀ q : Nat, s.heap.size ≤ q → A q := fun q h => by rw [← hAe]; exact Or.inr h
  have hS : va_S A s.heap s.heap [] := va_S.rf
  have hP : va_P (dC, dI) vwQ ([(h0, .inr (14, [.ref q_t, .int (zI (z16_n)), .int (zI (z16_at)), .int (zI (z16_kind)), .int (zI (z16_place)), .int (zI (z16_value)), .int (zI (z16_before)), .ref tx9, v16_8, v16_9, v16_10, v16_11, v16_12, v16_13])), (q_t, .inl (cT, 8192, .inl (fun j : Nat => zI (a_t (j : Int)))))] ++ va_pl L (pE P)) s.heap := hP
  have hl := lv_entry ([.ref h0, .ref xr, .int 0]) (n := 4) (Nat.le_of_ble_eq_true rfl)
  rw [lg_entry_eq]
  generalize (lg_sl ([.ref h0, .ref xr, .int 0]) ++ List.replicate (4 - (lg_sl ([.ref h0, .ref xr, .int 0])).length) Slot.unset).toArray = ls at hl ⊢
  have hl : lv_has ls 4 [(0, .ref h0), (1, .ref xr), (2, .int 0)] := hl
  obtain ⟨H, hH⟩ : ∃ H, H = s.heap := ⟨_, rfl⟩
  rw [← hH] at hP
  have hS : va_S A s.heap H [] := by rw [hH]; exact hS
  rw [← hH]
  refine zW_cap (fun Q hQ => ?_)
  have hX_g9 := hX_g
  have hX_tn9 := hX_tn
  have hnx0 : NTX L P L P := NTX.refl _ _
  have hC_la := hX_la
  have hcx0 : CHG (fun z => z = xr) L P L P := CHG.refl _ _ _
  refine lv_aload_n hx hb dX16_operand_0 rfl (lv_at hl 0 rfl) ?_
  refine va_get (D := (dC, dI)) (ci := 14) (v := .int (zI (z16_kind))) (C := RX16) (T := TX16) (N := 14) hx hb hts mem_X16_opAK_0 hown hK hP 0 rfl rfl 3 (by decide) (ow (k := 0) rfl) (fun _ h9 => h9) rfl dX16_operand_1 ?_
  refine lv_iconst (v := 2) hx hb dX16_operand_4 (by decide) ?_
  refine lv_icmp_ne (tgt := 12) hx hb dX16_operand_5 (by decide) (fun b5 => ?_) (fun b5 => ?_)
  · have yb5 : ¬ (z16_kind : Int) = (2 : Int) := fun q => b5 ((zI_eq (a := z16_kind) (b := 2) (by omega) (by omega) (by omega) (by omega)).mpr q)
    refine lv_iconst (v := 0) hx hb dX16_operand_12 (by decide) ?_
    refine lv_istore_n (lv' := [(3, .int 0), (0, .ref h0), (1, .ref xr), (2, .int 0)]) hx hb dX16_operand_13 rfl hl (by decide) rfl (fun ls hl => ?_)
    refine lv_iload_n hx hb dX16_operand_14 rfl (lv_at hl 0 rfl) ?_
    refine lv_if_ne (tgt := 31) hx hb dX16_operand_15 (by decide) (fun h9 => absurd h9 (by decide)) (fun _ => ?_)
    refine lv_aload_n hx hb dX16_operand_18 rfl (lv_at hl 1 rfl) ?_
    refine va_get (D := (dC, dI)) (ci := 14) (v := .int (zI (z16_kind))) (C := RX16) (T := TX16) (N := 14) hx hb hts mem_X16_opAK_0 hown hK hP 0 rfl rfl 3 (by decide) (ow (k := 0) rfl) (fun _ h9 => h9) rfl dX16_operand_19 ?_
    refine lv_iconst (v := 4) hx hb dX16_operand_22 (by decide) ?_
    refine lv_icmp_eq (tgt := 31) hx hb dX16_operand_23 (by decide) (fun b23 => ?_) (fun b23 => ?_)
    · have yb23 : (z16_kind : Int) = (4 : Int) := (zI_eq (a := z16_kind) (b := 4) (by omega) (by omega) (by omega) (by omega)).mp b23
      have hnt9 := TKQ.opd hX_tn9 (by omega)
      skip
      refine lv_iload_n hx hb dX16_operand_31 rfl (lv_at hl 3 rfl) ?_
      refine lv_if_eq (tgt := 51) hx hb dX16_operand_32 (by decide) (fun _ => ?_) (fun h9 => absurd h9 (by decide))
      refine lv_aload_n hx hb dX16_operand_51 rfl (lv_at hl 2 rfl) ?_
      refine lv_aload_n hx hb dX16_operand_52 rfl (lv_at hl 1 rfl) ?_
      refine va_get (D := (dC, dI)) (ci := 14) (v := .int (zI (z16_value))) (C := RX16) (T := TX16) (N := 14) hx hb hts mem_X16_opAK_0 hown hK hP 0 rfl rfl 5 (by decide) (ow (k := 1) rfl) (fun _ h9 => h9) rfl dX16_operand_53 ?_
      have ⟨hr1, hr2, hr3, hr4, hr5, hr6, hr7, hr8, hr9⟩ := hX_g9.rok hX_x hX_k
      obtain ⟨kp_1, gkp_1⟩ := va_pl_get (X := [(h0, .inr (14, [.ref q_t, .int (zI (z16_n)), .int (zI (z16_at)), .int (zI (z16_kind)), .int (zI (z16_place)), .int (zI (z16_value)), .int (zI (z16_before)), .ref tx9, v16_8, v16_9, v16_10, v16_11, v16_12, v16_13])), (q_t, .inl (cT, 8192, .inl (fun j : Nat => zI (a_t (j : Int)))))]) (f := pE P) hX_x
      have hkp_1 := gkp_1
      rw [pE_row hX_k] at hkp_1
      have hD0 := hD
      refine va_put (D := (dC, dI)) (ci := 21) (v := .int (zI (z16_value))) (ty := .int) (C := RX17) (T := TX17) (N := 7) hx hb hts mem_X16_opAK_1 tyX17 tyX17_ok nmX17 hown hK hP hD hS kp_1 hkp_1 rfl 2 (by decide) (ow (k := 2) rfl) (fun _ h9 => h9) rfl (by decide +kernel) rfl rfl (by first | exact Nat.le_of_ble_eq_true rfl | exact (show 0 ≤ (z16_n - z16_at + 20).toNat from (by omega)) | exact (show 0 ≤ (10 * (z16_n - z16_at) + 120).toNat from (by omega))) dX16_operand_56 (fun H locs hP hD hS => ?_)
      obtain ⟨Pw_2, ePw_2⟩ : ∃ q9 : PO, q9 = P.rw9 2 xr (z16_value) := ⟨_, rfl⟩
      have eU : (([(h0, .inr (14, [.ref q_t, .int (zI (z16_n)), .int (zI (z16_at)), .int (zI (z16_kind)), .int (zI (z16_place)), .int (zI (z16_value)), .int (zI (z16_before)), .ref tx9, v16_8, v16_9, v16_10, v16_11, v16_12, v16_13])), (q_t, .inl (cT, 8192, .inl (fun j : Nat => zI (a_t (j : Int)))))] : va_W) ++ va_pl L (pE P)).set kp_1 (xr, rowE (P.ro xr) (P.rt xr) (z16_value) (P.rb xr) (P.rA xr) (P.rB xr) (P.rg xr)) = ([(h0, .inr (14, [.ref q_t, .int (zI (z16_n)), .int (zI (z16_at)), .int (zI (z16_kind)), .int (zI (z16_place)), .int (zI (z16_value)), .int (zI (z16_before)), .ref tx9, v16_8, v16_9, v16_10, v16_11, v16_12, v16_13])), (q_t, .inl (cT, 8192, .inl (fun j : Nat => zI (a_t (j : Int)))))] : va_W) ++ va_pl L (pE Pw_2) := (by rw [va_pl_set hD0 hX_x gkp_1, ePw_2]; exact congrArg (fun f9 => ([(h0, .inr (14, [.ref q_t, .int (zI (z16_n)), .int (zI (z16_at)), .int (zI (z16_kind)), .int (zI (z16_place)), .int (zI (z16_value)), .int (zI (z16_before)), .ref tx9, v16_8, v16_9, v16_10, v16_11, v16_12, v16_13])), (q_t, .inl (cT, 8192, .inl (fun j : Nat => zI (a_t (j : Int)))))] : va_W) ++ va_pl L f9) (put17_2 hX_k))
      have hP : va_P (dC, dI) vwQ ([(h0, .inr (14, [.ref q_t, .int (zI (z16_n)), .int (zI (z16_at)), .int (zI (z16_kind)), .int (zI (z16_place)), .int (zI (z16_value)), .int (zI (z16_before)), .ref tx9, v16_8, v16_9, v16_10, v16_11, v16_12, v16_13])), (q_t, .inl (cT, 8192, .inl (fun j : Nat => zI (a_t (j : Int)))))] ++ va_pl L (pE Pw_2)) H := (by rw [← eU]; exact hP)
      have hD : va_D A ([(h0, .inr (14, [.ref q_t, .int (zI (z16_n)), .int (zI (z16_at)), .int (zI (z16_kind)), .int (zI (z16_place)), .int (zI (z16_value)), .int (zI (z16_before)), .ref tx9, v16_8, v16_9, v16_10, v16_11, v16_12, v16_13])), (q_t, .inl (cT, 8192, .inl (fun j : Nat => zI (a_t (j : Int)))))] ++ va_pl L (pE Pw_2)) := (by rw [← eU]; exact hD)
      clear eU hD0 gkp_1 hkp_1
      have wPw_2 : RW1 xr P Pw_2 := (by rw [ePw_2]; exact RW1.put _ _ _ _)
      have hy_3 : Pw_2.kd la = 30 := (by rw [ePw_2]; exact hC_la.2.1)
      have hy_4 : Pw_2.kd xr = 17 := (by rw [ePw_2]; exact hX_k)
      have : Pw_2.ro xr = P.ro xr := (by rw [ePw_2]; exact rw9_of _ (by decide))
      have : Pw_2.rt xr = P.rt xr := (by rw [ePw_2]; exact rw9_of _ (by decide))
      have : Pw_2.ra xr = z16_value := (by rw [ePw_2]; exact rw9_at _ _ _ _)
      have : Pw_2.rb xr = P.rb xr := (by rw [ePw_2]; exact rw9_of _ (by decide))
      have : Pw_2.rA xr = P.rA xr := (by rw [ePw_2]; exact rw9_of _ (by decide))
      have : Pw_2.rB xr = P.rB xr := (by rw [ePw_2]; exact rw9_of _ (by decide))
      have : Pw_2.rg xr = P.rg xr := (by rw [ePw_2]; exact rw9_of _ (by decide))
      refine lv_aload_n hx hb dX16_operand_59 rfl (lv_at hl 2 rfl) ?_
      refine lv_iload_n hx hb dX16_operand_60 rfl (lv_at hl 0 rfl) ?_
      refine lv_topi (fun z ez => ?_)
      obtain rfl : z = zI (0) := ez
      obtain ⟨kp_5, gkp_5⟩ := va_pl_get (X := [(h0, .inr (14, [.ref q_t, .int (zI (z16_n)), .int (zI (z16_at)), .int (zI (z16_kind)), .int (zI (z16_place)), .int (zI (z16_value)), .int (zI (z16_before)), .ref tx9, v16_8, v16_9, v16_10, v16_11, v16_12, v16_13])), (q_t, .inl (cT, 8192, .inl (fun j : Nat => zI (a_t (j : Int)))))]) (f := pE Pw_2) hX_x
      have hkp_5 := gkp_5
      rw [pE_row hy_4] at hkp_5
      have hD0 := hD
      refine va_put (D := (dC, dI)) (ci := 21) (v := .int (zI (0))) (ty := .boolean) (C := RX17) (T := TX17) (N := 7) hx hb hts mem_X16_opAK_1 tyX17 tyX17_ok nmX17 hown hK hP hD hS kp_5 hkp_5 rfl 4 (by decide) (ow (k := 3) rfl) (fun _ h9 => h9) rfl (by decide +kernel) (zI_bool (by omega) (by omega)) (zI_fitb (by omega) (by omega)) (by first | exact Nat.le_of_ble_eq_true rfl | exact (show 0 ≤ (z16_n - z16_at + 20).toNat from (by omega)) | exact (show 0 ≤ (10 * (z16_n - z16_at) + 120).toNat from (by omega))) dX16_operand_61 (fun H locs hP hD hS => ?_)
      obtain ⟨Pw_6, ePw_6⟩ : ∃ q9 : PO, q9 = Pw_2.rw9 4 xr (0) := ⟨_, rfl⟩
      have eU : (([(h0, .inr (14, [.ref q_t, .int (zI (z16_n)), .int (zI (z16_at)), .int (zI (z16_kind)), .int (zI (z16_place)), .int (zI (z16_value)), .int (zI (z16_before)), .ref tx9, v16_8, v16_9, v16_10, v16_11, v16_12, v16_13])), (q_t, .inl (cT, 8192, .inl (fun j : Nat => zI (a_t (j : Int)))))] : va_W) ++ va_pl L (pE Pw_2)).set kp_5 (xr, rowE (Pw_2.ro xr) (Pw_2.rt xr) (Pw_2.ra xr) (Pw_2.rb xr) (0) (Pw_2.rB xr) (Pw_2.rg xr)) = ([(h0, .inr (14, [.ref q_t, .int (zI (z16_n)), .int (zI (z16_at)), .int (zI (z16_kind)), .int (zI (z16_place)), .int (zI (z16_value)), .int (zI (z16_before)), .ref tx9, v16_8, v16_9, v16_10, v16_11, v16_12, v16_13])), (q_t, .inl (cT, 8192, .inl (fun j : Nat => zI (a_t (j : Int)))))] : va_W) ++ va_pl L (pE Pw_6) := (by rw [va_pl_set hD0 hX_x gkp_5, ePw_6]; exact congrArg (fun f9 => ([(h0, .inr (14, [.ref q_t, .int (zI (z16_n)), .int (zI (z16_at)), .int (zI (z16_kind)), .int (zI (z16_place)), .int (zI (z16_value)), .int (zI (z16_before)), .ref tx9, v16_8, v16_9, v16_10, v16_11, v16_12, v16_13])), (q_t, .inl (cT, 8192, .inl (fun j : Nat => zI (a_t (j : Int)))))] : va_W) ++ va_pl L f9) (put17_4 hy_4))
      have hP : va_P (dC, dI) vwQ ([(h0, .inr (14, [.ref q_t, .int (zI (z16_n)), .int (zI (z16_at)), .int (zI (z16_kind)), .int (zI (z16_place)), .int (zI (z16_value)), .int (zI (z16_before)), .ref tx9, v16_8, v16_9, v16_10, v16_11, v16_12, v16_13])), (q_t, .inl (cT, 8192, .inl (fun j : Nat => zI (a_t (j : Int)))))] ++ va_pl L (pE Pw_6)) H := (by rw [← eU]; exact hP)
      have hD : va_D A ([(h0, .inr (14, [.ref q_t, .int (zI (z16_n)), .int (zI (z16_at)), .int (zI (z16_kind)), .int (zI (z16_place)), .int (zI (z16_value)), .int (zI (z16_before)), .ref tx9, v16_8, v16_9, v16_10, v16_11, v16_12, v16_13])), (q_t, .inl (cT, 8192, .inl (fun j : Nat => zI (a_t (j : Int)))))] ++ va_pl L (pE Pw_6)) := (by rw [← eU]; exact hD)
      clear eU hD0 gkp_5 hkp_5
      have wPw_6 : RW1 xr Pw_2 Pw_6 := (by rw [ePw_6]; exact RW1.put _ _ _ _)
      have hy_7 : Pw_6.kd la = 30 := (by rw [ePw_6]; exact hy_3)
      have hy_8 : Pw_6.kd xr = 17 := (by rw [ePw_6]; exact hy_4)
      have : Pw_6.ro xr = Pw_2.ro xr := (by rw [ePw_6]; exact rw9_of _ (by decide))
      have : Pw_6.rt xr = Pw_2.rt xr := (by rw [ePw_6]; exact rw9_of _ (by decide))
      have : Pw_6.ra xr = Pw_2.ra xr := (by rw [ePw_6]; exact rw9_of _ (by decide))
      have : Pw_6.rb xr = Pw_2.rb xr := (by rw [ePw_6]; exact rw9_of _ (by decide))
      have : Pw_6.rA xr = 0 := (by rw [ePw_6]; exact rw9_at _ _ _ _)
      have : Pw_6.rB xr = Pw_2.rB xr := (by rw [ePw_6]; exact rw9_of _ (by decide))
      have : Pw_6.rg xr = Pw_2.rg xr := (by rw [ePw_6]; exact rw9_of _ (by decide))
      have hW_9 : RW1 xr P Pw_6 := wPw_2.trans (wPw_6)
      have hrw_12 : RWD P Pw_6 := hW_9.rwd (Or.inl hX_k)
      have hak_11 : GLF L Pw_6 cO cI cZ sx_ed := hX_g9.row hW_9 hX_k (ROK9.of (by omega) (by omega) (by omega) (by omega) (by omega) (by omega) (by omega) (rUA9 (by have q9 := rUsA_spec (P.ro xr) (P.rA xr); omega)) (rUB9 (by have q9 := rUsB_spec (P.ro xr) (P.rB xr); omega))) (fun e9 => by have q9 := hX_g9.op21 hX_x hX_k e9; omega)
      have hke_10 : KEG [] L P L Pw_6 := hrw_12.keg _ hC_la.2.1
      have hq_13 : la ∈ L ∧ Pw_6.kd la = 30 := hke_10.mem hC_la.1 hC_la.2.1 (by decide)
      have hq_14 : xr ∈ L ∧ Pw_6.kd xr = 17 := hke_10.mem hX_x hX_k (by decide)
      have hA_15 : KEG [] L P L Pw_6 := (KEG.refl [] L P).trans hke_10
      have : Pw_6.lz la = P.lz la := hrw_12.lz hC_la.2.1
      have : Pw_6.cap la = P.cap la := hW_9.cap la
      have hek_16 : Pw_6.ek la = 12 := (by rw [hke_10.ek hC_la.1 hC_la.2.1 (by decide)]; exact hC_la.2.2.1)
      have how_17 : Pw_6.ow la = la := ((hke_10.1 la hC_la.1 (by rw [hC_la.2.1]; decide)).2.2.2.1 hC_la.2.1 hC_la.2.2.2).1
      have hcz := (((hke_10.1 la hC_la.1 (by rw [hC_la.2.1]; decide)).2.2.2.1 hC_la.2.1 hC_la.2.2.2).2 (by simp)).1
      have hcx_18 : CHG (fun z => z = xr) L P L Pw_6 := hcx0.trans (hW_9.chg _) (fun z m q => q)
      have hnx_19 : NTX L P L Pw_6 := hnx0.trans (NTX.put9 hW_9)
      have hoq : OPQ (Pw_6.rA xr) (Pw_6.ra xr) := (show _ ∨ _ from by omega)
      clear hr8 hr9
      refine lv_aload_n hx hb dX16_operand_64 rfl (lv_at hl 1 rfl) ?_
      have hPc := hP.part (X := [(h0, .inr (14, [.ref q_t, .int (zI (z16_n)), .int (zI (z16_at)), .int (zI (z16_kind)), .int (zI (z16_place)), .int (zI (z16_value)), .int (zI (z16_before)), .ref tx9, v16_8, v16_9, v16_10, v16_11, v16_12, v16_13])), (q_t, .inl (cT, 8192, .inl (fun j : Nat => zI (a_t (j : Int)))))]) (cx := [(h0, .inr (14, [.ref q_t, .int (zI (z16_n)), .int (zI (z16_at)), .int (zI (z16_kind)), .int (zI (z16_place)), .int (zI (z16_value)), .int (zI (z16_before)), .ref tx9, v16_8, v16_9, v16_10, v16_11, v16_12, v16_13])), (q_t, .inl (cT, 8192, .inl (fun j : Nat => zI (a_t (j : Int)))))]) (pl := va_pl L (pE Pw_6)) [0, 1] rfl
      have hDc := hD.part (X := [(h0, .inr (14, [.ref q_t, .int (zI (z16_n)), .int (zI (z16_at)), .int (zI (z16_kind)), .int (zI (z16_place)), .int (zI (z16_value)), .int (zI (z16_before)), .ref tx9, v16_8, v16_9, v16_10, v16_11, v16_12, v16_13])), (q_t, .inl (cT, 8192, .inl (fun j : Nat => zI (a_t (j : Int)))))]) (cx := [(h0, .inr (14, [.ref q_t, .int (zI (z16_n)), .int (zI (z16_at)), .int (zI (z16_kind)), .int (zI (z16_place)), .int (zI (z16_value)), .int (zI (z16_before)), .ref tx9, v16_8, v16_9, v16_10, v16_11, v16_12, v16_13])), (q_t, .inl (cT, 8192, .inl (fun j : Nat => zI (a_t (j : Int)))))]) (pl := va_pl L (pE Pw_6)) [0, 1] (by decide) rfl
      have hKc := hK.sub (tys' := [(cT, .byte)]) [0] rfl
      have hFc := va_freeP (X := [(h0, .inr (14, [.ref q_t, .int (zI (z16_n)), .int (zI (z16_at)), .int (zI (z16_kind)), .int (zI (z16_place)), .int (zI (z16_value)), .int (zI (z16_before)), .ref tx9, v16_8, v16_9, v16_10, v16_11, v16_12, v16_13])), (q_t, .inl (cT, 8192, .inl (fun j : Nat => zI (a_t (j : Int)))))]) (cx := [(h0, .inr (14, [.ref q_t, .int (zI (z16_n)), .int (zI (z16_at)), .int (zI (z16_kind)), .int (zI (z16_place)), .int (zI (z16_value)), .int (zI (z16_before)), .ref tx9, v16_8, v16_9, v16_10, v16_11, v16_12, v16_13])), (q_t, .inl (cT, 8192, .inl (fun j : Nat => zI (a_t (j : Int)))))]) (pl := va_pl L (pE Pw_6)) hD hS hA [0, 1] rfl
      refine W_knowS (fun hrmA => ?_)
      refine va_callv (va_runV (As := []) (rest := []) ⟨hx, hb, hml, hown, hts⟩ (c_X16_nextK l dC dI h0 z16_n z16_at z16_kind z16_place z16_value z16_before (.ref tx9) v16_8 v16_9 v16_10 v16_11 v16_12 v16_13 q_t cT a_t L Pw_6 sa_RX16_9 (by omega) (by omega) (by omega) (by omega) (by omega) (by omega) hR_a_t (by omega) H.size sa_RX16_9 H sv_RX16_9 sa_RX16_119 sv_RX16_119 sa_RX16_100 sv_RX16_100 sa_RX16_117 sa_RX16_100 sv_RX16_117 sa_RX16_98 sv_RX16_98) (cwV 0 hts g_X16_opAK_X16_nextK rfl rfl rfl (by decide +kernel) ⟨(Nat.le_of_ble_eq_true rfl), (Nat.le_of_ble_eq_true rfl)⟩) ⟨fun a U g mk q => by obtain ⟨q0, q1, qP, qK, qD, e0, e1, e2, e3, e4, e5, e6, e7, e8, e9, e10, e11, e12⟩ := q; exact ⟨q0, q1, qP, va_K.moved (u := U) (U := U.calling g mk a) (Vm.Alike.refl U.vm) qK, qD, vk_R.same (u := U) (U := U.calling g mk a) rfl e0, e1, va_Z.moved (u := U) (U := U.calling g mk a) (Vm.Alike.refl U.vm) e2, vs_S.moved (u := U) (U := U.calling g mk a) (Vm.Alike.refl U.vm) e3, va_Nw.same rfl (u := U) (U := U.calling g mk a) rfl e4, vk_R.same (u := U) (U := U.calling g mk a) rfl e5, vs_S.moved (u := U) (U := U.calling g mk a) (Vm.Alike.refl U.vm) e6, vs_S.moved (u := U) (U := U.calling g mk a) (Vm.Alike.refl U.vm) e7, vk_R.same (u := U) (U := U.calling g mk a) rfl e8, vk_R.same (u := U) (U := U.calling g mk a) rfl e9, vs_S.moved (u := U) (U := U.calling g mk a) (Vm.Alike.refl U.vm) e10, vk_R.same (u := U) (U := U.calling g mk a) rfl e11, vs_S.moved (u := U) (U := U.calling g mk a) (Vm.Alike.refl U.vm) e12⟩, va_recv hKc hPc (ci := 14) (q0 := 0) rfl rfl, fun U hU hW => ⟨rfl, by rw [hU], by rw [hU]; exact hPc, va_K.moved hW.alike hKc, hDc.weaken (fun _ _ _ _ => trivial), vk_R.warm hW hp0, hU, by rw [hU]; exact va_Z.narrow (va_Z.moved hW.alike (va_Z.kept hp1 hS.2.1)) hFc, by rw [hU]; exact vs_S.narrow (vs_S.moved hW.alike (vs_S.kept hp2 hS.2.1)) hFc, va_Nw.warmC hW hp3, vk_R.warm hW hp4, by rw [hU]; exact vs_S.narrow (vs_S.moved hW.alike (vs_S.kept hp5 hS.2.1)) hFc, by rw [hU]; exact vs_S.narrow (vs_S.moved hW.alike (vs_S.kept hp6 hS.2.1)) hFc, vk_R.warm hW hp7, vk_R.warm hW hp8, by rw [hU]; exact vs_S.narrow (vs_S.moved hW.alike (vs_S.kept hp9 hS.2.1)) hFc, vk_R.warm hW hp10, by rw [hU]; exact vs_S.narrow (vs_S.moved hW.alike (vs_S.kept hp11 hS.2.1)) hFc⟩⟩ rfl rfl hl.1 rfl (lv_room (Nat.le_of_ble_eq_true rfl)) dX16_operand_65 ⟨(show 0 + ((z16_n - z16_at + 20).toNat) ≤ (z16_n - z16_at + 20).toNat from (by omega)), (show 0 + ((10 * (z16_n - z16_at) + 120).toNat) ≤ (10 * (z16_n - z16_at) + 120).toNat from (by omega))⟩) hS (fun q _ h => hFc q h) hFc (fun  u t H1 locs ht hvm hw hB hz1 hk1 hS => ?_)
      obtain ⟨z0_20, z1_21, z2_22, z3_23, z4_24, q5_25, Ln_26, Pn_27, kc_28, ks_29, hxt_29, hP1, hK1, hD1⟩ := hB
      rw [ht] at hP1
      have hK1 := va_K.moved hvm.symm hK1
      obtain ⟨hP, hD⟩ := va_joinP (X := [(h0, .inr (14, [.ref q_t, .int (zI (z16_n)), .int (zI (z16_at)), .int (zI (z16_kind)), .int (zI (z16_place)), .int (zI (z16_value)), .int (zI (z16_before)), .ref tx9, v16_8, v16_9, v16_10, v16_11, v16_12, v16_13])), (q_t, .inl (cT, 8192, .inl (fun j : Nat => zI (a_t (j : Int)))))]) (cx := [(h0, .inr (14, [.ref q_t, .int (zI (z16_n)), .int (zI (z16_at)), .int (zI (z16_kind)), .int (zI (z16_place)), .int (zI (z16_value)), .int (zI (z16_before)), .ref tx9, v16_8, v16_9, v16_10, v16_11, v16_12, v16_13])), (q_t, .inl (cT, 8192, .inl (fun j : Nat => zI (a_t (j : Int)))))]) (wr := []) (rx := [(h0, .inr (14, [.ref q_t, .int (zI (z16_n)), .int (zI (z0_20)), .int (zI (z1_21)), .int (zI (z2_22)), .int (zI (z3_23)), .int (zI (z4_24)), .ref q5_25, v16_8, v16_9, v16_10, v16_11, v16_12, v16_13])), (q_t, .inl (cT, 8192, .inl (fun j : Nat => zI (a_t (j : Int)))))]) (pl := va_pl L (pE Pw_6)) (pl1 := va_pl Ln_26 (pE Pn_27)) hP hD [0, 1] [] rfl rfl (by decide) (by decide) hk1 hFc hP1 hD1
      have hK := (hK.sub (tys' := [(cO, .object "java/lang/Object"), (cI, .int), (cZ, .boolean)]) [1, 2, 3] rfl).app hK1
      have hrmC := hxt_29.1.1
      rw [ht] at hrmC
      refine W_tightS (hrmA.trans hrmC) ?_
      have hrb := hxt_29.1.2
      generalize H1 = H at hP hS ⊢
      have hP : va_P (dC, dI) vwQ ([(h0, .inr (14, [.ref q_t, .int (zI (z16_n)), .int (zI (z0_20)), .int (zI (z1_21)), .int (zI (z2_22)), .int (zI (z3_23)), .int (zI (z4_24)), .ref q5_25, v16_8, v16_9, v16_10, v16_11, v16_12, v16_13])), (q_t, .inl (cT, 8192, .inl (fun j : Nat => zI (a_t (j : Int)))))] ++ va_pl Ln_26 (pE Pn_27)) H := hP
      have hD : va_D A ([(h0, .inr (14, [.ref q_t, .int (zI (z16_n)), .int (zI (z0_20)), .int (zI (z1_21)), .int (zI (z2_22)), .int (zI (z3_23)), .int (zI (z4_24)), .ref q5_25, v16_8, v16_9, v16_10, v16_11, v16_12, v16_13])), (q_t, .inl (cT, 8192, .inl (fun j : Nat => zI (a_t (j : Int)))))] ++ va_pl Ln_26 (pE Pn_27)) := hD
      have hK : va_K (dC, dI) vwQ [(cO, .object "java/lang/Object"), (cI, .int), (cZ, .boolean), (cT, .byte)] s := hK
      refine W.widen (k := (0 + kc_28)) (n := (0 + ks_29)) (by omega) (by omega) ?_
      obtain ⟨rk_30, rk_31, rk_32, rk_33, rk_34, hu_34⟩ := hxt_29.2
      have htk_35 := hu_34.1.2
      have hkd_40 := hu_34.2.1
      have hX_kv := hkd_40.2
      have hu_36 := hu_34.2.2
      have hex_37 : EXT9 L Pw_6 Ln_26 Pn_27 := hu_36.1
      have hke_38 : KEG [] L Pw_6 Ln_26 Pn_27 := hex_37.keg hak_11
      have hak_39 : GLF Ln_26 Pn_27 cO cI cZ sx_ed := hak_11.txt hex_37 hu_36.2.1
      have hsm_41 := (hex_37 xr hq_14.1).2
      have : Pn_27.ro xr = Pw_6.ro xr := hsm_41.1 0
      have : Pn_27.rt xr = Pw_6.rt xr := hsm_41.1 1
      have : Pn_27.ra xr = Pw_6.ra xr := hsm_41.1 2
      have : Pn_27.rb xr = Pw_6.rb xr := hsm_41.1 3
      have : Pn_27.rA xr = Pw_6.rA xr := hsm_41.1 4
      have : Pn_27.rB xr = Pw_6.rB xr := hsm_41.1 5
      have : Pn_27.rg xr = Pw_6.rg xr := hsm_41.1 6
      have hq_42 : la ∈ Ln_26 ∧ Pn_27.kd la = 30 := hke_38.mem hq_13.1 hq_13.2 (by decide)
      have hq_43 : xr ∈ Ln_26 ∧ Pn_27.kd xr = 17 := hke_38.mem hq_14.1 hq_14.2 (by decide)
      have hA_44 : KEG [] L P Ln_26 Pn_27 := hA_15.trans hke_38
      have : Pn_27.lz la = Pw_6.lz la := (hex_37 la hq_13.1).2.1 0
      have hek_45 : Pn_27.ek la = 12 := (by rw [hke_38.ek hq_13.1 hq_13.2 (by decide)]; exact hek_16)
      have how_46 : Pn_27.ow la = la := ((hke_38.1 la hq_13.1 (by rw [hq_13.2]; decide)).2.2.2.1 hq_13.2 how_17).1
      have hcz := (((hke_38.1 la hq_13.1 (by rw [hq_13.2]; decide)).2.2.2.1 hq_13.2 how_17).2 (by simp)).1
      have hX_tx := hu_36.2.2.1
      have hxk9 := hu_36.2.2.2
      have hcx_47 : CHG (fun z => z = xr) L P Ln_26 Pn_27 := hcx_18.trans hex_37.chg (fun z m q => q.elim)
      have hnn_35 := TKV.nn (k := z1_21) (d := z0_20 - z2_22) (by omega)
      have hnx_48 : NTX L P Ln_26 Pn_27 := hnx_19.trans (NTX.ext hex_37 hu_36.2.1)
      subst hQ
      have hK := hK.sub (tys' := [(cT, .byte), (cO, .object "java/lang/Object"), (cI, .int), (cZ, .boolean)]) [3, 0, 1, 2] rfl
      refine W_knowS (fun hrm9 => ?_)
      refine W.widen (k := ((z16_n - z16_at + 20).toNat)) (n := ((10 * (z16_n - z16_at) + 120).toNat)) (by omega) (by omega) ?_
      refine vx_ret ?_
      exact W.vret hx hb hr (fun t ht hW => ⟨⟨(), rfl, trivial, z0_20, z1_21, z2_22, z3_23, z4_24, q5_25, Ln_26, Pn_27, (0 + kc_28), (0 + ks_29), ⟨⟨(by rw [ht, ← hp12]; exact hrm9), (by omega)⟩, ⟨(by omega), (by omega), (by omega), (by omega), (by omega), ⟨hA_44, hak_39, ⟨(by rw [show Pn_27.rA xr = Pw_6.rA xr from hsm_41.1 4, show Pn_27.ra xr = Pw_6.ra xr from hsm_41.1 2]; exact hoq), by omega, by omega, by omega, by omega, by omega, by omega, by omega, hnt9.1, hnt9.2, hnx_48⟩, hcx_47, ⟨⟨by omega, by omega, by omega⟩, htk_35⟩, hkd_40, hX_tx, hxk9⟩⟩⟩, by rw [ht]; exact hP, va_K.moved hW.alike hK, hD⟩, hS.F ht⟩) hS.2.2 dX16_operand_68
    · have yb23 : ¬ (z16_kind : Int) = (4 : Int) := fun q => b23 ((zI_eq (a := z16_kind) (b := 4) (by omega) (by omega) (by omega) (by omega)).mpr q)
      refine lv_aload_n hx hb dX16_operand_26 rfl (lv_at hl 1 rfl) ?_
      have hPc := hP.sub (ws' := [(h0, .inr (14, [.ref q_t, .int (zI (z16_n)), .int (zI (z16_at)), .int (zI (z16_kind)), .int (zI (z16_place)), .int (zI (z16_value)), .int (zI (z16_before)), .ref tx9, v16_8, v16_9, v16_10, v16_11, v16_12, v16_13]))]) [0] rfl
      have hDc := hD.sub (ws' := [(h0, .inr (14, [.ref q_t, .int (zI (z16_n)), .int (zI (z16_at)), .int (zI (z16_kind)), .int (zI (z16_place)), .int (zI (z16_value)), .int (zI (z16_before)), .ref tx9, v16_8, v16_9, v16_10, v16_11, v16_12, v16_13]))]) [0] (by decide) rfl
      have hKc := hK.sub (tys' := []) [] rfl
      have hFc := va_free (wc := [(h0, .inr (14, [.ref q_t, .int (zI (z16_n)), .int (zI (z16_at)), .int (zI (z16_kind)), .int (zI (z16_place)), .int (zI (z16_value)), .int (zI (z16_before)), .ref tx9, v16_8, v16_9, v16_10, v16_11, v16_12, v16_13]))]) hD hS hA [0] rfl
      refine va_callr (va_runV (As := []) (rest := []) ⟨hx, hb, hml, hown, hts⟩ (c_X16_no l dC dI h0 (.ref q_t) (.int (zI (z16_n))) (.int (zI (z16_at))) (.int (zI (z16_kind))) z16_place (.int (zI (z16_value))) (.int (zI (z16_before))) (.ref tx9) v16_8 v16_9 v16_10 v16_11 v16_12 v16_13 (by omega) H.size) (cwV 0 hts g_X16_opAK_X16_no rfl rfl rfl (by decide +kernel) ⟨(Nat.le_of_ble_eq_true rfl), (Nat.le_of_ble_eq_true rfl)⟩) ⟨fun a U g mk q => by obtain ⟨q0, q1, qP, qK, qD, e0, e1⟩ := q; exact ⟨q0, q1, qP, va_K.moved (u := U) (U := U.calling g mk a) (Vm.Alike.refl U.vm) qK, qD, vx_Zq.moved (u := U) (U := U.calling g mk a) (Vm.Alike.refl U.vm) e0, vx_Zq.moved (u := U) (U := U.calling g mk a) (Vm.Alike.refl U.vm) e1⟩, va_recv hKc hPc (ci := 14) (q0 := 0) rfl rfl, fun U hU hW => ⟨rfl, by rw [hU], by rw [hU]; exact hPc, va_K.moved hW.alike hKc, hDc.weaken (fun _ _ _ _ => trivial), by rw [hU]; exact vx_Zq.narrow (vx_Zq.moved hW.alike (vx_Zq.kept hp13 hS.2.1)) hFc, by rw [hU]; exact vx_Zq.narrow (vx_Zq.moved hW.alike (vx_Zq.kept hp14 hS.2.1)) hFc⟩⟩ rfl rfl hl.1 rfl (lv_room (Nat.le_of_ble_eq_true rfl)) dX16_operand_27 ⟨(show 0 + 1 ≤ (z16_n - z16_at + 20).toNat from (by omega)), (show 0 + 7 ≤ (10 * (z16_n - z16_at) + 120).toNat from (by omega))⟩) hS (fun q _ h => hFc q h) hFc (fun u q_49 t H1 locs ht hvm hw hB hz1 hk1 hS => ?_)
      obtain ⟨zq_50, hxt_50, hP1, hK1, hD1⟩ := hB
      rw [ht] at hP1
      have hK1 := va_K.moved hvm.symm hK1
      obtain ⟨hP, hD⟩ := va_joinQ (X := [(h0, .inr (14, [.ref q_t, .int (zI (z16_n)), .int (zI (z16_at)), .int (zI (z16_kind)), .int (zI (z16_place)), .int (zI (z16_value)), .int (zI (z16_before)), .ref tx9, v16_8, v16_9, v16_10, v16_11, v16_12, v16_13])), (q_t, .inl (cT, 8192, .inl (fun j : Nat => zI (a_t (j : Int)))))]) (cx := [(h0, .inr (14, [.ref q_t, .int (zI (z16_n)), .int (zI (z16_at)), .int (zI (z16_kind)), .int (zI (z16_place)), .int (zI (z16_value)), .int (zI (z16_before)), .ref tx9, v16_8, v16_9, v16_10, v16_11, v16_12, v16_13]))]) (wr := [(q_t, .inl (cT, 8192, .inl (fun j : Nat => zI (a_t (j : Int)))))]) (w1 := [(h0, .inr (14, [.ref q_t, .int (zI (z16_n)), .int (zI (z16_at)), .int (zI (z16_kind)), .int (zI (z16_place)), .int (zI (z16_value)), .int (zI (z16_before)), .ref tx9, v16_8, v16_9, v16_10, v16_11, v16_12, v16_13])), (q_49, .inr (15, [.null, .null, .null, .null, .null, .int 0, .int (zI (zq_50))]))]) (pl := va_pl L (pE P)) hP hD [0] [1] rfl rfl (by decide) (by decide) hk1 hFc hP1 hD1
      have hK := (hK.sub (tys' := [(cT, .byte), (cO, .object "java/lang/Object"), (cI, .int), (cZ, .boolean)]) [0, 1, 2, 3] rfl).app hK1
      generalize H1 = H at hP hS ⊢
      have hP : va_P (dC, dI) vwQ ([(q_t, .inl (cT, 8192, .inl (fun j : Nat => zI (a_t (j : Int))))), (h0, .inr (14, [.ref q_t, .int (zI (z16_n)), .int (zI (z16_at)), .int (zI (z16_kind)), .int (zI (z16_place)), .int (zI (z16_value)), .int (zI (z16_before)), .ref tx9, v16_8, v16_9, v16_10, v16_11, v16_12, v16_13])), (q_49, .inr (15, [.null, .null, .null, .null, .null, .int 0, .int (zI (zq_50))]))] ++ va_pl L (pE P)) H := hP
      have hD : va_D A ([(q_t, .inl (cT, 8192, .inl (fun j : Nat => zI (a_t (j : Int))))), (h0, .inr (14, [.ref q_t, .int (zI (z16_n)), .int (zI (z16_at)), .int (zI (z16_kind)), .int (zI (z16_place)), .int (zI (z16_value)), .int (zI (z16_before)), .ref tx9, v16_8, v16_9, v16_10, v16_11, v16_12, v16_13])), (q_49, .inr (15, [.null, .null, .null, .null, .null, .int 0, .int (zI (zq_50))]))] ++ va_pl L (pE P)) := hD
      have hK : va_K (dC, dI) vwQ [(cT, .byte), (cO, .object "java/lang/Object"), (cI, .int), (cZ, .boolean)] s := hK
      refine W.widen (k := 1) (n := 7) (Nat.le_of_ble_eq_true rfl) (Nat.le_of_ble_eq_true rfl) ?_
      subst hQ
      obtain ⟨ce9, h91, h92, h93⟩ := vy_cell (C := RX18) (T := TX18) (N := 7) hK hP (k := 2) rfl rfl
      have hP := hP.part (X := [(q_t, .inl (cT, 8192, .inl (fun j : Nat => zI (a_t (j : Int))))), (h0, .inr (14, [.ref q_t, .int (zI (z16_n)), .int (zI (z16_at)), .int (zI (z16_kind)), .int (zI (z16_place)), .int (zI (z16_value)), .int (zI (z16_before)), .ref tx9, v16_8, v16_9, v16_10, v16_11, v16_12, v16_13])), (q_49, .inr (15, [.null, .null, .null, .null, .null, .int 0, .int (zI (zq_50))]))]) (cx := [(q_t, .inl (cT, 8192, .inl (fun j : Nat => zI (a_t (j : Int))))), (q_49, .inr (15, [.null, .null, .null, .null, .null, .int 0, .int (zI (zq_50))]))]) (pl := va_pl L (pE P)) [0, 2] rfl
      have hD := hD.part (X := [(q_t, .inl (cT, 8192, .inl (fun j : Nat => zI (a_t (j : Int))))), (h0, .inr (14, [.ref q_t, .int (zI (z16_n)), .int (zI (z16_at)), .int (zI (z16_kind)), .int (zI (z16_place)), .int (zI (z16_value)), .int (zI (z16_before)), .ref tx9, v16_8, v16_9, v16_10, v16_11, v16_12, v16_13])), (q_49, .inr (15, [.null, .null, .null, .null, .null, .int 0, .int (zI (zq_50))]))]) (cx := [(q_t, .inl (cT, 8192, .inl (fun j : Nat => zI (a_t (j : Int))))), (q_49, .inr (15, [.null, .null, .null, .null, .null, .int 0, .int (zI (zq_50))]))]) (pl := va_pl L (pE P)) [0, 2] (by decide) rfl
      refine W_knowS (fun hrm9 => ?_)
      refine W.widen (k := ((z16_n - z16_at + 20).toNat)) (n := ((10 * (z16_n - z16_at) + 120).toNat)) (by omega) (by omega) ?_
      exact vy_athrow hx hb (fun x9 h9 => (hnt x9 h9).elim) hlocks h91 h92 h93 (fun t ht hvm => ⟨(), trivial, ⟨rfl, zq_50, L, P, 1, 7, ⟨⟨(by rw [ht, ← hp12]; exact hrm9), (by omega)⟩, ⟨(by omega), ⟨(KEG.refl [] L P), hX_g9, (hcx0.cpa hX_g.owa (fun z _ q => by rw [show z = xr from q, hX_k]; decide)), hnx0⟩⟩⟩, by rw [ht]; exact hP, hD⟩, hS.F ht⟩) hS.2.2 (Nat.le_refl _) (Nat.le_refl _) dX16_operand_30
  · have yb5 : (z16_kind : Int) = (2 : Int) := (zI_eq (a := z16_kind) (b := 2) (by omega) (by omega) (by omega) (by omega)).mp b5
    refine lv_iconst (v := 1) hx hb dX16_operand_8 (by decide) ?_
    refine lv_goto (tgt := 13) hx hb dX16_operand_9 (by decide) ?_
    refine lv_istore_n (lv' := [(3, .int 1), (0, .ref h0), (1, .ref xr), (2, .int 0)]) hx hb dX16_operand_13 rfl hl (by decide) rfl (fun ls hl => ?_)
    refine lv_iload_n hx hb dX16_operand_14 rfl (lv_at hl 0 rfl) ?_
    refine lv_if_ne (tgt := 31) hx hb dX16_operand_15 (by decide) (fun _ => ?_) (fun h9 => absurd h9 (by decide))
    have hnt9 := TKQ.opd hX_tn9 (by omega)
    have hv9 := hX_kv.reg (by omega)
    refine lv_iload_n hx hb dX16_operand_31 rfl (lv_at hl 3 rfl) ?_
    refine lv_if_eq (tgt := 51) hx hb dX16_operand_32 (by decide) (fun _ => ?_) (fun h9 => absurd h9 (by decide))
    refine lv_aload_n hx hb dX16_operand_51 rfl (lv_at hl 2 rfl) ?_
    refine lv_aload_n hx hb dX16_operand_52 rfl (lv_at hl 1 rfl) ?_
    refine va_get (D := (dC, dI)) (ci := 14) (v := .int (zI (z16_value))) (C := RX16) (T := TX16) (N := 14) hx hb hts mem_X16_opAK_0 hown hK hP 0 rfl rfl 5 (by decide) (ow (k := 1) rfl) (fun _ h9 => h9) rfl dX16_operand_53 ?_
    have ⟨hr1, hr2, hr3, hr4, hr5, hr6, hr7, hr8, hr9⟩ := hX_g9.rok hX_x hX_k
    obtain ⟨kp_51, gkp_51⟩ := va_pl_get (X := [(h0, .inr (14, [.ref q_t, .int (zI (z16_n)), .int (zI (z16_at)), .int (zI (z16_kind)), .int (zI (z16_place)), .int (zI (z16_value)), .int (zI (z16_before)), .ref tx9, v16_8, v16_9, v16_10, v16_11, v16_12, v16_13])), (q_t, .inl (cT, 8192, .inl (fun j : Nat => zI (a_t (j : Int)))))]) (f := pE P) hX_x
    have hkp_51 := gkp_51
    rw [pE_row hX_k] at hkp_51
    have hD0 := hD
    refine va_put (D := (dC, dI)) (ci := 21) (v := .int (zI (z16_value))) (ty := .int) (C := RX17) (T := TX17) (N := 7) hx hb hts mem_X16_opAK_1 tyX17 tyX17_ok nmX17 hown hK hP hD hS kp_51 hkp_51 rfl 2 (by decide) (ow (k := 2) rfl) (fun _ h9 => h9) rfl (by decide +kernel) rfl rfl (by first | exact Nat.le_of_ble_eq_true rfl | exact (show 0 ≤ (z16_n - z16_at + 20).toNat from (by omega)) | exact (show 0 ≤ (10 * (z16_n - z16_at) + 120).toNat from (by omega))) dX16_operand_56 (fun H locs hP hD hS => ?_)
    obtain ⟨Pw_52, ePw_52⟩ : ∃ q9 : PO, q9 = P.rw9 2 xr (z16_value) := ⟨_, rfl⟩
    have eU : (([(h0, .inr (14, [.ref q_t, .int (zI (z16_n)), .int (zI (z16_at)), .int (zI (z16_kind)), .int (zI (z16_place)), .int (zI (z16_value)), .int (zI (z16_before)), .ref tx9, v16_8, v16_9, v16_10, v16_11, v16_12, v16_13])), (q_t, .inl (cT, 8192, .inl (fun j : Nat => zI (a_t (j : Int)))))] : va_W) ++ va_pl L (pE P)).set kp_51 (xr, rowE (P.ro xr) (P.rt xr) (z16_value) (P.rb xr) (P.rA xr) (P.rB xr) (P.rg xr)) = ([(h0, .inr (14, [.ref q_t, .int (zI (z16_n)), .int (zI (z16_at)), .int (zI (z16_kind)), .int (zI (z16_place)), .int (zI (z16_value)), .int (zI (z16_before)), .ref tx9, v16_8, v16_9, v16_10, v16_11, v16_12, v16_13])), (q_t, .inl (cT, 8192, .inl (fun j : Nat => zI (a_t (j : Int)))))] : va_W) ++ va_pl L (pE Pw_52) := (by rw [va_pl_set hD0 hX_x gkp_51, ePw_52]; exact congrArg (fun f9 => ([(h0, .inr (14, [.ref q_t, .int (zI (z16_n)), .int (zI (z16_at)), .int (zI (z16_kind)), .int (zI (z16_place)), .int (zI (z16_value)), .int (zI (z16_before)), .ref tx9, v16_8, v16_9, v16_10, v16_11, v16_12, v16_13])), (q_t, .inl (cT, 8192, .inl (fun j : Nat => zI (a_t (j : Int)))))] : va_W) ++ va_pl L f9) (put17_2 hX_k))
    have hP : va_P (dC, dI) vwQ ([(h0, .inr (14, [.ref q_t, .int (zI (z16_n)), .int (zI (z16_at)), .int (zI (z16_kind)), .int (zI (z16_place)), .int (zI (z16_value)), .int (zI (z16_before)), .ref tx9, v16_8, v16_9, v16_10, v16_11, v16_12, v16_13])), (q_t, .inl (cT, 8192, .inl (fun j : Nat => zI (a_t (j : Int)))))] ++ va_pl L (pE Pw_52)) H := (by rw [← eU]; exact hP)
    have hD : va_D A ([(h0, .inr (14, [.ref q_t, .int (zI (z16_n)), .int (zI (z16_at)), .int (zI (z16_kind)), .int (zI (z16_place)), .int (zI (z16_value)), .int (zI (z16_before)), .ref tx9, v16_8, v16_9, v16_10, v16_11, v16_12, v16_13])), (q_t, .inl (cT, 8192, .inl (fun j : Nat => zI (a_t (j : Int)))))] ++ va_pl L (pE Pw_52)) := (by rw [← eU]; exact hD)
    clear eU hD0 gkp_51 hkp_51
    have wPw_52 : RW1 xr P Pw_52 := (by rw [ePw_52]; exact RW1.put _ _ _ _)
    have hy_53 : Pw_52.kd la = 30 := (by rw [ePw_52]; exact hC_la.2.1)
    have hy_54 : Pw_52.kd xr = 17 := (by rw [ePw_52]; exact hX_k)
    have : Pw_52.ro xr = P.ro xr := (by rw [ePw_52]; exact rw9_of _ (by decide))
    have : Pw_52.rt xr = P.rt xr := (by rw [ePw_52]; exact rw9_of _ (by decide))
    have : Pw_52.ra xr = z16_value := (by rw [ePw_52]; exact rw9_at _ _ _ _)
    have : Pw_52.rb xr = P.rb xr := (by rw [ePw_52]; exact rw9_of _ (by decide))
    have : Pw_52.rA xr = P.rA xr := (by rw [ePw_52]; exact rw9_of _ (by decide))
    have : Pw_52.rB xr = P.rB xr := (by rw [ePw_52]; exact rw9_of _ (by decide))
    have : Pw_52.rg xr = P.rg xr := (by rw [ePw_52]; exact rw9_of _ (by decide))
    refine lv_aload_n hx hb dX16_operand_59 rfl (lv_at hl 2 rfl) ?_
    refine lv_iload_n hx hb dX16_operand_60 rfl (lv_at hl 0 rfl) ?_
    refine lv_topi (fun z ez => ?_)
    obtain rfl : z = zI (1) := ez
    obtain ⟨kp_55, gkp_55⟩ := va_pl_get (X := [(h0, .inr (14, [.ref q_t, .int (zI (z16_n)), .int (zI (z16_at)), .int (zI (z16_kind)), .int (zI (z16_place)), .int (zI (z16_value)), .int (zI (z16_before)), .ref tx9, v16_8, v16_9, v16_10, v16_11, v16_12, v16_13])), (q_t, .inl (cT, 8192, .inl (fun j : Nat => zI (a_t (j : Int)))))]) (f := pE Pw_52) hX_x
    have hkp_55 := gkp_55
    rw [pE_row hy_54] at hkp_55
    have hD0 := hD
    refine va_put (D := (dC, dI)) (ci := 21) (v := .int (zI (1))) (ty := .boolean) (C := RX17) (T := TX17) (N := 7) hx hb hts mem_X16_opAK_1 tyX17 tyX17_ok nmX17 hown hK hP hD hS kp_55 hkp_55 rfl 4 (by decide) (ow (k := 3) rfl) (fun _ h9 => h9) rfl (by decide +kernel) (zI_bool (by omega) (by omega)) (zI_fitb (by omega) (by omega)) (by first | exact Nat.le_of_ble_eq_true rfl | exact (show 0 ≤ (z16_n - z16_at + 20).toNat from (by omega)) | exact (show 0 ≤ (10 * (z16_n - z16_at) + 120).toNat from (by omega))) dX16_operand_61 (fun H locs hP hD hS => ?_)
    obtain ⟨Pw_56, ePw_56⟩ : ∃ q9 : PO, q9 = Pw_52.rw9 4 xr (1) := ⟨_, rfl⟩
    have eU : (([(h0, .inr (14, [.ref q_t, .int (zI (z16_n)), .int (zI (z16_at)), .int (zI (z16_kind)), .int (zI (z16_place)), .int (zI (z16_value)), .int (zI (z16_before)), .ref tx9, v16_8, v16_9, v16_10, v16_11, v16_12, v16_13])), (q_t, .inl (cT, 8192, .inl (fun j : Nat => zI (a_t (j : Int)))))] : va_W) ++ va_pl L (pE Pw_52)).set kp_55 (xr, rowE (Pw_52.ro xr) (Pw_52.rt xr) (Pw_52.ra xr) (Pw_52.rb xr) (1) (Pw_52.rB xr) (Pw_52.rg xr)) = ([(h0, .inr (14, [.ref q_t, .int (zI (z16_n)), .int (zI (z16_at)), .int (zI (z16_kind)), .int (zI (z16_place)), .int (zI (z16_value)), .int (zI (z16_before)), .ref tx9, v16_8, v16_9, v16_10, v16_11, v16_12, v16_13])), (q_t, .inl (cT, 8192, .inl (fun j : Nat => zI (a_t (j : Int)))))] : va_W) ++ va_pl L (pE Pw_56) := (by rw [va_pl_set hD0 hX_x gkp_55, ePw_56]; exact congrArg (fun f9 => ([(h0, .inr (14, [.ref q_t, .int (zI (z16_n)), .int (zI (z16_at)), .int (zI (z16_kind)), .int (zI (z16_place)), .int (zI (z16_value)), .int (zI (z16_before)), .ref tx9, v16_8, v16_9, v16_10, v16_11, v16_12, v16_13])), (q_t, .inl (cT, 8192, .inl (fun j : Nat => zI (a_t (j : Int)))))] : va_W) ++ va_pl L f9) (put17_4 hy_54))
    have hP : va_P (dC, dI) vwQ ([(h0, .inr (14, [.ref q_t, .int (zI (z16_n)), .int (zI (z16_at)), .int (zI (z16_kind)), .int (zI (z16_place)), .int (zI (z16_value)), .int (zI (z16_before)), .ref tx9, v16_8, v16_9, v16_10, v16_11, v16_12, v16_13])), (q_t, .inl (cT, 8192, .inl (fun j : Nat => zI (a_t (j : Int)))))] ++ va_pl L (pE Pw_56)) H := (by rw [← eU]; exact hP)
    have hD : va_D A ([(h0, .inr (14, [.ref q_t, .int (zI (z16_n)), .int (zI (z16_at)), .int (zI (z16_kind)), .int (zI (z16_place)), .int (zI (z16_value)), .int (zI (z16_before)), .ref tx9, v16_8, v16_9, v16_10, v16_11, v16_12, v16_13])), (q_t, .inl (cT, 8192, .inl (fun j : Nat => zI (a_t (j : Int)))))] ++ va_pl L (pE Pw_56)) := (by rw [← eU]; exact hD)
    clear eU hD0 gkp_55 hkp_55
    have wPw_56 : RW1 xr Pw_52 Pw_56 := (by rw [ePw_56]; exact RW1.put _ _ _ _)
    have hy_57 : Pw_56.kd la = 30 := (by rw [ePw_56]; exact hy_53)
    have hy_58 : Pw_56.kd xr = 17 := (by rw [ePw_56]; exact hy_54)
    have : Pw_56.ro xr = Pw_52.ro xr := (by rw [ePw_56]; exact rw9_of _ (by decide))
    have : Pw_56.rt xr = Pw_52.rt xr := (by rw [ePw_56]; exact rw9_of _ (by decide))
    have : Pw_56.ra xr = Pw_52.ra xr := (by rw [ePw_56]; exact rw9_of _ (by decide))
    have : Pw_56.rb xr = Pw_52.rb xr := (by rw [ePw_56]; exact rw9_of _ (by decide))
    have : Pw_56.rA xr = 1 := (by rw [ePw_56]; exact rw9_at _ _ _ _)
    have : Pw_56.rB xr = Pw_52.rB xr := (by rw [ePw_56]; exact rw9_of _ (by decide))
    have : Pw_56.rg xr = Pw_52.rg xr := (by rw [ePw_56]; exact rw9_of _ (by decide))
    have hW_59 : RW1 xr P Pw_56 := wPw_52.trans (wPw_56)
    have hrw_62 : RWD P Pw_56 := hW_59.rwd (Or.inl hX_k)
    have hak_61 : GLF L Pw_56 cO cI cZ sx_ed := hX_g9.row hW_59 hX_k (ROK9.of (by omega) (by omega) (by omega) (by omega) (by omega) (by omega) (by omega) (rUA9 (by have q9 := rUsA_spec (P.ro xr) (P.rA xr); omega)) (rUB9 (by have q9 := rUsB_spec (P.ro xr) (P.rB xr); omega))) (fun e9 => by have q9 := hX_g9.op21 hX_x hX_k e9; omega)
    have hke_60 : KEG [] L P L Pw_56 := hrw_62.keg _ hC_la.2.1
    have hq_63 : la ∈ L ∧ Pw_56.kd la = 30 := hke_60.mem hC_la.1 hC_la.2.1 (by decide)
    have hq_64 : xr ∈ L ∧ Pw_56.kd xr = 17 := hke_60.mem hX_x hX_k (by decide)
    have hA_65 : KEG [] L P L Pw_56 := (KEG.refl [] L P).trans hke_60
    have : Pw_56.lz la = P.lz la := hrw_62.lz hC_la.2.1
    have : Pw_56.cap la = P.cap la := hW_59.cap la
    have hek_66 : Pw_56.ek la = 12 := (by rw [hke_60.ek hC_la.1 hC_la.2.1 (by decide)]; exact hC_la.2.2.1)
    have how_67 : Pw_56.ow la = la := ((hke_60.1 la hC_la.1 (by rw [hC_la.2.1]; decide)).2.2.2.1 hC_la.2.1 hC_la.2.2.2).1
    have hcz := (((hke_60.1 la hC_la.1 (by rw [hC_la.2.1]; decide)).2.2.2.1 hC_la.2.1 hC_la.2.2.2).2 (by simp)).1
    have hcx_68 : CHG (fun z => z = xr) L P L Pw_56 := hcx0.trans (hW_59.chg _) (fun z m q => q)
    have hnx_69 : NTX L P L Pw_56 := hnx0.trans (NTX.put9 hW_59)
    have hoq : OPQ (Pw_56.rA xr) (Pw_56.ra xr) := (show _ ∨ _ from by omega)
    clear hr8 hr9
    refine lv_aload_n hx hb dX16_operand_64 rfl (lv_at hl 1 rfl) ?_
    have hPc := hP.part (X := [(h0, .inr (14, [.ref q_t, .int (zI (z16_n)), .int (zI (z16_at)), .int (zI (z16_kind)), .int (zI (z16_place)), .int (zI (z16_value)), .int (zI (z16_before)), .ref tx9, v16_8, v16_9, v16_10, v16_11, v16_12, v16_13])), (q_t, .inl (cT, 8192, .inl (fun j : Nat => zI (a_t (j : Int)))))]) (cx := [(h0, .inr (14, [.ref q_t, .int (zI (z16_n)), .int (zI (z16_at)), .int (zI (z16_kind)), .int (zI (z16_place)), .int (zI (z16_value)), .int (zI (z16_before)), .ref tx9, v16_8, v16_9, v16_10, v16_11, v16_12, v16_13])), (q_t, .inl (cT, 8192, .inl (fun j : Nat => zI (a_t (j : Int)))))]) (pl := va_pl L (pE Pw_56)) [0, 1] rfl
    have hDc := hD.part (X := [(h0, .inr (14, [.ref q_t, .int (zI (z16_n)), .int (zI (z16_at)), .int (zI (z16_kind)), .int (zI (z16_place)), .int (zI (z16_value)), .int (zI (z16_before)), .ref tx9, v16_8, v16_9, v16_10, v16_11, v16_12, v16_13])), (q_t, .inl (cT, 8192, .inl (fun j : Nat => zI (a_t (j : Int)))))]) (cx := [(h0, .inr (14, [.ref q_t, .int (zI (z16_n)), .int (zI (z16_at)), .int (zI (z16_kind)), .int (zI (z16_place)), .int (zI (z16_value)), .int (zI (z16_before)), .ref tx9, v16_8, v16_9, v16_10, v16_11, v16_12, v16_13])), (q_t, .inl (cT, 8192, .inl (fun j : Nat => zI (a_t (j : Int)))))]) (pl := va_pl L (pE Pw_56)) [0, 1] (by decide) rfl
    have hKc := hK.sub (tys' := [(cT, .byte)]) [0] rfl
    have hFc := va_freeP (X := [(h0, .inr (14, [.ref q_t, .int (zI (z16_n)), .int (zI (z16_at)), .int (zI (z16_kind)), .int (zI (z16_place)), .int (zI (z16_value)), .int (zI (z16_before)), .ref tx9, v16_8, v16_9, v16_10, v16_11, v16_12, v16_13])), (q_t, .inl (cT, 8192, .inl (fun j : Nat => zI (a_t (j : Int)))))]) (cx := [(h0, .inr (14, [.ref q_t, .int (zI (z16_n)), .int (zI (z16_at)), .int (zI (z16_kind)), .int (zI (z16_place)), .int (zI (z16_value)), .int (zI (z16_before)), .ref tx9, v16_8, v16_9, v16_10, v16_11, v16_12, v16_13])), (q_t, .inl (cT, 8192, .inl (fun j : Nat => zI (a_t (j : Int)))))]) (pl := va_pl L (pE Pw_56)) hD hS hA [0, 1] rfl
    refine W_knowS (fun hrmA => ?_)
    refine va_callv (va_runV (As := []) (rest := []) ⟨hx, hb, hml, hown, hts⟩ (c_X16_nextK l dC dI h0 z16_n z16_at z16_kind z16_place z16_value z16_before (.ref tx9) v16_8 v16_9 v16_10 v16_11 v16_12 v16_13 q_t cT a_t L Pw_56 sa_RX16_9 (by omega) (by omega) (by omega) (by omega) (by omega) (by omega) hR_a_t (by omega) H.size sa_RX16_9 H sv_RX16_9 sa_RX16_119 sv_RX16_119 sa_RX16_100 sv_RX16_100 sa_RX16_117 sa_RX16_100 sv_RX16_117 sa_RX16_98 sv_RX16_98) (cwV 0 hts g_X16_opAK_X16_nextK rfl rfl rfl (by decide +kernel) ⟨(Nat.le_of_ble_eq_true rfl), (Nat.le_of_ble_eq_true rfl)⟩) ⟨fun a U g mk q => by obtain ⟨q0, q1, qP, qK, qD, e0, e1, e2, e3, e4, e5, e6, e7, e8, e9, e10, e11, e12⟩ := q; exact ⟨q0, q1, qP, va_K.moved (u := U) (U := U.calling g mk a) (Vm.Alike.refl U.vm) qK, qD, vk_R.same (u := U) (U := U.calling g mk a) rfl e0, e1, va_Z.moved (u := U) (U := U.calling g mk a) (Vm.Alike.refl U.vm) e2, vs_S.moved (u := U) (U := U.calling g mk a) (Vm.Alike.refl U.vm) e3, va_Nw.same rfl (u := U) (U := U.calling g mk a) rfl e4, vk_R.same (u := U) (U := U.calling g mk a) rfl e5, vs_S.moved (u := U) (U := U.calling g mk a) (Vm.Alike.refl U.vm) e6, vs_S.moved (u := U) (U := U.calling g mk a) (Vm.Alike.refl U.vm) e7, vk_R.same (u := U) (U := U.calling g mk a) rfl e8, vk_R.same (u := U) (U := U.calling g mk a) rfl e9, vs_S.moved (u := U) (U := U.calling g mk a) (Vm.Alike.refl U.vm) e10, vk_R.same (u := U) (U := U.calling g mk a) rfl e11, vs_S.moved (u := U) (U := U.calling g mk a) (Vm.Alike.refl U.vm) e12⟩, va_recv hKc hPc (ci := 14) (q0 := 0) rfl rfl, fun U hU hW => ⟨rfl, by rw [hU], by rw [hU]; exact hPc, va_K.moved hW.alike hKc, hDc.weaken (fun _ _ _ _ => trivial), vk_R.warm hW hp0, hU, by rw [hU]; exact va_Z.narrow (va_Z.moved hW.alike (va_Z.kept hp1 hS.2.1)) hFc, by rw [hU]; exact vs_S.narrow (vs_S.moved hW.alike (vs_S.kept hp2 hS.2.1)) hFc, va_Nw.warmC hW hp3, vk_R.warm hW hp4, by rw [hU]; exact vs_S.narrow (vs_S.moved hW.alike (vs_S.kept hp5 hS.2.1)) hFc, by rw [hU]; exact vs_S.narrow (vs_S.moved hW.alike (vs_S.kept hp6 hS.2.1)) hFc, vk_R.warm hW hp7, vk_R.warm hW hp8, by rw [hU]; exact vs_S.narrow (vs_S.moved hW.alike (vs_S.kept hp9 hS.2.1)) hFc, vk_R.warm hW hp10, by rw [hU]; exact vs_S.narrow (vs_S.moved hW.alike (vs_S.kept hp11 hS.2.1)) hFc⟩⟩ rfl rfl hl.1 rfl (lv_room (Nat.le_of_ble_eq_true rfl)) dX16_operand_65 ⟨(show 0 + ((z16_n - z16_at + 20).toNat) ≤ (z16_n - z16_at + 20).toNat from (by omega)), (show 0 + ((10 * (z16_n - z16_at) + 120).toNat) ≤ (10 * (z16_n - z16_at) + 120).toNat from (by omega))⟩) hS (fun q _ h => hFc q h) hFc (fun  u t H1 locs ht hvm hw hB hz1 hk1 hS => ?_)
    obtain ⟨z0_70, z1_71, z2_72, z3_73, z4_74, q5_75, Ln_76, Pn_77, kc_78, ks_79, hxt_79, hP1, hK1, hD1⟩ := hB
    rw [ht] at hP1
    have hK1 := va_K.moved hvm.symm hK1
    obtain ⟨hP, hD⟩ := va_joinP (X := [(h0, .inr (14, [.ref q_t, .int (zI (z16_n)), .int (zI (z16_at)), .int (zI (z16_kind)), .int (zI (z16_place)), .int (zI (z16_value)), .int (zI (z16_before)), .ref tx9, v16_8, v16_9, v16_10, v16_11, v16_12, v16_13])), (q_t, .inl (cT, 8192, .inl (fun j : Nat => zI (a_t (j : Int)))))]) (cx := [(h0, .inr (14, [.ref q_t, .int (zI (z16_n)), .int (zI (z16_at)), .int (zI (z16_kind)), .int (zI (z16_place)), .int (zI (z16_value)), .int (zI (z16_before)), .ref tx9, v16_8, v16_9, v16_10, v16_11, v16_12, v16_13])), (q_t, .inl (cT, 8192, .inl (fun j : Nat => zI (a_t (j : Int)))))]) (wr := []) (rx := [(h0, .inr (14, [.ref q_t, .int (zI (z16_n)), .int (zI (z0_70)), .int (zI (z1_71)), .int (zI (z2_72)), .int (zI (z3_73)), .int (zI (z4_74)), .ref q5_75, v16_8, v16_9, v16_10, v16_11, v16_12, v16_13])), (q_t, .inl (cT, 8192, .inl (fun j : Nat => zI (a_t (j : Int)))))]) (pl := va_pl L (pE Pw_56)) (pl1 := va_pl Ln_76 (pE Pn_77)) hP hD [0, 1] [] rfl rfl (by decide) (by decide) hk1 hFc hP1 hD1
    have hK := (hK.sub (tys' := [(cO, .object "java/lang/Object"), (cI, .int), (cZ, .boolean)]) [1, 2, 3] rfl).app hK1
    have hrmC := hxt_79.1.1
    rw [ht] at hrmC
    refine W_tightS (hrmA.trans hrmC) ?_
    have hrb := hxt_79.1.2
    generalize H1 = H at hP hS ⊢
    have hP : va_P (dC, dI) vwQ ([(h0, .inr (14, [.ref q_t, .int (zI (z16_n)), .int (zI (z0_70)), .int (zI (z1_71)), .int (zI (z2_72)), .int (zI (z3_73)), .int (zI (z4_74)), .ref q5_75, v16_8, v16_9, v16_10, v16_11, v16_12, v16_13])), (q_t, .inl (cT, 8192, .inl (fun j : Nat => zI (a_t (j : Int)))))] ++ va_pl Ln_76 (pE Pn_77)) H := hP
    have hD : va_D A ([(h0, .inr (14, [.ref q_t, .int (zI (z16_n)), .int (zI (z0_70)), .int (zI (z1_71)), .int (zI (z2_72)), .int (zI (z3_73)), .int (zI (z4_74)), .ref q5_75, v16_8, v16_9, v16_10, v16_11, v16_12, v16_13])), (q_t, .inl (cT, 8192, .inl (fun j : Nat => zI (a_t (j : Int)))))] ++ va_pl Ln_76 (pE Pn_77)) := hD
    have hK : va_K (dC, dI) vwQ [(cO, .object "java/lang/Object"), (cI, .int), (cZ, .boolean), (cT, .byte)] s := hK
    refine W.widen (k := (0 + kc_78)) (n := (0 + ks_79)) (by omega) (by omega) ?_
    obtain ⟨rk_80, rk_81, rk_82, rk_83, rk_84, hu_84⟩ := hxt_79.2
    have htk_85 := hu_84.1.2
    have hkd_90 := hu_84.2.1
    have hX_kv := hkd_90.2
    have hu_86 := hu_84.2.2
    have hex_87 : EXT9 L Pw_56 Ln_76 Pn_77 := hu_86.1
    have hke_88 : KEG [] L Pw_56 Ln_76 Pn_77 := hex_87.keg hak_61
    have hak_89 : GLF Ln_76 Pn_77 cO cI cZ sx_ed := hak_61.txt hex_87 hu_86.2.1
    have hsm_91 := (hex_87 xr hq_64.1).2
    have : Pn_77.ro xr = Pw_56.ro xr := hsm_91.1 0
    have : Pn_77.rt xr = Pw_56.rt xr := hsm_91.1 1
    have : Pn_77.ra xr = Pw_56.ra xr := hsm_91.1 2
    have : Pn_77.rb xr = Pw_56.rb xr := hsm_91.1 3
    have : Pn_77.rA xr = Pw_56.rA xr := hsm_91.1 4
    have : Pn_77.rB xr = Pw_56.rB xr := hsm_91.1 5
    have : Pn_77.rg xr = Pw_56.rg xr := hsm_91.1 6
    have hq_92 : la ∈ Ln_76 ∧ Pn_77.kd la = 30 := hke_88.mem hq_63.1 hq_63.2 (by decide)
    have hq_93 : xr ∈ Ln_76 ∧ Pn_77.kd xr = 17 := hke_88.mem hq_64.1 hq_64.2 (by decide)
    have hA_94 : KEG [] L P Ln_76 Pn_77 := hA_65.trans hke_88
    have : Pn_77.lz la = Pw_56.lz la := (hex_87 la hq_63.1).2.1 0
    have hek_95 : Pn_77.ek la = 12 := (by rw [hke_88.ek hq_63.1 hq_63.2 (by decide)]; exact hek_66)
    have how_96 : Pn_77.ow la = la := ((hke_88.1 la hq_63.1 (by rw [hq_63.2]; decide)).2.2.2.1 hq_63.2 how_67).1
    have hcz := (((hke_88.1 la hq_63.1 (by rw [hq_63.2]; decide)).2.2.2.1 hq_63.2 how_67).2 (by simp)).1
    have hX_tx := hu_86.2.2.1
    have hxk9 := hu_86.2.2.2
    have hcx_97 : CHG (fun z => z = xr) L P Ln_76 Pn_77 := hcx_68.trans hex_87.chg (fun z m q => q.elim)
    have hnn_85 := TKV.nn (k := z1_71) (d := z0_70 - z2_72) (by omega)
    have hnx_98 : NTX L P Ln_76 Pn_77 := hnx_69.trans (NTX.ext hex_87 hu_86.2.1)
    subst hQ
    have hK := hK.sub (tys' := [(cT, .byte), (cO, .object "java/lang/Object"), (cI, .int), (cZ, .boolean)]) [3, 0, 1, 2] rfl
    refine W_knowS (fun hrm9 => ?_)
    refine W.widen (k := ((z16_n - z16_at + 20).toNat)) (n := ((10 * (z16_n - z16_at) + 120).toNat)) (by omega) (by omega) ?_
    refine vx_ret ?_
    exact W.vret hx hb hr (fun t ht hW => ⟨⟨(), rfl, trivial, z0_70, z1_71, z2_72, z3_73, z4_74, q5_75, Ln_76, Pn_77, (0 + kc_78), (0 + ks_79), ⟨⟨(by rw [ht, ← hp12]; exact hrm9), (by omega)⟩, ⟨(by omega), (by omega), (by omega), (by omega), (by omega), ⟨hA_94, hak_89, ⟨(by rw [show Pn_77.rA xr = Pw_56.rA xr from hsm_91.1 4, show Pn_77.ra xr = Pw_56.ra xr from hsm_91.1 2]; exact hoq), by omega, by omega, by omega, by omega, by omega, by omega, by omega, hnt9.1, hnt9.2, hnx_98⟩, hcx_97, ⟨⟨by omega, by omega, by omega⟩, htk_85⟩, hkd_90, hX_tx, hxk9⟩⟩⟩, by rw [ht]; exact hP, va_K.moved hW.alike hK, hD⟩, hS.F ht⟩) hS.2.2 dX16_operand_68
