theorem dX19_operation_0 : decode cX19_operation 0 = .ok (.ldc 3, 2) := by decide +kernel
theorem dX19_operation_2 : decode cX19_operation 2 = .ok (.new 5, 3) := by decide +kernel
theorem dX19_operation_5 : decode cX19_operation 5 = .ok (.dup, 1) := by decide +kernel
theorem dX19_operation_6 : decode cX19_operation 6 = .ok (.invokespecial 7, 3) := by decide +kernel
theorem dX19_operation_9 : decode cX19_operation 9 = .ok (.ldc 11, 2) := by decide +kernel
theorem dX19_operation_11 : decode cX19_operation 11 = .ok (.invokevirtual 13, 3) := by decide +kernel
theorem dX19_operation_14 : decode cX19_operation 14 = .ok (.aload_n 0, 1) := by decide +kernel
theorem dX19_operation_15 : decode cX19_operation 15 = .ok (.invokevirtual 13, 3) := by decide +kernel
theorem dX19_operation_18 : decode cX19_operation 18 = .ok (.ldc 11, 2) := by decide +kernel
theorem dX19_operation_20 : decode cX19_operation 20 = .ok (.invokevirtual 13, 3) := by decide +kernel
theorem dX19_operation_23 : decode cX19_operation 23 = .ok (.invokevirtual 17, 3) := by decide +kernel
theorem dX19_operation_26 : decode cX19_operation 26 = .ok (.invokevirtual 21, 3) := by decide +kernel
theorem dX19_operation_29 : decode cX19_operation 29 = .ok (.istore_n 1, 1) := by decide +kernel
theorem dX19_operation_30 : decode cX19_operation 30 = .ok (.iload_n 1, 1) := by decide +kernel
theorem dX19_operation_31 : decode cX19_operation 31 = .ok (.ifCond .ge 5, 3) := by decide +kernel
theorem dX19_operation_36 : decode cX19_operation 36 = .ok (.iconst 1, 1) := by decide +kernel
theorem dX19_operation_37 : decode cX19_operation 37 = .ok (.istore_n 2, 1) := by decide +kernel
theorem dX19_operation_38 : decode cX19_operation 38 = .ok (.iconst 0, 1) := by decide +kernel
theorem dX19_operation_39 : decode cX19_operation 39 = .ok (.istore_n 3, 1) := by decide +kernel
theorem dX19_operation_40 : decode cX19_operation 40 = .ok (.iload_n 3, 1) := by decide +kernel
theorem dX19_operation_41 : decode cX19_operation 41 = .ok (.iload_n 1, 1) := by decide +kernel
theorem dX19_operation_42 : decode cX19_operation 42 = .ok (.if_icmp .ge 28, 3) := by decide +kernel
theorem dX19_operation_70 : decode cX19_operation 70 = .ok (.iload_n 2, 1) := by decide +kernel
theorem dX19_operation_71 : decode cX19_operation 71 = .ok (.ireturn, 1) := by decide +kernel
theorem dX19_operation_45 : decode cX19_operation 45 = .ok (.iload_n 2, 1) := by decide +kernel
theorem dX19_operation_46 : decode cX19_operation 46 = .ok (.ldc 3, 2) := by decide +kernel
theorem dX19_operation_48 : decode cX19_operation 48 = .ok (.iload_n 3, 1) := by decide +kernel
theorem dX19_operation_49 : decode cX19_operation 49 = .ok (.invokevirtual 27, 3) := by decide +kernel
theorem dX19_operation_52 : decode cX19_operation 52 = .ok (.bipush 32, 2) := by decide +kernel
theorem dX19_operation_54 : decode cX19_operation 54 = .ok (.if_icmp .ne 7, 3) := by decide +kernel
theorem dX19_operation_61 : decode cX19_operation 61 = .ok (.iconst 0, 1) := by decide +kernel
theorem dX19_operation_62 : decode cX19_operation 62 = .ok (.iadd, 1) := by decide +kernel
theorem dX19_operation_63 : decode cX19_operation 63 = .ok (.istore_n 2, 1) := by decide +kernel
theorem dX19_operation_64 : decode cX19_operation 64 = .ok (.iinc 3 1, 3) := by decide +kernel
theorem dX19_operation_67 : decode cX19_operation 67 = .ok (.goto (-27), 3) := by decide +kernel
theorem dX19_operation_57 : decode cX19_operation 57 = .ok (.iconst 1, 1) := by decide +kernel
theorem dX19_operation_58 : decode cX19_operation 58 = .ok (.goto 4, 3) := by decide +kernel
theorem dX19_operation_34 : decode cX19_operation 34 = .ok (.iconst 0, 1) := by decide +kernel
theorem dX19_operation_35 : decode cX19_operation 35 = .ok (.ireturn, 1) := by decide +kernel
def o_X19_operation : List Cond := [.classLink RX19 5 RJ4, .instantiable RJ4 4, .initialized RJ4, .methodLink RX19 7 yJ4_init_da8c8, .instanceMethod yJ4_init_da8c8, .methodLink RX19 13 yJ4_append_15ec4, .instanceMethod yJ4_append_15ec4, .selects RJ4 yJ4_append_15ec4 yJ4_append_15ec4, .methodLink RX19 17 yJ4_toString_0e30d, .instanceMethod yJ4_toString_0e30d, .selects RJ4 yJ4_toString_0e30d yJ4_toString_0e30d, .methodLink RX19 21 yJ0_indexOf_2f485, .instanceMethod yJ0_indexOf_2f485, .selects RJ0 yJ0_indexOf_2f485 yJ0_indexOf_2f485, .initialized RJ0, .methodLink RX19 27 yJ0_charAt_5068e, .instanceMethod yJ0_charAt_5068e, .selects RJ0 yJ0_charAt_5068e yJ0_charAt_5068e]
def v_X19_operation : List Cond := .code yX19_operation cX19_operation 4 (some .int) :: (o_X19_operation ++ (wsJ40 ++ (v_J4_init ++ (v_J4_appendS ++ (v_J4_toString ++ (v_J0_indexOfS ++ (v_J0_charAtV ++ [])))))))
theorem mow_X19_operation : ∀ w ∈ o_X19_operation, w ∈ v_X19_operation := fun _ h => List.mem_cons_of_mem _ (List.mem_append_left _ h)
theorem mem_X19_operation_0 : ∀ w ∈ wsJ40, w ∈ v_X19_operation := fun _ h => List.mem_cons_of_mem _ (List.mem_append_right _ (List.mem_append_left _ h))
theorem mem_X19_operation_1 : ∀ w ∈ v_J4_init, w ∈ v_X19_operation := fun _ h => List.mem_cons_of_mem _ (List.mem_append_right _ (List.mem_append_right _ (List.mem_append_left _ h)))
theorem mem_X19_operation_2 : ∀ w ∈ v_J4_appendS, w ∈ v_X19_operation := fun _ h => List.mem_cons_of_mem _ (List.mem_append_right _ (List.mem_append_right _ (List.mem_append_right _ (List.mem_append_left _ h))))
theorem mem_X19_operation_3 : ∀ w ∈ v_J4_toString, w ∈ v_X19_operation := fun _ h => List.mem_cons_of_mem _ (List.mem_append_right _ (List.mem_append_right _ (List.mem_append_right _ (List.mem_append_right _ (List.mem_append_left _ h)))))
theorem mem_X19_operation_4 : ∀ w ∈ v_J0_indexOfS, w ∈ v_X19_operation := fun _ h => List.mem_cons_of_mem _ (List.mem_append_right _ (List.mem_append_right _ (List.mem_append_right _ (List.mem_append_right _ (List.mem_append_right _ (List.mem_append_left _ h))))))
theorem mem_X19_operation_5 : ∀ w ∈ v_J0_charAtV, w ∈ v_X19_operation := fun _ h => List.mem_cons_of_mem _ (List.mem_append_right _ (List.mem_append_right _ (List.mem_append_right _ (List.mem_append_right _ (List.mem_append_right _ (List.mem_append_right _ (List.mem_append_left _ h)))))))
set_option maxRecDepth 20000 in
theorem gw_X19_operation : v_X19_operation.all goodWord = true := by decide +kernel
set_option maxRecDepth 20000 in
theorem g_X19_operation_J4_appendS : GoodIn v_X19_operation (wsV RX19 13 RJ4 yJ4_append_15ec4 v_J4_appendS) := goodIn_app (goodIn_sub (fun w h => mow_X19_operation w (by revert w h; decide +kernel)) (by decide +kernel)) (goodIn_sub mem_X19_operation_2 gw_J4_appendS)
set_option maxRecDepth 20000 in
theorem g_X19_operation_J4_toString : GoodIn v_X19_operation (wsV RX19 17 RJ4 yJ4_toString_0e30d v_J4_toString) := goodIn_app (goodIn_sub (fun w h => mow_X19_operation w (by revert w h; decide +kernel)) (by decide +kernel)) (goodIn_sub mem_X19_operation_3 gw_J4_toString)
set_option maxRecDepth 20000 in
theorem g_X19_operation_J0_indexOfS : GoodIn v_X19_operation (wsV RX19 21 RJ0 yJ0_indexOf_2f485 v_J0_indexOfS) := goodIn_app (goodIn_sub (fun w h => mow_X19_operation w (by revert w h; decide +kernel)) (by decide +kernel)) (goodIn_sub mem_X19_operation_4 gw_J0_indexOfS)
set_option maxRecDepth 20000 in
theorem g_X19_operation_J0_charAtV : GoodIn v_X19_operation (wsV RX19 27 RJ0 yJ0_charAt_5068e v_J0_charAtV) := goodIn_app (goodIn_sub (fun w h => mow_X19_operation w (by revert w h; decide +kernel)) (by decide +kernel)) (goodIn_sub mem_X19_operation_5 gw_J0_charAtV)
set_option maxHeartbeats 4000000 in
set_option maxRecDepth 100000 in
theorem c_X19_operation (l : Launch) (dC : Nat → ClassId) (dI : Nat → Nat → Nat) (tx : Nat) (tv : Nat) (tn : Nat) (tf : Nat → Int32) (hX_tf : sb_Fit tf) (hNtn : tn ≤ 10000) (sz : Nat) (sa_RX19_3 : Nat) (sa_RX19_11 : Nat) (sv_RX19_11 : Nat) (sv_RX19_3 : Nat) (sx_fm : Nat) : Met l yX19_operation v_X19_operation ({ frames := 6, cells := ((5 + ((tn : Int) + 2) / 9).toNat), slots := ((5 * (tn : Int) + 40).toNat), locals := 171 }) (va_Pc [.ref tx] (fun U => U.heap.size = sz ∧ va_P (dC, dI) vwQ [] U.heap ∧ va_K (dC, dI) vwQ [] U ∧ va_D (fun _ => True) [] ∧ vk_R RX19 3 " + - * / % & | ^ << >> < <= == != " sa_RX19_3 U ∧ va_Z "java/lang/String" "COMPACT_STRINGS" "Z" (.int 1) (va_A [] sz) U U.heap ∧ vk_R RX19 11 " " sa_RX19_11 U ∧ vs_S sa_RX19_11 sv_RX19_11 1 (fun j : Nat => ([32] : List Int32).getD j 0) (va_A [] sz) U U.heap ∧ vs_S tx tv tn tf (va_A [] sz) U U.heap ∧ va_Nw (.castable "[B" "java/lang/Cloneable") U ∧ vs_S sa_RX19_3 sv_RX19_3 34 (fun j : Nat => ([32, 43, 32, 45, 32, 42, 32, 47, 32, 37, 32, 38, 32, 124, 32, 94, 32, 60, 60, 32, 62, 62, 32, 60, 32, 60, 61, 32, 61, 61, 32, 33, 61, 32] : List Int32).getD j 0) (va_A [] sz) U U.heap ∧ va_Z "jdk/internal/util/Preconditions" "SIOOBE_FORMATTER" "Ljava/util/function/BiFunction;" (.ref sx_fm) (va_A [] sz) U U.heap)) (va_Qi (fun (r : Int32) (_ : Unit) => ∃ z : Int, r = zI z ∧ (0 ≤ z ∧ z ≤ 14)) (fun (_ : Unit) (t : State) => va_P (dC, dI) vwQ [] t.heap ∧ va_K (dC, dI) vwQ [] t ∧ va_D (va_A [] sz) []) (va_A [] sz)) ((5 + ((tn : Int) + 2) / 9).toNat) ((5 * (tn : Int) + 40).toNat) (va_A [] sz) := by
  refine Met.ofW (cc := cX19_operation) (maxL := 4) (ret := (some .int)) (by decide) rfl ?_
  intro p e s m args below meth c s₁ B hml hv
  obtain ⟨rfl, hsz, hP, hK, hD0, hp0, hp1, hp2, hp3, hp4, hp5, hp6, hp7⟩ := hv
  have hx := B.exec
  have hb := B.bytes
  have hr := B.returns
  have hts := atoms_spec (ws := v_X19_operation) B.pre
  have hown : s.vm.findClass RX19 = some m.cls := findClass_of_methodNamed B.named
  have hlocks := B.notSynchronized
  have ow : ∀ {k : Nat} {w : Cond}, o_X19_operation[k]? = some w → w.before ([.ref tx] : List Value).toArray s = true := fun h => hts _ (mow_X19_operation _ (List.mem_of_getElem? h))
  subst hsz
  have hD := hD0.self (sz := s.heap.size)
  generalize hAe : va_A [] s.heap.size = A at hD hp1 hp3 hp4 hp6 hp7 ⊢
  have hA : ∀ q : Nat, s.heap.size ≤ q → A q := fun q h => by rw [← hAe]; exact Or.inr h
  have hS : va_S A s.heap s.heap [] := va_S.rf
  have hP : va_P (dC, dI) vwQ [] s.heap := hP
  have hl := lv_entry ([.ref tx]) (n := 4) (Nat.le_of_ble_eq_true rfl)
  rw [lg_entry_eq]
  generalize (lg_sl ([.ref tx]) ++ List.replicate (4 - (lg_sl ([.ref tx])).length) Slot.unset).toArray = ls at hl ⊢
  have hl : lv_has ls 4 [(0, .ref tx)] := hl
  obtain ⟨H, hH⟩ : ∃ H, H = s.heap := ⟨_, rfl⟩
  rw [← hH] at hP
  have hS : va_S A s.heap H [] := by rw [hH]; exact hS
  rw [← hH]
  refine zW_cap (fun Q hQ => ?_)
  obtain ⟨M, eM⟩ : ∃ q9 : Int, q9 = 2 * ((tn : Int) + 2) + 16 := ⟨_, rfl⟩
  have hX_s9 := hX_tf
  refine va_ldcS hx hb hown hp0 dX19_operation_0 ?_
  refine va_new (ci := 17) (fs := [.null, .int 0, .int 0, .int 0]) (C := RJ4) (T := TJ4) (N := 4) hx hb hts mem_X19_operation_0 tyJ4 tyJ4_ok hown (ow (k := 0) rfl) (ow (k := 1) rfl) (ow (k := 2) rfl) hK hP hD hS hA rfl (df_J4) (show 0 + 1 ≤ (5 + ((tn : Int) + 2) / 9).toNat from (by omega)) (show 0 + 4 ≤ (5 * (tn : Int) + 40).toNat from (by omega)) dX19_operation_2 (fun q_1 H hP hD hS => ?_)
  have hP : va_P (dC, dI) vwQ [(q_1, .inr (17, [.null, .int 0, .int 0, .int 0]))] H := hP
  have hD : va_D A [(q_1, .inr (17, [.null, .int 0, .int 0, .int 0]))] := hD
  refine lv_dup hx hb dX19_operation_5 rfl ?_
  have hPc := hP.sub (ws' := [(q_1, .inr (17, [.null, .int 0, .int 0, .int 0]))]) [0] rfl
  have hDc := hD.sub (ws' := [(q_1, .inr (17, [.null, .int 0, .int 0, .int 0]))]) [0] (by decide) rfl
  have hKc := hK.sub (tys' := []) [] rfl
  have hFc := va_free (wc := [(q_1, .inr (17, [.null, .int 0, .int 0, .int 0]))]) hD hS hA [0] rfl
  refine va_callv (va_runI (As := []) (rest := [.ref q_1, .ref sa_RX19_3]) ⟨hx, hb, hml, hown, hts⟩ (c_J4_init l dC dI q_1 H.size) (cwI 0 hts (goodIn_sub mem_X19_operation_1 gw_J4_init) rfl rfl rfl (ow (k := 2) rfl) (ow (k := 3) rfl) (ow (k := 4) rfl) rfl (by decide +kernel) ⟨(Nat.le_of_ble_eq_true rfl), (Nat.le_of_ble_eq_true rfl)⟩) ⟨fun a U g mk q => by obtain ⟨q0, q1, qP, qK, qD, e0⟩ := q; exact ⟨q0, q1, qP, va_K.moved (u := U) (U := U.calling g mk a) (Vm.Alike.refl U.vm) qK, qD, va_Z.moved (u := U) (U := U.calling g mk a) (Vm.Alike.refl U.vm) e0⟩, fun U hU hW => ⟨rfl, by rw [hU], by rw [hU]; exact hPc, va_K.moved hW.alike hKc, hDc.weaken (fun _ _ _ _ => trivial), by rw [hU]; exact va_Z.narrow (va_Z.moved hW.alike (va_Z.kept hp1 hS.2.1)) hFc⟩⟩ rfl rfl hl.1 rfl (lv_room (Nat.le_of_ble_eq_true rfl)) dX19_operation_6 ⟨(show 1 + 1 ≤ (5 + ((tn : Int) + 2) / 9).toNat from (by omega)), (show 4 + 16 ≤ (5 * (tn : Int) + 40).toNat from (by omega))⟩) hS (fun q _ h => hFc q h) hFc (fun  u t H1 locs ht hvm hw hB hz1 hk1 hS => ?_)
  obtain ⟨qn0_2, cn0_3, nn0_4, an0_5, hxt_5, hP1, hK1, hD1⟩ := hB
  rw [ht] at hP1
  have hK1 := va_K.moved hvm.symm hK1
  obtain ⟨hP, hD⟩ := va_join (wr := []) (w1 := [(q_1, .inr (17, [.ref qn0_2, .int 0, .int 0, .int 0])), (qn0_2, .inl (cn0_3, nn0_4, .inl (fun j : Nat => zI (an0_5 (j : Int)))))]) hP hD [0] [] rfl rfl (by decide) (by decide) hk1 hFc hP1 hD1
  have hK := (hK.sub (tys' := []) [] rfl).app hK1
  generalize H1 = H at hP hS ⊢
  have hP : va_P (dC, dI) vwQ [(q_1, .inr (17, [.ref qn0_2, .int 0, .int 0, .int 0])), (qn0_2, .inl (cn0_3, nn0_4, .inl (fun j : Nat => zI (an0_5 (j : Int)))))] H := hP
  have hD : va_D A [(q_1, .inr (17, [.ref qn0_2, .int 0, .int 0, .int 0])), (qn0_2, .inl (cn0_3, nn0_4, .inl (fun j : Nat => zI (an0_5 (j : Int)))))] := hD
  have hK : va_K (dC, dI) vwQ [(cn0_3, .byte)] s := hK
  refine W.widen (k := 2) (n := 20) (Nat.le_of_ble_eq_true rfl) (Nat.le_of_ble_eq_true rfl) ?_
  obtain ⟨rk_6, hu_6⟩ := hxt_5
  refine va_ldcS hx hb hown hp2 dX19_operation_9 ?_
  have hX_tf : sb_Fit (fun j : Nat => ([32] : List Int32).getD j 0) := fitL (by decide)
  have hPc := hP.sub (ws' := [(q_1, .inr (17, [.ref qn0_2, .int 0, .int 0, .int (zI (0))])), (qn0_2, .inl (cn0_3, nn0_4, .inl (fun j : Nat => zI (an0_5 (j : Int)))))]) [0, 1] rfl
  have hDc := hD.sub (ws' := [(q_1, .inr (17, [.ref qn0_2, .int 0, .int 0, .int (zI (0))])), (qn0_2, .inl (cn0_3, nn0_4, .inl (fun j : Nat => zI (an0_5 (j : Int)))))]) [0, 1] (by decide) rfl
  have hKc := hK.sub (tys' := [(cn0_3, .byte)]) [0] rfl
  have hFc := va_free (wc := [(q_1, .inr (17, [.ref qn0_2, .int 0, .int 0, .int (zI (0))])), (qn0_2, .inl (cn0_3, nn0_4, .inl (fun j : Nat => zI (an0_5 (j : Int)))))]) hD hS hA [0, 1] rfl
  refine W_knowS (fun hrmA => ?_)
  refine va_callr (va_runV (As := [.ref sa_RX19_11]) (rest := [.ref sa_RX19_3]) ⟨hx, hb, hml, hown, hts⟩ (c_J4_appendS l dC dI q_1 0 0 qn0_2 cn0_3 nn0_4 an0_5 M sa_RX19_11 sv_RX19_11 1 ((fun j : Nat => ([32] : List Int32).getD j 0)) (by omega) (by omega) rk_6 hX_tf (by omega) (by omega) H.size H) (cwV 1 hts g_X19_operation_J4_appendS rfl rfl rfl (by decide +kernel) ⟨(Nat.le_of_ble_eq_true rfl), (Nat.le_of_ble_eq_true rfl)⟩) ⟨fun a U g mk q => by obtain ⟨q0, q1, qP, qK, qD, e0, e1, e2⟩ := q; exact ⟨q0, q1, qP, va_K.moved (u := U) (U := U.calling g mk a) (Vm.Alike.refl U.vm) qK, qD, vs_S.moved (u := U) (U := U.calling g mk a) (Vm.Alike.refl U.vm) e0, va_Z.moved (u := U) (U := U.calling g mk a) (Vm.Alike.refl U.vm) e1, e2⟩, va_recv hKc hPc (ci := 17) (q0 := 0) rfl rfl, fun U hU hW => ⟨rfl, by rw [hU], by rw [hU]; exact hPc, va_K.moved hW.alike hKc, hDc.weaken (fun _ _ _ _ => trivial), by rw [hU]; exact vs_S.narrow (vs_S.moved hW.alike (vs_S.kept hp3 hS.2.1)) hFc, by rw [hU]; exact va_Z.narrow (va_Z.moved hW.alike (va_Z.kept hp1 hS.2.1)) hFc, hU⟩⟩ rfl rfl hl.1 rfl (lv_room (Nat.le_of_ble_eq_true rfl)) dX19_operation_11 ⟨(show 2 + (((M - (nn0_4 : Int)) / 18).toNat) ≤ (5 + ((tn : Int) + 2) / 9).toNat from (by omega)), (show 20 + ((2 * (M - (nn0_4 : Int))).toNat) ≤ (5 * (tn : Int) + 40).toNat from (by omega))⟩) hS (fun q _ h => hFc q h) hFc (fun u q_7 t H1 locs ht hvm hw hB hz1 hk1 hS => ?_)
  obtain ⟨z0_8, qn0_9, nn0_10, an0_11, kc_12, ks_13, hxt_13, hP1, hK1, hD1⟩ := hB
  rw [ht] at hP1
  have hK1 := va_K.moved hvm.symm hK1
  obtain ⟨hP, hD⟩ := va_join (wr := []) (w1 := [(q_1, .inr (17, [.ref qn0_9, .int 0, .int 0, .int (zI (z0_8))])), (qn0_9, .inl (cn0_3, nn0_10, .inl (fun j : Nat => zI (an0_11 (j : Int)))))]) hP hD [0, 1] [] rfl rfl (by decide) (by decide) hk1 hFc hP1 hD1
  have hK := (hK.sub (tys' := []) [] rfl).app hK1
  have hrx_14 := hxt_13.1
  have hrmC := hxt_13.2.1.1
  rw [ht] at hrmC
  refine W_tightS (hrmA.trans hrmC) ?_
  have hrb := hxt_13.2.1.2
  generalize H1 = H at hP hS ⊢
  have hP : va_P (dC, dI) vwQ [(q_1, .inr (17, [.ref qn0_9, .int 0, .int 0, .int (zI (z0_8))])), (qn0_9, .inl (cn0_3, nn0_10, .inl (fun j : Nat => zI (an0_11 (j : Int)))))] H := hP
  have hD : va_D A [(q_1, .inr (17, [.ref qn0_9, .int 0, .int 0, .int (zI (z0_8))])), (qn0_9, .inl (cn0_3, nn0_10, .inl (fun j : Nat => zI (an0_11 (j : Int)))))] := hD
  have hK : va_K (dC, dI) vwQ [(cn0_3, .byte)] s := hK
  refine W.widen (k := (2 + kc_12)) (n := (20 + ks_13)) (by omega) (by omega) ?_
  obtain ⟨rk_15, rk_16, hu_16⟩ := hxt_13.2.2
  rw [hrx_14]
  have hq1 : an0_11 0 = 32 := (hu_16.2.2.2.2.2.2 (by omega)).trans (by decide)
  refine lv_aload_n hx hb dX19_operation_14 rfl (lv_at hl 0 rfl) ?_
  have hX_tf := hX_s9
  have hPc := hP.sub (ws' := [(q_1, .inr (17, [.ref qn0_9, .int 0, .int 0, .int (zI (z0_8))])), (qn0_9, .inl (cn0_3, nn0_10, .inl (fun j : Nat => zI (an0_11 (j : Int)))))]) [0, 1] rfl
  have hDc := hD.sub (ws' := [(q_1, .inr (17, [.ref qn0_9, .int 0, .int 0, .int (zI (z0_8))])), (qn0_9, .inl (cn0_3, nn0_10, .inl (fun j : Nat => zI (an0_11 (j : Int)))))]) [0, 1] (by decide) rfl
  have hKc := hK.sub (tys' := [(cn0_3, .byte)]) [0] rfl
  have hFc := va_free (wc := [(q_1, .inr (17, [.ref qn0_9, .int 0, .int 0, .int (zI (z0_8))])), (qn0_9, .inl (cn0_3, nn0_10, .inl (fun j : Nat => zI (an0_11 (j : Int)))))]) hD hS hA [0, 1] rfl
  refine W_knowS (fun hrmA => ?_)
  refine va_callr (va_runV (As := [.ref tx]) (rest := [.ref sa_RX19_3]) ⟨hx, hb, hml, hown, hts⟩ (c_J4_appendS l dC dI q_1 0 z0_8 qn0_9 cn0_3 nn0_10 an0_11 M tx tv tn tf (by omega) (by omega) rk_16 hX_tf (by omega) (by omega) H.size H) (cwV 1 hts g_X19_operation_J4_appendS rfl rfl rfl (by decide +kernel) ⟨(Nat.le_of_ble_eq_true rfl), (Nat.le_of_ble_eq_true rfl)⟩) ⟨fun a U g mk q => by obtain ⟨q0, q1, qP, qK, qD, e0, e1, e2⟩ := q; exact ⟨q0, q1, qP, va_K.moved (u := U) (U := U.calling g mk a) (Vm.Alike.refl U.vm) qK, qD, vs_S.moved (u := U) (U := U.calling g mk a) (Vm.Alike.refl U.vm) e0, va_Z.moved (u := U) (U := U.calling g mk a) (Vm.Alike.refl U.vm) e1, e2⟩, va_recv hKc hPc (ci := 17) (q0 := 0) rfl rfl, fun U hU hW => ⟨rfl, by rw [hU], by rw [hU]; exact hPc, va_K.moved hW.alike hKc, hDc.weaken (fun _ _ _ _ => trivial), by rw [hU]; exact vs_S.narrow (vs_S.moved hW.alike (vs_S.kept hp4 hS.2.1)) hFc, by rw [hU]; exact va_Z.narrow (va_Z.moved hW.alike (va_Z.kept hp1 hS.2.1)) hFc, hU⟩⟩ rfl rfl hl.1 rfl (lv_room (Nat.le_of_ble_eq_true rfl)) dX19_operation_15 ⟨(show (2 + kc_12) + (((M - (nn0_10 : Int)) / 18).toNat) ≤ (5 + ((tn : Int) + 2) / 9).toNat from (by omega)), (show (20 + ks_13) + ((2 * (M - (nn0_10 : Int))).toNat) ≤ (5 * (tn : Int) + 40).toNat from (by omega))⟩) hS (fun q _ h => hFc q h) hFc (fun u q_17 t H1 locs ht hvm hw hB hz1 hk1 hS => ?_)
  obtain ⟨z0_18, qn0_19, nn0_20, an0_21, kc_22, ks_23, hxt_23, hP1, hK1, hD1⟩ := hB
  rw [ht] at hP1
  have hK1 := va_K.moved hvm.symm hK1
  obtain ⟨hP, hD⟩ := va_join (wr := []) (w1 := [(q_1, .inr (17, [.ref qn0_19, .int 0, .int 0, .int (zI (z0_18))])), (qn0_19, .inl (cn0_3, nn0_20, .inl (fun j : Nat => zI (an0_21 (j : Int)))))]) hP hD [0, 1] [] rfl rfl (by decide) (by decide) hk1 hFc hP1 hD1
  have hK := (hK.sub (tys' := []) [] rfl).app hK1
  have hrx_24 := hxt_23.1
  have hrmC := hxt_23.2.1.1
  rw [ht] at hrmC
  refine W_tightS (hrmA.trans hrmC) ?_
  have hrb := hxt_23.2.1.2
  generalize H1 = H at hP hS ⊢
  have hP : va_P (dC, dI) vwQ [(q_1, .inr (17, [.ref qn0_19, .int 0, .int 0, .int (zI (z0_18))])), (qn0_19, .inl (cn0_3, nn0_20, .inl (fun j : Nat => zI (an0_21 (j : Int)))))] H := hP
  have hD : va_D A [(q_1, .inr (17, [.ref qn0_19, .int 0, .int 0, .int (zI (z0_18))])), (qn0_19, .inl (cn0_3, nn0_20, .inl (fun j : Nat => zI (an0_21 (j : Int)))))] := hD
  have hK : va_K (dC, dI) vwQ [(cn0_3, .byte)] s := hK
  refine W.widen (k := ((2 + kc_12) + kc_22)) (n := ((20 + ks_13) + ks_23)) (by omega) (by omega) ?_
  obtain ⟨rk_25, rk_26, hu_26⟩ := hxt_23.2.2
  rw [hrx_24]
  have hq2 : an0_21 0 = 32 := (hu_26.2.2.2.2.2.1 0 (by omega) (by omega)).trans hq1
  refine va_ldcS hx hb hown hp2 dX19_operation_18 ?_
  have hX_tf : sb_Fit (fun j : Nat => ([32] : List Int32).getD j 0) := fitL (by decide)
  have hPc := hP.sub (ws' := [(q_1, .inr (17, [.ref qn0_19, .int 0, .int 0, .int (zI (z0_18))])), (qn0_19, .inl (cn0_3, nn0_20, .inl (fun j : Nat => zI (an0_21 (j : Int)))))]) [0, 1] rfl
  have hDc := hD.sub (ws' := [(q_1, .inr (17, [.ref qn0_19, .int 0, .int 0, .int (zI (z0_18))])), (qn0_19, .inl (cn0_3, nn0_20, .inl (fun j : Nat => zI (an0_21 (j : Int)))))]) [0, 1] (by decide) rfl
  have hKc := hK.sub (tys' := [(cn0_3, .byte)]) [0] rfl
  have hFc := va_free (wc := [(q_1, .inr (17, [.ref qn0_19, .int 0, .int 0, .int (zI (z0_18))])), (qn0_19, .inl (cn0_3, nn0_20, .inl (fun j : Nat => zI (an0_21 (j : Int)))))]) hD hS hA [0, 1] rfl
  refine W_knowS (fun hrmA => ?_)
  refine va_callr (va_runV (As := [.ref sa_RX19_11]) (rest := [.ref sa_RX19_3]) ⟨hx, hb, hml, hown, hts⟩ (c_J4_appendS l dC dI q_1 0 z0_18 qn0_19 cn0_3 nn0_20 an0_21 M sa_RX19_11 sv_RX19_11 1 ((fun j : Nat => ([32] : List Int32).getD j 0)) (by omega) (by omega) rk_26 hX_tf (by omega) (by omega) H.size H) (cwV 1 hts g_X19_operation_J4_appendS rfl rfl rfl (by decide +kernel) ⟨(Nat.le_of_ble_eq_true rfl), (Nat.le_of_ble_eq_true rfl)⟩) ⟨fun a U g mk q => by obtain ⟨q0, q1, qP, qK, qD, e0, e1, e2⟩ := q; exact ⟨q0, q1, qP, va_K.moved (u := U) (U := U.calling g mk a) (Vm.Alike.refl U.vm) qK, qD, vs_S.moved (u := U) (U := U.calling g mk a) (Vm.Alike.refl U.vm) e0, va_Z.moved (u := U) (U := U.calling g mk a) (Vm.Alike.refl U.vm) e1, e2⟩, va_recv hKc hPc (ci := 17) (q0 := 0) rfl rfl, fun U hU hW => ⟨rfl, by rw [hU], by rw [hU]; exact hPc, va_K.moved hW.alike hKc, hDc.weaken (fun _ _ _ _ => trivial), by rw [hU]; exact vs_S.narrow (vs_S.moved hW.alike (vs_S.kept hp3 hS.2.1)) hFc, by rw [hU]; exact va_Z.narrow (va_Z.moved hW.alike (va_Z.kept hp1 hS.2.1)) hFc, hU⟩⟩ rfl rfl hl.1 rfl (lv_room (Nat.le_of_ble_eq_true rfl)) dX19_operation_20 ⟨(show ((2 + kc_12) + kc_22) + (((M - (nn0_20 : Int)) / 18).toNat) ≤ (5 + ((tn : Int) + 2) / 9).toNat from (by omega)), (show ((20 + ks_13) + ks_23) + ((2 * (M - (nn0_20 : Int))).toNat) ≤ (5 * (tn : Int) + 40).toNat from (by omega))⟩) hS (fun q _ h => hFc q h) hFc (fun u q_27 t H1 locs ht hvm hw hB hz1 hk1 hS => ?_)
  obtain ⟨z0_28, qn0_29, nn0_30, an0_31, kc_32, ks_33, hxt_33, hP1, hK1, hD1⟩ := hB
  rw [ht] at hP1
  have hK1 := va_K.moved hvm.symm hK1
  obtain ⟨hP, hD⟩ := va_join (wr := []) (w1 := [(q_1, .inr (17, [.ref qn0_29, .int 0, .int 0, .int (zI (z0_28))])), (qn0_29, .inl (cn0_3, nn0_30, .inl (fun j : Nat => zI (an0_31 (j : Int)))))]) hP hD [0, 1] [] rfl rfl (by decide) (by decide) hk1 hFc hP1 hD1
  have hK := (hK.sub (tys' := []) [] rfl).app hK1
  have hrx_34 := hxt_33.1
  have hrmC := hxt_33.2.1.1
  rw [ht] at hrmC
  refine W_tightS (hrmA.trans hrmC) ?_
  have hrb := hxt_33.2.1.2
  generalize H1 = H at hP hS ⊢
  have hP : va_P (dC, dI) vwQ [(q_1, .inr (17, [.ref qn0_29, .int 0, .int 0, .int (zI (z0_28))])), (qn0_29, .inl (cn0_3, nn0_30, .inl (fun j : Nat => zI (an0_31 (j : Int)))))] H := hP
  have hD : va_D A [(q_1, .inr (17, [.ref qn0_29, .int 0, .int 0, .int (zI (z0_28))])), (qn0_29, .inl (cn0_3, nn0_30, .inl (fun j : Nat => zI (an0_31 (j : Int)))))] := hD
  have hK : va_K (dC, dI) vwQ [(cn0_3, .byte)] s := hK
  refine W.widen (k := (((2 + kc_12) + kc_22) + kc_32)) (n := (((20 + ks_13) + ks_23) + ks_33)) (by omega) (by omega) ?_
  obtain ⟨rk_35, rk_36, hu_36⟩ := hxt_33.2.2
  rw [hrx_34]
  have hq3 : an0_31 0 = 32 := (hu_36.2.2.2.2.2.1 0 (by omega) (by omega)).trans hq2
  have hPc := hP.sub (ws' := [(q_1, .inr (17, [.ref qn0_29, .int 0, .int 0, .int (zI (z0_28))])), (qn0_29, .inl (cn0_3, nn0_30, .inl (fun j : Nat => zI (an0_31 (j : Int)))))]) [0, 1] rfl
  have hDc := hD.sub (ws' := [(q_1, .inr (17, [.ref qn0_29, .int 0, .int 0, .int (zI (z0_28))])), (qn0_29, .inl (cn0_3, nn0_30, .inl (fun j : Nat => zI (an0_31 (j : Int)))))]) [0, 1] (by decide) rfl
  have hKc := hK.sub (tys' := [(cn0_3, .byte)]) [0] rfl
  have hFc := va_free (wc := [(q_1, .inr (17, [.ref qn0_29, .int 0, .int 0, .int (zI (z0_28))])), (qn0_29, .inl (cn0_3, nn0_30, .inl (fun j : Nat => zI (an0_31 (j : Int)))))]) hD hS hA [0, 1] rfl
  refine va_callr (va_runV (As := []) (rest := [.ref sa_RX19_3]) ⟨hx, hb, hml, hown, hts⟩ (c_J4_toString l dC dI q_1 0 z0_28 qn0_29 cn0_3 nn0_30 an0_31 M (by omega) (by omega) rk_36 (by omega) H.size) (cwV 0 hts g_X19_operation_J4_toString rfl rfl rfl (by decide +kernel) ⟨(Nat.le_of_ble_eq_true rfl), (Nat.le_of_ble_eq_true rfl)⟩) ⟨fun a U g mk q => by obtain ⟨q0, q1, qP, qK, qD, e0, e1⟩ := q; exact ⟨q0, q1, qP, va_K.moved (u := U) (U := U.calling g mk a) (Vm.Alike.refl U.vm) qK, qD, va_Z.moved (u := U) (U := U.calling g mk a) (Vm.Alike.refl U.vm) e0, va_Nw.same rfl (u := U) (U := U.calling g mk a) rfl e1⟩, va_recv hKc hPc (ci := 17) (q0 := 0) rfl rfl, fun U hU hW => ⟨rfl, by rw [hU], by rw [hU]; exact hPc, va_K.moved hW.alike hKc, hDc.weaken (fun _ _ _ _ => trivial), by rw [hU]; exact va_Z.narrow (va_Z.moved hW.alike (va_Z.kept hp1 hS.2.1)) hFc, va_Nw.warmC hW hp5⟩⟩ rfl rfl hl.1 rfl (lv_room (Nat.le_of_ble_eq_true rfl)) dX19_operation_23 ⟨(show (((2 + kc_12) + kc_22) + kc_32) + (2) ≤ (5 + ((tn : Int) + 2) / 9).toNat from (by omega)), (show (((20 + ks_13) + ks_23) + ks_33) + ((z0_28 + 4).toNat) ≤ (5 * (tn : Int) + 40).toNat from (by omega))⟩) hS (fun q _ h => hFc q h) hFc (fun u q_37 t H1 locs ht hvm hw hB hz1 hk1 hS => ?_)
  obtain ⟨qn_38, nn_39, fn_40, hxt_40, hP1, hK1, hD1⟩ := hB
  rw [ht] at hP1
  have hK1 := va_K.moved hvm.symm hK1
  obtain ⟨hP, hD⟩ := va_join (wr := []) (w1 := [(q_1, .inr (17, [.ref qn0_29, .int 0, .int 0, .int (zI (z0_28))])), (qn0_29, .inl (cn0_3, nn0_30, .inl (fun j : Nat => zI (an0_31 (j : Int))))), (q_37, .inr (22, [.ref qn_38, .int 0, .int 0, .int 0])), (qn_38, .inl (cn0_3, nn_39, .inl (fun j : Nat => zI (fn_40 (j : Int)))))]) hP hD [0, 1] [] rfl rfl (by decide) (by decide) hk1 hFc hP1 hD1
  have hK := (hK.sub (tys' := []) [] rfl).app hK1
  generalize H1 = H at hP hS ⊢
  have hP : va_P (dC, dI) vwQ [(q_1, .inr (17, [.ref qn0_29, .int 0, .int 0, .int (zI (z0_28))])), (qn0_29, .inl (cn0_3, nn0_30, .inl (fun j : Nat => zI (an0_31 (j : Int))))), (q_37, .inr (22, [.ref qn_38, .int 0, .int 0, .int 0])), (qn_38, .inl (cn0_3, nn_39, .inl (fun j : Nat => zI (fn_40 (j : Int)))))] H := hP
  have hD : va_D A [(q_1, .inr (17, [.ref qn0_29, .int 0, .int 0, .int (zI (z0_28))])), (qn0_29, .inl (cn0_3, nn0_30, .inl (fun j : Nat => zI (an0_31 (j : Int))))), (q_37, .inr (22, [.ref qn_38, .int 0, .int 0, .int 0])), (qn_38, .inl (cn0_3, nn_39, .inl (fun j : Nat => zI (fn_40 (j : Int)))))] := hD
  have hK : va_K (dC, dI) vwQ [(cn0_3, .byte)] s := hK
  refine W.widen (k := ((((2 + kc_12) + kc_22) + kc_32) + (2))) (n := ((((20 + ks_13) + ks_23) + ks_33) + ((z0_28 + 4).toNat))) (by omega) (by omega) ?_
  have hts9 := hxt_40
  have hq4 : fn_40 0 = 32 := (hts9.2.2 0 (by omega) (by omega)).trans hq3
  have hts8 := hts9.1
  have hch4 := chF_az fn_40 (e := 0) (by omega) (by have := hts9.2.1 0; omega)
  have hPc := hP.sub (ws' := []) [] rfl
  have hDc := hD.sub (ws' := []) [] (by decide) rfl
  have hKc := hK.sub (tys' := []) [] rfl
  have hFc := va_free (wc := []) hD hS hA [] rfl
  refine va_calli (va_runV (As := [.ref q_37]) (rest := []) ⟨hx, hb, hml, hown, hts⟩ (c_J0_indexOfS l dC dI sa_RX19_3 sv_RX19_3 34 ((fun j : Nat => ([32, 43, 32, 45, 32, 42, 32, 47, 32, 37, 32, 38, 32, 124, 32, 94, 32, 60, 60, 32, 62, 62, 32, 60, 32, 60, 61, 32, 61, 61, 32, 33, 61, 32] : List Int32).getD j 0)) q_37 qn_38 nn_39 ((fun j : Nat => zI (fn_40 (j : Int)))) (by omega) (by omega) H.size) (cwV 1 hts g_X19_operation_J0_indexOfS rfl rfl rfl (by decide +kernel) ⟨(Nat.le_of_ble_eq_true rfl), (Nat.le_of_ble_eq_true rfl)⟩) ⟨fun a U g mk q => by obtain ⟨q0, q1, qP, qK, qD, e0, e1, e2⟩ := q; exact ⟨q0, q1, qP, va_K.moved (u := U) (U := U.calling g mk a) (Vm.Alike.refl U.vm) qK, qD, vs_S.moved (u := U) (U := U.calling g mk a) (Vm.Alike.refl U.vm) e0, va_Z.moved (u := U) (U := U.calling g mk a) (Vm.Alike.refl U.vm) e1, vs_S.moved (u := U) (U := U.calling g mk a) (Vm.Alike.refl U.vm) e2⟩, vs_S.recv hp6 hS, fun U hU hW => ⟨rfl, by rw [hU], by rw [hU]; exact hPc, va_K.moved hW.alike hKc, hDc.weaken (fun _ _ _ _ => trivial), by rw [hU]; exact vs_S.narrow (vs_S.moved hW.alike (vs_S.kept hp6 hS.2.1)) hFc, by rw [hU]; exact va_Z.narrow (va_Z.moved hW.alike (va_Z.kept hp1 hS.2.1)) hFc, (by rw [hU]; exact vs_S.moved hW.alike (vs_ofW 2 3 (t := 0) hp6 hK hP rfl rfl rfl rfl (va_outC hP hD [] rfl 2 rfl (by decide)) (va_outC hP hD [] rfl 3 rfl (by decide))))⟩⟩ rfl rfl hl.1 rfl (lv_room (Nat.le_of_ble_eq_true rfl)) dX19_operation_26 ⟨(show ((((2 + kc_12) + kc_22) + kc_32) + (2)) + 0 ≤ (5 + ((tn : Int) + 2) / 9).toNat from (by omega)), (show ((((20 + ks_13) + ks_23) + ks_33) + ((z0_28 + 4).toNat)) + 0 ≤ (5 * (tn : Int) + 40).toNat from (by omega))⟩) hS (fun q _ h => hFc q h) hFc (fun r_41 u t H1 locs ht hvm hw hB hz1 hk1 hS => ?_)
  obtain ⟨hP1, hK1, hD1⟩ := hB
  rw [ht] at hP1
  have hK1 := va_K.moved hvm.symm hK1
  obtain ⟨hP, hD⟩ := va_join (wr := [(q_1, .inr (17, [.ref qn0_29, .int 0, .int 0, .int (zI (z0_28))])), (qn0_29, .inl (cn0_3, nn0_30, .inl (fun j : Nat => zI (an0_31 (j : Int))))), (q_37, .inr (22, [.ref qn_38, .int 0, .int 0, .int 0])), (qn_38, .inl (cn0_3, nn_39, .inl (fun j : Nat => zI (fn_40 (j : Int)))))]) (w1 := []) hP hD [] [0, 1, 2, 3] rfl rfl (by decide) (by decide) hk1 hFc hP1 hD1
  have hK := (hK.sub (tys' := [(cn0_3, .byte)]) [0] rfl).app hK1
  generalize H1 = H at hP hS ⊢
  have hP : va_P (dC, dI) vwQ [(q_1, .inr (17, [.ref qn0_29, .int 0, .int 0, .int (zI (z0_28))])), (qn0_29, .inl (cn0_3, nn0_30, .inl (fun j : Nat => zI (an0_31 (j : Int))))), (q_37, .inr (22, [.ref qn_38, .int 0, .int 0, .int 0])), (qn_38, .inl (cn0_3, nn_39, .inl (fun j : Nat => zI (fn_40 (j : Int)))))] H := hP
  have hD : va_D A [(q_1, .inr (17, [.ref qn0_29, .int 0, .int 0, .int (zI (z0_28))])), (qn0_29, .inl (cn0_3, nn0_30, .inl (fun j : Nat => zI (an0_31 (j : Int))))), (q_37, .inr (22, [.ref qn_38, .int 0, .int 0, .int 0])), (qn_38, .inl (cn0_3, nn_39, .inl (fun j : Nat => zI (fn_40 (j : Int)))))] := hD
  have hK : va_K (dC, dI) vwQ [(cn0_3, .byte)] s := hK
  refine W.widen (k := ((((2 + kc_12) + kc_22) + kc_32) + (2))) (n := ((((20 + ks_13) + ks_23) + ks_33) + ((z0_28 + 4).toNat))) (by omega) (by omega) ?_
  have hw_42 := hw
  obtain ⟨z_43, rfl, hzz_43⟩ := hw_42
  refine lv_istore_n (lv' := [(1, .int (zI (z_43))), (0, .ref tx)]) hx hb dX19_operation_29 rfl hl (by decide) rfl (fun ls hl => ?_)
  refine lv_iload_n hx hb dX19_operation_30 rfl (lv_at hl 0 rfl) ?_
  refine lv_if_ge (tgt := 36) hx hb dX19_operation_31 (by decide) (fun b31 => ?_) (fun b31 => ?_)
  · have yb31 : (0 : Int) ≤ (z_43 : Int) := (zI_le (a := 0) (b := z_43) (by omega) (by omega) (by omega) (by omega)).mp b31
    have hz9 := hzz_43.2 (by omega)
    have hz8 : chF (fun j : Nat => ([32, 43, 32, 45, 32, 42, 32, 47, 32, 37, 32, 38, 32, 124, 32, 94, 32, 60, 60, 32, 62, 62, 32, 60, 32, 60, 61, 32, 61, 61, 32, 33, 61, 32] : List Int32).getD j 0) (z_43) = 32 := hz9.2.trans (hch4.trans hq4)
    have hz7 := ops_at (e := z_43) (by omega) (by omega) hz8
    have hz6 := ops_rng (e := z_43) (by omega) (by omega)
    have hs0 := ops_0
    refine lv_iconst (v := 1) hx hb dX19_operation_36 (by decide) ?_
    refine lv_istore_n (lv' := [(2, .int 1), (1, .int (zI (z_43))), (0, .ref tx)]) hx hb dX19_operation_37 rfl hl (by decide) rfl (fun ls hl => ?_)
    refine lv_iconst (v := 0) hx hb dX19_operation_38 (by decide) ?_
    refine lv_istore_n (lv' := [(3, .int 0), (2, .int 1), (1, .int (zI (z_43))), (0, .ref tx)]) hx hb dX19_operation_39 rfl hl (by decide) rfl (fun ls hl => ?_)
    have key40 : ∀ n40 : Nat, ∀ (d40_3 : Int) (d40_2 : Int) (ls : Array Slot) (H : Heap) (locs : List Loc), (0 ≤ d40_3) → (d40_2 = 1 + SPF (d40_3)) → (d40_3 ≤ z_43) → ((40 - d40_3 : Int).toNat) < n40 → lv_has ls 4 [(0, .ref tx), (1, .int (zI (z_43))), (2, .int (zI (d40_2))), (3, .int (zI (d40_3)))] → va_P (dC, dI) vwQ [(q_1, .inr (17, [.ref qn0_29, .int 0, .int 0, .int (zI (z0_28))])), (qn0_29, .inl (cn0_3, nn0_30, .inl (fun j : Nat => zI (an0_31 (j : Int))))), (q_37, .inr (22, [.ref qn_38, .int 0, .int 0, .int 0])), (qn_38, .inl (cn0_3, nn_39, .inl (fun j : Nat => zI (fn_40 (j : Int)))))] H → va_D A [(q_1, .inr (17, [.ref qn0_29, .int 0, .int 0, .int (zI (z0_28))])), (qn0_29, .inl (cn0_3, nn0_30, .inl (fun j : Nat => zI (an0_31 (j : Int))))), (q_37, .inr (22, [.ref qn_38, .int 0, .int 0, .int 0])), (qn_38, .inl (cn0_3, nn_39, .inl (fun j : Nat => zI (fn_40 (j : Int)))))] → va_S A s.heap H locs → W p l e (headSpec v_X19_operation ({ frames := 6, cells := ((5 + ((tn : Int) + 2) / 9).toNat), slots := ((5 * (tn : Int) + 40).toNat), locals := 171 })).room s m ([.ref tx] : List Value).toArray below meth c H locs ((((2 + kc_12) + kc_22) + kc_32) + (2)) ((((20 + ks_13) + ks_23) + ks_33) + ((z0_28 + 4).toNat)) Q (F0 m 40 ls []) := by
      intro n40
      induction n40 with
      | zero => intro d40_3 d40_2 ls H locs jd40_3 jd40_2 j40 hm40; exact absurd hm40 (by omega)
      | succ n40 ih40 =>
        intro d40_3 d40_2 ls H locs jd40_3 jd40_2 j40 hm40 hl hP hD hS
        refine lv_iload_n hx hb dX19_operation_40 rfl (lv_at hl 3 rfl) ?_
        refine lv_iload_n hx hb dX19_operation_41 rfl (lv_at hl 1 rfl) ?_
        refine lv_icmp_ge (tgt := 70) hx hb dX19_operation_42 (by decide) (fun b42 => ?_) (fun b42 => ?_)
        · have yb42 : (z_43 : Int) ≤ (d40_3 : Int) := (zI_le (a := z_43) (b := d40_3) (by omega) (by omega) (by omega) (by omega)).mp b42
          have he8 : SPF (d40_3) = SPF (z_43) := (by rw [show d40_3 = z_43 by omega])
          refine lv_iload_n hx hb dX19_operation_70 rfl (lv_at hl 2 rfl) ?_
          subst hQ
          have hP := hP.sub (ws' := []) [] rfl
          have hD := hD.sub (ws' := []) [] (by decide) rfl
          have hK := hK.sub (tys' := []) [] rfl
          refine W.widen (k := ((5 + ((tn : Int) + 2) / 9).toNat)) (n := ((5 * (tn : Int) + 40).toNat)) (by omega) (by omega) ?_
          exact W.iret (v := (zI (d40_2))) hx hb hr (fun t ht hW => ⟨⟨(zI (d40_2)), (), rfl, ⟨d40_2, rfl, by omega⟩, by rw [ht]; exact hP, va_K.moved hW.alike hK, hD⟩, hS.F ht⟩) hS.2.2 dX19_operation_71
        · have yb42 : ¬ (z_43 : Int) ≤ (d40_3 : Int) := fun q => b42 ((zI_le (a := z_43) (b := d40_3) (by omega) (by omega) (by omega) (by omega)).mpr q)
          have hop45 : (chF (fun j : Nat => ([32, 43, 32, 45, 32, 42, 32, 47, 32, 37, 32, 38, 32, 124, 32, 94, 32, 60, 60, 32, 62, 62, 32, 60, 32, 60, 61, 32, 61, 61, 32, 33, 61, 32] : List Int32).getD j 0) (d40_3) = 32 ∧ SPF (d40_3 + 1) = SPF (d40_3) + 1) ∨ (chF (fun j : Nat => ([32, 43, 32, 45, 32, 42, 32, 47, 32, 37, 32, 38, 32, 124, 32, 94, 32, 60, 60, 32, 62, 62, 32, 60, 32, 60, 61, 32, 61, 61, 32, 33, 61, 32] : List Int32).getD j 0) (d40_3) ≠ 32 ∧ SPF (d40_3 + 1) = SPF (d40_3)) := ops_sp (e := d40_3) (by omega) (by omega)
          refine lv_iload_n hx hb dX19_operation_45 rfl (lv_at hl 2 rfl) ?_
          refine va_ldcS hx hb hown hp0 dX19_operation_46 ?_
          refine lv_iload_n hx hb dX19_operation_48 rfl (lv_at hl 3 rfl) ?_
          have hX_asc : ASC (fun j : Nat => ([32, 43, 32, 45, 32, 42, 32, 47, 32, 37, 32, 38, 32, 124, 32, 94, 32, 60, 60, 32, 62, 62, 32, 60, 32, 60, 61, 32, 61, 61, 32, 33, 61, 32] : List Int32).getD j 0) := ascL (by decide)
          have hPc := hP.sub (ws' := []) [] rfl
          have hDc := hD.sub (ws' := []) [] (by decide) rfl
          have hKc := hK.sub (tys' := []) [] rfl
          have hFc := va_free (wc := []) hD hS hA [] rfl
          refine va_calli (va_runV (As := [.int (zI (d40_3))]) (rest := [.int (zI (d40_2))]) ⟨hx, hb, hml, hown, hts⟩ (c_J0_charAtV l dC dI sa_RX19_3 sv_RX19_3 34 ((fun j : Nat => ([32, 43, 32, 45, 32, 42, 32, 47, 32, 37, 32, 38, 32, 124, 32, 94, 32, 60, 60, 32, 62, 62, 32, 60, 32, 60, 61, 32, 61, 61, 32, 33, 61, 32] : List Int32).getD j 0)) d40_3 (by omega) (by omega) hX_asc H.size sx_fm) (cwV 1 hts g_X19_operation_J0_charAtV rfl rfl rfl (by decide +kernel) ⟨(Nat.le_of_ble_eq_true rfl), (Nat.le_of_ble_eq_true rfl)⟩) ⟨fun a U g mk q => by obtain ⟨q0, q1, qP, qK, qD, e0, e1, e2⟩ := q; exact ⟨q0, q1, qP, va_K.moved (u := U) (U := U.calling g mk a) (Vm.Alike.refl U.vm) qK, qD, vs_S.moved (u := U) (U := U.calling g mk a) (Vm.Alike.refl U.vm) e0, va_Z.moved (u := U) (U := U.calling g mk a) (Vm.Alike.refl U.vm) e1, va_Z.moved (u := U) (U := U.calling g mk a) (Vm.Alike.refl U.vm) e2⟩, vs_S.recv hp6 hS, fun U hU hW => ⟨rfl, by rw [hU], by rw [hU]; exact hPc, va_K.moved hW.alike hKc, hDc.weaken (fun _ _ _ _ => trivial), by rw [hU]; exact vs_S.narrow (vs_S.moved hW.alike (vs_S.kept hp6 hS.2.1)) hFc, by rw [hU]; exact va_Z.narrow (va_Z.moved hW.alike (va_Z.kept hp1 hS.2.1)) hFc, by rw [hU]; exact va_Z.narrow (va_Z.moved hW.alike (va_Z.kept hp7 hS.2.1)) hFc⟩⟩ rfl rfl hl.1 rfl (lv_room (Nat.le_of_ble_eq_true rfl)) dX19_operation_49 ⟨(show ((((2 + kc_12) + kc_22) + kc_32) + (2)) + 0 ≤ (5 + ((tn : Int) + 2) / 9).toNat from (by omega)), (show ((((20 + ks_13) + ks_23) + ks_33) + ((z0_28 + 4).toNat)) + 0 ≤ (5 * (tn : Int) + 40).toNat from (by omega))⟩) hS (fun q _ h => hFc q h) hFc (fun r_44 u t H1 locs ht hvm hw hB hz1 hk1 hS => ?_)
          obtain ⟨hP1, hK1, hD1⟩ := hB
          rw [ht] at hP1
          have hK1 := va_K.moved hvm.symm hK1
          obtain ⟨hP, hD⟩ := va_join (wr := [(q_1, .inr (17, [.ref qn0_29, .int 0, .int 0, .int (zI (z0_28))])), (qn0_29, .inl (cn0_3, nn0_30, .inl (fun j : Nat => zI (an0_31 (j : Int))))), (q_37, .inr (22, [.ref qn_38, .int 0, .int 0, .int 0])), (qn_38, .inl (cn0_3, nn_39, .inl (fun j : Nat => zI (fn_40 (j : Int)))))]) (w1 := []) hP hD [] [0, 1, 2, 3] rfl rfl (by decide) (by decide) hk1 hFc hP1 hD1
          have hK := (hK.sub (tys' := [(cn0_3, .byte)]) [0] rfl).app hK1
          generalize H1 = H at hP hS ⊢
          have hP : va_P (dC, dI) vwQ [(q_1, .inr (17, [.ref qn0_29, .int 0, .int 0, .int (zI (z0_28))])), (qn0_29, .inl (cn0_3, nn0_30, .inl (fun j : Nat => zI (an0_31 (j : Int))))), (q_37, .inr (22, [.ref qn_38, .int 0, .int 0, .int 0])), (qn_38, .inl (cn0_3, nn_39, .inl (fun j : Nat => zI (fn_40 (j : Int)))))] H := hP
          have hD : va_D A [(q_1, .inr (17, [.ref qn0_29, .int 0, .int 0, .int (zI (z0_28))])), (qn0_29, .inl (cn0_3, nn0_30, .inl (fun j : Nat => zI (an0_31 (j : Int))))), (q_37, .inr (22, [.ref qn_38, .int 0, .int 0, .int 0])), (qn_38, .inl (cn0_3, nn_39, .inl (fun j : Nat => zI (fn_40 (j : Int)))))] := hD
          have hK : va_K (dC, dI) vwQ [(cn0_3, .byte)] s := hK
          refine W.widen (k := ((((2 + kc_12) + kc_22) + kc_32) + (2))) (n := ((((20 + ks_13) + ks_23) + ks_33) + ((z0_28 + 4).toNat))) (by omega) (by omega) ?_
          obtain rfl : r_44 = (zI (chF (fun j : Nat => ([32, 43, 32, 45, 32, 42, 32, 47, 32, 37, 32, 38, 32, 124, 32, 94, 32, 60, 60, 32, 62, 62, 32, 60, 32, 60, 61, 32, 61, 61, 32, 33, 61, 32] : List Int32).getD j 0) (d40_3))) := hw
          have hch9 := hX_asc.ch (d40_3)
          refine lv_bipush (v := 32) hx hb dX19_operation_52 (by decide) ?_
          refine lv_icmp_ne (tgt := 61) hx hb dX19_operation_54 (by decide) (fun b54 => ?_) (fun b54 => ?_)
          · have yb54 : ¬ (chF (fun j : Nat => ([32, 43, 32, 45, 32, 42, 32, 47, 32, 37, 32, 38, 32, 124, 32, 94, 32, 60, 60, 32, 62, 62, 32, 60, 32, 60, 61, 32, 61, 61, 32, 33, 61, 32] : List Int32).getD j 0) (d40_3) : Int) = (32 : Int) := fun q => b54 ((zI_eq (a := chF (fun j : Nat => ([32, 43, 32, 45, 32, 42, 32, 47, 32, 37, 32, 38, 32, 124, 32, 94, 32, 60, 60, 32, 62, 62, 32, 60, 32, 60, 61, 32, 61, 61, 32, 33, 61, 32] : List Int32).getD j 0) (d40_3)) (b := 32) (by omega) (by omega) (by omega) (by omega)).mpr q)
            refine lv_iconst (v := 0) hx hb dX19_operation_61 (by decide) ?_
            refine lv_iadd hx hb dX19_operation_62 ?_
            refine lv_topi (fun z ez => ?_)
            obtain rfl : z = zI (d40_2 + 0) := ez.trans (zI_add (d40_2) (0))
            refine lv_istore_n (lv' := [(2, .int (zI (d40_2 + 0))), (0, .ref tx), (1, .int (zI (z_43))), (3, .int (zI (d40_3)))]) hx hb dX19_operation_63 rfl hl (by decide) rfl (fun ls hl => ?_)
            refine lv_iinc (v := zI (d40_3 + 1)) (lv' := [(3, .int (zI (d40_3 + 1))), (2, .int (zI (d40_2 + 0))), (0, .ref tx), (1, .int (zI (z_43)))]) hx hb dX19_operation_64 hl (k := 3) rfl (zI_add (d40_3) (1)) (by decide) rfl (fun ls hl => ?_)
            refine lv_goto (tgt := 40) hx hb dX19_operation_67 (by decide) ?_
            exact ih40 (d40_3 + 1) (d40_2 + 0) ls H _ (by omega) (by omega) (by omega) (by omega) (lv_sub hl [2, 3, 1, 0] rfl) hP hD hS
          · have yb54 : (chF (fun j : Nat => ([32, 43, 32, 45, 32, 42, 32, 47, 32, 37, 32, 38, 32, 124, 32, 94, 32, 60, 60, 32, 62, 62, 32, 60, 32, 60, 61, 32, 61, 61, 32, 33, 61, 32] : List Int32).getD j 0) (d40_3) : Int) = (32 : Int) := (zI_eq (a := chF (fun j : Nat => ([32, 43, 32, 45, 32, 42, 32, 47, 32, 37, 32, 38, 32, 124, 32, 94, 32, 60, 60, 32, 62, 62, 32, 60, 32, 60, 61, 32, 61, 61, 32, 33, 61, 32] : List Int32).getD j 0) (d40_3)) (b := 32) (by omega) (by omega) (by omega) (by omega)).mp b54
            refine lv_iconst (v := 1) hx hb dX19_operation_57 (by decide) ?_
            refine lv_goto (tgt := 62) hx hb dX19_operation_58 (by decide) ?_
            refine lv_iadd hx hb dX19_operation_62 ?_
            refine lv_topi (fun z ez => ?_)
            obtain rfl : z = zI (d40_2 + 1) := ez.trans (zI_add (d40_2) (1))
            refine lv_istore_n (lv' := [(2, .int (zI (d40_2 + 1))), (0, .ref tx), (1, .int (zI (z_43))), (3, .int (zI (d40_3)))]) hx hb dX19_operation_63 rfl hl (by decide) rfl (fun ls hl => ?_)
            refine lv_iinc (v := zI (d40_3 + 1)) (lv' := [(3, .int (zI (d40_3 + 1))), (2, .int (zI (d40_2 + 1))), (0, .ref tx), (1, .int (zI (z_43)))]) hx hb dX19_operation_64 hl (k := 3) rfl (zI_add (d40_3) (1)) (by decide) rfl (fun ls hl => ?_)
            refine lv_goto (tgt := 40) hx hb dX19_operation_67 (by decide) ?_
            exact ih40 (d40_3 + 1) (d40_2 + 1) ls H _ (by omega) (by omega) (by omega) (by omega) (lv_sub hl [2, 3, 1, 0] rfl) hP hD hS
    exact key40 ((40 - 0 : Int).toNat + 1) 0 1 ls H _ (by omega) (by omega) (by omega) (by omega) (lv_sub hl [3, 2, 1, 0] rfl) hP hD hS
  · have yb31 : ¬ (0 : Int) ≤ (z_43 : Int) := fun q => b31 ((zI_le (a := 0) (b := z_43) (by omega) (by omega) (by omega) (by omega)).mpr q)
    refine lv_iconst (v := 0) hx hb dX19_operation_34 (by decide) ?_
    subst hQ
    have hP := hP.sub (ws' := []) [] rfl
    have hD := hD.sub (ws' := []) [] (by decide) rfl
    have hK := hK.sub (tys' := []) [] rfl
    refine W.widen (k := ((5 + ((tn : Int) + 2) / 9).toNat)) (n := ((5 * (tn : Int) + 40).toNat)) (by omega) (by omega) ?_
    exact W.iret (v := 0) hx hb hr (fun t ht hW => ⟨⟨0, (), rfl, ⟨0, rfl, by omega⟩, by rw [ht]; exact hP, va_K.moved hW.alike hK, hD⟩, hS.F ht⟩) hS.2.2 dX19_operation_35
