theorem nb_RX11_122 : ∀ w ∈ (vx_atS RX11 122 "java/lang/IllegalArgumentException" ["java/lang/RuntimeException", "java/lang/Exception"]).filter (fun w => !goodWord w), w ∈ [Cond.declares (Bundle.initS "java/lang/RuntimeException"), Cond.declares (Bundle.initS "java/lang/Exception"), Cond.declares (Bundle.initS "java/lang/Throwable"), Cond.castable "java/lang/IllegalArgumentException" "java/lang/IllegalArgumentException"] := by decide +kernel
theorem go_RX11_118_122 : ∀ w ∈ Cond.classLink RX11 118 "java/lang/IllegalArgumentException" :: Cond.initialized "java/lang/IllegalArgumentException" :: vx_atS RX11 122 "java/lang/IllegalArgumentException" ["java/lang/RuntimeException", "java/lang/Exception"], vx_ot w = true := by decide +kernel
theorem dX11_end_0 : decode cX11_end 0 = .ok (.iload_n 1, 1) := by decide +kernel
theorem dX11_end_1 : decode cX11_end 1 = .ok (.ifCond .lt 11, 3) := by decide +kernel
theorem dX11_end_12 : decode cX11_end 12 = .ok (.new 118, 3) := by decide +kernel
theorem dX11_end_15 : decode cX11_end 15 = .ok (.dup, 1) := by decide +kernel
theorem dX11_end_16 : decode cX11_end 16 = .ok (.ldc 120, 2) := by decide +kernel
theorem dX11_end_18 : decode cX11_end 18 = .ok (.invokespecial 122, 3) := by decide +kernel
theorem dX11_end_21 : decode cX11_end 21 = .ok (.athrow, 1) := by decide +kernel
theorem dX11_end_4 : decode cX11_end 4 = .ok (.iload_n 1, 1) := by decide +kernel
theorem dX11_end_5 : decode cX11_end 5 = .ok (.aload_n 0, 1) := by decide +kernel
theorem dX11_end_6 : decode cX11_end 6 = .ok (.getfield 13, 3) := by decide +kernel
theorem dX11_end_9 : decode cX11_end 9 = .ok (.if_icmp .le 13, 3) := by decide +kernel
theorem dX11_end_22 : decode cX11_end 22 = .ok (.aload_n 0, 1) := by decide +kernel
theorem dX11_end_23 : decode cX11_end 23 = .ok (.iload_n 1, 1) := by decide +kernel
theorem dX11_end_24 : decode cX11_end 24 = .ok (.putfield 13, 3) := by decide +kernel
theorem dX11_end_27 : decode cX11_end 27 = .ok (.iload_n 1, 1) := by decide +kernel
theorem dX11_end_28 : decode cX11_end 28 = .ok (.ireturn, 1) := by decide +kernel
def o_X11_end : List Cond := [.classLink RX11 118 "java/lang/IllegalArgumentException", .initialized "java/lang/IllegalArgumentException", .fieldLink RX11 13 "SsaForge" "tapeLength" "I"]
def v_X11_end : List Cond := .code yX11_end cX11_end 2 (some .int) :: (o_X11_end ++ (((vx_atS RX11 122 "java/lang/IllegalArgumentException" ["java/lang/RuntimeException", "java/lang/Exception"]).filter goodWord) ++ (wsX110 ++ [])))
theorem mow_X11_end : ∀ w ∈ o_X11_end, w ∈ v_X11_end := fun _ h => List.mem_cons_of_mem _ (List.mem_append_left _ h)
theorem mem_X11_end_0 : ∀ w ∈ ((vx_atS RX11 122 "java/lang/IllegalArgumentException" ["java/lang/RuntimeException", "java/lang/Exception"]).filter goodWord), w ∈ v_X11_end := fun _ h => List.mem_cons_of_mem _ (List.mem_append_right _ (List.mem_append_left _ h))
theorem mem_X11_end_1 : ∀ w ∈ wsX110, w ∈ v_X11_end := fun _ h => List.mem_cons_of_mem _ (List.mem_append_right _ (List.mem_append_right _ (List.mem_append_left _ h)))
set_option maxRecDepth 20000 in
theorem gw_X11_end : v_X11_end.all goodWord = true := by decide +kernel
set_option maxHeartbeats 4000000 in
set_option maxRecDepth 100000 in
theorem c_X11_end (l : Launch) (dC : Nat → ClassId) (dI : Nat → Nat → Nat) (hst : l.stackTraces = false) (h0 : Nat) (q_1 : Nat) (q_3 : Nat) (q_21 : Nat) (q_39 : Nat) (q_52 : Nat) (q_60 : Nat) (q_66 : Nat) (q_73 : Nat) (q_79 : Nat) (q_84 : Nat) (q_92 : Nat) (q_102 : Nat) (q_107 : Nat) (p0 : Int32) (sz : Nat) (sa_RX11_120 : Nat) : vx_Met l yX11_end v_X11_end ({ frames := 6, cells := 1, slots := 6, locals := 82 }) (va_Pc [.ref h0, .int p0] (fun U => U.heap.size = sz ∧ va_P (dC, dI) vwP [(h0, .inr (11, [.ref q_1, .int 0, .int (-1), .ref q_3, .ref q_21, .ref q_39, .int 0, .ref q_52, .int 0, .ref q_60, .ref q_66, .ref q_73, .ref q_79, .ref q_84, .ref q_92, .ref q_102, .ref q_107]))] U.heap ∧ va_K (dC, dI) vwP [] U ∧ va_D (fun _ => True) [(h0, .inr (11, [.ref q_1, .int 0, .int (-1), .ref q_3, .ref q_21, .ref q_39, .int 0, .ref q_52, .int 0, .ref q_60, .ref q_66, .ref q_73, .ref q_79, .ref q_84, .ref q_92, .ref q_102, .ref q_107]))] ∧ vx_Zq Bundle.tN "UNASSIGNED_STACK" Bundle.steD (va_A [(h0, .inr (11, [.ref q_1, .int 0, .int (-1), .ref q_3, .ref q_21, .ref q_39, .int 0, .ref q_52, .int 0, .ref q_60, .ref q_66, .ref q_73, .ref q_79, .ref q_84, .ref q_92, .ref q_102, .ref q_107]))] sz) U U.heap ∧ vx_Zq Bundle.tN "SUPPRESSED_SENTINEL" Bundle.listD (va_A [(h0, .inr (11, [.ref q_1, .int 0, .int (-1), .ref q_3, .ref q_21, .ref q_39, .int 0, .ref q_52, .int 0, .ref q_60, .ref q_66, .ref q_73, .ref q_79, .ref q_84, .ref q_92, .ref q_102, .ref q_107]))] sz) U U.heap ∧ va_Nw (.castable "java/lang/IllegalArgumentException" "java/lang/IllegalArgumentException") U ∧ vk_R RX11 120 "not a length of the tape" sa_RX11_120 U ∧ va_Nw (.declares (Bundle.initS "java/lang/RuntimeException")) U ∧ va_Nw (.declares (Bundle.initS "java/lang/Exception")) U ∧ va_Nw (.declares (Bundle.initS "java/lang/Throwable")) U)) (va_Qi (fun (r : Int32) (_ : Unit) => kf_end p0 = 0 ∧ r = vf_end p0) (fun (_ : Unit) (t : State) => va_P (dC, dI) vwP [] t.heap ∧ va_K (dC, dI) vwP [] t ∧ va_D (va_A [(h0, .inr (11, [.ref q_1, .int 0, .int (-1), .ref q_3, .ref q_21, .ref q_39, .int 0, .ref q_52, .int 0, .ref q_60, .ref q_66, .ref q_73, .ref q_79, .ref q_84, .ref q_92, .ref q_102, .ref q_107]))] sz) []) (va_A [(h0, .inr (11, [.ref q_1, .int 0, .int (-1), .ref q_3, .ref q_21, .ref q_39, .int 0, .ref q_52, .int 0, .ref q_60, .ref q_66, .ref q_73, .ref q_79, .ref q_84, .ref q_92, .ref q_102, .ref q_107]))] sz)) (vx_X (fun _ : Unit => True) (fun E (q9 : Addr) (_ : Unit) (t9 : State) => (E = "java/lang/IllegalArgumentException" ∧ kf_end p0 = 1)) (va_A [(h0, .inr (11, [.ref q_1, .int 0, .int (-1), .ref q_3, .ref q_21, .ref q_39, .int 0, .ref q_52, .int 0, .ref q_60, .ref q_66, .ref q_73, .ref q_79, .ref q_84, .ref q_92, .ref q_102, .ref q_107]))] sz)) 1 6 (va_A [(h0, .inr (11, [.ref q_1, .int 0, .int (-1), .ref q_3, .ref q_21, .ref q_39, .int 0, .ref q_52, .int 0, .ref q_60, .ref q_66, .ref q_73, .ref q_79, .ref q_84, .ref q_92, .ref q_102, .ref q_107]))] sz) := by
  refine vx_ofW (cc := cX11_end) (maxL := 2) (ret := (some .int)) (by decide) rfl ?_
  intro p e s m args below meth c s₁ B hml hnt hv
  obtain ⟨rfl, hsz, hP, hK, hD0, hp0, hp1, hp2, hp3, hp4, hp5, hp6⟩ := hv
  have hx := B.exec
  have hb := B.bytes
  have hr := B.returns
  have hts := atoms_spec (ws := v_X11_end) B.pre
  have hown : s.vm.findClass RX11 = some m.cls := findClass_of_methodNamed B.named
  have hlocks := B.notSynchronized
  have ow : ∀ {k : Nat} {w : Cond}, o_X11_end[k]? = some w → w.before ([.ref h0, .int p0] : List Value).toArray s = true := fun h => hts _ (mow_X11_end _ (List.mem_of_getElem? h))
  subst hsz
  have hD := hD0.self (sz := s.heap.size)
  generalize hAe : va_A [(h0, .inr (11, [.ref q_1, .int 0, .int (-1), .ref q_3, .ref q_21, .ref q_39, .int 0, .ref q_52, .int 0, .ref q_60, .ref q_66, .ref q_73, .ref q_79, .ref q_84, .ref q_92, .ref q_102, .ref q_107]))] s.heap.size = A at hD hp0 hp1 ⊢
  have hA : ∀ q : Nat, s.heap.size ≤ q → A q := fun q h => by rw [← hAe]; exact Or.inr h
  have hS : va_S A s.heap s.heap [] := va_S.rf
  have hP : va_P (dC, dI) vwP [(h0, .inr (11, [.ref q_1, .int 0, .int (-1), .ref q_3, .ref q_21, .ref q_39, .int 0, .ref q_52, .int 0, .ref q_60, .ref q_66, .ref q_73, .ref q_79, .ref q_84, .ref q_92, .ref q_102, .ref q_107]))] s.heap := hP
  have hl := lv_entry ([.ref h0, .int p0]) (n := 2) (Nat.le_of_ble_eq_true rfl)
  rw [lg_entry_eq]
  generalize (lg_sl ([.ref h0, .int p0]) ++ List.replicate (2 - (lg_sl ([.ref h0, .int p0])).length) Slot.unset).toArray = ls at hl ⊢
  have hl : lv_has ls 2 [(0, .ref h0), (1, .int p0)] := hl
  obtain ⟨H, hH⟩ : ∃ H, H = s.heap := ⟨_, rfl⟩
  rw [← hH] at hP
  have hS : va_S A s.heap H [] := by rw [hH]; exact hS
  rw [← hH]
  refine lv_iload_n hx hb dX11_end_0 rfl (lv_at hl 1 rfl) ?_
  refine lv_if_lt (tgt := 12) hx hb dX11_end_1 (by decide) (fun b1 => ?_) (fun b1 => ?_)
  · have zb1 : p0.toInt < 0 := z_lt b1
    exact vx_throwS (names := ["java/lang/RuntimeException", "java/lang/Exception"]) (is := 120) (ik := 118) (ic := 122) hx hb hst hown (by decide) (by decide) (ow (k := 0) rfl) (ow (k := 1) rfl) hp3 (vx_hat (B := [Cond.declares (Bundle.initS "java/lang/RuntimeException"), Cond.declares (Bundle.initS "java/lang/Exception"), Cond.declares (Bundle.initS "java/lang/Throwable"), Cond.castable "java/lang/IllegalArgumentException" "java/lang/IllegalArgumentException"]) (fun w h => hts w (mem_X11_end_0 w h)) (nb_RX11_122) (vx_c (va_Nw.use rfl hp4) (vx_c (va_Nw.use rfl hp5) (vx_c (va_Nw.use rfl hp6) (vx_c (va_Nw.use rfl hp2) vx_n))))) (go_RX11_118_122) hp0 hp1 hS (hl.1.trans hml.symm) dX11_end_12 dX11_end_15 dX11_end_16 dX11_end_18 dX11_end_21 (fun x9 h9 => (hnt x9 h9).elim) (Nat.le_of_ble_eq_true rfl) (Nat.le_of_ble_eq_true rfl) (Nat.le_of_ble_eq_true rfl) (Nat.le_of_ble_eq_true rfl) hlocks (fun _ t ha hz9 hk9 => ⟨(), trivial, ⟨rfl, (show kf_end p0 = 1 by unfold kf_end; first | rfl | (split <;> first | rfl | (exfalso; omega)))⟩, Nat.le_trans hS.1 hz9, fun q h1 h2 => (hk9 q (Nat.lt_of_lt_of_le h1 hS.1)).trans (hS.2.1 q h1 h2)⟩) hS.2.2 (Nat.le_of_ble_eq_true rfl) (Nat.le_of_ble_eq_true rfl)
  · refine lv_iload_n hx hb dX11_end_4 rfl (lv_at hl 1 rfl) ?_
    refine lv_aload_n hx hb dX11_end_5 rfl (lv_at hl 0 rfl) ?_
    refine va_get (D := (dC, dI)) (ci := 11) (v := .int 0) (C := RX11) (T := TX11) (N := 17) hx hb hts mem_X11_end_1 hown hK hP 0 rfl rfl 1 (by decide) (ow (k := 2) rfl) (fun _ h9 => h9) rfl dX11_end_6 ?_
    refine lv_icmp_le (tgt := 22) hx hb dX11_end_9 (by decide) (fun b9 => ?_) (fun b9 => ?_)
    · refine lv_aload_n hx hb dX11_end_22 rfl (lv_at hl 0 rfl) ?_
      refine lv_iload_n hx hb dX11_end_23 rfl (lv_at hl 1 rfl) ?_
      refine va_put (D := (dC, dI)) (ci := 11) (v := .int p0) (ty := .int) (C := RX11) (T := TX11) (N := 17) hx hb hts mem_X11_end_1 tyX11 tyX11_ok nmX11 hown hK hP hD hS 0 rfl rfl 1 (by decide) (ow (k := 2) rfl) (fun _ h9 => h9) rfl (by decide +kernel) rfl rfl (Nat.le_of_ble_eq_true rfl) dX11_end_24 (fun H locs hP hD hS => ?_)
      have hP : va_P (dC, dI) vwP [(h0, .inr (11, [.ref q_1, .int p0, .int (-1), .ref q_3, .ref q_21, .ref q_39, .int 0, .ref q_52, .int 0, .ref q_60, .ref q_66, .ref q_73, .ref q_79, .ref q_84, .ref q_92, .ref q_102, .ref q_107]))] H := hP
      have hD : va_D A [(h0, .inr (11, [.ref q_1, .int p0, .int (-1), .ref q_3, .ref q_21, .ref q_39, .int 0, .ref q_52, .int 0, .ref q_60, .ref q_66, .ref q_73, .ref q_79, .ref q_84, .ref q_92, .ref q_102, .ref q_107]))] := hD
      refine lv_iload_n hx hb dX11_end_27 rfl (lv_at hl 1 rfl) ?_
      have hP := hP.sub (ws' := []) [] rfl
      have hD := hD.sub (ws' := []) [] (by decide) rfl
      have zb1 : 0 ≤ p0.toInt := z_nlt b1
      have zb9 : p0.toInt ≤ 0 := z_le b9
      refine W.widen (k := 1) (n := 6) (Nat.le_of_ble_eq_true rfl) (Nat.le_of_ble_eq_true rfl) ?_
      refine vx_ret ?_
      exact W.iret (v := p0) hx hb hr (fun t ht hW => ⟨⟨p0, (), rfl, ⟨(show kf_end p0 = 0 by unfold kf_end; first | rfl | (split <;> first | rfl | (exfalso; omega))), (show p0 = vf_end p0 by unfold vf_end; first | rfl | (split <;> first | rfl | (exfalso; omega)))⟩, by rw [ht]; exact hP, va_K.moved hW.alike hK, hD⟩, hS.F ht⟩) hS.2.2 dX11_end_28
    · have zb1 : 0 ≤ p0.toInt := z_nlt b1
      have zb9 : 0 < p0.toInt := z_nle b9
      exact vx_throwS (names := ["java/lang/RuntimeException", "java/lang/Exception"]) (is := 120) (ik := 118) (ic := 122) hx hb hst hown (by decide) (by decide) (ow (k := 0) rfl) (ow (k := 1) rfl) hp3 (vx_hat (B := [Cond.declares (Bundle.initS "java/lang/RuntimeException"), Cond.declares (Bundle.initS "java/lang/Exception"), Cond.declares (Bundle.initS "java/lang/Throwable"), Cond.castable "java/lang/IllegalArgumentException" "java/lang/IllegalArgumentException"]) (fun w h => hts w (mem_X11_end_0 w h)) (nb_RX11_122) (vx_c (va_Nw.use rfl hp4) (vx_c (va_Nw.use rfl hp5) (vx_c (va_Nw.use rfl hp6) (vx_c (va_Nw.use rfl hp2) vx_n))))) (go_RX11_118_122) hp0 hp1 hS (hl.1.trans hml.symm) dX11_end_12 dX11_end_15 dX11_end_16 dX11_end_18 dX11_end_21 (fun x9 h9 => (hnt x9 h9).elim) (Nat.le_of_ble_eq_true rfl) (Nat.le_of_ble_eq_true rfl) (Nat.le_of_ble_eq_true rfl) (Nat.le_of_ble_eq_true rfl) hlocks (fun _ t ha hz9 hk9 => ⟨(), trivial, ⟨rfl, (show kf_end p0 = 1 by unfold kf_end; first | rfl | (split <;> first | rfl | (exfalso; omega)))⟩, Nat.le_trans hS.1 hz9, fun q h1 h2 => (hk9 q (Nat.lt_of_lt_of_le h1 hS.1)).trans (hS.2.1 q h1 h2)⟩) hS.2.2 (Nat.le_of_ble_eq_true rfl) (Nat.le_of_ble_eq_true rfl)
theorem nb_RX11_138 : ∀ w ∈ (vx_atS RX11 138 "java/lang/IllegalStateException" ["java/lang/RuntimeException", "java/lang/Exception"]).filter (fun w => !goodWord w), w ∈ [Cond.declares (Bundle.initS "java/lang/RuntimeException"), Cond.declares (Bundle.initS "java/lang/Exception"), Cond.declares (Bundle.initS "java/lang/Throwable"), Cond.castable "java/lang/IllegalStateException" "java/lang/IllegalStateException"] := by decide +kernel
theorem go_RX11_134_138 : ∀ w ∈ Cond.classLink RX11 134 "java/lang/IllegalStateException" :: Cond.initialized "java/lang/IllegalStateException" :: vx_atS RX11 138 "java/lang/IllegalStateException" ["java/lang/RuntimeException", "java/lang/Exception"], vx_ot w = true := by decide +kernel
theorem dX11_ssa_0 : decode cX11_ssa 0 = .ok (.aload_n 0, 1) := by decide +kernel
theorem dX11_ssa_1 : decode cX11_ssa 1 = .ok (.getfield 17, 3) := by decide +kernel
theorem dX11_ssa_4 : decode cX11_ssa 4 = .ok (.ifCond .eq 13, 3) := by decide +kernel
theorem dX11_ssa_7 : decode cX11_ssa 7 = .ok (.new 134, 3) := by decide +kernel
theorem dX11_ssa_10 : decode cX11_ssa 10 = .ok (.dup, 1) := by decide +kernel
theorem dX11_ssa_11 : decode cX11_ssa 11 = .ok (.ldc 136, 2) := by decide +kernel
theorem dX11_ssa_13 : decode cX11_ssa 13 = .ok (.invokespecial 138, 3) := by decide +kernel
theorem dX11_ssa_16 : decode cX11_ssa 16 = .ok (.athrow, 1) := by decide +kernel
def o_X11_ssa : List Cond := [.fieldLink RX11 17 "SsaForge" "form" "I", .classLink RX11 134 "java/lang/IllegalStateException", .initialized "java/lang/IllegalStateException"]
def v_X11_ssa : List Cond := .code yX11_ssa cX11_ssa 1 (some .int) :: (o_X11_ssa ++ (wsX110 ++ (((vx_atS RX11 138 "java/lang/IllegalStateException" ["java/lang/RuntimeException", "java/lang/Exception"]).filter goodWord) ++ [])))
theorem mow_X11_ssa : ∀ w ∈ o_X11_ssa, w ∈ v_X11_ssa := fun _ h => List.mem_cons_of_mem _ (List.mem_append_left _ h)
theorem mem_X11_ssa_0 : ∀ w ∈ wsX110, w ∈ v_X11_ssa := fun _ h => List.mem_cons_of_mem _ (List.mem_append_right _ (List.mem_append_left _ h))
theorem mem_X11_ssa_1 : ∀ w ∈ ((vx_atS RX11 138 "java/lang/IllegalStateException" ["java/lang/RuntimeException", "java/lang/Exception"]).filter goodWord), w ∈ v_X11_ssa := fun _ h => List.mem_cons_of_mem _ (List.mem_append_right _ (List.mem_append_right _ (List.mem_append_left _ h)))
set_option maxRecDepth 20000 in
theorem gw_X11_ssa : v_X11_ssa.all goodWord = true := by decide +kernel
set_option maxHeartbeats 4000000 in
set_option maxRecDepth 100000 in
theorem c_X11_ssa (l : Launch) (dC : Nat → ClassId) (dI : Nat → Nat → Nat) (hst : l.stackTraces = false) (h0 : Nat) (q_1 : Nat) (q_3 : Nat) (q_21 : Nat) (q_39 : Nat) (q_52 : Nat) (q_60 : Nat) (q_66 : Nat) (q_73 : Nat) (q_79 : Nat) (q_84 : Nat) (q_92 : Nat) (q_102 : Nat) (q_107 : Nat) (sz : Nat) (sa_RX11_136 : Nat) : vx_Met l yX11_ssa v_X11_ssa ({ frames := 6, cells := 1, slots := 6, locals := 82 }) (va_Pc [.ref h0] (fun U => U.heap.size = sz ∧ va_P (dC, dI) vwP [(h0, .inr (11, [.ref q_1, .int 0, .int (-1), .ref q_3, .ref q_21, .ref q_39, .int 0, .ref q_52, .int 0, .ref q_60, .ref q_66, .ref q_73, .ref q_79, .ref q_84, .ref q_92, .ref q_102, .ref q_107]))] U.heap ∧ va_K (dC, dI) vwP [] U ∧ va_D (fun _ => True) [(h0, .inr (11, [.ref q_1, .int 0, .int (-1), .ref q_3, .ref q_21, .ref q_39, .int 0, .ref q_52, .int 0, .ref q_60, .ref q_66, .ref q_73, .ref q_79, .ref q_84, .ref q_92, .ref q_102, .ref q_107]))] ∧ vx_Zq Bundle.tN "UNASSIGNED_STACK" Bundle.steD (va_A [(h0, .inr (11, [.ref q_1, .int 0, .int (-1), .ref q_3, .ref q_21, .ref q_39, .int 0, .ref q_52, .int 0, .ref q_60, .ref q_66, .ref q_73, .ref q_79, .ref q_84, .ref q_92, .ref q_102, .ref q_107]))] sz) U U.heap ∧ vx_Zq Bundle.tN "SUPPRESSED_SENTINEL" Bundle.listD (va_A [(h0, .inr (11, [.ref q_1, .int 0, .int (-1), .ref q_3, .ref q_21, .ref q_39, .int 0, .ref q_52, .int 0, .ref q_60, .ref q_66, .ref q_73, .ref q_79, .ref q_84, .ref q_92, .ref q_102, .ref q_107]))] sz) U U.heap ∧ va_Nw (.castable "java/lang/IllegalStateException" "java/lang/IllegalStateException") U ∧ vk_R RX11 136 "no plain program" sa_RX11_136 U ∧ va_Nw (.declares (Bundle.initS "java/lang/RuntimeException")) U ∧ va_Nw (.declares (Bundle.initS "java/lang/Exception")) U ∧ va_Nw (.declares (Bundle.initS "java/lang/Throwable")) U)) (va_Qi (fun (r : Int32) (_ : Unit) => kf_ssa = 0 ∧ r = vf_ssa) (fun (_ : Unit) (t : State) => va_P (dC, dI) vwP [] t.heap ∧ va_K (dC, dI) vwP [] t ∧ va_D (va_A [(h0, .inr (11, [.ref q_1, .int 0, .int (-1), .ref q_3, .ref q_21, .ref q_39, .int 0, .ref q_52, .int 0, .ref q_60, .ref q_66, .ref q_73, .ref q_79, .ref q_84, .ref q_92, .ref q_102, .ref q_107]))] sz) []) (va_A [(h0, .inr (11, [.ref q_1, .int 0, .int (-1), .ref q_3, .ref q_21, .ref q_39, .int 0, .ref q_52, .int 0, .ref q_60, .ref q_66, .ref q_73, .ref q_79, .ref q_84, .ref q_92, .ref q_102, .ref q_107]))] sz)) (vx_X (fun _ : Unit => True) (fun E (q9 : Addr) (_ : Unit) (t9 : State) => (E = "java/lang/IllegalStateException" ∧ kf_ssa = 1)) (va_A [(h0, .inr (11, [.ref q_1, .int 0, .int (-1), .ref q_3, .ref q_21, .ref q_39, .int 0, .ref q_52, .int 0, .ref q_60, .ref q_66, .ref q_73, .ref q_79, .ref q_84, .ref q_92, .ref q_102, .ref q_107]))] sz)) 1 6 (va_A [(h0, .inr (11, [.ref q_1, .int 0, .int (-1), .ref q_3, .ref q_21, .ref q_39, .int 0, .ref q_52, .int 0, .ref q_60, .ref q_66, .ref q_73, .ref q_79, .ref q_84, .ref q_92, .ref q_102, .ref q_107]))] sz) := by
  refine vx_ofW (cc := cX11_ssa) (maxL := 1) (ret := (some .int)) (by decide) rfl ?_
  intro p e s m args below meth c s₁ B hml hnt hv
  obtain ⟨rfl, hsz, hP, hK, hD0, hp0, hp1, hp2, hp3, hp4, hp5, hp6⟩ := hv
  have hx := B.exec
  have hb := B.bytes
  have hr := B.returns
  have hts := atoms_spec (ws := v_X11_ssa) B.pre
  have hown : s.vm.findClass RX11 = some m.cls := findClass_of_methodNamed B.named
  have hlocks := B.notSynchronized
  have ow : ∀ {k : Nat} {w : Cond}, o_X11_ssa[k]? = some w → w.before ([.ref h0] : List Value).toArray s = true := fun h => hts _ (mow_X11_ssa _ (List.mem_of_getElem? h))
  subst hsz
  have hD := hD0.self (sz := s.heap.size)
  generalize hAe : va_A [(h0, .inr (11, [.ref q_1, .int 0, .int (-1), .ref q_3, .ref q_21, .ref q_39, .int 0, .ref q_52, .int 0, .ref q_60, .ref q_66, .ref q_73, .ref q_79, .ref q_84, .ref q_92, .ref q_102, .ref q_107]))] s.heap.size = A at hD hp0 hp1 ⊢
  have hA : ∀ q : Nat, s.heap.size ≤ q → A q := fun q h => by rw [← hAe]; exact Or.inr h
  have hS : va_S A s.heap s.heap [] := va_S.rf
  have hP : va_P (dC, dI) vwP [(h0, .inr (11, [.ref q_1, .int 0, .int (-1), .ref q_3, .ref q_21, .ref q_39, .int 0, .ref q_52, .int 0, .ref q_60, .ref q_66, .ref q_73, .ref q_79, .ref q_84, .ref q_92, .ref q_102, .ref q_107]))] s.heap := hP
  have hl := lv_entry ([.ref h0]) (n := 1) (Nat.le_of_ble_eq_true rfl)
  rw [lg_entry_eq]
  generalize (lg_sl ([.ref h0]) ++ List.replicate (1 - (lg_sl ([.ref h0])).length) Slot.unset).toArray = ls at hl ⊢
  have hl : lv_has ls 1 [(0, .ref h0)] := hl
  obtain ⟨H, hH⟩ : ∃ H, H = s.heap := ⟨_, rfl⟩
  rw [← hH] at hP
  have hS : va_S A s.heap H [] := by rw [hH]; exact hS
  rw [← hH]
  refine lv_aload_n hx hb dX11_ssa_0 rfl (lv_at hl 0 rfl) ?_
  refine va_get (D := (dC, dI)) (ci := 11) (v := .int (-1)) (C := RX11) (T := TX11) (N := 17) hx hb hts mem_X11_ssa_0 hown hK hP 0 rfl rfl 2 (by decide) (ow (k := 0) rfl) (fun _ h9 => h9) rfl dX11_ssa_1 ?_
  refine lv_if_eq (tgt := 17) hx hb dX11_ssa_4 (by decide) (fun h9 => absurd h9 (by decide)) (fun _ => ?_)
  exact vx_throwS (names := ["java/lang/RuntimeException", "java/lang/Exception"]) (is := 136) (ik := 134) (ic := 138) hx hb hst hown (by decide) (by decide) (ow (k := 1) rfl) (ow (k := 2) rfl) hp3 (vx_hat (B := [Cond.declares (Bundle.initS "java/lang/RuntimeException"), Cond.declares (Bundle.initS "java/lang/Exception"), Cond.declares (Bundle.initS "java/lang/Throwable"), Cond.castable "java/lang/IllegalStateException" "java/lang/IllegalStateException"]) (fun w h => hts w (mem_X11_ssa_1 w h)) (nb_RX11_138) (vx_c (va_Nw.use rfl hp4) (vx_c (va_Nw.use rfl hp5) (vx_c (va_Nw.use rfl hp6) (vx_c (va_Nw.use rfl hp2) vx_n))))) (go_RX11_134_138) hp0 hp1 hS (hl.1.trans hml.symm) dX11_ssa_7 dX11_ssa_10 dX11_ssa_11 dX11_ssa_13 dX11_ssa_16 (fun x9 h9 => (hnt x9 h9).elim) (Nat.le_of_ble_eq_true rfl) (Nat.le_of_ble_eq_true rfl) (Nat.le_of_ble_eq_true rfl) (Nat.le_of_ble_eq_true rfl) hlocks (fun _ t ha hz9 hk9 => ⟨(), trivial, ⟨rfl, (show kf_ssa = 1 by unfold kf_ssa; first | rfl | (split <;> first | rfl | (exfalso; omega)))⟩, Nat.le_trans hS.1 hz9, fun q h1 h2 => (hk9 q (Nat.lt_of_lt_of_le h1 hS.1)).trans (hS.2.1 q h1 h2)⟩) hS.2.2 (Nat.le_of_ble_eq_true rfl) (Nat.le_of_ble_eq_true rfl)
theorem dX11_pass_0 : decode cX11_pass 0 = .ok (.iload_n 1, 1) := by decide +kernel
theorem dX11_pass_1 : decode cX11_pass 1 = .ok (.iconst 1, 1) := by decide +kernel
theorem dX11_pass_2 : decode cX11_pass 2 = .ok (.if_icmp .lt 9, 3) := by decide +kernel
theorem dX11_pass_11 : decode cX11_pass 11 = .ok (.new 118, 3) := by decide +kernel
theorem dX11_pass_14 : decode cX11_pass 14 = .ok (.dup, 1) := by decide +kernel
theorem dX11_pass_15 : decode cX11_pass 15 = .ok (.ldc 166, 2) := by decide +kernel
theorem dX11_pass_17 : decode cX11_pass 17 = .ok (.invokespecial 122, 3) := by decide +kernel
theorem dX11_pass_20 : decode cX11_pass 20 = .ok (.athrow, 1) := by decide +kernel
theorem dX11_pass_5 : decode cX11_pass 5 = .ok (.iload_n 1, 1) := by decide +kernel
theorem dX11_pass_6 : decode cX11_pass 6 = .ok (.bipush 7, 2) := by decide +kernel
theorem dX11_pass_8 : decode cX11_pass 8 = .ok (.if_icmp .le 13, 3) := by decide +kernel
theorem dX11_pass_21 : decode cX11_pass 21 = .ok (.aload_n 0, 1) := by decide +kernel
theorem dX11_pass_22 : decode cX11_pass 22 = .ok (.getfield 17, 3) := by decide +kernel
theorem dX11_pass_25 : decode cX11_pass 25 = .ok (.iconst 1, 1) := by decide +kernel
theorem dX11_pass_26 : decode cX11_pass 26 = .ok (.if_icmp .eq 13, 3) := by decide +kernel
theorem dX11_pass_29 : decode cX11_pass 29 = .ok (.new 134, 3) := by decide +kernel
theorem dX11_pass_32 : decode cX11_pass 32 = .ok (.dup, 1) := by decide +kernel
theorem dX11_pass_33 : decode cX11_pass 33 = .ok (.ldc 168, 2) := by decide +kernel
theorem dX11_pass_35 : decode cX11_pass 35 = .ok (.invokespecial 138, 3) := by decide +kernel
theorem dX11_pass_38 : decode cX11_pass 38 = .ok (.athrow, 1) := by decide +kernel
def o_X11_pass : List Cond := [.classLink RX11 118 "java/lang/IllegalArgumentException", .initialized "java/lang/IllegalArgumentException", .fieldLink RX11 17 "SsaForge" "form" "I", .classLink RX11 134 "java/lang/IllegalStateException", .initialized "java/lang/IllegalStateException"]
def v_X11_pass : List Cond := .code yX11_pass cX11_pass 2 (some .int) :: (o_X11_pass ++ (((vx_atS RX11 122 "java/lang/IllegalArgumentException" ["java/lang/RuntimeException", "java/lang/Exception"]).filter goodWord) ++ (wsX110 ++ (((vx_atS RX11 138 "java/lang/IllegalStateException" ["java/lang/RuntimeException", "java/lang/Exception"]).filter goodWord) ++ []))))
theorem mow_X11_pass : ∀ w ∈ o_X11_pass, w ∈ v_X11_pass := fun _ h => List.mem_cons_of_mem _ (List.mem_append_left _ h)
theorem mem_X11_pass_0 : ∀ w ∈ ((vx_atS RX11 122 "java/lang/IllegalArgumentException" ["java/lang/RuntimeException", "java/lang/Exception"]).filter goodWord), w ∈ v_X11_pass := fun _ h => List.mem_cons_of_mem _ (List.mem_append_right _ (List.mem_append_left _ h))
theorem mem_X11_pass_1 : ∀ w ∈ wsX110, w ∈ v_X11_pass := fun _ h => List.mem_cons_of_mem _ (List.mem_append_right _ (List.mem_append_right _ (List.mem_append_left _ h)))
theorem mem_X11_pass_2 : ∀ w ∈ ((vx_atS RX11 138 "java/lang/IllegalStateException" ["java/lang/RuntimeException", "java/lang/Exception"]).filter goodWord), w ∈ v_X11_pass := fun _ h => List.mem_cons_of_mem _ (List.mem_append_right _ (List.mem_append_right _ (List.mem_append_right _ (List.mem_append_left _ h))))
set_option maxRecDepth 20000 in
theorem gw_X11_pass : v_X11_pass.all goodWord = true := by decide +kernel
set_option maxHeartbeats 4000000 in
set_option maxRecDepth 100000 in
theorem c_X11_pass (l : Launch) (dC : Nat → ClassId) (dI : Nat → Nat → Nat) (hst : l.stackTraces = false) (h0 : Nat) (q_1 : Nat) (q_3 : Nat) (q_21 : Nat) (q_39 : Nat) (q_52 : Nat) (q_60 : Nat) (q_66 : Nat) (q_73 : Nat) (q_79 : Nat) (q_84 : Nat) (q_92 : Nat) (q_102 : Nat) (q_107 : Nat) (p0 : Int32) (sz : Nat) (sa_RX11_166 : Nat) (sa_RX11_168 : Nat) : vx_Met l yX11_pass v_X11_pass ({ frames := 6, cells := 1, slots := 6, locals := 82 }) (va_Pc [.ref h0, .int p0] (fun U => U.heap.size = sz ∧ va_P (dC, dI) vwP [(h0, .inr (11, [.ref q_1, .int 0, .int (-1), .ref q_3, .ref q_21, .ref q_39, .int 0, .ref q_52, .int 0, .ref q_60, .ref q_66, .ref q_73, .ref q_79, .ref q_84, .ref q_92, .ref q_102, .ref q_107]))] U.heap ∧ va_K (dC, dI) vwP [] U ∧ va_D (fun _ => True) [(h0, .inr (11, [.ref q_1, .int 0, .int (-1), .ref q_3, .ref q_21, .ref q_39, .int 0, .ref q_52, .int 0, .ref q_60, .ref q_66, .ref q_73, .ref q_79, .ref q_84, .ref q_92, .ref q_102, .ref q_107]))] ∧ vx_Zq Bundle.tN "UNASSIGNED_STACK" Bundle.steD (va_A [(h0, .inr (11, [.ref q_1, .int 0, .int (-1), .ref q_3, .ref q_21, .ref q_39, .int 0, .ref q_52, .int 0, .ref q_60, .ref q_66, .ref q_73, .ref q_79, .ref q_84, .ref q_92, .ref q_102, .ref q_107]))] sz) U U.heap ∧ vx_Zq Bundle.tN "SUPPRESSED_SENTINEL" Bundle.listD (va_A [(h0, .inr (11, [.ref q_1, .int 0, .int (-1), .ref q_3, .ref q_21, .ref q_39, .int 0, .ref q_52, .int 0, .ref q_60, .ref q_66, .ref q_73, .ref q_79, .ref q_84, .ref q_92, .ref q_102, .ref q_107]))] sz) U U.heap ∧ va_Nw (.castable "java/lang/IllegalArgumentException" "java/lang/IllegalArgumentException") U ∧ vk_R RX11 166 "no such pass" sa_RX11_166 U ∧ va_Nw (.declares (Bundle.initS "java/lang/RuntimeException")) U ∧ va_Nw (.declares (Bundle.initS "java/lang/Exception")) U ∧ va_Nw (.declares (Bundle.initS "java/lang/Throwable")) U ∧ va_Nw (.castable "java/lang/IllegalStateException" "java/lang/IllegalStateException") U ∧ vk_R RX11 168 "no program that is ssa" sa_RX11_168 U)) (va_Qi (fun (r : Int32) (_ : Unit) => kf_pass p0 = 0 ∧ r = vf_pass) (fun (_ : Unit) (t : State) => va_P (dC, dI) vwP [] t.heap ∧ va_K (dC, dI) vwP [] t ∧ va_D (va_A [(h0, .inr (11, [.ref q_1, .int 0, .int (-1), .ref q_3, .ref q_21, .ref q_39, .int 0, .ref q_52, .int 0, .ref q_60, .ref q_66, .ref q_73, .ref q_79, .ref q_84, .ref q_92, .ref q_102, .ref q_107]))] sz) []) (va_A [(h0, .inr (11, [.ref q_1, .int 0, .int (-1), .ref q_3, .ref q_21, .ref q_39, .int 0, .ref q_52, .int 0, .ref q_60, .ref q_66, .ref q_73, .ref q_79, .ref q_84, .ref q_92, .ref q_102, .ref q_107]))] sz)) (vx_X (fun _ : Unit => True) (fun E (q9 : Addr) (_ : Unit) (t9 : State) => (E = "java/lang/IllegalArgumentException" ∧ kf_pass p0 = 1) ∨ (E = "java/lang/IllegalStateException" ∧ kf_pass p0 = 2)) (va_A [(h0, .inr (11, [.ref q_1, .int 0, .int (-1), .ref q_3, .ref q_21, .ref q_39, .int 0, .ref q_52, .int 0, .ref q_60, .ref q_66, .ref q_73, .ref q_79, .ref q_84, .ref q_92, .ref q_102, .ref q_107]))] sz)) 1 6 (va_A [(h0, .inr (11, [.ref q_1, .int 0, .int (-1), .ref q_3, .ref q_21, .ref q_39, .int 0, .ref q_52, .int 0, .ref q_60, .ref q_66, .ref q_73, .ref q_79, .ref q_84, .ref q_92, .ref q_102, .ref q_107]))] sz) := by
  refine vx_ofW (cc := cX11_pass) (maxL := 2) (ret := (some .int)) (by decide) rfl ?_
  intro p e s m args below meth c s₁ B hml hnt hv
  obtain ⟨rfl, hsz, hP, hK, hD0, hp0, hp1, hp2, hp3, hp4, hp5, hp6, hp7, hp8⟩ := hv
  have hx := B.exec
  have hb := B.bytes
  have hr := B.returns
  have hts := atoms_spec (ws := v_X11_pass) B.pre
  have hown : s.vm.findClass RX11 = some m.cls := findClass_of_methodNamed B.named
  have hlocks := B.notSynchronized
  have ow : ∀ {k : Nat} {w : Cond}, o_X11_pass[k]? = some w → w.before ([.ref h0, .int p0] : List Value).toArray s = true := fun h => hts _ (mow_X11_pass _ (List.mem_of_getElem? h))
  subst hsz
  have hD := hD0.self (sz := s.heap.size)
  generalize hAe : va_A [(h0, .inr (11, [.ref q_1, .int 0, .int (-1), .ref q_3, .ref q_21, .ref q_39, .int 0, .ref q_52, .int 0, .ref q_60, .ref q_66, .ref q_73, .ref q_79, .ref q_84, .ref q_92, .ref q_102, .ref q_107]))] s.heap.size = A at hD hp0 hp1 ⊢
  have hA : ∀ q : Nat, s.heap.size ≤ q → A q := fun q h => by rw [← hAe]; exact Or.inr h
  have hS : va_S A s.heap s.heap [] := va_S.rf
  have hP : va_P (dC, dI) vwP [(h0, .inr (11, [.ref q_1, .int 0, .int (-1), .ref q_3, .ref q_21, .ref q_39, .int 0, .ref q_52, .int 0, .ref q_60, .ref q_66, .ref q_73, .ref q_79, .ref q_84, .ref q_92, .ref q_102, .ref q_107]))] s.heap := hP
  have hl := lv_entry ([.ref h0, .int p0]) (n := 2) (Nat.le_of_ble_eq_true rfl)
  rw [lg_entry_eq]
  generalize (lg_sl ([.ref h0, .int p0]) ++ List.replicate (2 - (lg_sl ([.ref h0, .int p0])).length) Slot.unset).toArray = ls at hl ⊢
  have hl : lv_has ls 2 [(0, .ref h0), (1, .int p0)] := hl
  obtain ⟨H, hH⟩ : ∃ H, H = s.heap := ⟨_, rfl⟩
  rw [← hH] at hP
  have hS : va_S A s.heap H [] := by rw [hH]; exact hS
  rw [← hH]
  refine lv_iload_n hx hb dX11_pass_0 rfl (lv_at hl 1 rfl) ?_
  refine lv_iconst (v := 1) hx hb dX11_pass_1 (by decide) ?_
  refine lv_icmp_lt (tgt := 11) hx hb dX11_pass_2 (by decide) (fun b2 => ?_) (fun b2 => ?_)
  · have zb2 : p0.toInt < 1 := z_lt b2
    exact vx_throwS (names := ["java/lang/RuntimeException", "java/lang/Exception"]) (is := 166) (ik := 118) (ic := 122) hx hb hst hown (by decide) (by decide) (ow (k := 0) rfl) (ow (k := 1) rfl) hp3 (vx_hat (B := [Cond.declares (Bundle.initS "java/lang/RuntimeException"), Cond.declares (Bundle.initS "java/lang/Exception"), Cond.declares (Bundle.initS "java/lang/Throwable"), Cond.castable "java/lang/IllegalArgumentException" "java/lang/IllegalArgumentException"]) (fun w h => hts w (mem_X11_pass_0 w h)) (nb_RX11_122) (vx_c (va_Nw.use rfl hp4) (vx_c (va_Nw.use rfl hp5) (vx_c (va_Nw.use rfl hp6) (vx_c (va_Nw.use rfl hp2) vx_n))))) (go_RX11_118_122) hp0 hp1 hS (hl.1.trans hml.symm) dX11_pass_11 dX11_pass_14 dX11_pass_15 dX11_pass_17 dX11_pass_20 (fun x9 h9 => (hnt x9 h9).elim) (Nat.le_of_ble_eq_true rfl) (Nat.le_of_ble_eq_true rfl) (Nat.le_of_ble_eq_true rfl) (Nat.le_of_ble_eq_true rfl) hlocks (fun _ t ha hz9 hk9 => ⟨(), trivial, Or.inl ⟨rfl, (show kf_pass p0 = 1 by unfold kf_pass; first | rfl | (split <;> first | rfl | (exfalso; omega)))⟩, Nat.le_trans hS.1 hz9, fun q h1 h2 => (hk9 q (Nat.lt_of_lt_of_le h1 hS.1)).trans (hS.2.1 q h1 h2)⟩) hS.2.2 (Nat.le_of_ble_eq_true rfl) (Nat.le_of_ble_eq_true rfl)
  · refine lv_iload_n hx hb dX11_pass_5 rfl (lv_at hl 1 rfl) ?_
    refine lv_bipush (v := 7) hx hb dX11_pass_6 (by decide) ?_
    refine lv_icmp_le (tgt := 21) hx hb dX11_pass_8 (by decide) (fun b8 => ?_) (fun b8 => ?_)
    · refine lv_aload_n hx hb dX11_pass_21 rfl (lv_at hl 0 rfl) ?_
      refine va_get (D := (dC, dI)) (ci := 11) (v := .int (-1)) (C := RX11) (T := TX11) (N := 17) hx hb hts mem_X11_pass_1 hown hK hP 0 rfl rfl 2 (by decide) (ow (k := 2) rfl) (fun _ h9 => h9) rfl dX11_pass_22 ?_
      refine lv_iconst (v := 1) hx hb dX11_pass_25 (by decide) ?_
      refine lv_icmp_eq (tgt := 39) hx hb dX11_pass_26 (by decide) (fun h9 => absurd h9 (by decide)) (fun _ => ?_)
      have zb2 : 1 ≤ p0.toInt := z_nlt b2
      have zb8 : p0.toInt ≤ 7 := z_le b8
      exact vx_throwS (names := ["java/lang/RuntimeException", "java/lang/Exception"]) (is := 168) (ik := 134) (ic := 138) hx hb hst hown (by decide) (by decide) (ow (k := 3) rfl) (ow (k := 4) rfl) hp8 (vx_hat (B := [Cond.declares (Bundle.initS "java/lang/RuntimeException"), Cond.declares (Bundle.initS "java/lang/Exception"), Cond.declares (Bundle.initS "java/lang/Throwable"), Cond.castable "java/lang/IllegalStateException" "java/lang/IllegalStateException"]) (fun w h => hts w (mem_X11_pass_2 w h)) (nb_RX11_138) (vx_c (va_Nw.use rfl hp4) (vx_c (va_Nw.use rfl hp5) (vx_c (va_Nw.use rfl hp6) (vx_c (va_Nw.use rfl hp7) vx_n))))) (go_RX11_134_138) hp0 hp1 hS (hl.1.trans hml.symm) dX11_pass_29 dX11_pass_32 dX11_pass_33 dX11_pass_35 dX11_pass_38 (fun x9 h9 => (hnt x9 h9).elim) (Nat.le_of_ble_eq_true rfl) (Nat.le_of_ble_eq_true rfl) (Nat.le_of_ble_eq_true rfl) (Nat.le_of_ble_eq_true rfl) hlocks (fun _ t ha hz9 hk9 => ⟨(), trivial, Or.inr ⟨rfl, (show kf_pass p0 = 2 by unfold kf_pass; first | rfl | (split <;> first | rfl | (exfalso; omega)))⟩, Nat.le_trans hS.1 hz9, fun q h1 h2 => (hk9 q (Nat.lt_of_lt_of_le h1 hS.1)).trans (hS.2.1 q h1 h2)⟩) hS.2.2 (Nat.le_of_ble_eq_true rfl) (Nat.le_of_ble_eq_true rfl)
    · have zb2 : 1 ≤ p0.toInt := z_nlt b2
      have zb8 : 7 < p0.toInt := z_nle b8
      exact vx_throwS (names := ["java/lang/RuntimeException", "java/lang/Exception"]) (is := 166) (ik := 118) (ic := 122) hx hb hst hown (by decide) (by decide) (ow (k := 0) rfl) (ow (k := 1) rfl) hp3 (vx_hat (B := [Cond.declares (Bundle.initS "java/lang/RuntimeException"), Cond.declares (Bundle.initS "java/lang/Exception"), Cond.declares (Bundle.initS "java/lang/Throwable"), Cond.castable "java/lang/IllegalArgumentException" "java/lang/IllegalArgumentException"]) (fun w h => hts w (mem_X11_pass_0 w h)) (nb_RX11_122) (vx_c (va_Nw.use rfl hp4) (vx_c (va_Nw.use rfl hp5) (vx_c (va_Nw.use rfl hp6) (vx_c (va_Nw.use rfl hp2) vx_n))))) (go_RX11_118_122) hp0 hp1 hS (hl.1.trans hml.symm) dX11_pass_11 dX11_pass_14 dX11_pass_15 dX11_pass_17 dX11_pass_20 (fun x9 h9 => (hnt x9 h9).elim) (Nat.le_of_ble_eq_true rfl) (Nat.le_of_ble_eq_true rfl) (Nat.le_of_ble_eq_true rfl) (Nat.le_of_ble_eq_true rfl) hlocks (fun _ t ha hz9 hk9 => ⟨(), trivial, Or.inl ⟨rfl, (show kf_pass p0 = 1 by unfold kf_pass; first | rfl | (split <;> first | rfl | (exfalso; omega)))⟩, Nat.le_trans hS.1 hz9, fun q h1 h2 => (hk9 q (Nat.lt_of_lt_of_le h1 hS.1)).trans (hS.2.1 q h1 h2)⟩) hS.2.2 (Nat.le_of_ble_eq_true rfl) (Nat.le_of_ble_eq_true rfl)
theorem dX11_plain_0 : decode cX11_plain 0 = .ok (.aload_n 0, 1) := by decide +kernel
theorem dX11_plain_1 : decode cX11_plain 1 = .ok (.getfield 17, 3) := by decide +kernel
theorem dX11_plain_4 : decode cX11_plain 4 = .ok (.iconst 1, 1) := by decide +kernel
theorem dX11_plain_5 : decode cX11_plain 5 = .ok (.if_icmp .eq 21, 3) := by decide +kernel
theorem dX11_plain_8 : decode cX11_plain 8 = .ok (.aload_n 0, 1) := by decide +kernel
theorem dX11_plain_9 : decode cX11_plain 9 = .ok (.getfield 17, 3) := by decide +kernel
theorem dX11_plain_12 : decode cX11_plain 12 = .ok (.iconst 2, 1) := by decide +kernel
theorem dX11_plain_13 : decode cX11_plain 13 = .ok (.if_icmp .eq 13, 3) := by decide +kernel
theorem dX11_plain_16 : decode cX11_plain 16 = .ok (.new 134, 3) := by decide +kernel
theorem dX11_plain_19 : decode cX11_plain 19 = .ok (.dup, 1) := by decide +kernel
theorem dX11_plain_20 : decode cX11_plain 20 = .ok (.ldc 195, 2) := by decide +kernel
theorem dX11_plain_22 : decode cX11_plain 22 = .ok (.invokespecial 138, 3) := by decide +kernel
theorem dX11_plain_25 : decode cX11_plain 25 = .ok (.athrow, 1) := by decide +kernel
def o_X11_plain : List Cond := [.fieldLink RX11 17 "SsaForge" "form" "I", .classLink RX11 134 "java/lang/IllegalStateException", .initialized "java/lang/IllegalStateException"]
def v_X11_plain : List Cond := .code yX11_plain cX11_plain 2 (some .int) :: (o_X11_plain ++ (wsX110 ++ (((vx_atS RX11 138 "java/lang/IllegalStateException" ["java/lang/RuntimeException", "java/lang/Exception"]).filter goodWord) ++ [])))
theorem mow_X11_plain : ∀ w ∈ o_X11_plain, w ∈ v_X11_plain := fun _ h => List.mem_cons_of_mem _ (List.mem_append_left _ h)
theorem mem_X11_plain_0 : ∀ w ∈ wsX110, w ∈ v_X11_plain := fun _ h => List.mem_cons_of_mem _ (List.mem_append_right _ (List.mem_append_left _ h))
theorem mem_X11_plain_1 : ∀ w ∈ ((vx_atS RX11 138 "java/lang/IllegalStateException" ["java/lang/RuntimeException", "java/lang/Exception"]).filter goodWord), w ∈ v_X11_plain := fun _ h => List.mem_cons_of_mem _ (List.mem_append_right _ (List.mem_append_right _ (List.mem_append_left _ h)))
set_option maxRecDepth 20000 in
theorem gw_X11_plain : v_X11_plain.all goodWord = true := by decide +kernel
set_option maxHeartbeats 4000000 in
set_option maxRecDepth 100000 in
theorem c_X11_plain (l : Launch) (dC : Nat → ClassId) (dI : Nat → Nat → Nat) (hst : l.stackTraces = false) (h0 : Nat) (q_1 : Nat) (q_3 : Nat) (q_21 : Nat) (q_39 : Nat) (q_52 : Nat) (q_60 : Nat) (q_66 : Nat) (q_73 : Nat) (q_79 : Nat) (q_84 : Nat) (q_92 : Nat) (q_102 : Nat) (q_107 : Nat) (sz : Nat) (sa_RX11_195 : Nat) : vx_Met l yX11_plain v_X11_plain ({ frames := 6, cells := 1, slots := 6, locals := 82 }) (va_Pc [.ref h0] (fun U => U.heap.size = sz ∧ va_P (dC, dI) vwP [(h0, .inr (11, [.ref q_1, .int 0, .int (-1), .ref q_3, .ref q_21, .ref q_39, .int 0, .ref q_52, .int 0, .ref q_60, .ref q_66, .ref q_73, .ref q_79, .ref q_84, .ref q_92, .ref q_102, .ref q_107]))] U.heap ∧ va_K (dC, dI) vwP [] U ∧ va_D (fun _ => True) [(h0, .inr (11, [.ref q_1, .int 0, .int (-1), .ref q_3, .ref q_21, .ref q_39, .int 0, .ref q_52, .int 0, .ref q_60, .ref q_66, .ref q_73, .ref q_79, .ref q_84, .ref q_92, .ref q_102, .ref q_107]))] ∧ vx_Zq Bundle.tN "UNASSIGNED_STACK" Bundle.steD (va_A [(h0, .inr (11, [.ref q_1, .int 0, .int (-1), .ref q_3, .ref q_21, .ref q_39, .int 0, .ref q_52, .int 0, .ref q_60, .ref q_66, .ref q_73, .ref q_79, .ref q_84, .ref q_92, .ref q_102, .ref q_107]))] sz) U U.heap ∧ vx_Zq Bundle.tN "SUPPRESSED_SENTINEL" Bundle.listD (va_A [(h0, .inr (11, [.ref q_1, .int 0, .int (-1), .ref q_3, .ref q_21, .ref q_39, .int 0, .ref q_52, .int 0, .ref q_60, .ref q_66, .ref q_73, .ref q_79, .ref q_84, .ref q_92, .ref q_102, .ref q_107]))] sz) U U.heap ∧ va_Nw (.castable "java/lang/IllegalStateException" "java/lang/IllegalStateException") U ∧ vk_R RX11 195 "no program that is ssa or coloured" sa_RX11_195 U ∧ va_Nw (.declares (Bundle.initS "java/lang/RuntimeException")) U ∧ va_Nw (.declares (Bundle.initS "java/lang/Exception")) U ∧ va_Nw (.declares (Bundle.initS "java/lang/Throwable")) U)) (va_Qi (fun (r : Int32) (_ : Unit) => kf_plain = 0 ∧ r = vf_plain) (fun (_ : Unit) (t : State) => va_P (dC, dI) vwP [] t.heap ∧ va_K (dC, dI) vwP [] t ∧ va_D (va_A [(h0, .inr (11, [.ref q_1, .int 0, .int (-1), .ref q_3, .ref q_21, .ref q_39, .int 0, .ref q_52, .int 0, .ref q_60, .ref q_66, .ref q_73, .ref q_79, .ref q_84, .ref q_92, .ref q_102, .ref q_107]))] sz) []) (va_A [(h0, .inr (11, [.ref q_1, .int 0, .int (-1), .ref q_3, .ref q_21, .ref q_39, .int 0, .ref q_52, .int 0, .ref q_60, .ref q_66, .ref q_73, .ref q_79, .ref q_84, .ref q_92, .ref q_102, .ref q_107]))] sz)) (vx_X (fun _ : Unit => True) (fun E (q9 : Addr) (_ : Unit) (t9 : State) => (E = "java/lang/IllegalStateException" ∧ kf_plain = 1)) (va_A [(h0, .inr (11, [.ref q_1, .int 0, .int (-1), .ref q_3, .ref q_21, .ref q_39, .int 0, .ref q_52, .int 0, .ref q_60, .ref q_66, .ref q_73, .ref q_79, .ref q_84, .ref q_92, .ref q_102, .ref q_107]))] sz)) 1 6 (va_A [(h0, .inr (11, [.ref q_1, .int 0, .int (-1), .ref q_3, .ref q_21, .ref q_39, .int 0, .ref q_52, .int 0, .ref q_60, .ref q_66, .ref q_73, .ref q_79, .ref q_84, .ref q_92, .ref q_102, .ref q_107]))] sz) := by
  refine vx_ofW (cc := cX11_plain) (maxL := 2) (ret := (some .int)) (by decide) rfl ?_
  intro p e s m args below meth c s₁ B hml hnt hv
  obtain ⟨rfl, hsz, hP, hK, hD0, hp0, hp1, hp2, hp3, hp4, hp5, hp6⟩ := hv
  have hx := B.exec
  have hb := B.bytes
  have hr := B.returns
  have hts := atoms_spec (ws := v_X11_plain) B.pre
  have hown : s.vm.findClass RX11 = some m.cls := findClass_of_methodNamed B.named
  have hlocks := B.notSynchronized
  have ow : ∀ {k : Nat} {w : Cond}, o_X11_plain[k]? = some w → w.before ([.ref h0] : List Value).toArray s = true := fun h => hts _ (mow_X11_plain _ (List.mem_of_getElem? h))
  subst hsz
  have hD := hD0.self (sz := s.heap.size)
  generalize hAe : va_A [(h0, .inr (11, [.ref q_1, .int 0, .int (-1), .ref q_3, .ref q_21, .ref q_39, .int 0, .ref q_52, .int 0, .ref q_60, .ref q_66, .ref q_73, .ref q_79, .ref q_84, .ref q_92, .ref q_102, .ref q_107]))] s.heap.size = A at hD hp0 hp1 ⊢
  have hA : ∀ q : Nat, s.heap.size ≤ q → A q := fun q h => by rw [← hAe]; exact Or.inr h
  have hS : va_S A s.heap s.heap [] := va_S.rf
  have hP : va_P (dC, dI) vwP [(h0, .inr (11, [.ref q_1, .int 0, .int (-1), .ref q_3, .ref q_21, .ref q_39, .int 0, .ref q_52, .int 0, .ref q_60, .ref q_66, .ref q_73, .ref q_79, .ref q_84, .ref q_92, .ref q_102, .ref q_107]))] s.heap := hP
  have hl := lv_entry ([.ref h0]) (n := 2) (Nat.le_of_ble_eq_true rfl)
  rw [lg_entry_eq]
  generalize (lg_sl ([.ref h0]) ++ List.replicate (2 - (lg_sl ([.ref h0])).length) Slot.unset).toArray = ls at hl ⊢
  have hl : lv_has ls 2 [(0, .ref h0)] := hl
  obtain ⟨H, hH⟩ : ∃ H, H = s.heap := ⟨_, rfl⟩
  rw [← hH] at hP
  have hS : va_S A s.heap H [] := by rw [hH]; exact hS
  rw [← hH]
  refine lv_aload_n hx hb dX11_plain_0 rfl (lv_at hl 0 rfl) ?_
  refine va_get (D := (dC, dI)) (ci := 11) (v := .int (-1)) (C := RX11) (T := TX11) (N := 17) hx hb hts mem_X11_plain_0 hown hK hP 0 rfl rfl 2 (by decide) (ow (k := 0) rfl) (fun _ h9 => h9) rfl dX11_plain_1 ?_
  refine lv_iconst (v := 1) hx hb dX11_plain_4 (by decide) ?_
  refine lv_icmp_eq (tgt := 26) hx hb dX11_plain_5 (by decide) (fun h9 => absurd h9 (by decide)) (fun _ => ?_)
  refine lv_aload_n hx hb dX11_plain_8 rfl (lv_at hl 0 rfl) ?_
  refine va_get (D := (dC, dI)) (ci := 11) (v := .int (-1)) (C := RX11) (T := TX11) (N := 17) hx hb hts mem_X11_plain_0 hown hK hP 0 rfl rfl 2 (by decide) (ow (k := 0) rfl) (fun _ h9 => h9) rfl dX11_plain_9 ?_
  refine lv_iconst (v := 2) hx hb dX11_plain_12 (by decide) ?_
  refine lv_icmp_eq (tgt := 26) hx hb dX11_plain_13 (by decide) (fun h9 => absurd h9 (by decide)) (fun _ => ?_)
  exact vx_throwS (names := ["java/lang/RuntimeException", "java/lang/Exception"]) (is := 195) (ik := 134) (ic := 138) hx hb hst hown (by decide) (by decide) (ow (k := 1) rfl) (ow (k := 2) rfl) hp3 (vx_hat (B := [Cond.declares (Bundle.initS "java/lang/RuntimeException"), Cond.declares (Bundle.initS "java/lang/Exception"), Cond.declares (Bundle.initS "java/lang/Throwable"), Cond.castable "java/lang/IllegalStateException" "java/lang/IllegalStateException"]) (fun w h => hts w (mem_X11_plain_1 w h)) (nb_RX11_138) (vx_c (va_Nw.use rfl hp4) (vx_c (va_Nw.use rfl hp5) (vx_c (va_Nw.use rfl hp6) (vx_c (va_Nw.use rfl hp2) vx_n))))) (go_RX11_134_138) hp0 hp1 hS (hl.1.trans hml.symm) dX11_plain_16 dX11_plain_19 dX11_plain_20 dX11_plain_22 dX11_plain_25 (fun x9 h9 => (hnt x9 h9).elim) (Nat.le_of_ble_eq_true rfl) (Nat.le_of_ble_eq_true rfl) (Nat.le_of_ble_eq_true rfl) (Nat.le_of_ble_eq_true rfl) hlocks (fun _ t ha hz9 hk9 => ⟨(), trivial, ⟨rfl, (show kf_plain = 1 by unfold kf_plain; first | rfl | (split <;> first | rfl | (exfalso; omega)))⟩, Nat.le_trans hS.1 hz9, fun q h1 h2 => (hk9 q (Nat.lt_of_lt_of_le h1 hS.1)).trans (hS.2.1 q h1 h2)⟩) hS.2.2 (Nat.le_of_ble_eq_true rfl) (Nat.le_of_ble_eq_true rfl)
theorem dX11_run_0 : decode cX11_run 0 = .ok (.iload_n 1, 1) := by decide +kernel
theorem dX11_run_1 : decode cX11_run 1 = .ok (.iconst 1, 1) := by decide +kernel
theorem dX11_run_2 : decode cX11_run 2 = .ok (.if_icmp .lt 9, 3) := by decide +kernel
theorem dX11_run_11 : decode cX11_run 11 = .ok (.new 118, 3) := by decide +kernel
theorem dX11_run_14 : decode cX11_run 14 = .ok (.dup, 1) := by decide +kernel
theorem dX11_run_15 : decode cX11_run 15 = .ok (.ldc 204, 2) := by decide +kernel
theorem dX11_run_17 : decode cX11_run 17 = .ok (.invokespecial 122, 3) := by decide +kernel
theorem dX11_run_20 : decode cX11_run 20 = .ok (.athrow, 1) := by decide +kernel
theorem dX11_run_5 : decode cX11_run 5 = .ok (.iload_n 1, 1) := by decide +kernel
theorem dX11_run_6 : decode cX11_run 6 = .ok (.ldc 203, 2) := by decide +kernel
theorem dX11_run_8 : decode cX11_run 8 = .ok (.if_icmp .le 13, 3) := by decide +kernel
theorem dX11_run_21 : decode cX11_run 21 = .ok (.aload_n 0, 1) := by decide +kernel
theorem dX11_run_22 : decode cX11_run 22 = .ok (.getfield 17, 3) := by decide +kernel
theorem dX11_run_25 : decode cX11_run 25 = .ok (.iconst (-1), 1) := by decide +kernel
theorem dX11_run_26 : decode cX11_run 26 = .ok (.if_icmp .ne 13, 3) := by decide +kernel
theorem dX11_run_29 : decode cX11_run 29 = .ok (.new 134, 3) := by decide +kernel
theorem dX11_run_32 : decode cX11_run 32 = .ok (.dup, 1) := by decide +kernel
theorem dX11_run_33 : decode cX11_run 33 = .ok (.ldc 206, 2) := by decide +kernel
theorem dX11_run_35 : decode cX11_run 35 = .ok (.invokespecial 138, 3) := by decide +kernel
theorem dX11_run_38 : decode cX11_run 38 = .ok (.athrow, 1) := by decide +kernel
def o_X11_run : List Cond := [.classLink RX11 118 "java/lang/IllegalArgumentException", .initialized "java/lang/IllegalArgumentException", .constant RX11 203 (100000), .fieldLink RX11 17 "SsaForge" "form" "I", .classLink RX11 134 "java/lang/IllegalStateException", .initialized "java/lang/IllegalStateException"]
def v_X11_run : List Cond := .code yX11_run cX11_run 2 (some .int) :: (o_X11_run ++ (((vx_atS RX11 122 "java/lang/IllegalArgumentException" ["java/lang/RuntimeException", "java/lang/Exception"]).filter goodWord) ++ (wsX110 ++ (((vx_atS RX11 138 "java/lang/IllegalStateException" ["java/lang/RuntimeException", "java/lang/Exception"]).filter goodWord) ++ []))))
theorem mow_X11_run : ∀ w ∈ o_X11_run, w ∈ v_X11_run := fun _ h => List.mem_cons_of_mem _ (List.mem_append_left _ h)
theorem mem_X11_run_0 : ∀ w ∈ ((vx_atS RX11 122 "java/lang/IllegalArgumentException" ["java/lang/RuntimeException", "java/lang/Exception"]).filter goodWord), w ∈ v_X11_run := fun _ h => List.mem_cons_of_mem _ (List.mem_append_right _ (List.mem_append_left _ h))
theorem mem_X11_run_1 : ∀ w ∈ wsX110, w ∈ v_X11_run := fun _ h => List.mem_cons_of_mem _ (List.mem_append_right _ (List.mem_append_right _ (List.mem_append_left _ h)))
theorem mem_X11_run_2 : ∀ w ∈ ((vx_atS RX11 138 "java/lang/IllegalStateException" ["java/lang/RuntimeException", "java/lang/Exception"]).filter goodWord), w ∈ v_X11_run := fun _ h => List.mem_cons_of_mem _ (List.mem_append_right _ (List.mem_append_right _ (List.mem_append_right _ (List.mem_append_left _ h))))
set_option maxRecDepth 20000 in
theorem gw_X11_run : v_X11_run.all goodWord = true := by decide +kernel
set_option maxHeartbeats 4000000 in
set_option maxRecDepth 100000 in
theorem c_X11_run (l : Launch) (dC : Nat → ClassId) (dI : Nat → Nat → Nat) (hst : l.stackTraces = false) (h0 : Nat) (q_1 : Nat) (q_3 : Nat) (q_21 : Nat) (q_39 : Nat) (q_52 : Nat) (q_60 : Nat) (q_66 : Nat) (q_73 : Nat) (q_79 : Nat) (q_84 : Nat) (q_92 : Nat) (q_102 : Nat) (q_107 : Nat) (p0 : Int32) (sz : Nat) (sa_RX11_204 : Nat) (sa_RX11_206 : Nat) : vx_Met l yX11_run v_X11_run ({ frames := 6, cells := 1, slots := 6, locals := 82 }) (va_Pc [.ref h0, .int p0] (fun U => U.heap.size = sz ∧ va_P (dC, dI) vwP [(h0, .inr (11, [.ref q_1, .int 0, .int (-1), .ref q_3, .ref q_21, .ref q_39, .int 0, .ref q_52, .int 0, .ref q_60, .ref q_66, .ref q_73, .ref q_79, .ref q_84, .ref q_92, .ref q_102, .ref q_107]))] U.heap ∧ va_K (dC, dI) vwP [] U ∧ va_D (fun _ => True) [(h0, .inr (11, [.ref q_1, .int 0, .int (-1), .ref q_3, .ref q_21, .ref q_39, .int 0, .ref q_52, .int 0, .ref q_60, .ref q_66, .ref q_73, .ref q_79, .ref q_84, .ref q_92, .ref q_102, .ref q_107]))] ∧ vx_Zq Bundle.tN "UNASSIGNED_STACK" Bundle.steD (va_A [(h0, .inr (11, [.ref q_1, .int 0, .int (-1), .ref q_3, .ref q_21, .ref q_39, .int 0, .ref q_52, .int 0, .ref q_60, .ref q_66, .ref q_73, .ref q_79, .ref q_84, .ref q_92, .ref q_102, .ref q_107]))] sz) U U.heap ∧ vx_Zq Bundle.tN "SUPPRESSED_SENTINEL" Bundle.listD (va_A [(h0, .inr (11, [.ref q_1, .int 0, .int (-1), .ref q_3, .ref q_21, .ref q_39, .int 0, .ref q_52, .int 0, .ref q_60, .ref q_66, .ref q_73, .ref q_79, .ref q_84, .ref q_92, .ref q_102, .ref q_107]))] sz) U U.heap ∧ va_Nw (.castable "java/lang/IllegalArgumentException" "java/lang/IllegalArgumentException") U ∧ vk_R RX11 204 "fuel is not 1 to 100000" sa_RX11_204 U ∧ va_Nw (.declares (Bundle.initS "java/lang/RuntimeException")) U ∧ va_Nw (.declares (Bundle.initS "java/lang/Exception")) U ∧ va_Nw (.declares (Bundle.initS "java/lang/Throwable")) U ∧ va_Nw (.castable "java/lang/IllegalStateException" "java/lang/IllegalStateException") U ∧ vk_R RX11 206 "no program" sa_RX11_206 U)) (va_Qi (fun (r : Int32) (_ : Unit) => kf_run p0 = 0 ∧ r = vf_run) (fun (_ : Unit) (t : State) => va_P (dC, dI) vwP [] t.heap ∧ va_K (dC, dI) vwP [] t ∧ va_D (va_A [(h0, .inr (11, [.ref q_1, .int 0, .int (-1), .ref q_3, .ref q_21, .ref q_39, .int 0, .ref q_52, .int 0, .ref q_60, .ref q_66, .ref q_73, .ref q_79, .ref q_84, .ref q_92, .ref q_102, .ref q_107]))] sz) []) (va_A [(h0, .inr (11, [.ref q_1, .int 0, .int (-1), .ref q_3, .ref q_21, .ref q_39, .int 0, .ref q_52, .int 0, .ref q_60, .ref q_66, .ref q_73, .ref q_79, .ref q_84, .ref q_92, .ref q_102, .ref q_107]))] sz)) (vx_X (fun _ : Unit => True) (fun E (q9 : Addr) (_ : Unit) (t9 : State) => (E = "java/lang/IllegalArgumentException" ∧ kf_run p0 = 1) ∨ (E = "java/lang/IllegalStateException" ∧ kf_run p0 = 2)) (va_A [(h0, .inr (11, [.ref q_1, .int 0, .int (-1), .ref q_3, .ref q_21, .ref q_39, .int 0, .ref q_52, .int 0, .ref q_60, .ref q_66, .ref q_73, .ref q_79, .ref q_84, .ref q_92, .ref q_102, .ref q_107]))] sz)) 1 6 (va_A [(h0, .inr (11, [.ref q_1, .int 0, .int (-1), .ref q_3, .ref q_21, .ref q_39, .int 0, .ref q_52, .int 0, .ref q_60, .ref q_66, .ref q_73, .ref q_79, .ref q_84, .ref q_92, .ref q_102, .ref q_107]))] sz) := by
  refine vx_ofW (cc := cX11_run) (maxL := 2) (ret := (some .int)) (by decide) rfl ?_
  intro p e s m args below meth c s₁ B hml hnt hv
  obtain ⟨rfl, hsz, hP, hK, hD0, hp0, hp1, hp2, hp3, hp4, hp5, hp6, hp7, hp8⟩ := hv
  have hx := B.exec
  have hb := B.bytes
  have hr := B.returns
  have hts := atoms_spec (ws := v_X11_run) B.pre
  have hown : s.vm.findClass RX11 = some m.cls := findClass_of_methodNamed B.named
  have hlocks := B.notSynchronized
  have ow : ∀ {k : Nat} {w : Cond}, o_X11_run[k]? = some w → w.before ([.ref h0, .int p0] : List Value).toArray s = true := fun h => hts _ (mow_X11_run _ (List.mem_of_getElem? h))
  subst hsz
  have hD := hD0.self (sz := s.heap.size)
  generalize hAe : va_A [(h0, .inr (11, [.ref q_1, .int 0, .int (-1), .ref q_3, .ref q_21, .ref q_39, .int 0, .ref q_52, .int 0, .ref q_60, .ref q_66, .ref q_73, .ref q_79, .ref q_84, .ref q_92, .ref q_102, .ref q_107]))] s.heap.size = A at hD hp0 hp1 ⊢
  have hA : ∀ q : Nat, s.heap.size ≤ q → A q := fun q h => by rw [← hAe]; exact Or.inr h
  have hS : va_S A s.heap s.heap [] := va_S.rf
  have hP : va_P (dC, dI) vwP [(h0, .inr (11, [.ref q_1, .int 0, .int (-1), .ref q_3, .ref q_21, .ref q_39, .int 0, .ref q_52, .int 0, .ref q_60, .ref q_66, .ref q_73, .ref q_79, .ref q_84, .ref q_92, .ref q_102, .ref q_107]))] s.heap := hP
  have hl := lv_entry ([.ref h0, .int p0]) (n := 2) (Nat.le_of_ble_eq_true rfl)
  rw [lg_entry_eq]
  generalize (lg_sl ([.ref h0, .int p0]) ++ List.replicate (2 - (lg_sl ([.ref h0, .int p0])).length) Slot.unset).toArray = ls at hl ⊢
  have hl : lv_has ls 2 [(0, .ref h0), (1, .int p0)] := hl
  obtain ⟨H, hH⟩ : ∃ H, H = s.heap := ⟨_, rfl⟩
  rw [← hH] at hP
  have hS : va_S A s.heap H [] := by rw [hH]; exact hS
  rw [← hH]
  refine lv_iload_n hx hb dX11_run_0 rfl (lv_at hl 1 rfl) ?_
  refine lv_iconst (v := 1) hx hb dX11_run_1 (by decide) ?_
  refine lv_icmp_lt (tgt := 11) hx hb dX11_run_2 (by decide) (fun b2 => ?_) (fun b2 => ?_)
  · have zb2 : p0.toInt < 1 := z_lt b2
    exact vx_throwS (names := ["java/lang/RuntimeException", "java/lang/Exception"]) (is := 204) (ik := 118) (ic := 122) hx hb hst hown (by decide) (by decide) (ow (k := 0) rfl) (ow (k := 1) rfl) hp3 (vx_hat (B := [Cond.declares (Bundle.initS "java/lang/RuntimeException"), Cond.declares (Bundle.initS "java/lang/Exception"), Cond.declares (Bundle.initS "java/lang/Throwable"), Cond.castable "java/lang/IllegalArgumentException" "java/lang/IllegalArgumentException"]) (fun w h => hts w (mem_X11_run_0 w h)) (nb_RX11_122) (vx_c (va_Nw.use rfl hp4) (vx_c (va_Nw.use rfl hp5) (vx_c (va_Nw.use rfl hp6) (vx_c (va_Nw.use rfl hp2) vx_n))))) (go_RX11_118_122) hp0 hp1 hS (hl.1.trans hml.symm) dX11_run_11 dX11_run_14 dX11_run_15 dX11_run_17 dX11_run_20 (fun x9 h9 => (hnt x9 h9).elim) (Nat.le_of_ble_eq_true rfl) (Nat.le_of_ble_eq_true rfl) (Nat.le_of_ble_eq_true rfl) (Nat.le_of_ble_eq_true rfl) hlocks (fun _ t ha hz9 hk9 => ⟨(), trivial, Or.inl ⟨rfl, (show kf_run p0 = 1 by unfold kf_run; first | rfl | (split <;> first | rfl | (exfalso; omega)))⟩, Nat.le_trans hS.1 hz9, fun q h1 h2 => (hk9 q (Nat.lt_of_lt_of_le h1 hS.1)).trans (hS.2.1 q h1 h2)⟩) hS.2.2 (Nat.le_of_ble_eq_true rfl) (Nat.le_of_ble_eq_true rfl)
  · refine lv_iload_n hx hb dX11_run_5 rfl (lv_at hl 1 rfl) ?_
    refine lv_ldc (v := 100000) hx hb hown (ow (k := 2) rfl) dX11_run_6 ?_
    refine lv_icmp_le (tgt := 21) hx hb dX11_run_8 (by decide) (fun b8 => ?_) (fun b8 => ?_)
    · refine lv_aload_n hx hb dX11_run_21 rfl (lv_at hl 0 rfl) ?_
      refine va_get (D := (dC, dI)) (ci := 11) (v := .int (-1)) (C := RX11) (T := TX11) (N := 17) hx hb hts mem_X11_run_1 hown hK hP 0 rfl rfl 2 (by decide) (ow (k := 3) rfl) (fun _ h9 => h9) rfl dX11_run_22 ?_
      refine lv_iconst (v := (-1)) hx hb dX11_run_25 (by decide) ?_
      refine lv_icmp_ne (tgt := 39) hx hb dX11_run_26 (by decide) (fun h9 => absurd h9 (by decide)) (fun _ => ?_)
      have zb2 : 1 ≤ p0.toInt := z_nlt b2
      have zb8 : p0.toInt ≤ 100000 := z_le b8
      exact vx_throwS (names := ["java/lang/RuntimeException", "java/lang/Exception"]) (is := 206) (ik := 134) (ic := 138) hx hb hst hown (by decide) (by decide) (ow (k := 4) rfl) (ow (k := 5) rfl) hp8 (vx_hat (B := [Cond.declares (Bundle.initS "java/lang/RuntimeException"), Cond.declares (Bundle.initS "java/lang/Exception"), Cond.declares (Bundle.initS "java/lang/Throwable"), Cond.castable "java/lang/IllegalStateException" "java/lang/IllegalStateException"]) (fun w h => hts w (mem_X11_run_2 w h)) (nb_RX11_138) (vx_c (va_Nw.use rfl hp4) (vx_c (va_Nw.use rfl hp5) (vx_c (va_Nw.use rfl hp6) (vx_c (va_Nw.use rfl hp7) vx_n))))) (go_RX11_134_138) hp0 hp1 hS (hl.1.trans hml.symm) dX11_run_29 dX11_run_32 dX11_run_33 dX11_run_35 dX11_run_38 (fun x9 h9 => (hnt x9 h9).elim) (Nat.le_of_ble_eq_true rfl) (Nat.le_of_ble_eq_true rfl) (Nat.le_of_ble_eq_true rfl) (Nat.le_of_ble_eq_true rfl) hlocks (fun _ t ha hz9 hk9 => ⟨(), trivial, Or.inr ⟨rfl, (show kf_run p0 = 2 by unfold kf_run; first | rfl | (split <;> first | rfl | (exfalso; omega)))⟩, Nat.le_trans hS.1 hz9, fun q h1 h2 => (hk9 q (Nat.lt_of_lt_of_le h1 hS.1)).trans (hS.2.1 q h1 h2)⟩) hS.2.2 (Nat.le_of_ble_eq_true rfl) (Nat.le_of_ble_eq_true rfl)
    · have zb2 : 1 ≤ p0.toInt := z_nlt b2
      have zb8 : 100000 < p0.toInt := z_nle b8
      exact vx_throwS (names := ["java/lang/RuntimeException", "java/lang/Exception"]) (is := 204) (ik := 118) (ic := 122) hx hb hst hown (by decide) (by decide) (ow (k := 0) rfl) (ow (k := 1) rfl) hp3 (vx_hat (B := [Cond.declares (Bundle.initS "java/lang/RuntimeException"), Cond.declares (Bundle.initS "java/lang/Exception"), Cond.declares (Bundle.initS "java/lang/Throwable"), Cond.castable "java/lang/IllegalArgumentException" "java/lang/IllegalArgumentException"]) (fun w h => hts w (mem_X11_run_0 w h)) (nb_RX11_122) (vx_c (va_Nw.use rfl hp4) (vx_c (va_Nw.use rfl hp5) (vx_c (va_Nw.use rfl hp6) (vx_c (va_Nw.use rfl hp2) vx_n))))) (go_RX11_118_122) hp0 hp1 hS (hl.1.trans hml.symm) dX11_run_11 dX11_run_14 dX11_run_15 dX11_run_17 dX11_run_20 (fun x9 h9 => (hnt x9 h9).elim) (Nat.le_of_ble_eq_true rfl) (Nat.le_of_ble_eq_true rfl) (Nat.le_of_ble_eq_true rfl) (Nat.le_of_ble_eq_true rfl) hlocks (fun _ t ha hz9 hk9 => ⟨(), trivial, Or.inl ⟨rfl, (show kf_run p0 = 1 by unfold kf_run; first | rfl | (split <;> first | rfl | (exfalso; omega)))⟩, Nat.le_trans hS.1 hz9, fun q h1 h2 => (hk9 q (Nat.lt_of_lt_of_le h1 hS.1)).trans (hS.2.1 q h1 h2)⟩) hS.2.2 (Nat.le_of_ble_eq_true rfl) (Nat.le_of_ble_eq_true rfl)
theorem dX11_list_0 : decode cX11_list 0 = .ok (.aload_n 0, 1) := by decide +kernel
theorem dX11_list_1 : decode cX11_list 1 = .ok (.getfield 17, 3) := by decide +kernel
theorem dX11_list_4 : decode cX11_list 4 = .ok (.iconst (-1), 1) := by decide +kernel
theorem dX11_list_5 : decode cX11_list 5 = .ok (.if_icmp .ne 13, 3) := by decide +kernel
theorem dX11_list_8 : decode cX11_list 8 = .ok (.new 134, 3) := by decide +kernel
theorem dX11_list_11 : decode cX11_list 11 = .ok (.dup, 1) := by decide +kernel
theorem dX11_list_12 : decode cX11_list 12 = .ok (.ldc 206, 2) := by decide +kernel
theorem dX11_list_14 : decode cX11_list 14 = .ok (.invokespecial 138, 3) := by decide +kernel
theorem dX11_list_17 : decode cX11_list 17 = .ok (.athrow, 1) := by decide +kernel
def o_X11_list : List Cond := [.fieldLink RX11 17 "SsaForge" "form" "I", .classLink RX11 134 "java/lang/IllegalStateException", .initialized "java/lang/IllegalStateException"]
def v_X11_list : List Cond := .code yX11_list cX11_list 1 (some .int) :: (o_X11_list ++ (wsX110 ++ (((vx_atS RX11 138 "java/lang/IllegalStateException" ["java/lang/RuntimeException", "java/lang/Exception"]).filter goodWord) ++ [])))
theorem mow_X11_list : ∀ w ∈ o_X11_list, w ∈ v_X11_list := fun _ h => List.mem_cons_of_mem _ (List.mem_append_left _ h)
theorem mem_X11_list_0 : ∀ w ∈ wsX110, w ∈ v_X11_list := fun _ h => List.mem_cons_of_mem _ (List.mem_append_right _ (List.mem_append_left _ h))
theorem mem_X11_list_1 : ∀ w ∈ ((vx_atS RX11 138 "java/lang/IllegalStateException" ["java/lang/RuntimeException", "java/lang/Exception"]).filter goodWord), w ∈ v_X11_list := fun _ h => List.mem_cons_of_mem _ (List.mem_append_right _ (List.mem_append_right _ (List.mem_append_left _ h)))
set_option maxRecDepth 20000 in
theorem gw_X11_list : v_X11_list.all goodWord = true := by decide +kernel
set_option maxHeartbeats 4000000 in
set_option maxRecDepth 100000 in
theorem c_X11_list (l : Launch) (dC : Nat → ClassId) (dI : Nat → Nat → Nat) (hst : l.stackTraces = false) (h0 : Nat) (q_1 : Nat) (q_3 : Nat) (q_21 : Nat) (q_39 : Nat) (q_52 : Nat) (q_60 : Nat) (q_66 : Nat) (q_73 : Nat) (q_79 : Nat) (q_84 : Nat) (q_92 : Nat) (q_102 : Nat) (q_107 : Nat) (sz : Nat) (sa_RX11_206 : Nat) : vx_Met l yX11_list v_X11_list ({ frames := 6, cells := 1, slots := 6, locals := 82 }) (va_Pc [.ref h0] (fun U => U.heap.size = sz ∧ va_P (dC, dI) vwP [(h0, .inr (11, [.ref q_1, .int 0, .int (-1), .ref q_3, .ref q_21, .ref q_39, .int 0, .ref q_52, .int 0, .ref q_60, .ref q_66, .ref q_73, .ref q_79, .ref q_84, .ref q_92, .ref q_102, .ref q_107]))] U.heap ∧ va_K (dC, dI) vwP [] U ∧ va_D (fun _ => True) [(h0, .inr (11, [.ref q_1, .int 0, .int (-1), .ref q_3, .ref q_21, .ref q_39, .int 0, .ref q_52, .int 0, .ref q_60, .ref q_66, .ref q_73, .ref q_79, .ref q_84, .ref q_92, .ref q_102, .ref q_107]))] ∧ vx_Zq Bundle.tN "UNASSIGNED_STACK" Bundle.steD (va_A [(h0, .inr (11, [.ref q_1, .int 0, .int (-1), .ref q_3, .ref q_21, .ref q_39, .int 0, .ref q_52, .int 0, .ref q_60, .ref q_66, .ref q_73, .ref q_79, .ref q_84, .ref q_92, .ref q_102, .ref q_107]))] sz) U U.heap ∧ vx_Zq Bundle.tN "SUPPRESSED_SENTINEL" Bundle.listD (va_A [(h0, .inr (11, [.ref q_1, .int 0, .int (-1), .ref q_3, .ref q_21, .ref q_39, .int 0, .ref q_52, .int 0, .ref q_60, .ref q_66, .ref q_73, .ref q_79, .ref q_84, .ref q_92, .ref q_102, .ref q_107]))] sz) U U.heap ∧ va_Nw (.castable "java/lang/IllegalStateException" "java/lang/IllegalStateException") U ∧ vk_R RX11 206 "no program" sa_RX11_206 U ∧ va_Nw (.declares (Bundle.initS "java/lang/RuntimeException")) U ∧ va_Nw (.declares (Bundle.initS "java/lang/Exception")) U ∧ va_Nw (.declares (Bundle.initS "java/lang/Throwable")) U)) (va_Qi (fun (r : Int32) (_ : Unit) => kf_list = 0 ∧ r = vf_list) (fun (_ : Unit) (t : State) => va_P (dC, dI) vwP [] t.heap ∧ va_K (dC, dI) vwP [] t ∧ va_D (va_A [(h0, .inr (11, [.ref q_1, .int 0, .int (-1), .ref q_3, .ref q_21, .ref q_39, .int 0, .ref q_52, .int 0, .ref q_60, .ref q_66, .ref q_73, .ref q_79, .ref q_84, .ref q_92, .ref q_102, .ref q_107]))] sz) []) (va_A [(h0, .inr (11, [.ref q_1, .int 0, .int (-1), .ref q_3, .ref q_21, .ref q_39, .int 0, .ref q_52, .int 0, .ref q_60, .ref q_66, .ref q_73, .ref q_79, .ref q_84, .ref q_92, .ref q_102, .ref q_107]))] sz)) (vx_X (fun _ : Unit => True) (fun E (q9 : Addr) (_ : Unit) (t9 : State) => (E = "java/lang/IllegalStateException" ∧ kf_list = 1)) (va_A [(h0, .inr (11, [.ref q_1, .int 0, .int (-1), .ref q_3, .ref q_21, .ref q_39, .int 0, .ref q_52, .int 0, .ref q_60, .ref q_66, .ref q_73, .ref q_79, .ref q_84, .ref q_92, .ref q_102, .ref q_107]))] sz)) 1 6 (va_A [(h0, .inr (11, [.ref q_1, .int 0, .int (-1), .ref q_3, .ref q_21, .ref q_39, .int 0, .ref q_52, .int 0, .ref q_60, .ref q_66, .ref q_73, .ref q_79, .ref q_84, .ref q_92, .ref q_102, .ref q_107]))] sz) := by
  refine vx_ofW (cc := cX11_list) (maxL := 1) (ret := (some .int)) (by decide) rfl ?_
  intro p e s m args below meth c s₁ B hml hnt hv
  obtain ⟨rfl, hsz, hP, hK, hD0, hp0, hp1, hp2, hp3, hp4, hp5, hp6⟩ := hv
  have hx := B.exec
  have hb := B.bytes
  have hr := B.returns
  have hts := atoms_spec (ws := v_X11_list) B.pre
  have hown : s.vm.findClass RX11 = some m.cls := findClass_of_methodNamed B.named
  have hlocks := B.notSynchronized
  have ow : ∀ {k : Nat} {w : Cond}, o_X11_list[k]? = some w → w.before ([.ref h0] : List Value).toArray s = true := fun h => hts _ (mow_X11_list _ (List.mem_of_getElem? h))
  subst hsz
  have hD := hD0.self (sz := s.heap.size)
  generalize hAe : va_A [(h0, .inr (11, [.ref q_1, .int 0, .int (-1), .ref q_3, .ref q_21, .ref q_39, .int 0, .ref q_52, .int 0, .ref q_60, .ref q_66, .ref q_73, .ref q_79, .ref q_84, .ref q_92, .ref q_102, .ref q_107]))] s.heap.size = A at hD hp0 hp1 ⊢
  have hA : ∀ q : Nat, s.heap.size ≤ q → A q := fun q h => by rw [← hAe]; exact Or.inr h
  have hS : va_S A s.heap s.heap [] := va_S.rf
  have hP : va_P (dC, dI) vwP [(h0, .inr (11, [.ref q_1, .int 0, .int (-1), .ref q_3, .ref q_21, .ref q_39, .int 0, .ref q_52, .int 0, .ref q_60, .ref q_66, .ref q_73, .ref q_79, .ref q_84, .ref q_92, .ref q_102, .ref q_107]))] s.heap := hP
  have hl := lv_entry ([.ref h0]) (n := 1) (Nat.le_of_ble_eq_true rfl)
  rw [lg_entry_eq]
  generalize (lg_sl ([.ref h0]) ++ List.replicate (1 - (lg_sl ([.ref h0])).length) Slot.unset).toArray = ls at hl ⊢
  have hl : lv_has ls 1 [(0, .ref h0)] := hl
  obtain ⟨H, hH⟩ : ∃ H, H = s.heap := ⟨_, rfl⟩
  rw [← hH] at hP
  have hS : va_S A s.heap H [] := by rw [hH]; exact hS
  rw [← hH]
  refine lv_aload_n hx hb dX11_list_0 rfl (lv_at hl 0 rfl) ?_
  refine va_get (D := (dC, dI)) (ci := 11) (v := .int (-1)) (C := RX11) (T := TX11) (N := 17) hx hb hts mem_X11_list_0 hown hK hP 0 rfl rfl 2 (by decide) (ow (k := 0) rfl) (fun _ h9 => h9) rfl dX11_list_1 ?_
  refine lv_iconst (v := (-1)) hx hb dX11_list_4 (by decide) ?_
  refine lv_icmp_ne (tgt := 18) hx hb dX11_list_5 (by decide) (fun h9 => absurd h9 (by decide)) (fun _ => ?_)
  exact vx_throwS (names := ["java/lang/RuntimeException", "java/lang/Exception"]) (is := 206) (ik := 134) (ic := 138) hx hb hst hown (by decide) (by decide) (ow (k := 1) rfl) (ow (k := 2) rfl) hp3 (vx_hat (B := [Cond.declares (Bundle.initS "java/lang/RuntimeException"), Cond.declares (Bundle.initS "java/lang/Exception"), Cond.declares (Bundle.initS "java/lang/Throwable"), Cond.castable "java/lang/IllegalStateException" "java/lang/IllegalStateException"]) (fun w h => hts w (mem_X11_list_1 w h)) (nb_RX11_138) (vx_c (va_Nw.use rfl hp4) (vx_c (va_Nw.use rfl hp5) (vx_c (va_Nw.use rfl hp6) (vx_c (va_Nw.use rfl hp2) vx_n))))) (go_RX11_134_138) hp0 hp1 hS (hl.1.trans hml.symm) dX11_list_8 dX11_list_11 dX11_list_12 dX11_list_14 dX11_list_17 (fun x9 h9 => (hnt x9 h9).elim) (Nat.le_of_ble_eq_true rfl) (Nat.le_of_ble_eq_true rfl) (Nat.le_of_ble_eq_true rfl) (Nat.le_of_ble_eq_true rfl) hlocks (fun _ t ha hz9 hk9 => ⟨(), trivial, ⟨rfl, (show kf_list = 1 by unfold kf_list; first | rfl | (split <;> first | rfl | (exfalso; omega)))⟩, Nat.le_trans hS.1 hz9, fun q h1 h2 => (hk9 q (Nat.lt_of_lt_of_le h1 hS.1)).trans (hS.2.1 q h1 h2)⟩) hS.2.2 (Nat.le_of_ble_eq_true rfl) (Nat.le_of_ble_eq_true rfl)
theorem nb_RX11_256 : ∀ w ∈ (vy_atX RX11 256 "java/util/NoSuchElementException" 13 prog_50_method_4_code "java/lang/RuntimeException" ["java/lang/Exception"]).filter (fun w => !goodWord w), w ∈ [Cond.declares (Bundle.initS "java/lang/RuntimeException"), Cond.declares (Bundle.initS "java/lang/Exception"), Cond.declares (Bundle.initS "java/lang/Throwable"), Cond.castable "java/util/NoSuchElementException" "java/util/NoSuchElementException"] := by decide +kernel
theorem go_RX11_252_256 : ∀ w ∈ Cond.classLink RX11 252 "java/util/NoSuchElementException" :: Cond.initialized "java/util/NoSuchElementException" :: vy_atX RX11 256 "java/util/NoSuchElementException" 13 prog_50_method_4_code "java/lang/RuntimeException" ["java/lang/Exception"], vx_ot w = true := by decide +kernel
theorem dX11_block_0 : decode cX11_block 0 = .ok (.iload_n 2, 1) := by decide +kernel
theorem dX11_block_1 : decode cX11_block 1 = .ok (.ifCond .lt 8, 3) := by decide +kernel
theorem dX11_block_9 : decode cX11_block 9 = .ok (.new 118, 3) := by decide +kernel
theorem dX11_block_12 : decode cX11_block 12 = .ok (.dup, 1) := by decide +kernel
theorem dX11_block_13 : decode cX11_block 13 = .ok (.ldc 247, 2) := by decide +kernel
theorem dX11_block_15 : decode cX11_block 15 = .ok (.invokespecial 122, 3) := by decide +kernel
theorem dX11_block_18 : decode cX11_block 18 = .ok (.athrow, 1) := by decide +kernel
theorem dX11_block_4 : decode cX11_block 4 = .ok (.iload_n 2, 1) := by decide +kernel
theorem dX11_block_5 : decode cX11_block 5 = .ok (.iconst 4, 1) := by decide +kernel
theorem dX11_block_6 : decode cX11_block 6 = .ok (.if_icmp .le 13, 3) := by decide +kernel
theorem dX11_block_19 : decode cX11_block 19 = .ok (.aload_n 0, 1) := by decide +kernel
theorem dX11_block_20 : decode cX11_block 20 = .ok (.getfield 17, 3) := by decide +kernel
theorem dX11_block_23 : decode cX11_block 23 = .ok (.iconst (-1), 1) := by decide +kernel
theorem dX11_block_24 : decode cX11_block 24 = .ok (.if_icmp .eq 18, 3) := by decide +kernel
theorem dX11_block_42 : decode cX11_block 42 = .ok (.new 252, 3) := by decide +kernel
theorem dX11_block_45 : decode cX11_block 45 = .ok (.dup, 1) := by decide +kernel
theorem dX11_block_46 : decode cX11_block 46 = .ok (.ldc 254, 2) := by decide +kernel
theorem dX11_block_48 : decode cX11_block 48 = .ok (.invokespecial 256, 3) := by decide +kernel
theorem dX11_block_51 : decode cX11_block 51 = .ok (.athrow, 1) := by decide +kernel
def o_X11_block : List Cond := [.classLink RX11 118 "java/lang/IllegalArgumentException", .initialized "java/lang/IllegalArgumentException", .fieldLink RX11 17 "SsaForge" "form" "I", .classLink RX11 252 "java/util/NoSuchElementException", .initialized "java/util/NoSuchElementException"]
def v_X11_block : List Cond := .code yX11_block cX11_block 3 (some .int) :: (o_X11_block ++ (((vx_atS RX11 122 "java/lang/IllegalArgumentException" ["java/lang/RuntimeException", "java/lang/Exception"]).filter goodWord) ++ (wsX110 ++ (((vy_atX RX11 256 "java/util/NoSuchElementException" 13 prog_50_method_4_code "java/lang/RuntimeException" ["java/lang/Exception"]).filter goodWord) ++ []))))
theorem mow_X11_block : ∀ w ∈ o_X11_block, w ∈ v_X11_block := fun _ h => List.mem_cons_of_mem _ (List.mem_append_left _ h)
theorem mem_X11_block_0 : ∀ w ∈ ((vx_atS RX11 122 "java/lang/IllegalArgumentException" ["java/lang/RuntimeException", "java/lang/Exception"]).filter goodWord), w ∈ v_X11_block := fun _ h => List.mem_cons_of_mem _ (List.mem_append_right _ (List.mem_append_left _ h))
theorem mem_X11_block_1 : ∀ w ∈ wsX110, w ∈ v_X11_block := fun _ h => List.mem_cons_of_mem _ (List.mem_append_right _ (List.mem_append_right _ (List.mem_append_left _ h)))
theorem mem_X11_block_2 : ∀ w ∈ ((vy_atX RX11 256 "java/util/NoSuchElementException" 13 prog_50_method_4_code "java/lang/RuntimeException" ["java/lang/Exception"]).filter goodWord), w ∈ v_X11_block := fun _ h => List.mem_cons_of_mem _ (List.mem_append_right _ (List.mem_append_right _ (List.mem_append_right _ (List.mem_append_left _ h))))
set_option maxRecDepth 20000 in
theorem gw_X11_block : v_X11_block.all goodWord = true := by decide +kernel
set_option maxHeartbeats 4000000 in
set_option maxRecDepth 100000 in
theorem c_X11_block (l : Launch) (dC : Nat → ClassId) (dI : Nat → Nat → Nat) (hst : l.stackTraces = false) (h0 : Nat) (q_1 : Nat) (q_3 : Nat) (q_21 : Nat) (q_39 : Nat) (q_52 : Nat) (q_60 : Nat) (q_66 : Nat) (q_73 : Nat) (q_79 : Nat) (q_84 : Nat) (q_92 : Nat) (q_102 : Nat) (q_107 : Nat) (p0 : Int32) (p1 : Int32) (sz : Nat) (sa_RX11_247 : Nat) (sa_RX11_254 : Nat) : vx_Met l yX11_block v_X11_block ({ frames := 6, cells := 1, slots := 6, locals := 82 }) (va_Pc [.ref h0, .int p0, .int p1] (fun U => U.heap.size = sz ∧ va_P (dC, dI) vwP [(h0, .inr (11, [.ref q_1, .int 0, .int (-1), .ref q_3, .ref q_21, .ref q_39, .int 0, .ref q_52, .int 0, .ref q_60, .ref q_66, .ref q_73, .ref q_79, .ref q_84, .ref q_92, .ref q_102, .ref q_107]))] U.heap ∧ va_K (dC, dI) vwP [] U ∧ va_D (fun _ => True) [(h0, .inr (11, [.ref q_1, .int 0, .int (-1), .ref q_3, .ref q_21, .ref q_39, .int 0, .ref q_52, .int 0, .ref q_60, .ref q_66, .ref q_73, .ref q_79, .ref q_84, .ref q_92, .ref q_102, .ref q_107]))] ∧ vx_Zq Bundle.tN "UNASSIGNED_STACK" Bundle.steD (va_A [(h0, .inr (11, [.ref q_1, .int 0, .int (-1), .ref q_3, .ref q_21, .ref q_39, .int 0, .ref q_52, .int 0, .ref q_60, .ref q_66, .ref q_73, .ref q_79, .ref q_84, .ref q_92, .ref q_102, .ref q_107]))] sz) U U.heap ∧ vx_Zq Bundle.tN "SUPPRESSED_SENTINEL" Bundle.listD (va_A [(h0, .inr (11, [.ref q_1, .int 0, .int (-1), .ref q_3, .ref q_21, .ref q_39, .int 0, .ref q_52, .int 0, .ref q_60, .ref q_66, .ref q_73, .ref q_79, .ref q_84, .ref q_92, .ref q_102, .ref q_107]))] sz) U U.heap ∧ va_Nw (.castable "java/lang/IllegalArgumentException" "java/lang/IllegalArgumentException") U ∧ vk_R RX11 247 "nothing is known of that" sa_RX11_247 U ∧ va_Nw (.declares (Bundle.initS "java/lang/RuntimeException")) U ∧ va_Nw (.declares (Bundle.initS "java/lang/Exception")) U ∧ va_Nw (.declares (Bundle.initS "java/lang/Throwable")) U ∧ va_Nw (.castable "java/util/NoSuchElementException" "java/util/NoSuchElementException") U ∧ vk_R RX11 254 "no such block" sa_RX11_254 U)) (va_Qi (fun (r : Int32) (_ : Unit) => kf_block p1 = 0 ∧ r = vf_block) (fun (_ : Unit) (t : State) => va_P (dC, dI) vwP [] t.heap ∧ va_K (dC, dI) vwP [] t ∧ va_D (va_A [(h0, .inr (11, [.ref q_1, .int 0, .int (-1), .ref q_3, .ref q_21, .ref q_39, .int 0, .ref q_52, .int 0, .ref q_60, .ref q_66, .ref q_73, .ref q_79, .ref q_84, .ref q_92, .ref q_102, .ref q_107]))] sz) []) (va_A [(h0, .inr (11, [.ref q_1, .int 0, .int (-1), .ref q_3, .ref q_21, .ref q_39, .int 0, .ref q_52, .int 0, .ref q_60, .ref q_66, .ref q_73, .ref q_79, .ref q_84, .ref q_92, .ref q_102, .ref q_107]))] sz)) (vx_X (fun _ : Unit => True) (fun E (q9 : Addr) (_ : Unit) (t9 : State) => (E = "java/lang/IllegalArgumentException" ∧ kf_block p1 = 1) ∨ (E = "java/util/NoSuchElementException" ∧ kf_block p1 = 2)) (va_A [(h0, .inr (11, [.ref q_1, .int 0, .int (-1), .ref q_3, .ref q_21, .ref q_39, .int 0, .ref q_52, .int 0, .ref q_60, .ref q_66, .ref q_73, .ref q_79, .ref q_84, .ref q_92, .ref q_102, .ref q_107]))] sz)) 1 6 (va_A [(h0, .inr (11, [.ref q_1, .int 0, .int (-1), .ref q_3, .ref q_21, .ref q_39, .int 0, .ref q_52, .int 0, .ref q_60, .ref q_66, .ref q_73, .ref q_79, .ref q_84, .ref q_92, .ref q_102, .ref q_107]))] sz) := by
  refine vx_ofW (cc := cX11_block) (maxL := 3) (ret := (some .int)) (by decide) rfl ?_
  intro p e s m args below meth c s₁ B hml hnt hv
  obtain ⟨rfl, hsz, hP, hK, hD0, hp0, hp1, hp2, hp3, hp4, hp5, hp6, hp7, hp8⟩ := hv
  have hx := B.exec
  have hb := B.bytes
  have hr := B.returns
  have hts := atoms_spec (ws := v_X11_block) B.pre
  have hown : s.vm.findClass RX11 = some m.cls := findClass_of_methodNamed B.named
  have hlocks := B.notSynchronized
  have ow : ∀ {k : Nat} {w : Cond}, o_X11_block[k]? = some w → w.before ([.ref h0, .int p0, .int p1] : List Value).toArray s = true := fun h => hts _ (mow_X11_block _ (List.mem_of_getElem? h))
  subst hsz
  have hD := hD0.self (sz := s.heap.size)
  generalize hAe : va_A [(h0, .inr (11, [.ref q_1, .int 0, .int (-1), .ref q_3, .ref q_21, .ref q_39, .int 0, .ref q_52, .int 0, .ref q_60, .ref q_66, .ref q_73, .ref q_79, .ref q_84, .ref q_92, .ref q_102, .ref q_107]))] s.heap.size = A at hD hp0 hp1 ⊢
  have hA : ∀ q : Nat, s.heap.size ≤ q → A q := fun q h => by rw [← hAe]; exact Or.inr h
  have hS : va_S A s.heap s.heap [] := va_S.rf
  have hP : va_P (dC, dI) vwP [(h0, .inr (11, [.ref q_1, .int 0, .int (-1), .ref q_3, .ref q_21, .ref q_39, .int 0, .ref q_52, .int 0, .ref q_60, .ref q_66, .ref q_73, .ref q_79, .ref q_84, .ref q_92, .ref q_102, .ref q_107]))] s.heap := hP
  have hl := lv_entry ([.ref h0, .int p0, .int p1]) (n := 3) (Nat.le_of_ble_eq_true rfl)
  rw [lg_entry_eq]
  generalize (lg_sl ([.ref h0, .int p0, .int p1]) ++ List.replicate (3 - (lg_sl ([.ref h0, .int p0, .int p1])).length) Slot.unset).toArray = ls at hl ⊢
  have hl : lv_has ls 3 [(0, .ref h0), (1, .int p0), (2, .int p1)] := hl
  obtain ⟨H, hH⟩ : ∃ H, H = s.heap := ⟨_, rfl⟩
  rw [← hH] at hP
  have hS : va_S A s.heap H [] := by rw [hH]; exact hS
  rw [← hH]
  refine lv_iload_n hx hb dX11_block_0 rfl (lv_at hl 2 rfl) ?_
  refine lv_if_lt (tgt := 9) hx hb dX11_block_1 (by decide) (fun b1 => ?_) (fun b1 => ?_)
  · have zb1 : p1.toInt < 0 := z_lt b1
    exact vx_throwS (names := ["java/lang/RuntimeException", "java/lang/Exception"]) (is := 247) (ik := 118) (ic := 122) hx hb hst hown (by decide) (by decide) (ow (k := 0) rfl) (ow (k := 1) rfl) hp3 (vx_hat (B := [Cond.declares (Bundle.initS "java/lang/RuntimeException"), Cond.declares (Bundle.initS "java/lang/Exception"), Cond.declares (Bundle.initS "java/lang/Throwable"), Cond.castable "java/lang/IllegalArgumentException" "java/lang/IllegalArgumentException"]) (fun w h => hts w (mem_X11_block_0 w h)) (nb_RX11_122) (vx_c (va_Nw.use rfl hp4) (vx_c (va_Nw.use rfl hp5) (vx_c (va_Nw.use rfl hp6) (vx_c (va_Nw.use rfl hp2) vx_n))))) (go_RX11_118_122) hp0 hp1 hS (hl.1.trans hml.symm) dX11_block_9 dX11_block_12 dX11_block_13 dX11_block_15 dX11_block_18 (fun x9 h9 => (hnt x9 h9).elim) (Nat.le_of_ble_eq_true rfl) (Nat.le_of_ble_eq_true rfl) (Nat.le_of_ble_eq_true rfl) (Nat.le_of_ble_eq_true rfl) hlocks (fun _ t ha hz9 hk9 => ⟨(), trivial, Or.inl ⟨rfl, (show kf_block p1 = 1 by unfold kf_block; first | rfl | (split <;> first | rfl | (exfalso; omega)))⟩, Nat.le_trans hS.1 hz9, fun q h1 h2 => (hk9 q (Nat.lt_of_lt_of_le h1 hS.1)).trans (hS.2.1 q h1 h2)⟩) hS.2.2 (Nat.le_of_ble_eq_true rfl) (Nat.le_of_ble_eq_true rfl)
  · refine lv_iload_n hx hb dX11_block_4 rfl (lv_at hl 2 rfl) ?_
    refine lv_iconst (v := 4) hx hb dX11_block_5 (by decide) ?_
    refine lv_icmp_le (tgt := 19) hx hb dX11_block_6 (by decide) (fun b6 => ?_) (fun b6 => ?_)
    · refine lv_aload_n hx hb dX11_block_19 rfl (lv_at hl 0 rfl) ?_
      refine va_get (D := (dC, dI)) (ci := 11) (v := .int (-1)) (C := RX11) (T := TX11) (N := 17) hx hb hts mem_X11_block_1 hown hK hP 0 rfl rfl 2 (by decide) (ow (k := 2) rfl) (fun _ h9 => h9) rfl dX11_block_20 ?_
      refine lv_iconst (v := (-1)) hx hb dX11_block_23 (by decide) ?_
      refine lv_icmp_eq (tgt := 42) hx hb dX11_block_24 (by decide) (fun _ => ?_) (fun h9 => absurd h9 (by decide))
      have zb1 : 0 ≤ p1.toInt := z_nlt b1
      have zb6 : p1.toInt ≤ 4 := z_le b6
      exact vy_throwX (Yn := "java/lang/RuntimeException") (r := ["java/lang/Exception"]) (is := 254) (ik := 252) (ic := 256) hx hb hst hown (by decide) (by decide) (by decide) (by decide +kernel) (by decide +kernel) (by decide +kernel) (by decide +kernel) (ow (k := 3) rfl) (ow (k := 4) rfl) hp8 (vx_hat (B := [Cond.declares (Bundle.initS "java/lang/RuntimeException"), Cond.declares (Bundle.initS "java/lang/Exception"), Cond.declares (Bundle.initS "java/lang/Throwable"), Cond.castable "java/util/NoSuchElementException" "java/util/NoSuchElementException"]) (fun w h => hts w (mem_X11_block_2 w h)) (nb_RX11_256) (vx_c (va_Nw.use rfl hp4) (vx_c (va_Nw.use rfl hp5) (vx_c (va_Nw.use rfl hp6) (vx_c (va_Nw.use rfl hp7) vx_n))))) (go_RX11_252_256) hp0 hp1 hS (hl.1.trans hml.symm) dX11_block_42 dX11_block_45 dX11_block_46 dX11_block_48 dX11_block_51 (fun x9 h9 => (hnt x9 h9).elim) (Nat.le_of_ble_eq_true rfl) (Nat.le_of_ble_eq_true rfl) (Nat.le_of_ble_eq_true rfl) (Nat.le_of_ble_eq_true rfl) hlocks (fun _ t ha hz9 hk9 => ⟨(), trivial, Or.inr ⟨rfl, (show kf_block p1 = 2 by unfold kf_block; first | rfl | (split <;> first | rfl | (exfalso; omega)))⟩, Nat.le_trans hS.1 hz9, fun q h1 h2 => (hk9 q (Nat.lt_of_lt_of_le h1 hS.1)).trans (hS.2.1 q h1 h2)⟩) hS.2.2 (Nat.le_of_ble_eq_true rfl) (Nat.le_of_ble_eq_true rfl)
    · have zb1 : 0 ≤ p1.toInt := z_nlt b1
      have zb6 : 4 < p1.toInt := z_nle b6
      exact vx_throwS (names := ["java/lang/RuntimeException", "java/lang/Exception"]) (is := 247) (ik := 118) (ic := 122) hx hb hst hown (by decide) (by decide) (ow (k := 0) rfl) (ow (k := 1) rfl) hp3 (vx_hat (B := [Cond.declares (Bundle.initS "java/lang/RuntimeException"), Cond.declares (Bundle.initS "java/lang/Exception"), Cond.declares (Bundle.initS "java/lang/Throwable"), Cond.castable "java/lang/IllegalArgumentException" "java/lang/IllegalArgumentException"]) (fun w h => hts w (mem_X11_block_0 w h)) (nb_RX11_122) (vx_c (va_Nw.use rfl hp4) (vx_c (va_Nw.use rfl hp5) (vx_c (va_Nw.use rfl hp6) (vx_c (va_Nw.use rfl hp2) vx_n))))) (go_RX11_118_122) hp0 hp1 hS (hl.1.trans hml.symm) dX11_block_9 dX11_block_12 dX11_block_13 dX11_block_15 dX11_block_18 (fun x9 h9 => (hnt x9 h9).elim) (Nat.le_of_ble_eq_true rfl) (Nat.le_of_ble_eq_true rfl) (Nat.le_of_ble_eq_true rfl) (Nat.le_of_ble_eq_true rfl) hlocks (fun _ t ha hz9 hk9 => ⟨(), trivial, Or.inl ⟨rfl, (show kf_block p1 = 1 by unfold kf_block; first | rfl | (split <;> first | rfl | (exfalso; omega)))⟩, Nat.le_trans hS.1 hz9, fun q h1 h2 => (hk9 q (Nat.lt_of_lt_of_le h1 hS.1)).trans (hS.2.1 q h1 h2)⟩) hS.2.2 (Nat.le_of_ble_eq_true rfl) (Nat.le_of_ble_eq_true rfl)
theorem dX11_told_0 : decode cX11_told 0 = .ok (.iload_n 1, 1) := by decide +kernel
theorem dX11_told_1 : decode cX11_told 1 = .ok (.tableswitch 75 0 4 #[35, 43, 51, 59, 67], 35) := by decide +kernel
theorem dX11_told_36 : decode cX11_told 36 = .ok (.aload_n 0, 1) := by decide +kernel
theorem dX11_told_37 : decode cX11_told 37 = .ok (.getfield 96, 3) := by decide +kernel
theorem dX11_told_40 : decode cX11_told 40 = .ok (.getfield 215, 3) := by decide +kernel
theorem dX11_told_43 : decode cX11_told 43 = .ok (.ireturn, 1) := by decide +kernel
theorem dX11_told_44 : decode cX11_told 44 = .ok (.aload_n 0, 1) := by decide +kernel
theorem dX11_told_45 : decode cX11_told 45 = .ok (.getfield 96, 3) := by decide +kernel
theorem dX11_told_48 : decode cX11_told 48 = .ok (.getfield 218, 3) := by decide +kernel
theorem dX11_told_51 : decode cX11_told 51 = .ok (.ireturn, 1) := by decide +kernel
theorem dX11_told_52 : decode cX11_told 52 = .ok (.aload_n 0, 1) := by decide +kernel
theorem dX11_told_53 : decode cX11_told 53 = .ok (.getfield 96, 3) := by decide +kernel
theorem dX11_told_56 : decode cX11_told 56 = .ok (.getfield 221, 3) := by decide +kernel
theorem dX11_told_59 : decode cX11_told 59 = .ok (.ireturn, 1) := by decide +kernel
theorem dX11_told_60 : decode cX11_told 60 = .ok (.aload_n 0, 1) := by decide +kernel
theorem dX11_told_61 : decode cX11_told 61 = .ok (.getfield 96, 3) := by decide +kernel
theorem dX11_told_64 : decode cX11_told 64 = .ok (.getfield 224, 3) := by decide +kernel
theorem dX11_told_67 : decode cX11_told 67 = .ok (.ireturn, 1) := by decide +kernel
theorem dX11_told_68 : decode cX11_told 68 = .ok (.aload_n 0, 1) := by decide +kernel
theorem dX11_told_69 : decode cX11_told 69 = .ok (.getfield 96, 3) := by decide +kernel
theorem dX11_told_72 : decode cX11_told 72 = .ok (.getfield 212, 3) := by decide +kernel
theorem dX11_told_75 : decode cX11_told 75 = .ok (.ireturn, 1) := by decide +kernel
theorem dX11_told_76 : decode cX11_told 76 = .ok (.new 118, 3) := by decide +kernel
theorem dX11_told_79 : decode cX11_told 79 = .ok (.dup, 1) := by decide +kernel
theorem dX11_told_80 : decode cX11_told 80 = .ok (.ldc 227, 2) := by decide +kernel
theorem dX11_told_82 : decode cX11_told 82 = .ok (.invokespecial 122, 3) := by decide +kernel
theorem dX11_told_85 : decode cX11_told 85 = .ok (.athrow, 1) := by decide +kernel
def o_X11_told : List Cond := [.fieldLink RX11 96 "SsaForge" "machine" "LSsaForge$Machine;", .fieldLink RX11 215 "SsaForge$Machine" "answer" "I", .fieldLink RX11 218 "SsaForge$Machine" "shownCount" "I", .fieldLink RX11 221 "SsaForge$Machine" "steps" "I", .fieldLink RX11 224 "SsaForge$Machine" "inputRead" "I", .fieldLink RX11 212 "SsaForge$Machine" "ending" "I", .classLink RX11 118 "java/lang/IllegalArgumentException", .initialized "java/lang/IllegalArgumentException"]
def v_X11_told : List Cond := .code yX11_told cX11_told 2 (some .int) :: (o_X11_told ++ (wsX110 ++ (wsX50 ++ (((vx_atS RX11 122 "java/lang/IllegalArgumentException" ["java/lang/RuntimeException", "java/lang/Exception"]).filter goodWord) ++ []))))
theorem mow_X11_told : ∀ w ∈ o_X11_told, w ∈ v_X11_told := fun _ h => List.mem_cons_of_mem _ (List.mem_append_left _ h)
theorem mem_X11_told_0 : ∀ w ∈ wsX110, w ∈ v_X11_told := fun _ h => List.mem_cons_of_mem _ (List.mem_append_right _ (List.mem_append_left _ h))
theorem mem_X11_told_1 : ∀ w ∈ wsX50, w ∈ v_X11_told := fun _ h => List.mem_cons_of_mem _ (List.mem_append_right _ (List.mem_append_right _ (List.mem_append_left _ h)))
theorem mem_X11_told_2 : ∀ w ∈ ((vx_atS RX11 122 "java/lang/IllegalArgumentException" ["java/lang/RuntimeException", "java/lang/Exception"]).filter goodWord), w ∈ v_X11_told := fun _ h => List.mem_cons_of_mem _ (List.mem_append_right _ (List.mem_append_right _ (List.mem_append_right _ (List.mem_append_left _ h))))
set_option maxRecDepth 20000 in
theorem gw_X11_told : v_X11_told.all goodWord = true := by decide +kernel
set_option maxHeartbeats 4000000 in
set_option maxRecDepth 100000 in
theorem c_X11_told (l : Launch) (dC : Nat → ClassId) (dI : Nat → Nat → Nat) (hst : l.stackTraces = false) (h0 : Nat) (q_1 : Nat) (q_3 : Nat) (q_21 : Nat) (q_39 : Nat) (q_52 : Nat) (q_60 : Nat) (q_66 : Nat) (q_73 : Nat) (q_79 : Nat) (q_84 : Nat) (q_92 : Nat) (q_102 : Nat) (q_107 : Nat) (q_103 : Nat) (q_104 : Nat) (q_105 : Nat) (q_106 : Nat) (p0 : Int32) (sz : Nat) (sa_RX11_227 : Nat) : vx_Met l yX11_told v_X11_told ({ frames := 6, cells := 1, slots := 6, locals := 82 }) (va_Pc [.ref h0, .int p0] (fun U => U.heap.size = sz ∧ va_P (dC, dI) vwP [(h0, .inr (11, [.ref q_1, .int 0, .int (-1), .ref q_3, .ref q_21, .ref q_39, .int 0, .ref q_52, .int 0, .ref q_60, .ref q_66, .ref q_73, .ref q_79, .ref q_84, .ref q_92, .ref q_102, .ref q_107])), (q_102, .inr (5, [.int 0, .int 0, .int 0, .int 0, .int 0, .int (-1), .ref q_103, .ref q_104, .ref q_105, .ref q_106, .int 0]))] U.heap ∧ va_K (dC, dI) vwP [] U ∧ va_D (fun _ => True) [(h0, .inr (11, [.ref q_1, .int 0, .int (-1), .ref q_3, .ref q_21, .ref q_39, .int 0, .ref q_52, .int 0, .ref q_60, .ref q_66, .ref q_73, .ref q_79, .ref q_84, .ref q_92, .ref q_102, .ref q_107])), (q_102, .inr (5, [.int 0, .int 0, .int 0, .int 0, .int 0, .int (-1), .ref q_103, .ref q_104, .ref q_105, .ref q_106, .int 0]))] ∧ vx_Zq Bundle.tN "UNASSIGNED_STACK" Bundle.steD (va_A [(h0, .inr (11, [.ref q_1, .int 0, .int (-1), .ref q_3, .ref q_21, .ref q_39, .int 0, .ref q_52, .int 0, .ref q_60, .ref q_66, .ref q_73, .ref q_79, .ref q_84, .ref q_92, .ref q_102, .ref q_107])), (q_102, .inr (5, [.int 0, .int 0, .int 0, .int 0, .int 0, .int (-1), .ref q_103, .ref q_104, .ref q_105, .ref q_106, .int 0]))] sz) U U.heap ∧ vx_Zq Bundle.tN "SUPPRESSED_SENTINEL" Bundle.listD (va_A [(h0, .inr (11, [.ref q_1, .int 0, .int (-1), .ref q_3, .ref q_21, .ref q_39, .int 0, .ref q_52, .int 0, .ref q_60, .ref q_66, .ref q_73, .ref q_79, .ref q_84, .ref q_92, .ref q_102, .ref q_107])), (q_102, .inr (5, [.int 0, .int 0, .int 0, .int 0, .int 0, .int (-1), .ref q_103, .ref q_104, .ref q_105, .ref q_106, .int 0]))] sz) U U.heap ∧ va_Nw (.castable "java/lang/IllegalArgumentException" "java/lang/IllegalArgumentException") U ∧ vk_R RX11 227 "nothing is told of that" sa_RX11_227 U ∧ va_Nw (.declares (Bundle.initS "java/lang/RuntimeException")) U ∧ va_Nw (.declares (Bundle.initS "java/lang/Exception")) U ∧ va_Nw (.declares (Bundle.initS "java/lang/Throwable")) U)) (va_Qi (fun (r : Int32) (_ : Unit) => kf_told p0 = 0 ∧ r = vf_told p0) (fun (_ : Unit) (t : State) => va_P (dC, dI) vwP [] t.heap ∧ va_K (dC, dI) vwP [] t ∧ va_D (va_A [(h0, .inr (11, [.ref q_1, .int 0, .int (-1), .ref q_3, .ref q_21, .ref q_39, .int 0, .ref q_52, .int 0, .ref q_60, .ref q_66, .ref q_73, .ref q_79, .ref q_84, .ref q_92, .ref q_102, .ref q_107])), (q_102, .inr (5, [.int 0, .int 0, .int 0, .int 0, .int 0, .int (-1), .ref q_103, .ref q_104, .ref q_105, .ref q_106, .int 0]))] sz) []) (va_A [(h0, .inr (11, [.ref q_1, .int 0, .int (-1), .ref q_3, .ref q_21, .ref q_39, .int 0, .ref q_52, .int 0, .ref q_60, .ref q_66, .ref q_73, .ref q_79, .ref q_84, .ref q_92, .ref q_102, .ref q_107])), (q_102, .inr (5, [.int 0, .int 0, .int 0, .int 0, .int 0, .int (-1), .ref q_103, .ref q_104, .ref q_105, .ref q_106, .int 0]))] sz)) (vx_X (fun _ : Unit => True) (fun E (q9 : Addr) (_ : Unit) (t9 : State) => (E = "java/lang/IllegalArgumentException" ∧ kf_told p0 = 1)) (va_A [(h0, .inr (11, [.ref q_1, .int 0, .int (-1), .ref q_3, .ref q_21, .ref q_39, .int 0, .ref q_52, .int 0, .ref q_60, .ref q_66, .ref q_73, .ref q_79, .ref q_84, .ref q_92, .ref q_102, .ref q_107])), (q_102, .inr (5, [.int 0, .int 0, .int 0, .int 0, .int 0, .int (-1), .ref q_103, .ref q_104, .ref q_105, .ref q_106, .int 0]))] sz)) 1 6 (va_A [(h0, .inr (11, [.ref q_1, .int 0, .int (-1), .ref q_3, .ref q_21, .ref q_39, .int 0, .ref q_52, .int 0, .ref q_60, .ref q_66, .ref q_73, .ref q_79, .ref q_84, .ref q_92, .ref q_102, .ref q_107])), (q_102, .inr (5, [.int 0, .int 0, .int 0, .int 0, .int 0, .int (-1), .ref q_103, .ref q_104, .ref q_105, .ref q_106, .int 0]))] sz) := by
  refine vx_ofW (cc := cX11_told) (maxL := 2) (ret := (some .int)) (by decide) rfl ?_
  intro p e s m args below meth c s₁ B hml hnt hv
  obtain ⟨rfl, hsz, hP, hK, hD0, hp0, hp1, hp2, hp3, hp4, hp5, hp6⟩ := hv
  have hx := B.exec
  have hb := B.bytes
  have hr := B.returns
  have hts := atoms_spec (ws := v_X11_told) B.pre
  have hown : s.vm.findClass RX11 = some m.cls := findClass_of_methodNamed B.named
  have hlocks := B.notSynchronized
  have ow : ∀ {k : Nat} {w : Cond}, o_X11_told[k]? = some w → w.before ([.ref h0, .int p0] : List Value).toArray s = true := fun h => hts _ (mow_X11_told _ (List.mem_of_getElem? h))
  subst hsz
  have hD := hD0.self (sz := s.heap.size)
  generalize hAe : va_A [(h0, .inr (11, [.ref q_1, .int 0, .int (-1), .ref q_3, .ref q_21, .ref q_39, .int 0, .ref q_52, .int 0, .ref q_60, .ref q_66, .ref q_73, .ref q_79, .ref q_84, .ref q_92, .ref q_102, .ref q_107])), (q_102, .inr (5, [.int 0, .int 0, .int 0, .int 0, .int 0, .int (-1), .ref q_103, .ref q_104, .ref q_105, .ref q_106, .int 0]))] s.heap.size = A at hD hp0 hp1 ⊢
  have hA : ∀ q : Nat, s.heap.size ≤ q → A q := fun q h => by rw [← hAe]; exact Or.inr h
  have hS : va_S A s.heap s.heap [] := va_S.rf
  have hP : va_P (dC, dI) vwP [(h0, .inr (11, [.ref q_1, .int 0, .int (-1), .ref q_3, .ref q_21, .ref q_39, .int 0, .ref q_52, .int 0, .ref q_60, .ref q_66, .ref q_73, .ref q_79, .ref q_84, .ref q_92, .ref q_102, .ref q_107])), (q_102, .inr (5, [.int 0, .int 0, .int 0, .int 0, .int 0, .int (-1), .ref q_103, .ref q_104, .ref q_105, .ref q_106, .int 0]))] s.heap := hP
  have hl := lv_entry ([.ref h0, .int p0]) (n := 2) (Nat.le_of_ble_eq_true rfl)
  rw [lg_entry_eq]
  generalize (lg_sl ([.ref h0, .int p0]) ++ List.replicate (2 - (lg_sl ([.ref h0, .int p0])).length) Slot.unset).toArray = ls at hl ⊢
  have hl : lv_has ls 2 [(0, .ref h0), (1, .int p0)] := hl
  obtain ⟨H, hH⟩ : ∃ H, H = s.heap := ⟨_, rfl⟩
  rw [← hH] at hP
  have hS : va_S A s.heap H [] := by rw [hH]; exact hS
  rw [← hH]
  refine lv_iload_n hx hb dX11_told_0 rfl (lv_at hl 1 rfl) ?_
  by_cases s1_0 : p0 = 0
  · refine lv_tableIn (off := 35) (tgt := 36) hx hb dX11_told_1 (by rw [s1_0]; decide) (by rw [s1_0]; decide) (by rw [s1_0]; decide) (by decide) ?_
    refine lv_aload_n hx hb dX11_told_36 rfl (lv_at hl 0 rfl) ?_
    refine va_get (D := (dC, dI)) (ci := 11) (v := .ref q_102) (C := RX11) (T := TX11) (N := 17) hx hb hts mem_X11_told_0 hown hK hP 0 rfl rfl 15 (by decide) (ow (k := 0) rfl) (fun _ h9 => h9) rfl dX11_told_37 ?_
    refine va_get (D := (dC, dI)) (ci := 5) (v := .int 0) (C := RX5) (T := TX5) (N := 11) hx hb hts mem_X11_told_1 hown hK hP 1 rfl rfl 1 (by decide) (ow (k := 1) rfl) (fun _ h9 => h9) rfl dX11_told_40 ?_
    have hP := hP.sub (ws' := []) [] rfl
    have hD := hD.sub (ws' := []) [] (by decide) rfl
    have zs1_0 : p0.toInt = 0 := z_eq s1_0
    refine W.widen (k := 1) (n := 6) (Nat.le_of_ble_eq_true rfl) (Nat.le_of_ble_eq_true rfl) ?_
    refine vx_ret ?_
    exact W.iret (v := 0) hx hb hr (fun t ht hW => ⟨⟨0, (), rfl, ⟨(show kf_told p0 = 0 by unfold kf_told; first | rfl | (split <;> first | rfl | (exfalso; omega))), (show 0 = vf_told p0 by unfold vf_told; first | rfl | (split <;> first | rfl | (exfalso; omega)))⟩, by rw [ht]; exact hP, va_K.moved hW.alike hK, hD⟩, hS.F ht⟩) hS.2.2 dX11_told_43
  by_cases s1_1 : p0 = 1
  · refine lv_tableIn (off := 43) (tgt := 44) hx hb dX11_told_1 (by rw [s1_1]; decide) (by rw [s1_1]; decide) (by rw [s1_1]; decide) (by decide) ?_
    refine lv_aload_n hx hb dX11_told_44 rfl (lv_at hl 0 rfl) ?_
    refine va_get (D := (dC, dI)) (ci := 11) (v := .ref q_102) (C := RX11) (T := TX11) (N := 17) hx hb hts mem_X11_told_0 hown hK hP 0 rfl rfl 15 (by decide) (ow (k := 0) rfl) (fun _ h9 => h9) rfl dX11_told_45 ?_
    refine va_get (D := (dC, dI)) (ci := 5) (v := .int 0) (C := RX5) (T := TX5) (N := 11) hx hb hts mem_X11_told_1 hown hK hP 1 rfl rfl 2 (by decide) (ow (k := 2) rfl) (fun _ h9 => h9) rfl dX11_told_48 ?_
    have hP := hP.sub (ws' := []) [] rfl
    have hD := hD.sub (ws' := []) [] (by decide) rfl
    have zs1_0 : ¬ p0.toInt = 0 := z_ne s1_0
    have zs1_1 : p0.toInt = 1 := z_eq s1_1
    refine W.widen (k := 1) (n := 6) (Nat.le_of_ble_eq_true rfl) (Nat.le_of_ble_eq_true rfl) ?_
    refine vx_ret ?_
    exact W.iret (v := 0) hx hb hr (fun t ht hW => ⟨⟨0, (), rfl, ⟨(show kf_told p0 = 0 by unfold kf_told; first | rfl | (split <;> first | rfl | (exfalso; omega))), (show 0 = vf_told p0 by unfold vf_told; first | rfl | (split <;> first | rfl | (exfalso; omega)))⟩, by rw [ht]; exact hP, va_K.moved hW.alike hK, hD⟩, hS.F ht⟩) hS.2.2 dX11_told_51
  by_cases s1_2 : p0 = 2
  · refine lv_tableIn (off := 51) (tgt := 52) hx hb dX11_told_1 (by rw [s1_2]; decide) (by rw [s1_2]; decide) (by rw [s1_2]; decide) (by decide) ?_
    refine lv_aload_n hx hb dX11_told_52 rfl (lv_at hl 0 rfl) ?_
    refine va_get (D := (dC, dI)) (ci := 11) (v := .ref q_102) (C := RX11) (T := TX11) (N := 17) hx hb hts mem_X11_told_0 hown hK hP 0 rfl rfl 15 (by decide) (ow (k := 0) rfl) (fun _ h9 => h9) rfl dX11_told_53 ?_
    refine va_get (D := (dC, dI)) (ci := 5) (v := .int 0) (C := RX5) (T := TX5) (N := 11) hx hb hts mem_X11_told_1 hown hK hP 1 rfl rfl 3 (by decide) (ow (k := 3) rfl) (fun _ h9 => h9) rfl dX11_told_56 ?_
    have hP := hP.sub (ws' := []) [] rfl
    have hD := hD.sub (ws' := []) [] (by decide) rfl
    have zs1_0 : ¬ p0.toInt = 0 := z_ne s1_0
    have zs1_1 : ¬ p0.toInt = 1 := z_ne s1_1
    have zs1_2 : p0.toInt = 2 := z_eq s1_2
    refine W.widen (k := 1) (n := 6) (Nat.le_of_ble_eq_true rfl) (Nat.le_of_ble_eq_true rfl) ?_
    refine vx_ret ?_
    exact W.iret (v := 0) hx hb hr (fun t ht hW => ⟨⟨0, (), rfl, ⟨(show kf_told p0 = 0 by unfold kf_told; first | rfl | (split <;> first | rfl | (exfalso; omega))), (show 0 = vf_told p0 by unfold vf_told; first | rfl | (split <;> first | rfl | (exfalso; omega)))⟩, by rw [ht]; exact hP, va_K.moved hW.alike hK, hD⟩, hS.F ht⟩) hS.2.2 dX11_told_59
  by_cases s1_3 : p0 = 3
  · refine lv_tableIn (off := 59) (tgt := 60) hx hb dX11_told_1 (by rw [s1_3]; decide) (by rw [s1_3]; decide) (by rw [s1_3]; decide) (by decide) ?_
    refine lv_aload_n hx hb dX11_told_60 rfl (lv_at hl 0 rfl) ?_
    refine va_get (D := (dC, dI)) (ci := 11) (v := .ref q_102) (C := RX11) (T := TX11) (N := 17) hx hb hts mem_X11_told_0 hown hK hP 0 rfl rfl 15 (by decide) (ow (k := 0) rfl) (fun _ h9 => h9) rfl dX11_told_61 ?_
    refine va_get (D := (dC, dI)) (ci := 5) (v := .int 0) (C := RX5) (T := TX5) (N := 11) hx hb hts mem_X11_told_1 hown hK hP 1 rfl rfl 4 (by decide) (ow (k := 4) rfl) (fun _ h9 => h9) rfl dX11_told_64 ?_
    have hP := hP.sub (ws' := []) [] rfl
    have hD := hD.sub (ws' := []) [] (by decide) rfl
    have zs1_0 : ¬ p0.toInt = 0 := z_ne s1_0
    have zs1_1 : ¬ p0.toInt = 1 := z_ne s1_1
    have zs1_2 : ¬ p0.toInt = 2 := z_ne s1_2
    have zs1_3 : p0.toInt = 3 := z_eq s1_3
    refine W.widen (k := 1) (n := 6) (Nat.le_of_ble_eq_true rfl) (Nat.le_of_ble_eq_true rfl) ?_
    refine vx_ret ?_
    exact W.iret (v := 0) hx hb hr (fun t ht hW => ⟨⟨0, (), rfl, ⟨(show kf_told p0 = 0 by unfold kf_told; first | rfl | (split <;> first | rfl | (exfalso; omega))), (show 0 = vf_told p0 by unfold vf_told; first | rfl | (split <;> first | rfl | (exfalso; omega)))⟩, by rw [ht]; exact hP, va_K.moved hW.alike hK, hD⟩, hS.F ht⟩) hS.2.2 dX11_told_67
  by_cases s1_4 : p0 = 4
  · refine lv_tableIn (off := 67) (tgt := 68) hx hb dX11_told_1 (by rw [s1_4]; decide) (by rw [s1_4]; decide) (by rw [s1_4]; decide) (by decide) ?_
    refine lv_aload_n hx hb dX11_told_68 rfl (lv_at hl 0 rfl) ?_
    refine va_get (D := (dC, dI)) (ci := 11) (v := .ref q_102) (C := RX11) (T := TX11) (N := 17) hx hb hts mem_X11_told_0 hown hK hP 0 rfl rfl 15 (by decide) (ow (k := 0) rfl) (fun _ h9 => h9) rfl dX11_told_69 ?_
    refine va_get (D := (dC, dI)) (ci := 5) (v := .int (-1)) (C := RX5) (T := TX5) (N := 11) hx hb hts mem_X11_told_1 hown hK hP 1 rfl rfl 5 (by decide) (ow (k := 5) rfl) (fun _ h9 => h9) rfl dX11_told_72 ?_
    have hP := hP.sub (ws' := []) [] rfl
    have hD := hD.sub (ws' := []) [] (by decide) rfl
    have zs1_0 : ¬ p0.toInt = 0 := z_ne s1_0
    have zs1_1 : ¬ p0.toInt = 1 := z_ne s1_1
    have zs1_2 : ¬ p0.toInt = 2 := z_ne s1_2
    have zs1_3 : ¬ p0.toInt = 3 := z_ne s1_3
    have zs1_4 : p0.toInt = 4 := z_eq s1_4
    refine W.widen (k := 1) (n := 6) (Nat.le_of_ble_eq_true rfl) (Nat.le_of_ble_eq_true rfl) ?_
    refine vx_ret ?_
    exact W.iret (v := (-1)) hx hb hr (fun t ht hW => ⟨⟨(-1), (), rfl, ⟨(show kf_told p0 = 0 by unfold kf_told; first | rfl | (split <;> first | rfl | (exfalso; omega))), (show (-1) = vf_told p0 by unfold vf_told; first | rfl | (split <;> first | rfl | (exfalso; omega)))⟩, by rw [ht]; exact hP, va_K.moved hW.alike hK, hD⟩, hS.F ht⟩) hS.2.2 dX11_told_75
  have zs1_0 : ¬ p0.toInt = 0 := z_ne s1_0
  have zs1_1 : ¬ p0.toInt = 1 := z_ne s1_1
  have zs1_2 : ¬ p0.toInt = 2 := z_ne s1_2
  have zs1_3 : ¬ p0.toInt = 3 := z_ne s1_3
  have zs1_4 : ¬ p0.toInt = 4 := z_ne s1_4
  refine lv_tableOut (tgt := 76) hx hb dX11_told_1 (show p0.toInt < 0 ∨ 4 < p0.toInt by omega) (by decide) ?_
  have zs1_0 : ¬ p0.toInt = 0 := z_ne s1_0
  have zs1_1 : ¬ p0.toInt = 1 := z_ne s1_1
  have zs1_2 : ¬ p0.toInt = 2 := z_ne s1_2
  have zs1_3 : ¬ p0.toInt = 3 := z_ne s1_3
  have zs1_4 : ¬ p0.toInt = 4 := z_ne s1_4
  exact vx_throwS (names := ["java/lang/RuntimeException", "java/lang/Exception"]) (is := 227) (ik := 118) (ic := 122) hx hb hst hown (by decide) (by decide) (ow (k := 6) rfl) (ow (k := 7) rfl) hp3 (vx_hat (B := [Cond.declares (Bundle.initS "java/lang/RuntimeException"), Cond.declares (Bundle.initS "java/lang/Exception"), Cond.declares (Bundle.initS "java/lang/Throwable"), Cond.castable "java/lang/IllegalArgumentException" "java/lang/IllegalArgumentException"]) (fun w h => hts w (mem_X11_told_2 w h)) (nb_RX11_122) (vx_c (va_Nw.use rfl hp4) (vx_c (va_Nw.use rfl hp5) (vx_c (va_Nw.use rfl hp6) (vx_c (va_Nw.use rfl hp2) vx_n))))) (go_RX11_118_122) hp0 hp1 hS (hl.1.trans hml.symm) dX11_told_76 dX11_told_79 dX11_told_80 dX11_told_82 dX11_told_85 (fun x9 h9 => (hnt x9 h9).elim) (Nat.le_of_ble_eq_true rfl) (Nat.le_of_ble_eq_true rfl) (Nat.le_of_ble_eq_true rfl) (Nat.le_of_ble_eq_true rfl) hlocks (fun _ t ha hz9 hk9 => ⟨(), trivial, ⟨rfl, (show kf_told p0 = 1 by unfold kf_told; first | rfl | (split <;> first | rfl | (exfalso; omega)))⟩, Nat.le_trans hS.1 hz9, fun q h1 h2 => (hk9 q (Nat.lt_of_lt_of_le h1 hS.1)).trans (hS.2.1 q h1 h2)⟩) hS.2.2 (Nat.le_of_ble_eq_true rfl) (Nat.le_of_ble_eq_true rfl)
theorem nb_RX11_111 : ∀ w ∈ (vx_atS RX11 111 "java/lang/IndexOutOfBoundsException" ["java/lang/RuntimeException", "java/lang/Exception"]).filter (fun w => !goodWord w), w ∈ [Cond.declares (Bundle.initS "java/lang/RuntimeException"), Cond.declares (Bundle.initS "java/lang/Exception"), Cond.declares (Bundle.initS "java/lang/Throwable"), Cond.castable "java/lang/IndexOutOfBoundsException" "java/lang/IndexOutOfBoundsException"] := by decide +kernel
theorem go_RX11_107_111 : ∀ w ∈ Cond.classLink RX11 107 "java/lang/IndexOutOfBoundsException" :: Cond.initialized "java/lang/IndexOutOfBoundsException" :: vx_atS RX11 111 "java/lang/IndexOutOfBoundsException" ["java/lang/RuntimeException", "java/lang/Exception"], vx_ot w = true := by decide +kernel
theorem dX11_shown_0 : decode cX11_shown 0 = .ok (.iload_n 1, 1) := by decide +kernel
theorem dX11_shown_1 : decode cX11_shown 1 = .ok (.ifCond .lt 14, 3) := by decide +kernel
theorem dX11_shown_15 : decode cX11_shown 15 = .ok (.new 107, 3) := by decide +kernel
theorem dX11_shown_18 : decode cX11_shown 18 = .ok (.dup, 1) := by decide +kernel
theorem dX11_shown_19 : decode cX11_shown 19 = .ok (.ldc 229, 2) := by decide +kernel
theorem dX11_shown_21 : decode cX11_shown 21 = .ok (.invokespecial 111, 3) := by decide +kernel
theorem dX11_shown_24 : decode cX11_shown 24 = .ok (.athrow, 1) := by decide +kernel
theorem dX11_shown_4 : decode cX11_shown 4 = .ok (.iload_n 1, 1) := by decide +kernel
theorem dX11_shown_5 : decode cX11_shown 5 = .ok (.aload_n 0, 1) := by decide +kernel
theorem dX11_shown_6 : decode cX11_shown 6 = .ok (.getfield 96, 3) := by decide +kernel
theorem dX11_shown_9 : decode cX11_shown 9 = .ok (.getfield 218, 3) := by decide +kernel
theorem dX11_shown_12 : decode cX11_shown 12 = .ok (.if_icmp .lt 13, 3) := by decide +kernel
def o_X11_shown : List Cond := [.classLink RX11 107 "java/lang/IndexOutOfBoundsException", .initialized "java/lang/IndexOutOfBoundsException", .fieldLink RX11 96 "SsaForge" "machine" "LSsaForge$Machine;", .fieldLink RX11 218 "SsaForge$Machine" "shownCount" "I"]
def v_X11_shown : List Cond := .code yX11_shown cX11_shown 2 (some .int) :: (o_X11_shown ++ (((vx_atS RX11 111 "java/lang/IndexOutOfBoundsException" ["java/lang/RuntimeException", "java/lang/Exception"]).filter goodWord) ++ (wsX110 ++ (wsX50 ++ []))))
theorem mow_X11_shown : ∀ w ∈ o_X11_shown, w ∈ v_X11_shown := fun _ h => List.mem_cons_of_mem _ (List.mem_append_left _ h)
theorem mem_X11_shown_0 : ∀ w ∈ ((vx_atS RX11 111 "java/lang/IndexOutOfBoundsException" ["java/lang/RuntimeException", "java/lang/Exception"]).filter goodWord), w ∈ v_X11_shown := fun _ h => List.mem_cons_of_mem _ (List.mem_append_right _ (List.mem_append_left _ h))
theorem mem_X11_shown_1 : ∀ w ∈ wsX110, w ∈ v_X11_shown := fun _ h => List.mem_cons_of_mem _ (List.mem_append_right _ (List.mem_append_right _ (List.mem_append_left _ h)))
theorem mem_X11_shown_2 : ∀ w ∈ wsX50, w ∈ v_X11_shown := fun _ h => List.mem_cons_of_mem _ (List.mem_append_right _ (List.mem_append_right _ (List.mem_append_right _ (List.mem_append_left _ h))))
set_option maxRecDepth 20000 in
theorem gw_X11_shown : v_X11_shown.all goodWord = true := by decide +kernel
set_option maxHeartbeats 4000000 in
set_option maxRecDepth 100000 in
theorem c_X11_shown (l : Launch) (dC : Nat → ClassId) (dI : Nat → Nat → Nat) (hst : l.stackTraces = false) (h0 : Nat) (q_1 : Nat) (q_3 : Nat) (q_21 : Nat) (q_39 : Nat) (q_52 : Nat) (q_60 : Nat) (q_66 : Nat) (q_73 : Nat) (q_79 : Nat) (q_84 : Nat) (q_92 : Nat) (q_102 : Nat) (q_107 : Nat) (q_103 : Nat) (q_104 : Nat) (q_105 : Nat) (q_106 : Nat) (p0 : Int32) (sz : Nat) (sa_RX11_229 : Nat) : vx_Met l yX11_shown v_X11_shown ({ frames := 6, cells := 1, slots := 6, locals := 82 }) (va_Pc [.ref h0, .int p0] (fun U => U.heap.size = sz ∧ va_P (dC, dI) vwP [(h0, .inr (11, [.ref q_1, .int 0, .int (-1), .ref q_3, .ref q_21, .ref q_39, .int 0, .ref q_52, .int 0, .ref q_60, .ref q_66, .ref q_73, .ref q_79, .ref q_84, .ref q_92, .ref q_102, .ref q_107])), (q_102, .inr (5, [.int 0, .int 0, .int 0, .int 0, .int 0, .int (-1), .ref q_103, .ref q_104, .ref q_105, .ref q_106, .int 0]))] U.heap ∧ va_K (dC, dI) vwP [] U ∧ va_D (fun _ => True) [(h0, .inr (11, [.ref q_1, .int 0, .int (-1), .ref q_3, .ref q_21, .ref q_39, .int 0, .ref q_52, .int 0, .ref q_60, .ref q_66, .ref q_73, .ref q_79, .ref q_84, .ref q_92, .ref q_102, .ref q_107])), (q_102, .inr (5, [.int 0, .int 0, .int 0, .int 0, .int 0, .int (-1), .ref q_103, .ref q_104, .ref q_105, .ref q_106, .int 0]))] ∧ vx_Zq Bundle.tN "UNASSIGNED_STACK" Bundle.steD (va_A [(h0, .inr (11, [.ref q_1, .int 0, .int (-1), .ref q_3, .ref q_21, .ref q_39, .int 0, .ref q_52, .int 0, .ref q_60, .ref q_66, .ref q_73, .ref q_79, .ref q_84, .ref q_92, .ref q_102, .ref q_107])), (q_102, .inr (5, [.int 0, .int 0, .int 0, .int 0, .int 0, .int (-1), .ref q_103, .ref q_104, .ref q_105, .ref q_106, .int 0]))] sz) U U.heap ∧ vx_Zq Bundle.tN "SUPPRESSED_SENTINEL" Bundle.listD (va_A [(h0, .inr (11, [.ref q_1, .int 0, .int (-1), .ref q_3, .ref q_21, .ref q_39, .int 0, .ref q_52, .int 0, .ref q_60, .ref q_66, .ref q_73, .ref q_79, .ref q_84, .ref q_92, .ref q_102, .ref q_107])), (q_102, .inr (5, [.int 0, .int 0, .int 0, .int 0, .int 0, .int (-1), .ref q_103, .ref q_104, .ref q_105, .ref q_106, .int 0]))] sz) U U.heap ∧ va_Nw (.castable "java/lang/IndexOutOfBoundsException" "java/lang/IndexOutOfBoundsException") U ∧ vk_R RX11 229 "not so many were shown" sa_RX11_229 U ∧ va_Nw (.declares (Bundle.initS "java/lang/RuntimeException")) U ∧ va_Nw (.declares (Bundle.initS "java/lang/Exception")) U ∧ va_Nw (.declares (Bundle.initS "java/lang/Throwable")) U)) (va_Qi (fun (r : Int32) (_ : Unit) => kf_shown = 0 ∧ r = vf_shown) (fun (_ : Unit) (t : State) => va_P (dC, dI) vwP [] t.heap ∧ va_K (dC, dI) vwP [] t ∧ va_D (va_A [(h0, .inr (11, [.ref q_1, .int 0, .int (-1), .ref q_3, .ref q_21, .ref q_39, .int 0, .ref q_52, .int 0, .ref q_60, .ref q_66, .ref q_73, .ref q_79, .ref q_84, .ref q_92, .ref q_102, .ref q_107])), (q_102, .inr (5, [.int 0, .int 0, .int 0, .int 0, .int 0, .int (-1), .ref q_103, .ref q_104, .ref q_105, .ref q_106, .int 0]))] sz) []) (va_A [(h0, .inr (11, [.ref q_1, .int 0, .int (-1), .ref q_3, .ref q_21, .ref q_39, .int 0, .ref q_52, .int 0, .ref q_60, .ref q_66, .ref q_73, .ref q_79, .ref q_84, .ref q_92, .ref q_102, .ref q_107])), (q_102, .inr (5, [.int 0, .int 0, .int 0, .int 0, .int 0, .int (-1), .ref q_103, .ref q_104, .ref q_105, .ref q_106, .int 0]))] sz)) (vx_X (fun _ : Unit => True) (fun E (q9 : Addr) (_ : Unit) (t9 : State) => (E = "java/lang/IndexOutOfBoundsException" ∧ kf_shown = 1)) (va_A [(h0, .inr (11, [.ref q_1, .int 0, .int (-1), .ref q_3, .ref q_21, .ref q_39, .int 0, .ref q_52, .int 0, .ref q_60, .ref q_66, .ref q_73, .ref q_79, .ref q_84, .ref q_92, .ref q_102, .ref q_107])), (q_102, .inr (5, [.int 0, .int 0, .int 0, .int 0, .int 0, .int (-1), .ref q_103, .ref q_104, .ref q_105, .ref q_106, .int 0]))] sz)) 1 6 (va_A [(h0, .inr (11, [.ref q_1, .int 0, .int (-1), .ref q_3, .ref q_21, .ref q_39, .int 0, .ref q_52, .int 0, .ref q_60, .ref q_66, .ref q_73, .ref q_79, .ref q_84, .ref q_92, .ref q_102, .ref q_107])), (q_102, .inr (5, [.int 0, .int 0, .int 0, .int 0, .int 0, .int (-1), .ref q_103, .ref q_104, .ref q_105, .ref q_106, .int 0]))] sz) := by
  refine vx_ofW (cc := cX11_shown) (maxL := 2) (ret := (some .int)) (by decide) rfl ?_
  intro p e s m args below meth c s₁ B hml hnt hv
  obtain ⟨rfl, hsz, hP, hK, hD0, hp0, hp1, hp2, hp3, hp4, hp5, hp6⟩ := hv
  have hx := B.exec
  have hb := B.bytes
  have hr := B.returns
  have hts := atoms_spec (ws := v_X11_shown) B.pre
  have hown : s.vm.findClass RX11 = some m.cls := findClass_of_methodNamed B.named
  have hlocks := B.notSynchronized
  have ow : ∀ {k : Nat} {w : Cond}, o_X11_shown[k]? = some w → w.before ([.ref h0, .int p0] : List Value).toArray s = true := fun h => hts _ (mow_X11_shown _ (List.mem_of_getElem? h))
  subst hsz
  have hD := hD0.self (sz := s.heap.size)
  generalize hAe : va_A [(h0, .inr (11, [.ref q_1, .int 0, .int (-1), .ref q_3, .ref q_21, .ref q_39, .int 0, .ref q_52, .int 0, .ref q_60, .ref q_66, .ref q_73, .ref q_79, .ref q_84, .ref q_92, .ref q_102, .ref q_107])), (q_102, .inr (5, [.int 0, .int 0, .int 0, .int 0, .int 0, .int (-1), .ref q_103, .ref q_104, .ref q_105, .ref q_106, .int 0]))] s.heap.size = A at hD hp0 hp1 ⊢
  have hA : ∀ q : Nat, s.heap.size ≤ q → A q := fun q h => by rw [← hAe]; exact Or.inr h
  have hS : va_S A s.heap s.heap [] := va_S.rf
  have hP : va_P (dC, dI) vwP [(h0, .inr (11, [.ref q_1, .int 0, .int (-1), .ref q_3, .ref q_21, .ref q_39, .int 0, .ref q_52, .int 0, .ref q_60, .ref q_66, .ref q_73, .ref q_79, .ref q_84, .ref q_92, .ref q_102, .ref q_107])), (q_102, .inr (5, [.int 0, .int 0, .int 0, .int 0, .int 0, .int (-1), .ref q_103, .ref q_104, .ref q_105, .ref q_106, .int 0]))] s.heap := hP
  have hl := lv_entry ([.ref h0, .int p0]) (n := 2) (Nat.le_of_ble_eq_true rfl)
  rw [lg_entry_eq]
  generalize (lg_sl ([.ref h0, .int p0]) ++ List.replicate (2 - (lg_sl ([.ref h0, .int p0])).length) Slot.unset).toArray = ls at hl ⊢
  have hl : lv_has ls 2 [(0, .ref h0), (1, .int p0)] := hl
  obtain ⟨H, hH⟩ : ∃ H, H = s.heap := ⟨_, rfl⟩
  rw [← hH] at hP
  have hS : va_S A s.heap H [] := by rw [hH]; exact hS
  rw [← hH]
  refine lv_iload_n hx hb dX11_shown_0 rfl (lv_at hl 1 rfl) ?_
  refine lv_if_lt (tgt := 15) hx hb dX11_shown_1 (by decide) (fun b1 => ?_) (fun b1 => ?_)
  · have zb1 : p0.toInt < 0 := z_lt b1
    exact vx_throwS (names := ["java/lang/RuntimeException", "java/lang/Exception"]) (is := 229) (ik := 107) (ic := 111) hx hb hst hown (by decide) (by decide) (ow (k := 0) rfl) (ow (k := 1) rfl) hp3 (vx_hat (B := [Cond.declares (Bundle.initS "java/lang/RuntimeException"), Cond.declares (Bundle.initS "java/lang/Exception"), Cond.declares (Bundle.initS "java/lang/Throwable"), Cond.castable "java/lang/IndexOutOfBoundsException" "java/lang/IndexOutOfBoundsException"]) (fun w h => hts w (mem_X11_shown_0 w h)) (nb_RX11_111) (vx_c (va_Nw.use rfl hp4) (vx_c (va_Nw.use rfl hp5) (vx_c (va_Nw.use rfl hp6) (vx_c (va_Nw.use rfl hp2) vx_n))))) (go_RX11_107_111) hp0 hp1 hS (hl.1.trans hml.symm) dX11_shown_15 dX11_shown_18 dX11_shown_19 dX11_shown_21 dX11_shown_24 (fun x9 h9 => (hnt x9 h9).elim) (Nat.le_of_ble_eq_true rfl) (Nat.le_of_ble_eq_true rfl) (Nat.le_of_ble_eq_true rfl) (Nat.le_of_ble_eq_true rfl) hlocks (fun _ t ha hz9 hk9 => ⟨(), trivial, ⟨rfl, (show kf_shown = 1 by unfold kf_shown; first | rfl | (split <;> first | rfl | (exfalso; omega)))⟩, Nat.le_trans hS.1 hz9, fun q h1 h2 => (hk9 q (Nat.lt_of_lt_of_le h1 hS.1)).trans (hS.2.1 q h1 h2)⟩) hS.2.2 (Nat.le_of_ble_eq_true rfl) (Nat.le_of_ble_eq_true rfl)
  · refine lv_iload_n hx hb dX11_shown_4 rfl (lv_at hl 1 rfl) ?_
    refine lv_aload_n hx hb dX11_shown_5 rfl (lv_at hl 0 rfl) ?_
    refine va_get (D := (dC, dI)) (ci := 11) (v := .ref q_102) (C := RX11) (T := TX11) (N := 17) hx hb hts mem_X11_shown_1 hown hK hP 0 rfl rfl 15 (by decide) (ow (k := 2) rfl) (fun _ h9 => h9) rfl dX11_shown_6 ?_
    refine va_get (D := (dC, dI)) (ci := 5) (v := .int 0) (C := RX5) (T := TX5) (N := 11) hx hb hts mem_X11_shown_2 hown hK hP 1 rfl rfl 2 (by decide) (ow (k := 3) rfl) (fun _ h9 => h9) rfl dX11_shown_9 ?_
    refine lv_icmp_lt (tgt := 25) hx hb dX11_shown_12 (by decide) (fun h9 => absurd h9 b1) (fun _ => ?_)
    have zb1 : 0 ≤ p0.toInt := z_nlt b1
    exact vx_throwS (names := ["java/lang/RuntimeException", "java/lang/Exception"]) (is := 229) (ik := 107) (ic := 111) hx hb hst hown (by decide) (by decide) (ow (k := 0) rfl) (ow (k := 1) rfl) hp3 (vx_hat (B := [Cond.declares (Bundle.initS "java/lang/RuntimeException"), Cond.declares (Bundle.initS "java/lang/Exception"), Cond.declares (Bundle.initS "java/lang/Throwable"), Cond.castable "java/lang/IndexOutOfBoundsException" "java/lang/IndexOutOfBoundsException"]) (fun w h => hts w (mem_X11_shown_0 w h)) (nb_RX11_111) (vx_c (va_Nw.use rfl hp4) (vx_c (va_Nw.use rfl hp5) (vx_c (va_Nw.use rfl hp6) (vx_c (va_Nw.use rfl hp2) vx_n))))) (go_RX11_107_111) hp0 hp1 hS (hl.1.trans hml.symm) dX11_shown_15 dX11_shown_18 dX11_shown_19 dX11_shown_21 dX11_shown_24 (fun x9 h9 => (hnt x9 h9).elim) (Nat.le_of_ble_eq_true rfl) (Nat.le_of_ble_eq_true rfl) (Nat.le_of_ble_eq_true rfl) (Nat.le_of_ble_eq_true rfl) hlocks (fun _ t ha hz9 hk9 => ⟨(), trivial, ⟨rfl, (show kf_shown = 1 by unfold kf_shown; first | rfl | (split <;> first | rfl | (exfalso; omega)))⟩, Nat.le_trans hS.1 hz9, fun q h1 h2 => (hk9 q (Nat.lt_of_lt_of_le h1 hS.1)).trans (hS.2.1 q h1 h2)⟩) hS.2.2 (Nat.le_of_ble_eq_true rfl) (Nat.le_of_ble_eq_true rfl)
theorem dX11_count_0 : decode cX11_count 0 = .ok (.iload_n 1, 1) := by decide +kernel
theorem dX11_count_1 : decode cX11_count 1 = .ok (.ifCond .lt 9, 3) := by decide +kernel
theorem dX11_count_10 : decode cX11_count 10 = .ok (.new 118, 3) := by decide +kernel
theorem dX11_count_13 : decode cX11_count 13 = .ok (.dup, 1) := by decide +kernel
theorem dX11_count_14 : decode cX11_count 14 = .ok (.ldc 235, 2) := by decide +kernel
theorem dX11_count_16 : decode cX11_count 16 = .ok (.invokespecial 122, 3) := by decide +kernel
theorem dX11_count_19 : decode cX11_count 19 = .ok (.athrow, 1) := by decide +kernel
theorem dX11_count_4 : decode cX11_count 4 = .ok (.iload_n 1, 1) := by decide +kernel
theorem dX11_count_5 : decode cX11_count 5 = .ok (.bipush 7, 2) := by decide +kernel
theorem dX11_count_7 : decode cX11_count 7 = .ok (.if_icmp .le 13, 3) := by decide +kernel
theorem dX11_count_20 : decode cX11_count 20 = .ok (.iload_n 1, 1) := by decide +kernel
theorem dX11_count_21 : decode cX11_count 21 = .ok (.tableswitch 73 0 7 #[47, 73, 73, 73, 73, 52, 60, 68], 47) := by decide +kernel
theorem dX11_count_68 : decode cX11_count 68 = .ok (.aload_n 0, 1) := by decide +kernel
theorem dX11_count_69 : decode cX11_count 69 = .ok (.getfield 17, 3) := by decide +kernel
theorem dX11_count_72 : decode cX11_count 72 = .ok (.ireturn, 1) := by decide +kernel
theorem dX11_count_94 : decode cX11_count 94 = .ok (.aload_n 0, 1) := by decide +kernel
theorem dX11_count_95 : decode cX11_count 95 = .ok (.getfield 17, 3) := by decide +kernel
theorem dX11_count_98 : decode cX11_count 98 = .ok (.iconst (-1), 1) := by decide +kernel
theorem dX11_count_99 : decode cX11_count 99 = .ok (.if_icmp .ne 7, 3) := by decide +kernel
theorem dX11_count_102 : decode cX11_count 102 = .ok (.iconst 0, 1) := by decide +kernel
theorem dX11_count_103 : decode cX11_count 103 = .ok (.goto 8, 3) := by decide +kernel
theorem dX11_count_111 : decode cX11_count 111 = .ok (.ireturn, 1) := by decide +kernel
theorem dX11_count_73 : decode cX11_count 73 = .ok (.aload_n 0, 1) := by decide +kernel
theorem dX11_count_74 : decode cX11_count 74 = .ok (.getfield 54, 3) := by decide +kernel
theorem dX11_count_77 : decode cX11_count 77 = .ok (.getfield 237, 3) := by decide +kernel
theorem dX11_count_80 : decode cX11_count 80 = .ok (.ireturn, 1) := by decide +kernel
theorem dX11_count_81 : decode cX11_count 81 = .ok (.aload_n 0, 1) := by decide +kernel
theorem dX11_count_82 : decode cX11_count 82 = .ok (.getfield 103, 3) := by decide +kernel
theorem dX11_count_85 : decode cX11_count 85 = .ok (.getfield 240, 3) := by decide +kernel
theorem dX11_count_88 : decode cX11_count 88 = .ok (.ireturn, 1) := by decide +kernel
theorem dX11_count_89 : decode cX11_count 89 = .ok (.aload_n 0, 1) := by decide +kernel
theorem dX11_count_90 : decode cX11_count 90 = .ok (.getfield 13, 3) := by decide +kernel
theorem dX11_count_93 : decode cX11_count 93 = .ok (.ireturn, 1) := by decide +kernel
def o_X11_count : List Cond := [.classLink RX11 118 "java/lang/IllegalArgumentException", .initialized "java/lang/IllegalArgumentException", .fieldLink RX11 17 "SsaForge" "form" "I", .fieldLink RX11 54 "SsaForge" "reader" "LSsaForge$Reader;", .fieldLink RX11 237 "SsaForge$Reader" "reason" "I", .fieldLink RX11 103 "SsaForge" "printer" "LSsaForge$Printer;", .fieldLink RX11 240 "SsaForge$Printer" "length" "I", .fieldLink RX11 13 "SsaForge" "tapeLength" "I"]
def v_X11_count : List Cond := .code yX11_count cX11_count 2 (some .int) :: (o_X11_count ++ (((vx_atS RX11 122 "java/lang/IllegalArgumentException" ["java/lang/RuntimeException", "java/lang/Exception"]).filter goodWord) ++ (wsX110 ++ (wsX70 ++ (wsX60 ++ [])))))
theorem mow_X11_count : ∀ w ∈ o_X11_count, w ∈ v_X11_count := fun _ h => List.mem_cons_of_mem _ (List.mem_append_left _ h)
theorem mem_X11_count_0 : ∀ w ∈ ((vx_atS RX11 122 "java/lang/IllegalArgumentException" ["java/lang/RuntimeException", "java/lang/Exception"]).filter goodWord), w ∈ v_X11_count := fun _ h => List.mem_cons_of_mem _ (List.mem_append_right _ (List.mem_append_left _ h))
theorem mem_X11_count_1 : ∀ w ∈ wsX110, w ∈ v_X11_count := fun _ h => List.mem_cons_of_mem _ (List.mem_append_right _ (List.mem_append_right _ (List.mem_append_left _ h)))
theorem mem_X11_count_2 : ∀ w ∈ wsX70, w ∈ v_X11_count := fun _ h => List.mem_cons_of_mem _ (List.mem_append_right _ (List.mem_append_right _ (List.mem_append_right _ (List.mem_append_left _ h))))
theorem mem_X11_count_3 : ∀ w ∈ wsX60, w ∈ v_X11_count := fun _ h => List.mem_cons_of_mem _ (List.mem_append_right _ (List.mem_append_right _ (List.mem_append_right _ (List.mem_append_right _ (List.mem_append_left _ h)))))
set_option maxRecDepth 20000 in
theorem gw_X11_count : v_X11_count.all goodWord = true := by decide +kernel
set_option maxHeartbeats 4000000 in
set_option maxRecDepth 100000 in
theorem c_X11_count (l : Launch) (dC : Nat → ClassId) (dI : Nat → Nat → Nat) (hst : l.stackTraces = false) (h0 : Nat) (q_1 : Nat) (q_3 : Nat) (q_21 : Nat) (q_39 : Nat) (q_52 : Nat) (q_60 : Nat) (q_66 : Nat) (q_73 : Nat) (q_79 : Nat) (q_84 : Nat) (q_92 : Nat) (q_102 : Nat) (q_107 : Nat) (q_61 : Nat) (q_62 : Nat) (q_63 : Nat) (q_108 : Nat) (q_109 : Nat) (p0 : Int32) (sz : Nat) (sa_RX11_235 : Nat) : vx_Met l yX11_count v_X11_count ({ frames := 6, cells := 1, slots := 6, locals := 82 }) (va_Pc [.ref h0, .int p0] (fun U => U.heap.size = sz ∧ va_P (dC, dI) vwP [(h0, .inr (11, [.ref q_1, .int 0, .int (-1), .ref q_3, .ref q_21, .ref q_39, .int 0, .ref q_52, .int 0, .ref q_60, .ref q_66, .ref q_73, .ref q_79, .ref q_84, .ref q_92, .ref q_102, .ref q_107])), (q_60, .inr (7, [.int 0, .ref q_61, .int 0, .int 0, .int 1, .int 0, .int 0, .int 0, .null, .int 0, .int 0, .int 0, .int 0, .long 0, .int 0, .int (-1), .ref q_62, .ref q_63])), (q_107, .inr (6, [.int 0, .ref q_108, .ref q_109, .int 0, .int 0]))] U.heap ∧ va_K (dC, dI) vwP [] U ∧ va_D (fun _ => True) [(h0, .inr (11, [.ref q_1, .int 0, .int (-1), .ref q_3, .ref q_21, .ref q_39, .int 0, .ref q_52, .int 0, .ref q_60, .ref q_66, .ref q_73, .ref q_79, .ref q_84, .ref q_92, .ref q_102, .ref q_107])), (q_60, .inr (7, [.int 0, .ref q_61, .int 0, .int 0, .int 1, .int 0, .int 0, .int 0, .null, .int 0, .int 0, .int 0, .int 0, .long 0, .int 0, .int (-1), .ref q_62, .ref q_63])), (q_107, .inr (6, [.int 0, .ref q_108, .ref q_109, .int 0, .int 0]))] ∧ vx_Zq Bundle.tN "UNASSIGNED_STACK" Bundle.steD (va_A [(h0, .inr (11, [.ref q_1, .int 0, .int (-1), .ref q_3, .ref q_21, .ref q_39, .int 0, .ref q_52, .int 0, .ref q_60, .ref q_66, .ref q_73, .ref q_79, .ref q_84, .ref q_92, .ref q_102, .ref q_107])), (q_60, .inr (7, [.int 0, .ref q_61, .int 0, .int 0, .int 1, .int 0, .int 0, .int 0, .null, .int 0, .int 0, .int 0, .int 0, .long 0, .int 0, .int (-1), .ref q_62, .ref q_63])), (q_107, .inr (6, [.int 0, .ref q_108, .ref q_109, .int 0, .int 0]))] sz) U U.heap ∧ vx_Zq Bundle.tN "SUPPRESSED_SENTINEL" Bundle.listD (va_A [(h0, .inr (11, [.ref q_1, .int 0, .int (-1), .ref q_3, .ref q_21, .ref q_39, .int 0, .ref q_52, .int 0, .ref q_60, .ref q_66, .ref q_73, .ref q_79, .ref q_84, .ref q_92, .ref q_102, .ref q_107])), (q_60, .inr (7, [.int 0, .ref q_61, .int 0, .int 0, .int 1, .int 0, .int 0, .int 0, .null, .int 0, .int 0, .int 0, .int 0, .long 0, .int 0, .int (-1), .ref q_62, .ref q_63])), (q_107, .inr (6, [.int 0, .ref q_108, .ref q_109, .int 0, .int 0]))] sz) U U.heap ∧ va_Nw (.castable "java/lang/IllegalArgumentException" "java/lang/IllegalArgumentException") U ∧ vk_R RX11 235 "nothing to count" sa_RX11_235 U ∧ va_Nw (.declares (Bundle.initS "java/lang/RuntimeException")) U ∧ va_Nw (.declares (Bundle.initS "java/lang/Exception")) U ∧ va_Nw (.declares (Bundle.initS "java/lang/Throwable")) U)) (va_Qi (fun (r : Int32) (_ : Unit) => kf_count p0 = 0 ∧ r = vf_count p0) (fun (_ : Unit) (t : State) => va_P (dC, dI) vwP [] t.heap ∧ va_K (dC, dI) vwP [] t ∧ va_D (va_A [(h0, .inr (11, [.ref q_1, .int 0, .int (-1), .ref q_3, .ref q_21, .ref q_39, .int 0, .ref q_52, .int 0, .ref q_60, .ref q_66, .ref q_73, .ref q_79, .ref q_84, .ref q_92, .ref q_102, .ref q_107])), (q_60, .inr (7, [.int 0, .ref q_61, .int 0, .int 0, .int 1, .int 0, .int 0, .int 0, .null, .int 0, .int 0, .int 0, .int 0, .long 0, .int 0, .int (-1), .ref q_62, .ref q_63])), (q_107, .inr (6, [.int 0, .ref q_108, .ref q_109, .int 0, .int 0]))] sz) []) (va_A [(h0, .inr (11, [.ref q_1, .int 0, .int (-1), .ref q_3, .ref q_21, .ref q_39, .int 0, .ref q_52, .int 0, .ref q_60, .ref q_66, .ref q_73, .ref q_79, .ref q_84, .ref q_92, .ref q_102, .ref q_107])), (q_60, .inr (7, [.int 0, .ref q_61, .int 0, .int 0, .int 1, .int 0, .int 0, .int 0, .null, .int 0, .int 0, .int 0, .int 0, .long 0, .int 0, .int (-1), .ref q_62, .ref q_63])), (q_107, .inr (6, [.int 0, .ref q_108, .ref q_109, .int 0, .int 0]))] sz)) (vx_X (fun _ : Unit => True) (fun E (q9 : Addr) (_ : Unit) (t9 : State) => (E = "java/lang/IllegalArgumentException" ∧ kf_count p0 = 1)) (va_A [(h0, .inr (11, [.ref q_1, .int 0, .int (-1), .ref q_3, .ref q_21, .ref q_39, .int 0, .ref q_52, .int 0, .ref q_60, .ref q_66, .ref q_73, .ref q_79, .ref q_84, .ref q_92, .ref q_102, .ref q_107])), (q_60, .inr (7, [.int 0, .ref q_61, .int 0, .int 0, .int 1, .int 0, .int 0, .int 0, .null, .int 0, .int 0, .int 0, .int 0, .long 0, .int 0, .int (-1), .ref q_62, .ref q_63])), (q_107, .inr (6, [.int 0, .ref q_108, .ref q_109, .int 0, .int 0]))] sz)) 1 6 (va_A [(h0, .inr (11, [.ref q_1, .int 0, .int (-1), .ref q_3, .ref q_21, .ref q_39, .int 0, .ref q_52, .int 0, .ref q_60, .ref q_66, .ref q_73, .ref q_79, .ref q_84, .ref q_92, .ref q_102, .ref q_107])), (q_60, .inr (7, [.int 0, .ref q_61, .int 0, .int 0, .int 1, .int 0, .int 0, .int 0, .null, .int 0, .int 0, .int 0, .int 0, .long 0, .int 0, .int (-1), .ref q_62, .ref q_63])), (q_107, .inr (6, [.int 0, .ref q_108, .ref q_109, .int 0, .int 0]))] sz) := by
  refine vx_ofW (cc := cX11_count) (maxL := 2) (ret := (some .int)) (by decide) rfl ?_
  intro p e s m args below meth c s₁ B hml hnt hv
  obtain ⟨rfl, hsz, hP, hK, hD0, hp0, hp1, hp2, hp3, hp4, hp5, hp6⟩ := hv
  have hx := B.exec
  have hb := B.bytes
  have hr := B.returns
  have hts := atoms_spec (ws := v_X11_count) B.pre
  have hown : s.vm.findClass RX11 = some m.cls := findClass_of_methodNamed B.named
  have hlocks := B.notSynchronized
  have ow : ∀ {k : Nat} {w : Cond}, o_X11_count[k]? = some w → w.before ([.ref h0, .int p0] : List Value).toArray s = true := fun h => hts _ (mow_X11_count _ (List.mem_of_getElem? h))
  subst hsz
  have hD := hD0.self (sz := s.heap.size)
  generalize hAe : va_A [(h0, .inr (11, [.ref q_1, .int 0, .int (-1), .ref q_3, .ref q_21, .ref q_39, .int 0, .ref q_52, .int 0, .ref q_60, .ref q_66, .ref q_73, .ref q_79, .ref q_84, .ref q_92, .ref q_102, .ref q_107])), (q_60, .inr (7, [.int 0, .ref q_61, .int 0, .int 0, .int 1, .int 0, .int 0, .int 0, .null, .int 0, .int 0, .int 0, .int 0, .long 0, .int 0, .int (-1), .ref q_62, .ref q_63])), (q_107, .inr (6, [.int 0, .ref q_108, .ref q_109, .int 0, .int 0]))] s.heap.size = A at hD hp0 hp1 ⊢
  have hA : ∀ q : Nat, s.heap.size ≤ q → A q := fun q h => by rw [← hAe]; exact Or.inr h
  have hS : va_S A s.heap s.heap [] := va_S.rf
  have hP : va_P (dC, dI) vwP [(h0, .inr (11, [.ref q_1, .int 0, .int (-1), .ref q_3, .ref q_21, .ref q_39, .int 0, .ref q_52, .int 0, .ref q_60, .ref q_66, .ref q_73, .ref q_79, .ref q_84, .ref q_92, .ref q_102, .ref q_107])), (q_60, .inr (7, [.int 0, .ref q_61, .int 0, .int 0, .int 1, .int 0, .int 0, .int 0, .null, .int 0, .int 0, .int 0, .int 0, .long 0, .int 0, .int (-1), .ref q_62, .ref q_63])), (q_107, .inr (6, [.int 0, .ref q_108, .ref q_109, .int 0, .int 0]))] s.heap := hP
  have hl := lv_entry ([.ref h0, .int p0]) (n := 2) (Nat.le_of_ble_eq_true rfl)
  rw [lg_entry_eq]
  generalize (lg_sl ([.ref h0, .int p0]) ++ List.replicate (2 - (lg_sl ([.ref h0, .int p0])).length) Slot.unset).toArray = ls at hl ⊢
  have hl : lv_has ls 2 [(0, .ref h0), (1, .int p0)] := hl
  obtain ⟨H, hH⟩ : ∃ H, H = s.heap := ⟨_, rfl⟩
  rw [← hH] at hP
  have hS : va_S A s.heap H [] := by rw [hH]; exact hS
  rw [← hH]
  refine lv_iload_n hx hb dX11_count_0 rfl (lv_at hl 1 rfl) ?_
  refine lv_if_lt (tgt := 10) hx hb dX11_count_1 (by decide) (fun b1 => ?_) (fun b1 => ?_)
  · have zb1 : p0.toInt < 0 := z_lt b1
    exact vx_throwS (names := ["java/lang/RuntimeException", "java/lang/Exception"]) (is := 235) (ik := 118) (ic := 122) hx hb hst hown (by decide) (by decide) (ow (k := 0) rfl) (ow (k := 1) rfl) hp3 (vx_hat (B := [Cond.declares (Bundle.initS "java/lang/RuntimeException"), Cond.declares (Bundle.initS "java/lang/Exception"), Cond.declares (Bundle.initS "java/lang/Throwable"), Cond.castable "java/lang/IllegalArgumentException" "java/lang/IllegalArgumentException"]) (fun w h => hts w (mem_X11_count_0 w h)) (nb_RX11_122) (vx_c (va_Nw.use rfl hp4) (vx_c (va_Nw.use rfl hp5) (vx_c (va_Nw.use rfl hp6) (vx_c (va_Nw.use rfl hp2) vx_n))))) (go_RX11_118_122) hp0 hp1 hS (hl.1.trans hml.symm) dX11_count_10 dX11_count_13 dX11_count_14 dX11_count_16 dX11_count_19 (fun x9 h9 => (hnt x9 h9).elim) (Nat.le_of_ble_eq_true rfl) (Nat.le_of_ble_eq_true rfl) (Nat.le_of_ble_eq_true rfl) (Nat.le_of_ble_eq_true rfl) hlocks (fun _ t ha hz9 hk9 => ⟨(), trivial, ⟨rfl, (show kf_count p0 = 1 by unfold kf_count; first | rfl | (split <;> first | rfl | (exfalso; omega)))⟩, Nat.le_trans hS.1 hz9, fun q h1 h2 => (hk9 q (Nat.lt_of_lt_of_le h1 hS.1)).trans (hS.2.1 q h1 h2)⟩) hS.2.2 (Nat.le_of_ble_eq_true rfl) (Nat.le_of_ble_eq_true rfl)
  · refine lv_iload_n hx hb dX11_count_4 rfl (lv_at hl 1 rfl) ?_
    refine lv_bipush (v := 7) hx hb dX11_count_5 (by decide) ?_
    refine lv_icmp_le (tgt := 20) hx hb dX11_count_7 (by decide) (fun b7 => ?_) (fun b7 => ?_)
    · refine lv_iload_n hx hb dX11_count_20 rfl (lv_at hl 1 rfl) ?_
      by_cases s21_0 : p0 = 0
      · refine lv_tableIn (off := 47) (tgt := 68) hx hb dX11_count_21 (by rw [s21_0]; decide) (by rw [s21_0]; decide) (by rw [s21_0]; decide) (by decide) ?_
        refine lv_aload_n hx hb dX11_count_68 rfl (lv_at hl 0 rfl) ?_
        refine va_get (D := (dC, dI)) (ci := 11) (v := .int (-1)) (C := RX11) (T := TX11) (N := 17) hx hb hts mem_X11_count_1 hown hK hP 0 rfl rfl 2 (by decide) (ow (k := 2) rfl) (fun _ h9 => h9) rfl dX11_count_69 ?_
        have hP := hP.sub (ws' := []) [] rfl
        have hD := hD.sub (ws' := []) [] (by decide) rfl
        have zb1 : 0 ≤ p0.toInt := z_nlt b1
        have zb7 : p0.toInt ≤ 7 := z_le b7
        have zs21_0 : p0.toInt = 0 := z_eq s21_0
        refine W.widen (k := 1) (n := 6) (Nat.le_of_ble_eq_true rfl) (Nat.le_of_ble_eq_true rfl) ?_
        refine vx_ret ?_
        exact W.iret (v := (-1)) hx hb hr (fun t ht hW => ⟨⟨(-1), (), rfl, ⟨(show kf_count p0 = 0 by unfold kf_count; first | rfl | (split <;> first | rfl | (exfalso; omega))), (show (-1) = vf_count p0 by unfold vf_count; first | rfl | (split <;> first | rfl | (exfalso; omega)))⟩, by rw [ht]; exact hP, va_K.moved hW.alike hK, hD⟩, hS.F ht⟩) hS.2.2 dX11_count_72
      by_cases s21_1 : p0 = 1
      · refine lv_tableIn (off := 73) (tgt := 94) hx hb dX11_count_21 (by rw [s21_1]; decide) (by rw [s21_1]; decide) (by rw [s21_1]; decide) (by decide) ?_
        refine lv_aload_n hx hb dX11_count_94 rfl (lv_at hl 0 rfl) ?_
        refine va_get (D := (dC, dI)) (ci := 11) (v := .int (-1)) (C := RX11) (T := TX11) (N := 17) hx hb hts mem_X11_count_1 hown hK hP 0 rfl rfl 2 (by decide) (ow (k := 2) rfl) (fun _ h9 => h9) rfl dX11_count_95 ?_
        refine lv_iconst (v := (-1)) hx hb dX11_count_98 (by decide) ?_
        refine lv_icmp_ne (tgt := 106) hx hb dX11_count_99 (by decide) (fun h9 => absurd h9 (by decide)) (fun _ => ?_)
        refine lv_iconst (v := 0) hx hb dX11_count_102 (by decide) ?_
        refine lv_goto (tgt := 111) hx hb dX11_count_103 (by decide) ?_
        have hP := hP.sub (ws' := []) [] rfl
        have hD := hD.sub (ws' := []) [] (by decide) rfl
        have zb1 : 0 ≤ p0.toInt := z_nlt b1
        have zb7 : p0.toInt ≤ 7 := z_le b7
        have zs21_0 : ¬ p0.toInt = 0 := z_ne s21_0
        have zs21_1 : p0.toInt = 1 := z_eq s21_1
        refine W.widen (k := 1) (n := 6) (Nat.le_of_ble_eq_true rfl) (Nat.le_of_ble_eq_true rfl) ?_
        refine vx_ret ?_
        exact W.iret (v := 0) hx hb hr (fun t ht hW => ⟨⟨0, (), rfl, ⟨(show kf_count p0 = 0 by unfold kf_count; first | rfl | (split <;> first | rfl | (exfalso; omega))), (show 0 = vf_count p0 by unfold vf_count; first | rfl | (split <;> first | rfl | (exfalso; omega)))⟩, by rw [ht]; exact hP, va_K.moved hW.alike hK, hD⟩, hS.F ht⟩) hS.2.2 dX11_count_111
      by_cases s21_2 : p0 = 2
      · refine lv_tableIn (off := 73) (tgt := 94) hx hb dX11_count_21 (by rw [s21_2]; decide) (by rw [s21_2]; decide) (by rw [s21_2]; decide) (by decide) ?_
        refine lv_aload_n hx hb dX11_count_94 rfl (lv_at hl 0 rfl) ?_
        refine va_get (D := (dC, dI)) (ci := 11) (v := .int (-1)) (C := RX11) (T := TX11) (N := 17) hx hb hts mem_X11_count_1 hown hK hP 0 rfl rfl 2 (by decide) (ow (k := 2) rfl) (fun _ h9 => h9) rfl dX11_count_95 ?_
        refine lv_iconst (v := (-1)) hx hb dX11_count_98 (by decide) ?_
        refine lv_icmp_ne (tgt := 106) hx hb dX11_count_99 (by decide) (fun h9 => absurd h9 (by decide)) (fun _ => ?_)
        refine lv_iconst (v := 0) hx hb dX11_count_102 (by decide) ?_
        refine lv_goto (tgt := 111) hx hb dX11_count_103 (by decide) ?_
        have hP := hP.sub (ws' := []) [] rfl
        have hD := hD.sub (ws' := []) [] (by decide) rfl
        have zb1 : 0 ≤ p0.toInt := z_nlt b1
        have zb7 : p0.toInt ≤ 7 := z_le b7
        have zs21_0 : ¬ p0.toInt = 0 := z_ne s21_0
        have zs21_1 : ¬ p0.toInt = 1 := z_ne s21_1
        have zs21_2 : p0.toInt = 2 := z_eq s21_2
        refine W.widen (k := 1) (n := 6) (Nat.le_of_ble_eq_true rfl) (Nat.le_of_ble_eq_true rfl) ?_
        refine vx_ret ?_
        exact W.iret (v := 0) hx hb hr (fun t ht hW => ⟨⟨0, (), rfl, ⟨(show kf_count p0 = 0 by unfold kf_count; first | rfl | (split <;> first | rfl | (exfalso; omega))), (show 0 = vf_count p0 by unfold vf_count; first | rfl | (split <;> first | rfl | (exfalso; omega)))⟩, by rw [ht]; exact hP, va_K.moved hW.alike hK, hD⟩, hS.F ht⟩) hS.2.2 dX11_count_111
      by_cases s21_3 : p0 = 3
      · refine lv_tableIn (off := 73) (tgt := 94) hx hb dX11_count_21 (by rw [s21_3]; decide) (by rw [s21_3]; decide) (by rw [s21_3]; decide) (by decide) ?_
        refine lv_aload_n hx hb dX11_count_94 rfl (lv_at hl 0 rfl) ?_
        refine va_get (D := (dC, dI)) (ci := 11) (v := .int (-1)) (C := RX11) (T := TX11) (N := 17) hx hb hts mem_X11_count_1 hown hK hP 0 rfl rfl 2 (by decide) (ow (k := 2) rfl) (fun _ h9 => h9) rfl dX11_count_95 ?_
        refine lv_iconst (v := (-1)) hx hb dX11_count_98 (by decide) ?_
        refine lv_icmp_ne (tgt := 106) hx hb dX11_count_99 (by decide) (fun h9 => absurd h9 (by decide)) (fun _ => ?_)
        refine lv_iconst (v := 0) hx hb dX11_count_102 (by decide) ?_
        refine lv_goto (tgt := 111) hx hb dX11_count_103 (by decide) ?_
        have hP := hP.sub (ws' := []) [] rfl
        have hD := hD.sub (ws' := []) [] (by decide) rfl
        have zb1 : 0 ≤ p0.toInt := z_nlt b1
        have zb7 : p0.toInt ≤ 7 := z_le b7
        have zs21_0 : ¬ p0.toInt = 0 := z_ne s21_0
        have zs21_1 : ¬ p0.toInt = 1 := z_ne s21_1
        have zs21_2 : ¬ p0.toInt = 2 := z_ne s21_2
        have zs21_3 : p0.toInt = 3 := z_eq s21_3
        refine W.widen (k := 1) (n := 6) (Nat.le_of_ble_eq_true rfl) (Nat.le_of_ble_eq_true rfl) ?_
        refine vx_ret ?_
        exact W.iret (v := 0) hx hb hr (fun t ht hW => ⟨⟨0, (), rfl, ⟨(show kf_count p0 = 0 by unfold kf_count; first | rfl | (split <;> first | rfl | (exfalso; omega))), (show 0 = vf_count p0 by unfold vf_count; first | rfl | (split <;> first | rfl | (exfalso; omega)))⟩, by rw [ht]; exact hP, va_K.moved hW.alike hK, hD⟩, hS.F ht⟩) hS.2.2 dX11_count_111
      by_cases s21_4 : p0 = 4
      · refine lv_tableIn (off := 73) (tgt := 94) hx hb dX11_count_21 (by rw [s21_4]; decide) (by rw [s21_4]; decide) (by rw [s21_4]; decide) (by decide) ?_
        refine lv_aload_n hx hb dX11_count_94 rfl (lv_at hl 0 rfl) ?_
        refine va_get (D := (dC, dI)) (ci := 11) (v := .int (-1)) (C := RX11) (T := TX11) (N := 17) hx hb hts mem_X11_count_1 hown hK hP 0 rfl rfl 2 (by decide) (ow (k := 2) rfl) (fun _ h9 => h9) rfl dX11_count_95 ?_
        refine lv_iconst (v := (-1)) hx hb dX11_count_98 (by decide) ?_
        refine lv_icmp_ne (tgt := 106) hx hb dX11_count_99 (by decide) (fun h9 => absurd h9 (by decide)) (fun _ => ?_)
        refine lv_iconst (v := 0) hx hb dX11_count_102 (by decide) ?_
        refine lv_goto (tgt := 111) hx hb dX11_count_103 (by decide) ?_
        have hP := hP.sub (ws' := []) [] rfl
        have hD := hD.sub (ws' := []) [] (by decide) rfl
        have zb1 : 0 ≤ p0.toInt := z_nlt b1
        have zb7 : p0.toInt ≤ 7 := z_le b7
        have zs21_0 : ¬ p0.toInt = 0 := z_ne s21_0
        have zs21_1 : ¬ p0.toInt = 1 := z_ne s21_1
        have zs21_2 : ¬ p0.toInt = 2 := z_ne s21_2
        have zs21_3 : ¬ p0.toInt = 3 := z_ne s21_3
        have zs21_4 : p0.toInt = 4 := z_eq s21_4
        refine W.widen (k := 1) (n := 6) (Nat.le_of_ble_eq_true rfl) (Nat.le_of_ble_eq_true rfl) ?_
        refine vx_ret ?_
        exact W.iret (v := 0) hx hb hr (fun t ht hW => ⟨⟨0, (), rfl, ⟨(show kf_count p0 = 0 by unfold kf_count; first | rfl | (split <;> first | rfl | (exfalso; omega))), (show 0 = vf_count p0 by unfold vf_count; first | rfl | (split <;> first | rfl | (exfalso; omega)))⟩, by rw [ht]; exact hP, va_K.moved hW.alike hK, hD⟩, hS.F ht⟩) hS.2.2 dX11_count_111
      by_cases s21_5 : p0 = 5
      · refine lv_tableIn (off := 52) (tgt := 73) hx hb dX11_count_21 (by rw [s21_5]; decide) (by rw [s21_5]; decide) (by rw [s21_5]; decide) (by decide) ?_
        refine lv_aload_n hx hb dX11_count_73 rfl (lv_at hl 0 rfl) ?_
        refine va_get (D := (dC, dI)) (ci := 11) (v := .ref q_60) (C := RX11) (T := TX11) (N := 17) hx hb hts mem_X11_count_1 hown hK hP 0 rfl rfl 9 (by decide) (ow (k := 3) rfl) (fun _ h9 => h9) rfl dX11_count_74 ?_
        refine va_get (D := (dC, dI)) (ci := 7) (v := .int 0) (C := RX7) (T := TX7) (N := 18) hx hb hts mem_X11_count_2 hown hK hP 1 rfl rfl 0 (by decide) (ow (k := 4) rfl) (fun _ h9 => h9) rfl dX11_count_77 ?_
        have hP := hP.sub (ws' := []) [] rfl
        have hD := hD.sub (ws' := []) [] (by decide) rfl
        have zb1 : 0 ≤ p0.toInt := z_nlt b1
        have zb7 : p0.toInt ≤ 7 := z_le b7
        have zs21_0 : ¬ p0.toInt = 0 := z_ne s21_0
        have zs21_1 : ¬ p0.toInt = 1 := z_ne s21_1
        have zs21_2 : ¬ p0.toInt = 2 := z_ne s21_2
        have zs21_3 : ¬ p0.toInt = 3 := z_ne s21_3
        have zs21_4 : ¬ p0.toInt = 4 := z_ne s21_4
        have zs21_5 : p0.toInt = 5 := z_eq s21_5
        refine W.widen (k := 1) (n := 6) (Nat.le_of_ble_eq_true rfl) (Nat.le_of_ble_eq_true rfl) ?_
        refine vx_ret ?_
        exact W.iret (v := 0) hx hb hr (fun t ht hW => ⟨⟨0, (), rfl, ⟨(show kf_count p0 = 0 by unfold kf_count; first | rfl | (split <;> first | rfl | (exfalso; omega))), (show 0 = vf_count p0 by unfold vf_count; first | rfl | (split <;> first | rfl | (exfalso; omega)))⟩, by rw [ht]; exact hP, va_K.moved hW.alike hK, hD⟩, hS.F ht⟩) hS.2.2 dX11_count_80
      by_cases s21_6 : p0 = 6
      · refine lv_tableIn (off := 60) (tgt := 81) hx hb dX11_count_21 (by rw [s21_6]; decide) (by rw [s21_6]; decide) (by rw [s21_6]; decide) (by decide) ?_
        refine lv_aload_n hx hb dX11_count_81 rfl (lv_at hl 0 rfl) ?_
        refine va_get (D := (dC, dI)) (ci := 11) (v := .ref q_107) (C := RX11) (T := TX11) (N := 17) hx hb hts mem_X11_count_1 hown hK hP 0 rfl rfl 16 (by decide) (ow (k := 5) rfl) (fun _ h9 => h9) rfl dX11_count_82 ?_
        refine va_get (D := (dC, dI)) (ci := 6) (v := .int 0) (C := RX6) (T := TX6) (N := 5) hx hb hts mem_X11_count_3 hown hK hP 2 rfl rfl 0 (by decide) (ow (k := 6) rfl) (fun _ h9 => h9) rfl dX11_count_85 ?_
        have hP := hP.sub (ws' := []) [] rfl
        have hD := hD.sub (ws' := []) [] (by decide) rfl
        have zb1 : 0 ≤ p0.toInt := z_nlt b1
        have zb7 : p0.toInt ≤ 7 := z_le b7
        have zs21_0 : ¬ p0.toInt = 0 := z_ne s21_0
        have zs21_1 : ¬ p0.toInt = 1 := z_ne s21_1
        have zs21_2 : ¬ p0.toInt = 2 := z_ne s21_2
        have zs21_3 : ¬ p0.toInt = 3 := z_ne s21_3
        have zs21_4 : ¬ p0.toInt = 4 := z_ne s21_4
        have zs21_5 : ¬ p0.toInt = 5 := z_ne s21_5
        have zs21_6 : p0.toInt = 6 := z_eq s21_6
        refine W.widen (k := 1) (n := 6) (Nat.le_of_ble_eq_true rfl) (Nat.le_of_ble_eq_true rfl) ?_
        refine vx_ret ?_
        exact W.iret (v := 0) hx hb hr (fun t ht hW => ⟨⟨0, (), rfl, ⟨(show kf_count p0 = 0 by unfold kf_count; first | rfl | (split <;> first | rfl | (exfalso; omega))), (show 0 = vf_count p0 by unfold vf_count; first | rfl | (split <;> first | rfl | (exfalso; omega)))⟩, by rw [ht]; exact hP, va_K.moved hW.alike hK, hD⟩, hS.F ht⟩) hS.2.2 dX11_count_88
      by_cases s21_7 : p0 = 7
      · refine lv_tableIn (off := 68) (tgt := 89) hx hb dX11_count_21 (by rw [s21_7]; decide) (by rw [s21_7]; decide) (by rw [s21_7]; decide) (by decide) ?_
        refine lv_aload_n hx hb dX11_count_89 rfl (lv_at hl 0 rfl) ?_
        refine va_get (D := (dC, dI)) (ci := 11) (v := .int 0) (C := RX11) (T := TX11) (N := 17) hx hb hts mem_X11_count_1 hown hK hP 0 rfl rfl 1 (by decide) (ow (k := 7) rfl) (fun _ h9 => h9) rfl dX11_count_90 ?_
        have hP := hP.sub (ws' := []) [] rfl
        have hD := hD.sub (ws' := []) [] (by decide) rfl
        have zb1 : 0 ≤ p0.toInt := z_nlt b1
        have zb7 : p0.toInt ≤ 7 := z_le b7
        have zs21_0 : ¬ p0.toInt = 0 := z_ne s21_0
        have zs21_1 : ¬ p0.toInt = 1 := z_ne s21_1
        have zs21_2 : ¬ p0.toInt = 2 := z_ne s21_2
        have zs21_3 : ¬ p0.toInt = 3 := z_ne s21_3
        have zs21_4 : ¬ p0.toInt = 4 := z_ne s21_4
        have zs21_5 : ¬ p0.toInt = 5 := z_ne s21_5
        have zs21_6 : ¬ p0.toInt = 6 := z_ne s21_6
        have zs21_7 : p0.toInt = 7 := z_eq s21_7
        refine W.widen (k := 1) (n := 6) (Nat.le_of_ble_eq_true rfl) (Nat.le_of_ble_eq_true rfl) ?_
        refine vx_ret ?_
        exact W.iret (v := 0) hx hb hr (fun t ht hW => ⟨⟨0, (), rfl, ⟨(show kf_count p0 = 0 by unfold kf_count; first | rfl | (split <;> first | rfl | (exfalso; omega))), (show 0 = vf_count p0 by unfold vf_count; first | rfl | (split <;> first | rfl | (exfalso; omega)))⟩, by rw [ht]; exact hP, va_K.moved hW.alike hK, hD⟩, hS.F ht⟩) hS.2.2 dX11_count_93
      have zb1 : 0 ≤ p0.toInt := z_nlt b1
      have zb7 : p0.toInt ≤ 7 := z_le b7
      have zs21_0 : ¬ p0.toInt = 0 := z_ne s21_0
      have zs21_1 : ¬ p0.toInt = 1 := z_ne s21_1
      have zs21_2 : ¬ p0.toInt = 2 := z_ne s21_2
      have zs21_3 : ¬ p0.toInt = 3 := z_ne s21_3
      have zs21_4 : ¬ p0.toInt = 4 := z_ne s21_4
      have zs21_5 : ¬ p0.toInt = 5 := z_ne s21_5
      have zs21_6 : ¬ p0.toInt = 6 := z_ne s21_6
      have zs21_7 : ¬ p0.toInt = 7 := z_ne s21_7
      exfalso; omega
    · have zb1 : 0 ≤ p0.toInt := z_nlt b1
      have zb7 : 7 < p0.toInt := z_nle b7
      exact vx_throwS (names := ["java/lang/RuntimeException", "java/lang/Exception"]) (is := 235) (ik := 118) (ic := 122) hx hb hst hown (by decide) (by decide) (ow (k := 0) rfl) (ow (k := 1) rfl) hp3 (vx_hat (B := [Cond.declares (Bundle.initS "java/lang/RuntimeException"), Cond.declares (Bundle.initS "java/lang/Exception"), Cond.declares (Bundle.initS "java/lang/Throwable"), Cond.castable "java/lang/IllegalArgumentException" "java/lang/IllegalArgumentException"]) (fun w h => hts w (mem_X11_count_0 w h)) (nb_RX11_122) (vx_c (va_Nw.use rfl hp4) (vx_c (va_Nw.use rfl hp5) (vx_c (va_Nw.use rfl hp6) (vx_c (va_Nw.use rfl hp2) vx_n))))) (go_RX11_118_122) hp0 hp1 hS (hl.1.trans hml.symm) dX11_count_10 dX11_count_13 dX11_count_14 dX11_count_16 dX11_count_19 (fun x9 h9 => (hnt x9 h9).elim) (Nat.le_of_ble_eq_true rfl) (Nat.le_of_ble_eq_true rfl) (Nat.le_of_ble_eq_true rfl) (Nat.le_of_ble_eq_true rfl) hlocks (fun _ t ha hz9 hk9 => ⟨(), trivial, ⟨rfl, (show kf_count p0 = 1 by unfold kf_count; first | rfl | (split <;> first | rfl | (exfalso; omega)))⟩, Nat.le_trans hS.1 hz9, fun q h1 h2 => (hk9 q (Nat.lt_of_lt_of_le h1 hS.1)).trans (hS.2.1 q h1 h2)⟩) hS.2.2 (Nat.le_of_ble_eq_true rfl) (Nat.le_of_ble_eq_true rfl)
theorem dX11_word_0 : decode cX11_word 0 = .ok (.iload_n 1, 1) := by decide +kernel
theorem dX11_word_1 : decode cX11_word 1 = .ok (.ifCond .lt 14, 3) := by decide +kernel
theorem dX11_word_15 : decode cX11_word 15 = .ok (.new 107, 3) := by decide +kernel
theorem dX11_word_18 : decode cX11_word 18 = .ok (.dup, 1) := by decide +kernel
theorem dX11_word_19 : decode cX11_word 19 = .ok (.ldc_w 285, 3) := by decide +kernel
theorem dX11_word_22 : decode cX11_word 22 = .ok (.invokespecial 111, 3) := by decide +kernel
theorem dX11_word_25 : decode cX11_word 25 = .ok (.athrow, 1) := by decide +kernel
theorem dX11_word_4 : decode cX11_word 4 = .ok (.iload_n 1, 1) := by decide +kernel
theorem dX11_word_5 : decode cX11_word 5 = .ok (.aload_n 0, 1) := by decide +kernel
theorem dX11_word_6 : decode cX11_word 6 = .ok (.getfield 103, 3) := by decide +kernel
theorem dX11_word_9 : decode cX11_word 9 = .ok (.getfield 240, 3) := by decide +kernel
theorem dX11_word_12 : decode cX11_word 12 = .ok (.if_icmp .lt 14, 3) := by decide +kernel
def o_X11_word : List Cond := [.classLink RX11 107 "java/lang/IndexOutOfBoundsException", .initialized "java/lang/IndexOutOfBoundsException", .fieldLink RX11 103 "SsaForge" "printer" "LSsaForge$Printer;", .fieldLink RX11 240 "SsaForge$Printer" "length" "I"]
def v_X11_word : List Cond := .code yX11_word cX11_word 2 (some .long) :: (o_X11_word ++ (((vx_atS RX11 111 "java/lang/IndexOutOfBoundsException" ["java/lang/RuntimeException", "java/lang/Exception"]).filter goodWord) ++ (wsX110 ++ (wsX60 ++ []))))
theorem mow_X11_word : ∀ w ∈ o_X11_word, w ∈ v_X11_word := fun _ h => List.mem_cons_of_mem _ (List.mem_append_left _ h)
theorem mem_X11_word_0 : ∀ w ∈ ((vx_atS RX11 111 "java/lang/IndexOutOfBoundsException" ["java/lang/RuntimeException", "java/lang/Exception"]).filter goodWord), w ∈ v_X11_word := fun _ h => List.mem_cons_of_mem _ (List.mem_append_right _ (List.mem_append_left _ h))
theorem mem_X11_word_1 : ∀ w ∈ wsX110, w ∈ v_X11_word := fun _ h => List.mem_cons_of_mem _ (List.mem_append_right _ (List.mem_append_right _ (List.mem_append_left _ h)))
theorem mem_X11_word_2 : ∀ w ∈ wsX60, w ∈ v_X11_word := fun _ h => List.mem_cons_of_mem _ (List.mem_append_right _ (List.mem_append_right _ (List.mem_append_right _ (List.mem_append_left _ h))))
set_option maxRecDepth 20000 in
theorem gw_X11_word : v_X11_word.all goodWord = true := by decide +kernel
set_option maxHeartbeats 4000000 in
set_option maxRecDepth 100000 in
theorem c_X11_word (l : Launch) (dC : Nat → ClassId) (dI : Nat → Nat → Nat) (hst : l.stackTraces = false) (h0 : Nat) (q_1 : Nat) (q_3 : Nat) (q_21 : Nat) (q_39 : Nat) (q_52 : Nat) (q_60 : Nat) (q_66 : Nat) (q_73 : Nat) (q_79 : Nat) (q_84 : Nat) (q_92 : Nat) (q_102 : Nat) (q_107 : Nat) (q_108 : Nat) (q_109 : Nat) (p0 : Int32) (sz : Nat) (sa_RX11_285 : Nat) : vx_Met l yX11_word v_X11_word ({ frames := 6, cells := 1, slots := 6, locals := 82 }) (va_Pc [.ref h0, .int p0] (fun U => U.heap.size = sz ∧ va_P (dC, dI) vwP [(h0, .inr (11, [.ref q_1, .int 0, .int (-1), .ref q_3, .ref q_21, .ref q_39, .int 0, .ref q_52, .int 0, .ref q_60, .ref q_66, .ref q_73, .ref q_79, .ref q_84, .ref q_92, .ref q_102, .ref q_107])), (q_107, .inr (6, [.int 0, .ref q_108, .ref q_109, .int 0, .int 0]))] U.heap ∧ va_K (dC, dI) vwP [] U ∧ va_D (fun _ => True) [(h0, .inr (11, [.ref q_1, .int 0, .int (-1), .ref q_3, .ref q_21, .ref q_39, .int 0, .ref q_52, .int 0, .ref q_60, .ref q_66, .ref q_73, .ref q_79, .ref q_84, .ref q_92, .ref q_102, .ref q_107])), (q_107, .inr (6, [.int 0, .ref q_108, .ref q_109, .int 0, .int 0]))] ∧ vx_Zq Bundle.tN "UNASSIGNED_STACK" Bundle.steD (va_A [(h0, .inr (11, [.ref q_1, .int 0, .int (-1), .ref q_3, .ref q_21, .ref q_39, .int 0, .ref q_52, .int 0, .ref q_60, .ref q_66, .ref q_73, .ref q_79, .ref q_84, .ref q_92, .ref q_102, .ref q_107])), (q_107, .inr (6, [.int 0, .ref q_108, .ref q_109, .int 0, .int 0]))] sz) U U.heap ∧ vx_Zq Bundle.tN "SUPPRESSED_SENTINEL" Bundle.listD (va_A [(h0, .inr (11, [.ref q_1, .int 0, .int (-1), .ref q_3, .ref q_21, .ref q_39, .int 0, .ref q_52, .int 0, .ref q_60, .ref q_66, .ref q_73, .ref q_79, .ref q_84, .ref q_92, .ref q_102, .ref q_107])), (q_107, .inr (6, [.int 0, .ref q_108, .ref q_109, .int 0, .int 0]))] sz) U U.heap ∧ va_Nw (.castable "java/lang/IndexOutOfBoundsException" "java/lang/IndexOutOfBoundsException") U ∧ vk_R RX11 285 "none of the bytes of the result" sa_RX11_285 U ∧ va_Nw (.declares (Bundle.initS "java/lang/RuntimeException")) U ∧ va_Nw (.declares (Bundle.initS "java/lang/Exception")) U ∧ va_Nw (.declares (Bundle.initS "java/lang/Throwable")) U)) (va_Ql (fun (r : Int64) (_ : Unit) => kf_word = 0 ∧ r = vf_word) (fun (_ : Unit) (t : State) => va_P (dC, dI) vwP [] t.heap ∧ va_K (dC, dI) vwP [] t ∧ va_D (va_A [(h0, .inr (11, [.ref q_1, .int 0, .int (-1), .ref q_3, .ref q_21, .ref q_39, .int 0, .ref q_52, .int 0, .ref q_60, .ref q_66, .ref q_73, .ref q_79, .ref q_84, .ref q_92, .ref q_102, .ref q_107])), (q_107, .inr (6, [.int 0, .ref q_108, .ref q_109, .int 0, .int 0]))] sz) []) (va_A [(h0, .inr (11, [.ref q_1, .int 0, .int (-1), .ref q_3, .ref q_21, .ref q_39, .int 0, .ref q_52, .int 0, .ref q_60, .ref q_66, .ref q_73, .ref q_79, .ref q_84, .ref q_92, .ref q_102, .ref q_107])), (q_107, .inr (6, [.int 0, .ref q_108, .ref q_109, .int 0, .int 0]))] sz)) (vx_X (fun _ : Unit => True) (fun E (q9 : Addr) (_ : Unit) (t9 : State) => (E = "java/lang/IndexOutOfBoundsException" ∧ kf_word = 1)) (va_A [(h0, .inr (11, [.ref q_1, .int 0, .int (-1), .ref q_3, .ref q_21, .ref q_39, .int 0, .ref q_52, .int 0, .ref q_60, .ref q_66, .ref q_73, .ref q_79, .ref q_84, .ref q_92, .ref q_102, .ref q_107])), (q_107, .inr (6, [.int 0, .ref q_108, .ref q_109, .int 0, .int 0]))] sz)) 1 6 (va_A [(h0, .inr (11, [.ref q_1, .int 0, .int (-1), .ref q_3, .ref q_21, .ref q_39, .int 0, .ref q_52, .int 0, .ref q_60, .ref q_66, .ref q_73, .ref q_79, .ref q_84, .ref q_92, .ref q_102, .ref q_107])), (q_107, .inr (6, [.int 0, .ref q_108, .ref q_109, .int 0, .int 0]))] sz) := by
  refine vx_ofW (cc := cX11_word) (maxL := 2) (ret := (some .long)) (by decide) rfl ?_
  intro p e s m args below meth c s₁ B hml hnt hv
  obtain ⟨rfl, hsz, hP, hK, hD0, hp0, hp1, hp2, hp3, hp4, hp5, hp6⟩ := hv
  have hx := B.exec
  have hb := B.bytes
  have hr := B.returns
  have hts := atoms_spec (ws := v_X11_word) B.pre
  have hown : s.vm.findClass RX11 = some m.cls := findClass_of_methodNamed B.named
  have hlocks := B.notSynchronized
  have ow : ∀ {k : Nat} {w : Cond}, o_X11_word[k]? = some w → w.before ([.ref h0, .int p0] : List Value).toArray s = true := fun h => hts _ (mow_X11_word _ (List.mem_of_getElem? h))
  subst hsz
  have hD := hD0.self (sz := s.heap.size)
  generalize hAe : va_A [(h0, .inr (11, [.ref q_1, .int 0, .int (-1), .ref q_3, .ref q_21, .ref q_39, .int 0, .ref q_52, .int 0, .ref q_60, .ref q_66, .ref q_73, .ref q_79, .ref q_84, .ref q_92, .ref q_102, .ref q_107])), (q_107, .inr (6, [.int 0, .ref q_108, .ref q_109, .int 0, .int 0]))] s.heap.size = A at hD hp0 hp1 ⊢
  have hA : ∀ q : Nat, s.heap.size ≤ q → A q := fun q h => by rw [← hAe]; exact Or.inr h
  have hS : va_S A s.heap s.heap [] := va_S.rf
  have hP : va_P (dC, dI) vwP [(h0, .inr (11, [.ref q_1, .int 0, .int (-1), .ref q_3, .ref q_21, .ref q_39, .int 0, .ref q_52, .int 0, .ref q_60, .ref q_66, .ref q_73, .ref q_79, .ref q_84, .ref q_92, .ref q_102, .ref q_107])), (q_107, .inr (6, [.int 0, .ref q_108, .ref q_109, .int 0, .int 0]))] s.heap := hP
  have hl := lv_entry ([.ref h0, .int p0]) (n := 2) (Nat.le_of_ble_eq_true rfl)
  rw [lg_entry_eq]
  generalize (lg_sl ([.ref h0, .int p0]) ++ List.replicate (2 - (lg_sl ([.ref h0, .int p0])).length) Slot.unset).toArray = ls at hl ⊢
  have hl : lv_has ls 2 [(0, .ref h0), (1, .int p0)] := hl
  obtain ⟨H, hH⟩ : ∃ H, H = s.heap := ⟨_, rfl⟩
  rw [← hH] at hP
  have hS : va_S A s.heap H [] := by rw [hH]; exact hS
  rw [← hH]
  refine lv_iload_n hx hb dX11_word_0 rfl (lv_at hl 1 rfl) ?_
  refine lv_if_lt (tgt := 15) hx hb dX11_word_1 (by decide) (fun b1 => ?_) (fun b1 => ?_)
  · have zb1 : p0.toInt < 0 := z_lt b1
    exact vx_throwSW (names := ["java/lang/RuntimeException", "java/lang/Exception"]) (is := 285) (ik := 107) (ic := 111) hx hb hst hown (by decide) (by decide) (ow (k := 0) rfl) (ow (k := 1) rfl) hp3 (vx_hat (B := [Cond.declares (Bundle.initS "java/lang/RuntimeException"), Cond.declares (Bundle.initS "java/lang/Exception"), Cond.declares (Bundle.initS "java/lang/Throwable"), Cond.castable "java/lang/IndexOutOfBoundsException" "java/lang/IndexOutOfBoundsException"]) (fun w h => hts w (mem_X11_word_0 w h)) (nb_RX11_111) (vx_c (va_Nw.use rfl hp4) (vx_c (va_Nw.use rfl hp5) (vx_c (va_Nw.use rfl hp6) (vx_c (va_Nw.use rfl hp2) vx_n))))) (go_RX11_107_111) hp0 hp1 hS (hl.1.trans hml.symm) dX11_word_15 dX11_word_18 dX11_word_19 dX11_word_22 dX11_word_25 (fun x9 h9 => (hnt x9 h9).elim) (Nat.le_of_ble_eq_true rfl) (Nat.le_of_ble_eq_true rfl) (Nat.le_of_ble_eq_true rfl) (Nat.le_of_ble_eq_true rfl) hlocks (fun _ t ha hz9 hk9 => ⟨(), trivial, ⟨rfl, (show kf_word = 1 by unfold kf_word; first | rfl | (split <;> first | rfl | (exfalso; omega)))⟩, Nat.le_trans hS.1 hz9, fun q h1 h2 => (hk9 q (Nat.lt_of_lt_of_le h1 hS.1)).trans (hS.2.1 q h1 h2)⟩) hS.2.2 (Nat.le_of_ble_eq_true rfl) (Nat.le_of_ble_eq_true rfl)
  · refine lv_iload_n hx hb dX11_word_4 rfl (lv_at hl 1 rfl) ?_
    refine lv_aload_n hx hb dX11_word_5 rfl (lv_at hl 0 rfl) ?_
    refine va_get (D := (dC, dI)) (ci := 11) (v := .ref q_107) (C := RX11) (T := TX11) (N := 17) hx hb hts mem_X11_word_1 hown hK hP 0 rfl rfl 16 (by decide) (ow (k := 2) rfl) (fun _ h9 => h9) rfl dX11_word_6 ?_
    refine va_get (D := (dC, dI)) (ci := 6) (v := .int 0) (C := RX6) (T := TX6) (N := 5) hx hb hts mem_X11_word_2 hown hK hP 1 rfl rfl 0 (by decide) (ow (k := 3) rfl) (fun _ h9 => h9) rfl dX11_word_9 ?_
    refine lv_icmp_lt (tgt := 26) hx hb dX11_word_12 (by decide) (fun h9 => absurd h9 b1) (fun _ => ?_)
    have zb1 : 0 ≤ p0.toInt := z_nlt b1
    exact vx_throwSW (names := ["java/lang/RuntimeException", "java/lang/Exception"]) (is := 285) (ik := 107) (ic := 111) hx hb hst hown (by decide) (by decide) (ow (k := 0) rfl) (ow (k := 1) rfl) hp3 (vx_hat (B := [Cond.declares (Bundle.initS "java/lang/RuntimeException"), Cond.declares (Bundle.initS "java/lang/Exception"), Cond.declares (Bundle.initS "java/lang/Throwable"), Cond.castable "java/lang/IndexOutOfBoundsException" "java/lang/IndexOutOfBoundsException"]) (fun w h => hts w (mem_X11_word_0 w h)) (nb_RX11_111) (vx_c (va_Nw.use rfl hp4) (vx_c (va_Nw.use rfl hp5) (vx_c (va_Nw.use rfl hp6) (vx_c (va_Nw.use rfl hp2) vx_n))))) (go_RX11_107_111) hp0 hp1 hS (hl.1.trans hml.symm) dX11_word_15 dX11_word_18 dX11_word_19 dX11_word_22 dX11_word_25 (fun x9 h9 => (hnt x9 h9).elim) (Nat.le_of_ble_eq_true rfl) (Nat.le_of_ble_eq_true rfl) (Nat.le_of_ble_eq_true rfl) (Nat.le_of_ble_eq_true rfl) hlocks (fun _ t ha hz9 hk9 => ⟨(), trivial, ⟨rfl, (show kf_word = 1 by unfold kf_word; first | rfl | (split <;> first | rfl | (exfalso; omega)))⟩, Nat.le_trans hS.1 hz9, fun q h1 h2 => (hk9 q (Nat.lt_of_lt_of_le h1 hS.1)).trans (hS.2.1 q h1 h2)⟩) hS.2.2 (Nat.le_of_ble_eq_true rfl) (Nat.le_of_ble_eq_true rfl)
