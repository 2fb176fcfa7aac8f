theorem dL_feed_0 : decode cL_feed 0 = .ok (.aload 6, 2) := by decide +kernel
theorem dL_feed_2 : decode cL_feed 2 = .ok (.iconst 0, 1) := by decide +kernel
theorem dL_feed_3 : decode cL_feed 3 = .ok (.aload_n 0, 1) := by decide +kernel
theorem dL_feed_4 : decode cL_feed 4 = .ok (.iload_n 1, 1) := by decide +kernel
theorem dL_feed_5 : decode cL_feed 5 = .ok (.iload_n 2, 1) := by decide +kernel
theorem dL_feed_6 : decode cL_feed 6 = .ok (.iload_n 3, 1) := by decide +kernel
theorem dL_feed_7 : decode cL_feed 7 = .ok (.iload 4, 2) := by decide +kernel
theorem dL_feed_9 : decode cL_feed 9 = .ok (.iload 5, 2) := by decide +kernel
theorem dL_feed_11 : decode cL_feed 11 = .ok (.invokevirtual 7, 3) := by decide +kernel
theorem dL_feed_14 : decode cL_feed 14 = .ok (.i2l, 1) := by decide +kernel
theorem dL_feed_15 : decode cL_feed 15 = .ok (.lastore, 1) := by decide +kernel
theorem dL_feed_16 : decode cL_feed 16 = .ok (.goto 7, 3) := by decide +kernel
theorem dL_feed_23 : decode cL_feed 23 = .ok (.iconst 0, 1) := by decide +kernel
theorem dL_feed_24 : decode cL_feed 24 = .ok (.ireturn, 1) := by decide +kernel
def o_L_feed : List Cond := [.methodLink RL 7 yX11_feed, .instanceMethod yX11_feed, .selects RX11 yX11_feed yX11_feed, .initialized RX11]
def v_L_feed : List Cond := .codeWith yL_feed cL_feed 8 (some .int) [(0, 16, 19, 13)] :: (o_L_feed ++ (v_X11_feed ++ []))
theorem mow_L_feed : ∀ w ∈ o_L_feed, w ∈ v_L_feed := fun _ h => List.mem_cons_of_mem _ (List.mem_append_left _ h)
theorem mem_L_feed_0 : ∀ w ∈ v_X11_feed, w ∈ v_L_feed := fun _ h => List.mem_cons_of_mem _ (List.mem_append_right _ (List.mem_append_left _ h))
set_option maxRecDepth 20000 in
theorem gw_L_feed : v_L_feed.all goodWord = true := by decide +kernel
set_option maxRecDepth 20000 in
theorem g_L_feed_X11_feed : GoodIn v_L_feed (wsV RL 7 RX11 yX11_feed v_X11_feed) := goodIn_app (goodIn_sub (fun w h => mow_L_feed w (by revert w h; decide +kernel)) (by decide +kernel)) (goodIn_sub mem_L_feed_0 gw_X11_feed)
set_option maxHeartbeats 4000000 in
set_option maxRecDepth 100000 in
theorem c_L_feed (l : Launch) (dC : Nat → ClassId) (dI : Nat → Nat → Nat) (h0 : Nat) (q_1 : Nat) (q_3 : Nat) (q_21 : Nat) (q_39 : Nat) (q_52 : Nat) (q_60 : Nat) (q_66 : Nat) (q_73 : Nat) (q_79 : Nat) (q_84 : Nat) (q_92 : Nat) (q_102 : Nat) (q_107 : Nat) (cA_2 : ClassId) (q_900 : Nat) (cA_901 : ClassId) (fl_0 : Nat → Int64) (p0 : Int32) (p1 : Int32) (p2 : Int32) (p3 : Int32) (p4 : Int32) (sz : Nat) : Met l yL_feed v_L_feed ({ frames := 2, cells := 0, slots := 0, locals := 46 }) (va_Pc [.ref h0, .int p0, .int p1, .int p2, .int p3, .int p4, .ref q_900] (fun U => U.heap.size = sz ∧ va_P (dC, dI) vwP [(h0, .inr (11, [.ref q_1, .int 0, .int (-1), .ref q_3, .ref q_21, .ref q_39, .int 0, .ref q_52, .int 0, .ref q_60, .ref q_66, .ref q_73, .ref q_79, .ref q_84, .ref q_92, .ref q_102, .ref q_107])), (q_1, .inl (cA_2, 8192, .inl (fun _ => 0))), (q_900, .inl (cA_901, 1, .inr (.inl fl_0)))] U.heap ∧ va_K (dC, dI) vwP [(cA_2, .byte), (cA_901, .long)] U ∧ va_D (fun _ => True) [(h0, .inr (11, [.ref q_1, .int 0, .int (-1), .ref q_3, .ref q_21, .ref q_39, .int 0, .ref q_52, .int 0, .ref q_60, .ref q_66, .ref q_73, .ref q_79, .ref q_84, .ref q_92, .ref q_102, .ref q_107])), (q_1, .inl (cA_2, 8192, .inl (fun _ => 0))), (q_900, .inl (cA_901, 1, .inr (.inl fl_0)))])) (va_Qi (fun (r : Int32) (_ : Unit) => r = kf_feed) (fun (_ : Unit) (t : State) => ∃ (g0_9 : Nat → Int64), (kf_feed = 0 → g0_9 0 = (vf_feed : Int32).toInt64) ∧ va_P (dC, dI) vwP [(q_900, .inl (cA_901, 1, .inr (.inl g0_9)))] t.heap ∧ va_K (dC, dI) vwP [(cA_901, .long)] t ∧ va_D (va_A [(h0, .inr (11, [.ref q_1, .int 0, .int (-1), .ref q_3, .ref q_21, .ref q_39, .int 0, .ref q_52, .int 0, .ref q_60, .ref q_66, .ref q_73, .ref q_79, .ref q_84, .ref q_92, .ref q_102, .ref q_107])), (q_1, .inl (cA_2, 8192, .inl (fun _ => 0))), (q_900, .inl (cA_901, 1, .inr (.inl fl_0)))] sz) [(q_900, .inl (cA_901, 1, .inr (.inl g0_9)))]) (va_A [(h0, .inr (11, [.ref q_1, .int 0, .int (-1), .ref q_3, .ref q_21, .ref q_39, .int 0, .ref q_52, .int 0, .ref q_60, .ref q_66, .ref q_73, .ref q_79, .ref q_84, .ref q_92, .ref q_102, .ref q_107])), (q_1, .inl (cA_2, 8192, .inl (fun _ => 0))), (q_900, .inl (cA_901, 1, .inr (.inl fl_0)))] sz)) 0 0 (va_A [(h0, .inr (11, [.ref q_1, .int 0, .int (-1), .ref q_3, .ref q_21, .ref q_39, .int 0, .ref q_52, .int 0, .ref q_60, .ref q_66, .ref q_73, .ref q_79, .ref q_84, .ref q_92, .ref q_102, .ref q_107])), (q_1, .inl (cA_2, 8192, .inl (fun _ => 0))), (q_900, .inl (cA_901, 1, .inr (.inl fl_0)))] sz) := by
  refine va_MetW (cc := cL_feed) (maxL := 8) (ret := (some .int)) (by decide) rfl ?_
  intro p e s m args below meth c s₁ B hml hv
  obtain ⟨rfl, hsz, hP, hK, hD0⟩ := hv
  have hx := B.exec
  have hb := B.bytes
  have hr := B.returns
  have hts := atoms_spec (ws := v_L_feed) B.pre
  have hown : s.vm.findClass RL = some m.cls := findClass_of_methodNamed B.named
  have hlocks := B.notSynchronized
  have ow : ∀ {k : Nat} {w : Cond}, o_L_feed[k]? = some w → w.before ([.ref h0, .int p0, .int p1, .int p2, .int p3, .int p4, .ref q_900] : List Value).toArray s = true := fun h => hts _ (mow_L_feed _ (List.mem_of_getElem? h))
  subst hsz
  have hD := hD0.self (sz := s.heap.size)
  generalize hAe : va_A [(h0, .inr (11, [.ref q_1, .int 0, .int (-1), .ref q_3, .ref q_21, .ref q_39, .int 0, .ref q_52, .int 0, .ref q_60, .ref q_66, .ref q_73, .ref q_79, .ref q_84, .ref q_92, .ref q_102, .ref q_107])), (q_1, .inl (cA_2, 8192, .inl (fun _ => 0))), (q_900, .inl (cA_901, 1, .inr (.inl fl_0)))] s.heap.size = A at hD ⊢
  have hA : ∀ q : Nat, s.heap.size ≤ q → A q := fun q h => by rw [← hAe]; exact Or.inr h
  have hS : va_S A s.heap s.heap [] := va_S.rf
  have hP : va_P (dC, dI) vwP [(h0, .inr (11, [.ref q_1, .int 0, .int (-1), .ref q_3, .ref q_21, .ref q_39, .int 0, .ref q_52, .int 0, .ref q_60, .ref q_66, .ref q_73, .ref q_79, .ref q_84, .ref q_92, .ref q_102, .ref q_107])), (q_1, .inl (cA_2, 8192, .inl (fun _ => 0))), (q_900, .inl (cA_901, 1, .inr (.inl fl_0)))] s.heap := hP
  have hl := lv_entry ([.ref h0, .int p0, .int p1, .int p2, .int p3, .int p4, .ref q_900]) (n := 8) (Nat.le_of_ble_eq_true rfl)
  rw [lg_entry_eq]
  generalize (lg_sl ([.ref h0, .int p0, .int p1, .int p2, .int p3, .int p4, .ref q_900]) ++ List.replicate (8 - (lg_sl ([.ref h0, .int p0, .int p1, .int p2, .int p3, .int p4, .ref q_900])).length) Slot.unset).toArray = ls at hl ⊢
  have hl : lv_has ls 8 [(0, .ref h0), (1, .int p0), (2, .int p1), (3, .int p2), (4, .int p3), (5, .int p4), (6, .ref q_900)] := hl
  obtain ⟨H, hH⟩ : ∃ H, H = s.heap := ⟨_, rfl⟩
  rw [← hH] at hP
  have hS : va_S A s.heap H [] := by rw [hH]; exact hS
  rw [← hH]
  refine lv_aload hx hb dL_feed_0 (lv_at hl 6 rfl) ?_
  refine lv_iconst (v := 0) hx hb dL_feed_2 (by decide) ?_
  refine lv_aload_n hx hb dL_feed_3 rfl (lv_at hl 0 rfl) ?_
  refine lv_iload_n hx hb dL_feed_4 rfl (lv_at hl 1 rfl) ?_
  refine lv_iload_n hx hb dL_feed_5 rfl (lv_at hl 2 rfl) ?_
  refine lv_iload_n hx hb dL_feed_6 rfl (lv_at hl 3 rfl) ?_
  refine lv_iload hx hb dL_feed_7 (lv_at hl 4 rfl) ?_
  refine lv_iload hx hb dL_feed_9 (lv_at hl 5 rfl) ?_
  have hPc := hP.sub (ws' := [(h0, .inr (11, [.ref q_1, .int 0, .int (-1), .ref q_3, .ref q_21, .ref q_39, .int 0, .ref q_52, .int 0, .ref q_60, .ref q_66, .ref q_73, .ref q_79, .ref q_84, .ref q_92, .ref q_102, .ref q_107])), (q_1, .inl (cA_2, 8192, .inl (fun _ => 0)))]) [0, 1] rfl
  have hDc := hD.sub (ws' := [(h0, .inr (11, [.ref q_1, .int 0, .int (-1), .ref q_3, .ref q_21, .ref q_39, .int 0, .ref q_52, .int 0, .ref q_60, .ref q_66, .ref q_73, .ref q_79, .ref q_84, .ref q_92, .ref q_102, .ref q_107])), (q_1, .inl (cA_2, 8192, .inl (fun _ => 0)))]) [0, 1] (by decide) rfl
  have hKc := hK.sub (tys' := [(cA_2, .byte)]) [0] rfl
  have hFc := va_free (wc := [(h0, .inr (11, [.ref q_1, .int 0, .int (-1), .ref q_3, .ref q_21, .ref q_39, .int 0, .ref q_52, .int 0, .ref q_60, .ref q_66, .ref q_73, .ref q_79, .ref q_84, .ref q_92, .ref q_102, .ref q_107])), (q_1, .inl (cA_2, 8192, .inl (fun _ => 0)))]) hD hS hA [0, 1] rfl
  refine va_calli (va_runV (As := [.int p0, .int p1, .int p2, .int p3, .int p4]) (rest := [.int 0, .ref q_900]) ⟨hx, hb, hml, hown, hts⟩ (c_X11_feed l dC dI h0 q_1 q_3 q_21 q_39 q_52 q_60 q_66 q_73 q_79 q_84 q_92 q_102 q_107 cA_2 p0 p1 p2 p3 p4 H.size) (cwV 5 hts g_L_feed_X11_feed rfl rfl rfl (by decide +kernel) ⟨(Nat.le_of_ble_eq_true rfl), (Nat.le_of_ble_eq_true rfl)⟩) ⟨fun a U g mk q => by obtain ⟨q0, q1, qP, qK, qD⟩ := q; exact ⟨q0, q1, qP, va_K.moved (u := U) (U := U.calling g mk a) (Vm.Alike.refl U.vm) qK, qD⟩, va_recv hKc hPc (ci := 11) (q0 := 0) rfl rfl, fun U hU hW => ⟨rfl, by rw [hU], by rw [hU]; exact hPc, va_K.moved hW.alike hKc, hDc.weaken (fun _ _ _ _ => trivial)⟩⟩ rfl rfl hl.1 rfl (lv_room (Nat.le_of_ble_eq_true rfl)) dL_feed_11 ⟨(Nat.le_of_ble_eq_true rfl), (Nat.le_of_ble_eq_true rfl)⟩) hS (fun q _ h => hFc q h) hFc (fun r_2001 u t H1 locs ht hvm hw hB hz1 hk1 hS => ?_)
  obtain ⟨hP1, hK1, hD1⟩ := hB
  rw [ht] at hP1
  have hK1 := va_K.moved hvm.symm hK1
  obtain ⟨hP, hD⟩ := va_join (wr := [(q_900, .inl (cA_901, 1, .inr (.inl fl_0)))]) (w1 := []) hP hD [0, 1] [2] rfl rfl (by decide) (by decide) hk1 hFc hP1 hD1
  have hK := (hK.sub (tys' := [(cA_901, .long)]) [1] rfl).app hK1
  generalize H1 = H at hP hS ⊢
  have hP : va_P (dC, dI) vwP [(q_900, .inl (cA_901, 1, .inr (.inl fl_0)))] H := hP
  have hD : va_D A [(q_900, .inl (cA_901, 1, .inr (.inl fl_0)))] := hD
  have hK : va_K (dC, dI) vwP [(cA_901, .long)] s := hK
  refine W.widen (k := 0) (n := 0) (Nat.le_of_ble_eq_true rfl) (Nat.le_of_ble_eq_true rfl) ?_
  obtain rfl : r_2001 = 20 := hw
  refine lv_i2l hx hb dL_feed_14 rfl ?_
  refine va_last hx hb hK hP hD hS 0 0 rfl rfl (show vp_in 0 1 by rw [vp_in_iff]; decide) dL_feed_15 (fun H locs hP hD hS => ?_)
  have hP : va_P (dC, dI) vwP [(q_900, .inl (cA_901, 1, .inr (.inl (vp_updL fl_0 (0 : Int32).toNatClampNeg ((20 : Int32).toInt64)))))] H := hP
  have hD : va_D A [(q_900, .inl (cA_901, 1, .inr (.inl (vp_updL fl_0 (0 : Int32).toNatClampNeg ((20 : Int32).toInt64)))))] := hD
  refine lv_goto (tgt := 23) hx hb dL_feed_16 (by decide) ?_
  refine lv_iconst (v := 0) hx hb dL_feed_23 (by decide) ?_
  refine W.widen (k := 0) (n := 0) (Nat.le_of_ble_eq_true rfl) (Nat.le_of_ble_eq_true rfl) ?_
  exact W.iret (v := 0) hx hb hr (fun t ht hW => ⟨⟨0, (), rfl, rfl, (vp_updL fl_0 (0 : Int32).toNatClampNeg ((20 : Int32).toInt64)), (fun _ => by rw [show (0 : Int32).toNatClampNeg = 0 from rfl, pk_uLs]; rfl), by rw [ht]; exact hP, va_K.moved hW.alike hK, hD⟩, hS.F ht⟩) hS.2.2 dL_feed_24
theorem dL_end_0 : decode cL_end 0 = .ok (.aload_n 2, 1) := by decide +kernel
theorem dL_end_1 : decode cL_end 1 = .ok (.iconst 0, 1) := by decide +kernel
theorem dL_end_2 : decode cL_end 2 = .ok (.aload_n 0, 1) := by decide +kernel
theorem dL_end_3 : decode cL_end 3 = .ok (.iload_n 1, 1) := by decide +kernel
theorem dL_end_4 : decode cL_end 4 = .ok (.invokevirtual 15, 3) := by decide +kernel
theorem dL_end_12 : decode cL_end 12 = .ok (.astore_n 3, 1) := by decide +kernel
theorem dL_end_13 : decode cL_end 13 = .ok (.iconst 1, 1) := by decide +kernel
theorem dL_end_14 : decode cL_end 14 = .ok (.ireturn, 1) := by decide +kernel
theorem dL_end_7 : decode cL_end 7 = .ok (.i2l, 1) := by decide +kernel
theorem dL_end_8 : decode cL_end 8 = .ok (.lastore, 1) := by decide +kernel
theorem dL_end_9 : decode cL_end 9 = .ok (.goto 6, 3) := by decide +kernel
theorem dL_end_15 : decode cL_end 15 = .ok (.iconst 0, 1) := by decide +kernel
theorem dL_end_16 : decode cL_end 16 = .ok (.ireturn, 1) := by decide +kernel
def o_L_end : List Cond := [.methodLink RL 15 yX11_end, .instanceMethod yX11_end, .selects RX11 yX11_end yX11_end, .initialized RX11, .classLink RL 19 "java/lang/IllegalArgumentException"]
def v_L_end : List Cond := .codeWith yL_end cL_end 4 (some .int) [(0, 9, 12, 19)] :: (o_L_end ++ (v_X11_end ++ []))
theorem mow_L_end : ∀ w ∈ o_L_end, w ∈ v_L_end := fun _ h => List.mem_cons_of_mem _ (List.mem_append_left _ h)
theorem mem_L_end_0 : ∀ w ∈ v_X11_end, w ∈ v_L_end := fun _ h => List.mem_cons_of_mem _ (List.mem_append_right _ (List.mem_append_left _ h))
set_option maxRecDepth 20000 in
theorem gw_L_end : v_L_end.all goodWord = true := by decide +kernel
set_option maxRecDepth 20000 in
theorem g_L_end_X11_end : GoodIn v_L_end (wsV RL 15 RX11 yX11_end v_X11_end) := goodIn_app (goodIn_sub (fun w h => mow_L_end w (by revert w h; decide +kernel)) (by decide +kernel)) (goodIn_sub mem_L_end_0 gw_X11_end)
set_option maxHeartbeats 4000000 in
set_option maxRecDepth 100000 in
theorem c_L_end (l : Launch) (dC : Nat → ClassId) (dI : Nat → Nat → Nat) (hst : l.stackTraces = false) (h0 : Nat) (q_1 : Nat) (q_3 : Nat) (q_21 : Nat) (q_39 : Nat) (q_52 : Nat) (q_60 : Nat) (q_66 : Nat) (q_73 : Nat) (q_79 : Nat) (q_84 : Nat) (q_92 : Nat) (q_102 : Nat) (q_107 : Nat) (q_900 : Nat) (cA_901 : ClassId) (fl_0 : Nat → Int64) (p0 : Int32) (sz : Nat) (sa_RX11_120 : Nat) : Met l yL_end v_L_end ({ frames := 7, cells := 1, slots := 6, locals := 103 }) (va_Pc [.ref h0, .int p0, .ref q_900] (fun U => U.heap.size = sz ∧ va_P (dC, dI) vwP [(h0, .inr (11, [.ref q_1, .int 0, .int (-1), .ref q_3, .ref q_21, .ref q_39, .int 0, .ref q_52, .int 0, .ref q_60, .ref q_66, .ref q_73, .ref q_79, .ref q_84, .ref q_92, .ref q_102, .ref q_107])), (q_900, .inl (cA_901, 1, .inr (.inl fl_0)))] U.heap ∧ va_K (dC, dI) vwP [(cA_901, .long)] U ∧ va_D (fun _ => True) [(h0, .inr (11, [.ref q_1, .int 0, .int (-1), .ref q_3, .ref q_21, .ref q_39, .int 0, .ref q_52, .int 0, .ref q_60, .ref q_66, .ref q_73, .ref q_79, .ref q_84, .ref q_92, .ref q_102, .ref q_107])), (q_900, .inl (cA_901, 1, .inr (.inl fl_0)))] ∧ vx_Zq Bundle.tN "UNASSIGNED_STACK" Bundle.steD (va_A [(h0, .inr (11, [.ref q_1, .int 0, .int (-1), .ref q_3, .ref q_21, .ref q_39, .int 0, .ref q_52, .int 0, .ref q_60, .ref q_66, .ref q_73, .ref q_79, .ref q_84, .ref q_92, .ref q_102, .ref q_107])), (q_900, .inl (cA_901, 1, .inr (.inl fl_0)))] sz) U U.heap ∧ vx_Zq Bundle.tN "SUPPRESSED_SENTINEL" Bundle.listD (va_A [(h0, .inr (11, [.ref q_1, .int 0, .int (-1), .ref q_3, .ref q_21, .ref q_39, .int 0, .ref q_52, .int 0, .ref q_60, .ref q_66, .ref q_73, .ref q_79, .ref q_84, .ref q_92, .ref q_102, .ref q_107])), (q_900, .inl (cA_901, 1, .inr (.inl fl_0)))] sz) U U.heap ∧ va_Nw (.castable "java/lang/IllegalArgumentException" "java/lang/IllegalArgumentException") U ∧ vk_R RX11 120 "not a length of the tape" sa_RX11_120 U ∧ va_Nw (.declares (Bundle.initS "java/lang/RuntimeException")) U ∧ va_Nw (.declares (Bundle.initS "java/lang/Exception")) U ∧ va_Nw (.declares (Bundle.initS "java/lang/Throwable")) U)) (va_Qi (fun (r : Int32) (_ : Unit) => r = kf_end p0) (fun (_ : Unit) (t : State) => ∃ (g0_9 : Nat → Int64), (kf_end p0 = 0 → g0_9 0 = (vf_end p0 : Int32).toInt64) ∧ va_P (dC, dI) vwP [(q_900, .inl (cA_901, 1, .inr (.inl g0_9)))] t.heap ∧ va_K (dC, dI) vwP [(cA_901, .long)] t ∧ va_D (va_A [(h0, .inr (11, [.ref q_1, .int 0, .int (-1), .ref q_3, .ref q_21, .ref q_39, .int 0, .ref q_52, .int 0, .ref q_60, .ref q_66, .ref q_73, .ref q_79, .ref q_84, .ref q_92, .ref q_102, .ref q_107])), (q_900, .inl (cA_901, 1, .inr (.inl fl_0)))] sz) [(q_900, .inl (cA_901, 1, .inr (.inl g0_9)))]) (va_A [(h0, .inr (11, [.ref q_1, .int 0, .int (-1), .ref q_3, .ref q_21, .ref q_39, .int 0, .ref q_52, .int 0, .ref q_60, .ref q_66, .ref q_73, .ref q_79, .ref q_84, .ref q_92, .ref q_102, .ref q_107])), (q_900, .inl (cA_901, 1, .inr (.inl fl_0)))] sz)) 1 6 (va_A [(h0, .inr (11, [.ref q_1, .int 0, .int (-1), .ref q_3, .ref q_21, .ref q_39, .int 0, .ref q_52, .int 0, .ref q_60, .ref q_66, .ref q_73, .ref q_79, .ref q_84, .ref q_92, .ref q_102, .ref q_107])), (q_900, .inl (cA_901, 1, .inr (.inl fl_0)))] sz) := by
  refine va_MetW (cc := cL_end) (maxL := 4) (ret := (some .int)) (by decide) rfl ?_
  intro p e s m args below meth c s₁ B hml hv
  obtain ⟨rfl, hsz, hP, hK, hD0, hp0, hp1, hp2, hp3, hp4, hp5, hp6⟩ := hv
  have hx := B.exec
  have hb := B.bytes
  have hr := B.returns
  have hts := atoms_spec (ws := v_L_end) B.pre
  have hown : s.vm.findClass RL = some m.cls := findClass_of_methodNamed B.named
  have hlocks := B.notSynchronized
  have ow : ∀ {k : Nat} {w : Cond}, o_L_end[k]? = some w → w.before ([.ref h0, .int p0, .ref q_900] : List Value).toArray s = true := fun h => hts _ (mow_L_end _ (List.mem_of_getElem? h))
  subst hsz
  have hD := hD0.self (sz := s.heap.size)
  generalize hAe : va_A [(h0, .inr (11, [.ref q_1, .int 0, .int (-1), .ref q_3, .ref q_21, .ref q_39, .int 0, .ref q_52, .int 0, .ref q_60, .ref q_66, .ref q_73, .ref q_79, .ref q_84, .ref q_92, .ref q_102, .ref q_107])), (q_900, .inl (cA_901, 1, .inr (.inl fl_0)))] s.heap.size = A at hD hp0 hp1 ⊢
  have hA : ∀ q : Nat, s.heap.size ≤ q → A q := fun q h => by rw [← hAe]; exact Or.inr h
  have hS : va_S A s.heap s.heap [] := va_S.rf
  have hP : va_P (dC, dI) vwP [(h0, .inr (11, [.ref q_1, .int 0, .int (-1), .ref q_3, .ref q_21, .ref q_39, .int 0, .ref q_52, .int 0, .ref q_60, .ref q_66, .ref q_73, .ref q_79, .ref q_84, .ref q_92, .ref q_102, .ref q_107])), (q_900, .inl (cA_901, 1, .inr (.inl fl_0)))] s.heap := hP
  have hl := lv_entry ([.ref h0, .int p0, .ref q_900]) (n := 4) (Nat.le_of_ble_eq_true rfl)
  rw [lg_entry_eq]
  generalize (lg_sl ([.ref h0, .int p0, .ref q_900]) ++ List.replicate (4 - (lg_sl ([.ref h0, .int p0, .ref q_900])).length) Slot.unset).toArray = ls at hl ⊢
  have hl : lv_has ls 4 [(0, .ref h0), (1, .int p0), (2, .ref q_900)] := hl
  obtain ⟨H, hH⟩ : ∃ H, H = s.heap := ⟨_, rfl⟩
  rw [← hH] at hP
  have hS : va_S A s.heap H [] := by rw [hH]; exact hS
  rw [← hH]
  refine lv_aload_n hx hb dL_end_0 rfl (lv_at hl 2 rfl) ?_
  refine lv_iconst (v := 0) hx hb dL_end_1 (by decide) ?_
  refine lv_aload_n hx hb dL_end_2 rfl (lv_at hl 0 rfl) ?_
  refine lv_iload_n hx hb dL_end_3 rfl (lv_at hl 1 rfl) ?_
  have hPc := hP.sub (ws' := [(h0, .inr (11, [.ref q_1, .int 0, .int (-1), .ref q_3, .ref q_21, .ref q_39, .int 0, .ref q_52, .int 0, .ref q_60, .ref q_66, .ref q_73, .ref q_79, .ref q_84, .ref q_92, .ref q_102, .ref q_107]))]) [0] rfl
  have hDc := hD.sub (ws' := [(h0, .inr (11, [.ref q_1, .int 0, .int (-1), .ref q_3, .ref q_21, .ref q_39, .int 0, .ref q_52, .int 0, .ref q_60, .ref q_66, .ref q_73, .ref q_79, .ref q_84, .ref q_92, .ref q_102, .ref q_107]))]) [0] (by decide) rfl
  have hKc := hK.sub (tys' := []) [] rfl
  have hFc := va_free (wc := [(h0, .inr (11, [.ref q_1, .int 0, .int (-1), .ref q_3, .ref q_21, .ref q_39, .int 0, .ref q_52, .int 0, .ref q_60, .ref q_66, .ref q_73, .ref q_79, .ref q_84, .ref q_92, .ref q_102, .ref q_107]))]) hD hS hA [0] rfl
  refine vx_calli (vx_runV (As := [.int p0]) (rest := [.int 0, .ref q_900]) ⟨hx, hb, hml, hown, hts⟩ (c_X11_end l dC dI hst h0 q_1 q_3 q_21 q_39 q_52 q_60 q_66 q_73 q_79 q_84 q_92 q_102 q_107 p0 H.size sa_RX11_120) (cwV 1 hts g_L_end_X11_end rfl rfl rfl (by decide +kernel) ⟨(Nat.le_of_ble_eq_true rfl), (Nat.le_of_ble_eq_true rfl)⟩) ⟨fun a U g mk q => by obtain ⟨q0, q1, qP, qK, qD, e0, e1, e2, e3, e4, e5, e6⟩ := q; exact ⟨q0, q1, qP, va_K.moved (u := U) (U := U.calling g mk a) (Vm.Alike.refl U.vm) qK, qD, vx_Zq.moved (u := U) (U := U.calling g mk a) (Vm.Alike.refl U.vm) e0, vx_Zq.moved (u := U) (U := U.calling g mk a) (Vm.Alike.refl U.vm) e1, va_Nw.same rfl (u := U) (U := U.calling g mk a) rfl e2, vk_R.same (u := U) (U := U.calling g mk a) rfl e3, va_Nw.same rfl (u := U) (U := U.calling g mk a) rfl e4, va_Nw.same rfl (u := U) (U := U.calling g mk a) rfl e5, va_Nw.same rfl (u := U) (U := U.calling g mk a) rfl e6⟩, va_recv hKc hPc (ci := 11) (q0 := 0) rfl rfl, fun U hU hW => ⟨rfl, by rw [hU], by rw [hU]; exact hPc, va_K.moved hW.alike hKc, hDc.weaken (fun _ _ _ _ => trivial), by rw [hU]; exact vx_Zq.narrow (vx_Zq.moved hW.alike (vx_Zq.kept hp0 hS.2.1)) hFc, by rw [hU]; exact vx_Zq.narrow (vx_Zq.moved hW.alike (vx_Zq.kept hp1 hS.2.1)) hFc, va_Nw.warmC hW hp2, vk_R.warm hW hp3, va_Nw.warmD hW hp4, va_Nw.warmD hW hp5, va_Nw.warmD hW hp6⟩⟩ rfl rfl hl.1 rfl (lv_room (Nat.le_of_ble_eq_true rfl)) dL_end_4 ⟨(Nat.le_of_ble_eq_true rfl), (Nat.le_of_ble_eq_true rfl)⟩) hS (fun q _ h => hFc q h) hFc (fun q _ h => hFc q h) (fun E ce q9 u t H1 locs ht hvm _ hB hz1 hk1 hS hce hcv hcl => ?_) (fun r_2001 u t H1 locs ht hvm hw hB hz1 hk1 hS => ?_)
  · obtain ⟨hP, hD⟩ := va_join (wr := [(q_900, .inl (cA_901, 1, .inr (.inl fl_0)))]) (w1 := []) hP hD [0] [1] rfl rfl (by decide) (by decide) hk1 hFc (fun k q h => by simp at h) ⟨fun i j p q h => by simp at h, fun k q h => by simp at h⟩
    have hK := hK.sub (tys' := [(cA_901, .long)]) [0] rfl
    generalize H1 = H at hP hS hce ⊢
    have hP : va_P (dC, dI) vwP [(q_900, .inl (cA_901, 1, .inr (.inl fl_0)))] H := hP
    have hD : va_D A [(q_900, .inl (cA_901, 1, .inr (.inl fl_0)))] := hD
    refine vx_widen (k := 1) (n := 6) (Nat.le_of_ble_eq_true rfl) (Nat.le_of_ble_eq_true rfl) ?_
    obtain ⟨rfl, hkx⟩ := hB
    refine vx_catch (name := "java/lang/IllegalArgumentException") hown [] ⟨0, 9, 12, 19⟩ [] (by rw [vx_table (x := yL_end) B (hts _ List.mem_cons_self)]; rfl) (fun z hz => nomatch hz) (by decide) (by decide) (ow (k := 4) rfl) (va_Nw.use rfl hp2) hce hcv hcl ?_
    refine lv_astore_n (lv' := [(3, .ref q9), (0, .ref h0), (1, .int p0), (2, .ref q_900)]) hx hb dL_end_12 rfl hl (by decide) rfl (fun ls hl => ?_)
    refine lv_iconst (v := 1) hx hb dL_end_13 (by decide) ?_
    refine W.widen (k := 1) (n := 6) (Nat.le_of_ble_eq_true rfl) (Nat.le_of_ble_eq_true rfl) ?_
    exact W.iret (v := 1) hx hb hr (fun t ht hW => ⟨⟨1, (), rfl, hkx.symm, fl_0, (fun h => absurd (hkx.symm.trans h) (by decide)), by rw [ht]; exact hP, va_K.moved hW.alike hK, hD⟩, hS.F ht⟩) hS.2.2 dL_end_14
  obtain ⟨hP1, hK1, hD1⟩ := hB
  rw [ht] at hP1
  have hK1 := va_K.moved hvm.symm hK1
  obtain ⟨hP, hD⟩ := va_join (wr := [(q_900, .inl (cA_901, 1, .inr (.inl fl_0)))]) (w1 := []) hP hD [0] [1] rfl rfl (by decide) (by decide) hk1 hFc hP1 hD1
  have hK := (hK.sub (tys' := [(cA_901, .long)]) [0] rfl).app hK1
  generalize H1 = H at hP hS ⊢
  have hP : va_P (dC, dI) vwP [(q_900, .inl (cA_901, 1, .inr (.inl fl_0)))] H := hP
  have hD : va_D A [(q_900, .inl (cA_901, 1, .inr (.inl fl_0)))] := hD
  have hK : va_K (dC, dI) vwP [(cA_901, .long)] s := hK
  refine W.widen (k := 1) (n := 6) (Nat.le_of_ble_eq_true rfl) (Nat.le_of_ble_eq_true rfl) ?_
  have hw_2002 := hw
  refine lv_i2l hx hb dL_end_7 rfl ?_
  refine va_last hx hb hK hP hD hS 0 0 rfl rfl (show vp_in 0 1 by rw [vp_in_iff]; decide) dL_end_8 (fun H locs hP hD hS => ?_)
  have hP : va_P (dC, dI) vwP [(q_900, .inl (cA_901, 1, .inr (.inl (vp_updL fl_0 (0 : Int32).toNatClampNeg ((r_2001 : Int32).toInt64)))))] H := hP
  have hD : va_D A [(q_900, .inl (cA_901, 1, .inr (.inl (vp_updL fl_0 (0 : Int32).toNatClampNeg ((r_2001 : Int32).toInt64)))))] := hD
  refine lv_goto (tgt := 15) hx hb dL_end_9 (by decide) ?_
  refine lv_iconst (v := 0) hx hb dL_end_15 (by decide) ?_
  refine W.widen (k := 1) (n := 6) (Nat.le_of_ble_eq_true rfl) (Nat.le_of_ble_eq_true rfl) ?_
  exact W.iret (v := 0) hx hb hr (fun t ht hW => ⟨⟨0, (), rfl, hw_2002.1.symm, (vp_updL fl_0 (0 : Int32).toNatClampNeg ((r_2001 : Int32).toInt64)), (fun _ => by rw [show (0 : Int32).toNatClampNeg = 0 from rfl, pk_uLs, hw_2002.2]), by rw [ht]; exact hP, va_K.moved hW.alike hK, hD⟩, hS.F ht⟩) hS.2.2 dL_end_16
theorem dL_ssa_0 : decode cL_ssa 0 = .ok (.aload_n 1, 1) := by decide +kernel
theorem dL_ssa_1 : decode cL_ssa 1 = .ok (.iconst 0, 1) := by decide +kernel
theorem dL_ssa_2 : decode cL_ssa 2 = .ok (.aload_n 0, 1) := by decide +kernel
theorem dL_ssa_3 : decode cL_ssa 3 = .ok (.invokevirtual 21, 3) := by decide +kernel
theorem dL_ssa_11 : decode cL_ssa 11 = .ok (.astore_n 2, 1) := by decide +kernel
theorem dL_ssa_12 : decode cL_ssa 12 = .ok (.iconst 1, 1) := by decide +kernel
theorem dL_ssa_13 : decode cL_ssa 13 = .ok (.ireturn, 1) := by decide +kernel
theorem dL_ssa_6 : decode cL_ssa 6 = .ok (.i2l, 1) := by decide +kernel
theorem dL_ssa_7 : decode cL_ssa 7 = .ok (.lastore, 1) := by decide +kernel
theorem dL_ssa_8 : decode cL_ssa 8 = .ok (.goto 9, 3) := by decide +kernel
theorem dL_ssa_17 : decode cL_ssa 17 = .ok (.iconst 0, 1) := by decide +kernel
theorem dL_ssa_18 : decode cL_ssa 18 = .ok (.ireturn, 1) := by decide +kernel
def o_L_ssa : List Cond := [.methodLink RL 21 yX11_ssa, .instanceMethod yX11_ssa, .selects RX11 yX11_ssa yX11_ssa, .initialized RX11, .classLink RL 25 "java/lang/IllegalStateException"]
def v_L_ssa : List Cond := .codeWith yL_ssa cL_ssa 3 (some .int) [(0, 8, 11, 25), (0, 8, 14, 27)] :: (o_L_ssa ++ (v_X11_ssa ++ []))
theorem mow_L_ssa : ∀ w ∈ o_L_ssa, w ∈ v_L_ssa := fun _ h => List.mem_cons_of_mem _ (List.mem_append_left _ h)
theorem mem_L_ssa_0 : ∀ w ∈ v_X11_ssa, w ∈ v_L_ssa := fun _ h => List.mem_cons_of_mem _ (List.mem_append_right _ (List.mem_append_left _ h))
set_option maxRecDepth 20000 in
theorem gw_L_ssa : v_L_ssa.all goodWord = true := by decide +kernel
set_option maxRecDepth 20000 in
theorem g_L_ssa_X11_ssa : GoodIn v_L_ssa (wsV RL 21 RX11 yX11_ssa v_X11_ssa) := goodIn_app (goodIn_sub (fun w h => mow_L_ssa w (by revert w h; decide +kernel)) (by decide +kernel)) (goodIn_sub mem_L_ssa_0 gw_X11_ssa)
set_option maxHeartbeats 4000000 in
set_option maxRecDepth 100000 in
theorem c_L_ssa (l : Launch) (dC : Nat → ClassId) (dI : Nat → Nat → Nat) (hst : l.stackTraces = false) (h0 : Nat) (q_1 : Nat) (q_3 : Nat) (q_21 : Nat) (q_39 : Nat) (q_52 : Nat) (q_60 : Nat) (q_66 : Nat) (q_73 : Nat) (q_79 : Nat) (q_84 : Nat) (q_92 : Nat) (q_102 : Nat) (q_107 : Nat) (q_900 : Nat) (cA_901 : ClassId) (fl_0 : Nat → Int64) (sz : Nat) (sa_RX11_136 : Nat) : Met l yL_ssa v_L_ssa ({ frames := 7, cells := 1, slots := 6, locals := 102 }) (va_Pc [.ref h0, .ref q_900] (fun U => U.heap.size = sz ∧ va_P (dC, dI) vwP [(h0, .inr (11, [.ref q_1, .int 0, .int (-1), .ref q_3, .ref q_21, .ref q_39, .int 0, .ref q_52, .int 0, .ref q_60, .ref q_66, .ref q_73, .ref q_79, .ref q_84, .ref q_92, .ref q_102, .ref q_107])), (q_900, .inl (cA_901, 1, .inr (.inl fl_0)))] U.heap ∧ va_K (dC, dI) vwP [(cA_901, .long)] U ∧ va_D (fun _ => True) [(h0, .inr (11, [.ref q_1, .int 0, .int (-1), .ref q_3, .ref q_21, .ref q_39, .int 0, .ref q_52, .int 0, .ref q_60, .ref q_66, .ref q_73, .ref q_79, .ref q_84, .ref q_92, .ref q_102, .ref q_107])), (q_900, .inl (cA_901, 1, .inr (.inl fl_0)))] ∧ vx_Zq Bundle.tN "UNASSIGNED_STACK" Bundle.steD (va_A [(h0, .inr (11, [.ref q_1, .int 0, .int (-1), .ref q_3, .ref q_21, .ref q_39, .int 0, .ref q_52, .int 0, .ref q_60, .ref q_66, .ref q_73, .ref q_79, .ref q_84, .ref q_92, .ref q_102, .ref q_107])), (q_900, .inl (cA_901, 1, .inr (.inl fl_0)))] sz) U U.heap ∧ vx_Zq Bundle.tN "SUPPRESSED_SENTINEL" Bundle.listD (va_A [(h0, .inr (11, [.ref q_1, .int 0, .int (-1), .ref q_3, .ref q_21, .ref q_39, .int 0, .ref q_52, .int 0, .ref q_60, .ref q_66, .ref q_73, .ref q_79, .ref q_84, .ref q_92, .ref q_102, .ref q_107])), (q_900, .inl (cA_901, 1, .inr (.inl fl_0)))] sz) U U.heap ∧ va_Nw (.castable "java/lang/IllegalStateException" "java/lang/IllegalStateException") U ∧ vk_R RX11 136 "no plain program" sa_RX11_136 U ∧ va_Nw (.declares (Bundle.initS "java/lang/RuntimeException")) U ∧ va_Nw (.declares (Bundle.initS "java/lang/Exception")) U ∧ va_Nw (.declares (Bundle.initS "java/lang/Throwable")) U)) (va_Qi (fun (r : Int32) (_ : Unit) => r = kf_ssa) (fun (_ : Unit) (t : State) => ∃ (g0_9 : Nat → Int64), (kf_ssa = 0 → g0_9 0 = (vf_ssa : Int32).toInt64) ∧ va_P (dC, dI) vwP [(q_900, .inl (cA_901, 1, .inr (.inl g0_9)))] t.heap ∧ va_K (dC, dI) vwP [(cA_901, .long)] t ∧ va_D (va_A [(h0, .inr (11, [.ref q_1, .int 0, .int (-1), .ref q_3, .ref q_21, .ref q_39, .int 0, .ref q_52, .int 0, .ref q_60, .ref q_66, .ref q_73, .ref q_79, .ref q_84, .ref q_92, .ref q_102, .ref q_107])), (q_900, .inl (cA_901, 1, .inr (.inl fl_0)))] sz) [(q_900, .inl (cA_901, 1, .inr (.inl g0_9)))]) (va_A [(h0, .inr (11, [.ref q_1, .int 0, .int (-1), .ref q_3, .ref q_21, .ref q_39, .int 0, .ref q_52, .int 0, .ref q_60, .ref q_66, .ref q_73, .ref q_79, .ref q_84, .ref q_92, .ref q_102, .ref q_107])), (q_900, .inl (cA_901, 1, .inr (.inl fl_0)))] sz)) 1 6 (va_A [(h0, .inr (11, [.ref q_1, .int 0, .int (-1), .ref q_3, .ref q_21, .ref q_39, .int 0, .ref q_52, .int 0, .ref q_60, .ref q_66, .ref q_73, .ref q_79, .ref q_84, .ref q_92, .ref q_102, .ref q_107])), (q_900, .inl (cA_901, 1, .inr (.inl fl_0)))] sz) := by
  refine va_MetW (cc := cL_ssa) (maxL := 3) (ret := (some .int)) (by decide) rfl ?_
  intro p e s m args below meth c s₁ B hml hv
  obtain ⟨rfl, hsz, hP, hK, hD0, hp0, hp1, hp2, hp3, hp4, hp5, hp6⟩ := hv
  have hx := B.exec
  have hb := B.bytes
  have hr := B.returns
  have hts := atoms_spec (ws := v_L_ssa) B.pre
  have hown : s.vm.findClass RL = some m.cls := findClass_of_methodNamed B.named
  have hlocks := B.notSynchronized
  have ow : ∀ {k : Nat} {w : Cond}, o_L_ssa[k]? = some w → w.before ([.ref h0, .ref q_900] : List Value).toArray s = true := fun h => hts _ (mow_L_ssa _ (List.mem_of_getElem? h))
  subst hsz
  have hD := hD0.self (sz := s.heap.size)
  generalize hAe : va_A [(h0, .inr (11, [.ref q_1, .int 0, .int (-1), .ref q_3, .ref q_21, .ref q_39, .int 0, .ref q_52, .int 0, .ref q_60, .ref q_66, .ref q_73, .ref q_79, .ref q_84, .ref q_92, .ref q_102, .ref q_107])), (q_900, .inl (cA_901, 1, .inr (.inl fl_0)))] s.heap.size = A at hD hp0 hp1 ⊢
  have hA : ∀ q : Nat, s.heap.size ≤ q → A q := fun q h => by rw [← hAe]; exact Or.inr h
  have hS : va_S A s.heap s.heap [] := va_S.rf
  have hP : va_P (dC, dI) vwP [(h0, .inr (11, [.ref q_1, .int 0, .int (-1), .ref q_3, .ref q_21, .ref q_39, .int 0, .ref q_52, .int 0, .ref q_60, .ref q_66, .ref q_73, .ref q_79, .ref q_84, .ref q_92, .ref q_102, .ref q_107])), (q_900, .inl (cA_901, 1, .inr (.inl fl_0)))] s.heap := hP
  have hl := lv_entry ([.ref h0, .ref q_900]) (n := 3) (Nat.le_of_ble_eq_true rfl)
  rw [lg_entry_eq]
  generalize (lg_sl ([.ref h0, .ref q_900]) ++ List.replicate (3 - (lg_sl ([.ref h0, .ref q_900])).length) Slot.unset).toArray = ls at hl ⊢
  have hl : lv_has ls 3 [(0, .ref h0), (1, .ref q_900)] := hl
  obtain ⟨H, hH⟩ : ∃ H, H = s.heap := ⟨_, rfl⟩
  rw [← hH] at hP
  have hS : va_S A s.heap H [] := by rw [hH]; exact hS
  rw [← hH]
  refine lv_aload_n hx hb dL_ssa_0 rfl (lv_at hl 1 rfl) ?_
  refine lv_iconst (v := 0) hx hb dL_ssa_1 (by decide) ?_
  refine lv_aload_n hx hb dL_ssa_2 rfl (lv_at hl 0 rfl) ?_
  have hPc := hP.sub (ws' := [(h0, .inr (11, [.ref q_1, .int 0, .int (-1), .ref q_3, .ref q_21, .ref q_39, .int 0, .ref q_52, .int 0, .ref q_60, .ref q_66, .ref q_73, .ref q_79, .ref q_84, .ref q_92, .ref q_102, .ref q_107]))]) [0] rfl
  have hDc := hD.sub (ws' := [(h0, .inr (11, [.ref q_1, .int 0, .int (-1), .ref q_3, .ref q_21, .ref q_39, .int 0, .ref q_52, .int 0, .ref q_60, .ref q_66, .ref q_73, .ref q_79, .ref q_84, .ref q_92, .ref q_102, .ref q_107]))]) [0] (by decide) rfl
  have hKc := hK.sub (tys' := []) [] rfl
  have hFc := va_free (wc := [(h0, .inr (11, [.ref q_1, .int 0, .int (-1), .ref q_3, .ref q_21, .ref q_39, .int 0, .ref q_52, .int 0, .ref q_60, .ref q_66, .ref q_73, .ref q_79, .ref q_84, .ref q_92, .ref q_102, .ref q_107]))]) hD hS hA [0] rfl
  refine vx_calli (vx_runV (As := []) (rest := [.int 0, .ref q_900]) ⟨hx, hb, hml, hown, hts⟩ (c_X11_ssa l dC dI hst h0 q_1 q_3 q_21 q_39 q_52 q_60 q_66 q_73 q_79 q_84 q_92 q_102 q_107 H.size sa_RX11_136) (cwV 0 hts g_L_ssa_X11_ssa rfl rfl rfl (by decide +kernel) ⟨(Nat.le_of_ble_eq_true rfl), (Nat.le_of_ble_eq_true rfl)⟩) ⟨fun a U g mk q => by obtain ⟨q0, q1, qP, qK, qD, e0, e1, e2, e3, e4, e5, e6⟩ := q; exact ⟨q0, q1, qP, va_K.moved (u := U) (U := U.calling g mk a) (Vm.Alike.refl U.vm) qK, qD, vx_Zq.moved (u := U) (U := U.calling g mk a) (Vm.Alike.refl U.vm) e0, vx_Zq.moved (u := U) (U := U.calling g mk a) (Vm.Alike.refl U.vm) e1, va_Nw.same rfl (u := U) (U := U.calling g mk a) rfl e2, vk_R.same (u := U) (U := U.calling g mk a) rfl e3, va_Nw.same rfl (u := U) (U := U.calling g mk a) rfl e4, va_Nw.same rfl (u := U) (U := U.calling g mk a) rfl e5, va_Nw.same rfl (u := U) (U := U.calling g mk a) rfl e6⟩, va_recv hKc hPc (ci := 11) (q0 := 0) rfl rfl, fun U hU hW => ⟨rfl, by rw [hU], by rw [hU]; exact hPc, va_K.moved hW.alike hKc, hDc.weaken (fun _ _ _ _ => trivial), by rw [hU]; exact vx_Zq.narrow (vx_Zq.moved hW.alike (vx_Zq.kept hp0 hS.2.1)) hFc, by rw [hU]; exact vx_Zq.narrow (vx_Zq.moved hW.alike (vx_Zq.kept hp1 hS.2.1)) hFc, va_Nw.warmC hW hp2, vk_R.warm hW hp3, va_Nw.warmD hW hp4, va_Nw.warmD hW hp5, va_Nw.warmD hW hp6⟩⟩ rfl rfl hl.1 rfl (lv_room (Nat.le_of_ble_eq_true rfl)) dL_ssa_3 ⟨(Nat.le_of_ble_eq_true rfl), (Nat.le_of_ble_eq_true rfl)⟩) hS (fun q _ h => hFc q h) hFc (fun q _ h => hFc q h) (fun E ce q9 u t H1 locs ht hvm _ hB hz1 hk1 hS hce hcv hcl => ?_) (fun r_2001 u t H1 locs ht hvm hw hB hz1 hk1 hS => ?_)
  · obtain ⟨hP, hD⟩ := va_join (wr := [(q_900, .inl (cA_901, 1, .inr (.inl fl_0)))]) (w1 := []) hP hD [0] [1] rfl rfl (by decide) (by decide) hk1 hFc (fun k q h => by simp at h) ⟨fun i j p q h => by simp at h, fun k q h => by simp at h⟩
    have hK := hK.sub (tys' := [(cA_901, .long)]) [0] rfl
    generalize H1 = H at hP hS hce ⊢
    have hP : va_P (dC, dI) vwP [(q_900, .inl (cA_901, 1, .inr (.inl fl_0)))] H := hP
    have hD : va_D A [(q_900, .inl (cA_901, 1, .inr (.inl fl_0)))] := hD
    refine vx_widen (k := 1) (n := 6) (Nat.le_of_ble_eq_true rfl) (Nat.le_of_ble_eq_true rfl) ?_
    obtain ⟨rfl, hkx⟩ := hB
    refine vx_catch (name := "java/lang/IllegalStateException") hown [] ⟨0, 8, 11, 25⟩ [⟨0, 8, 14, 27⟩] (by rw [vx_table (x := yL_ssa) B (hts _ List.mem_cons_self)]; rfl) (fun z hz => nomatch hz) (by decide) (by decide) (ow (k := 4) rfl) (va_Nw.use rfl hp2) hce hcv hcl ?_
    refine lv_astore_n (lv' := [(2, .ref q9), (0, .ref h0), (1, .ref q_900)]) hx hb dL_ssa_11 rfl hl (by decide) rfl (fun ls hl => ?_)
    refine lv_iconst (v := 1) hx hb dL_ssa_12 (by decide) ?_
    refine W.widen (k := 1) (n := 6) (Nat.le_of_ble_eq_true rfl) (Nat.le_of_ble_eq_true rfl) ?_
    exact W.iret (v := 1) hx hb hr (fun t ht hW => ⟨⟨1, (), rfl, hkx.symm, fl_0, (fun h => absurd (hkx.symm.trans h) (by decide)), by rw [ht]; exact hP, va_K.moved hW.alike hK, hD⟩, hS.F ht⟩) hS.2.2 dL_ssa_13
  obtain ⟨hP1, hK1, hD1⟩ := hB
  rw [ht] at hP1
  have hK1 := va_K.moved hvm.symm hK1
  obtain ⟨hP, hD⟩ := va_join (wr := [(q_900, .inl (cA_901, 1, .inr (.inl fl_0)))]) (w1 := []) hP hD [0] [1] rfl rfl (by decide) (by decide) hk1 hFc hP1 hD1
  have hK := (hK.sub (tys' := [(cA_901, .long)]) [0] rfl).app hK1
  generalize H1 = H at hP hS ⊢
  have hP : va_P (dC, dI) vwP [(q_900, .inl (cA_901, 1, .inr (.inl fl_0)))] H := hP
  have hD : va_D A [(q_900, .inl (cA_901, 1, .inr (.inl fl_0)))] := hD
  have hK : va_K (dC, dI) vwP [(cA_901, .long)] s := hK
  refine W.widen (k := 1) (n := 6) (Nat.le_of_ble_eq_true rfl) (Nat.le_of_ble_eq_true rfl) ?_
  have hw_2002 := hw
  refine lv_i2l hx hb dL_ssa_6 rfl ?_
  refine va_last hx hb hK hP hD hS 0 0 rfl rfl (show vp_in 0 1 by rw [vp_in_iff]; decide) dL_ssa_7 (fun H locs hP hD hS => ?_)
  have hP : va_P (dC, dI) vwP [(q_900, .inl (cA_901, 1, .inr (.inl (vp_updL fl_0 (0 : Int32).toNatClampNeg ((r_2001 : Int32).toInt64)))))] H := hP
  have hD : va_D A [(q_900, .inl (cA_901, 1, .inr (.inl (vp_updL fl_0 (0 : Int32).toNatClampNeg ((r_2001 : Int32).toInt64)))))] := hD
  refine lv_goto (tgt := 17) hx hb dL_ssa_8 (by decide) ?_
  refine lv_iconst (v := 0) hx hb dL_ssa_17 (by decide) ?_
  refine W.widen (k := 1) (n := 6) (Nat.le_of_ble_eq_true rfl) (Nat.le_of_ble_eq_true rfl) ?_
  exact W.iret (v := 0) hx hb hr (fun t ht hW => ⟨⟨0, (), rfl, hw_2002.1.symm, (vp_updL fl_0 (0 : Int32).toNatClampNeg ((r_2001 : Int32).toInt64)), (fun _ => by rw [show (0 : Int32).toNatClampNeg = 0 from rfl, pk_uLs, hw_2002.2]), by rw [ht]; exact hP, va_K.moved hW.alike hK, hD⟩, hS.F ht⟩) hS.2.2 dL_ssa_18
theorem dL_pass_0 : decode cL_pass 0 = .ok (.aload_n 2, 1) := by decide +kernel
theorem dL_pass_1 : decode cL_pass 1 = .ok (.iconst 0, 1) := by decide +kernel
theorem dL_pass_2 : decode cL_pass 2 = .ok (.aload_n 0, 1) := by decide +kernel
theorem dL_pass_3 : decode cL_pass 3 = .ok (.iload_n 1, 1) := by decide +kernel
theorem dL_pass_4 : decode cL_pass 4 = .ok (.invokevirtual 29, 3) := by decide +kernel
theorem dL_pass_12 : decode cL_pass 12 = .ok (.astore_n 3, 1) := by decide +kernel
theorem dL_pass_13 : decode cL_pass 13 = .ok (.iconst 1, 1) := by decide +kernel
theorem dL_pass_14 : decode cL_pass 14 = .ok (.ireturn, 1) := by decide +kernel
theorem dL_pass_15 : decode cL_pass 15 = .ok (.astore_n 3, 1) := by decide +kernel
theorem dL_pass_16 : decode cL_pass 16 = .ok (.iconst 2, 1) := by decide +kernel
theorem dL_pass_17 : decode cL_pass 17 = .ok (.ireturn, 1) := by decide +kernel
theorem dL_pass_7 : decode cL_pass 7 = .ok (.i2l, 1) := by decide +kernel
theorem dL_pass_8 : decode cL_pass 8 = .ok (.lastore, 1) := by decide +kernel
theorem dL_pass_9 : decode cL_pass 9 = .ok (.goto 9, 3) := by decide +kernel
theorem dL_pass_18 : decode cL_pass 18 = .ok (.iconst 0, 1) := by decide +kernel
theorem dL_pass_19 : decode cL_pass 19 = .ok (.ireturn, 1) := by decide +kernel
def o_L_pass : List Cond := [.methodLink RL 29 yX11_pass, .instanceMethod yX11_pass, .selects RX11 yX11_pass yX11_pass, .initialized RX11, .classLink RL 19 "java/lang/IllegalArgumentException", .classLink RL 25 "java/lang/IllegalStateException"]
def v_L_pass : List Cond := .codeWith yL_pass cL_pass 4 (some .int) [(0, 9, 12, 19), (0, 9, 15, 25)] :: (o_L_pass ++ (v_X11_pass ++ []))
theorem mow_L_pass : ∀ w ∈ o_L_pass, w ∈ v_L_pass := fun _ h => List.mem_cons_of_mem _ (List.mem_append_left _ h)
theorem mem_L_pass_0 : ∀ w ∈ v_X11_pass, w ∈ v_L_pass := fun _ h => List.mem_cons_of_mem _ (List.mem_append_right _ (List.mem_append_left _ h))
set_option maxRecDepth 20000 in
theorem gw_L_pass : v_L_pass.all goodWord = true := by decide +kernel
set_option maxRecDepth 20000 in
theorem g_L_pass_X11_pass : GoodIn v_L_pass (wsV RL 29 RX11 yX11_pass v_X11_pass) := goodIn_app (goodIn_sub (fun w h => mow_L_pass w (by revert w h; decide +kernel)) (by decide +kernel)) (goodIn_sub mem_L_pass_0 gw_X11_pass)
set_option maxHeartbeats 4000000 in
set_option maxRecDepth 100000 in
theorem c_L_pass (l : Launch) (dC : Nat → ClassId) (dI : Nat → Nat → Nat) (hst : l.stackTraces = false) (h0 : Nat) (q_1 : Nat) (q_3 : Nat) (q_21 : Nat) (q_39 : Nat) (q_52 : Nat) (q_60 : Nat) (q_66 : Nat) (q_73 : Nat) (q_79 : Nat) (q_84 : Nat) (q_92 : Nat) (q_102 : Nat) (q_107 : Nat) (q_900 : Nat) (cA_901 : ClassId) (fl_0 : Nat → Int64) (p0 : Int32) (sz : Nat) (sa_RX11_166 : Nat) (sa_RX11_168 : Nat) : Met l yL_pass v_L_pass ({ frames := 7, cells := 1, slots := 6, locals := 103 }) (va_Pc [.ref h0, .int p0, .ref q_900] (fun U => U.heap.size = sz ∧ va_P (dC, dI) vwP [(h0, .inr (11, [.ref q_1, .int 0, .int (-1), .ref q_3, .ref q_21, .ref q_39, .int 0, .ref q_52, .int 0, .ref q_60, .ref q_66, .ref q_73, .ref q_79, .ref q_84, .ref q_92, .ref q_102, .ref q_107])), (q_900, .inl (cA_901, 1, .inr (.inl fl_0)))] U.heap ∧ va_K (dC, dI) vwP [(cA_901, .long)] U ∧ va_D (fun _ => True) [(h0, .inr (11, [.ref q_1, .int 0, .int (-1), .ref q_3, .ref q_21, .ref q_39, .int 0, .ref q_52, .int 0, .ref q_60, .ref q_66, .ref q_73, .ref q_79, .ref q_84, .ref q_92, .ref q_102, .ref q_107])), (q_900, .inl (cA_901, 1, .inr (.inl fl_0)))] ∧ vx_Zq Bundle.tN "UNASSIGNED_STACK" Bundle.steD (va_A [(h0, .inr (11, [.ref q_1, .int 0, .int (-1), .ref q_3, .ref q_21, .ref q_39, .int 0, .ref q_52, .int 0, .ref q_60, .ref q_66, .ref q_73, .ref q_79, .ref q_84, .ref q_92, .ref q_102, .ref q_107])), (q_900, .inl (cA_901, 1, .inr (.inl fl_0)))] sz) U U.heap ∧ vx_Zq Bundle.tN "SUPPRESSED_SENTINEL" Bundle.listD (va_A [(h0, .inr (11, [.ref q_1, .int 0, .int (-1), .ref q_3, .ref q_21, .ref q_39, .int 0, .ref q_52, .int 0, .ref q_60, .ref q_66, .ref q_73, .ref q_79, .ref q_84, .ref q_92, .ref q_102, .ref q_107])), (q_900, .inl (cA_901, 1, .inr (.inl fl_0)))] sz) U U.heap ∧ va_Nw (.castable "java/lang/IllegalArgumentException" "java/lang/IllegalArgumentException") U ∧ vk_R RX11 166 "no such pass" sa_RX11_166 U ∧ va_Nw (.declares (Bundle.initS "java/lang/RuntimeException")) U ∧ va_Nw (.declares (Bundle.initS "java/lang/Exception")) U ∧ va_Nw (.declares (Bundle.initS "java/lang/Throwable")) U ∧ va_Nw (.castable "java/lang/IllegalStateException" "java/lang/IllegalStateException") U ∧ vk_R RX11 168 "no program that is ssa" sa_RX11_168 U ∧ va_Nc "java/lang/IllegalStateException" "java/lang/IllegalArgumentException" U)) (va_Qi (fun (r : Int32) (_ : Unit) => r = kf_pass p0) (fun (_ : Unit) (t : State) => ∃ (g0_9 : Nat → Int64), (kf_pass p0 = 0 → g0_9 0 = (vf_pass : Int32).toInt64) ∧ va_P (dC, dI) vwP [(q_900, .inl (cA_901, 1, .inr (.inl g0_9)))] t.heap ∧ va_K (dC, dI) vwP [(cA_901, .long)] t ∧ va_D (va_A [(h0, .inr (11, [.ref q_1, .int 0, .int (-1), .ref q_3, .ref q_21, .ref q_39, .int 0, .ref q_52, .int 0, .ref q_60, .ref q_66, .ref q_73, .ref q_79, .ref q_84, .ref q_92, .ref q_102, .ref q_107])), (q_900, .inl (cA_901, 1, .inr (.inl fl_0)))] sz) [(q_900, .inl (cA_901, 1, .inr (.inl g0_9)))]) (va_A [(h0, .inr (11, [.ref q_1, .int 0, .int (-1), .ref q_3, .ref q_21, .ref q_39, .int 0, .ref q_52, .int 0, .ref q_60, .ref q_66, .ref q_73, .ref q_79, .ref q_84, .ref q_92, .ref q_102, .ref q_107])), (q_900, .inl (cA_901, 1, .inr (.inl fl_0)))] sz)) 1 6 (va_A [(h0, .inr (11, [.ref q_1, .int 0, .int (-1), .ref q_3, .ref q_21, .ref q_39, .int 0, .ref q_52, .int 0, .ref q_60, .ref q_66, .ref q_73, .ref q_79, .ref q_84, .ref q_92, .ref q_102, .ref q_107])), (q_900, .inl (cA_901, 1, .inr (.inl fl_0)))] sz) := by
  refine va_MetW (cc := cL_pass) (maxL := 4) (ret := (some .int)) (by decide) rfl ?_
  intro p e s m args below meth c s₁ B hml hv
  obtain ⟨rfl, hsz, hP, hK, hD0, hp0, hp1, hp2, hp3, hp4, hp5, hp6, hp7, hp8, hp9⟩ := hv
  have hx := B.exec
  have hb := B.bytes
  have hr := B.returns
  have hts := atoms_spec (ws := v_L_pass) B.pre
  have hown : s.vm.findClass RL = some m.cls := findClass_of_methodNamed B.named
  have hlocks := B.notSynchronized
  have ow : ∀ {k : Nat} {w : Cond}, o_L_pass[k]? = some w → w.before ([.ref h0, .int p0, .ref q_900] : List Value).toArray s = true := fun h => hts _ (mow_L_pass _ (List.mem_of_getElem? h))
  subst hsz
  have hD := hD0.self (sz := s.heap.size)
  generalize hAe : va_A [(h0, .inr (11, [.ref q_1, .int 0, .int (-1), .ref q_3, .ref q_21, .ref q_39, .int 0, .ref q_52, .int 0, .ref q_60, .ref q_66, .ref q_73, .ref q_79, .ref q_84, .ref q_92, .ref q_102, .ref q_107])), (q_900, .inl (cA_901, 1, .inr (.inl fl_0)))] s.heap.size = A at hD hp0 hp1 ⊢
  have hA : ∀ q : Nat, s.heap.size ≤ q → A q := fun q h => by rw [← hAe]; exact Or.inr h
  have hS : va_S A s.heap s.heap [] := va_S.rf
  have hP : va_P (dC, dI) vwP [(h0, .inr (11, [.ref q_1, .int 0, .int (-1), .ref q_3, .ref q_21, .ref q_39, .int 0, .ref q_52, .int 0, .ref q_60, .ref q_66, .ref q_73, .ref q_79, .ref q_84, .ref q_92, .ref q_102, .ref q_107])), (q_900, .inl (cA_901, 1, .inr (.inl fl_0)))] s.heap := hP
  have hl := lv_entry ([.ref h0, .int p0, .ref q_900]) (n := 4) (Nat.le_of_ble_eq_true rfl)
  rw [lg_entry_eq]
  generalize (lg_sl ([.ref h0, .int p0, .ref q_900]) ++ List.replicate (4 - (lg_sl ([.ref h0, .int p0, .ref q_900])).length) Slot.unset).toArray = ls at hl ⊢
  have hl : lv_has ls 4 [(0, .ref h0), (1, .int p0), (2, .ref q_900)] := hl
  obtain ⟨H, hH⟩ : ∃ H, H = s.heap := ⟨_, rfl⟩
  rw [← hH] at hP
  have hS : va_S A s.heap H [] := by rw [hH]; exact hS
  rw [← hH]
  refine lv_aload_n hx hb dL_pass_0 rfl (lv_at hl 2 rfl) ?_
  refine lv_iconst (v := 0) hx hb dL_pass_1 (by decide) ?_
  refine lv_aload_n hx hb dL_pass_2 rfl (lv_at hl 0 rfl) ?_
  refine lv_iload_n hx hb dL_pass_3 rfl (lv_at hl 1 rfl) ?_
  have hPc := hP.sub (ws' := [(h0, .inr (11, [.ref q_1, .int 0, .int (-1), .ref q_3, .ref q_21, .ref q_39, .int 0, .ref q_52, .int 0, .ref q_60, .ref q_66, .ref q_73, .ref q_79, .ref q_84, .ref q_92, .ref q_102, .ref q_107]))]) [0] rfl
  have hDc := hD.sub (ws' := [(h0, .inr (11, [.ref q_1, .int 0, .int (-1), .ref q_3, .ref q_21, .ref q_39, .int 0, .ref q_52, .int 0, .ref q_60, .ref q_66, .ref q_73, .ref q_79, .ref q_84, .ref q_92, .ref q_102, .ref q_107]))]) [0] (by decide) rfl
  have hKc := hK.sub (tys' := []) [] rfl
  have hFc := va_free (wc := [(h0, .inr (11, [.ref q_1, .int 0, .int (-1), .ref q_3, .ref q_21, .ref q_39, .int 0, .ref q_52, .int 0, .ref q_60, .ref q_66, .ref q_73, .ref q_79, .ref q_84, .ref q_92, .ref q_102, .ref q_107]))]) hD hS hA [0] rfl
  refine vx_calli (vx_runV (As := [.int p0]) (rest := [.int 0, .ref q_900]) ⟨hx, hb, hml, hown, hts⟩ (c_X11_pass l dC dI hst h0 q_1 q_3 q_21 q_39 q_52 q_60 q_66 q_73 q_79 q_84 q_92 q_102 q_107 p0 H.size sa_RX11_166 sa_RX11_168) (cwV 1 hts g_L_pass_X11_pass rfl rfl rfl (by decide +kernel) ⟨(Nat.le_of_ble_eq_true rfl), (Nat.le_of_ble_eq_true rfl)⟩) ⟨fun a U g mk q => by obtain ⟨q0, q1, qP, qK, qD, e0, e1, e2, e3, e4, e5, e6, e7, e8⟩ := q; exact ⟨q0, q1, qP, va_K.moved (u := U) (U := U.calling g mk a) (Vm.Alike.refl U.vm) qK, qD, vx_Zq.moved (u := U) (U := U.calling g mk a) (Vm.Alike.refl U.vm) e0, vx_Zq.moved (u := U) (U := U.calling g mk a) (Vm.Alike.refl U.vm) e1, va_Nw.same rfl (u := U) (U := U.calling g mk a) rfl e2, vk_R.same (u := U) (U := U.calling g mk a) rfl e3, va_Nw.same rfl (u := U) (U := U.calling g mk a) rfl e4, va_Nw.same rfl (u := U) (U := U.calling g mk a) rfl e5, va_Nw.same rfl (u := U) (U := U.calling g mk a) rfl e6, va_Nw.same rfl (u := U) (U := U.calling g mk a) rfl e7, vk_R.same (u := U) (U := U.calling g mk a) rfl e8⟩, va_recv hKc hPc (ci := 11) (q0 := 0) rfl rfl, fun U hU hW => ⟨rfl, by rw [hU], by rw [hU]; exact hPc, va_K.moved hW.alike hKc, hDc.weaken (fun _ _ _ _ => trivial), by rw [hU]; exact vx_Zq.narrow (vx_Zq.moved hW.alike (vx_Zq.kept hp0 hS.2.1)) hFc, by rw [hU]; exact vx_Zq.narrow (vx_Zq.moved hW.alike (vx_Zq.kept hp1 hS.2.1)) hFc, va_Nw.warmC hW hp2, vk_R.warm hW hp3, va_Nw.warmD hW hp4, va_Nw.warmD hW hp5, va_Nw.warmD hW hp6, va_Nw.warmC hW hp7, vk_R.warm hW hp8⟩⟩ rfl rfl hl.1 rfl (lv_room (Nat.le_of_ble_eq_true rfl)) dL_pass_4 ⟨(Nat.le_of_ble_eq_true rfl), (Nat.le_of_ble_eq_true rfl)⟩) hS (fun q _ h => hFc q h) hFc (fun q _ h => hFc q h) (fun E ce q9 u t H1 locs ht hvm _ hB hz1 hk1 hS hce hcv hcl => ?_) (fun r_2001 u t H1 locs ht hvm hw hB hz1 hk1 hS => ?_)
  · obtain ⟨hP, hD⟩ := va_join (wr := [(q_900, .inl (cA_901, 1, .inr (.inl fl_0)))]) (w1 := []) hP hD [0] [1] rfl rfl (by decide) (by decide) hk1 hFc (fun k q h => by simp at h) ⟨fun i j p q h => by simp at h, fun k q h => by simp at h⟩
    have hK := hK.sub (tys' := [(cA_901, .long)]) [0] rfl
    generalize H1 = H at hP hS hce ⊢
    have hP : va_P (dC, dI) vwP [(q_900, .inl (cA_901, 1, .inr (.inl fl_0)))] H := hP
    have hD : va_D A [(q_900, .inl (cA_901, 1, .inr (.inl fl_0)))] := hD
    refine vx_widen (k := 1) (n := 6) (Nat.le_of_ble_eq_true rfl) (Nat.le_of_ble_eq_true rfl) ?_
    rcases hB with ⟨rfl, hkx⟩ | ⟨rfl, hkx⟩
    · refine vx_catch (name := "java/lang/IllegalArgumentException") hown [] ⟨0, 9, 12, 19⟩ [⟨0, 9, 15, 25⟩] (by rw [vx_table (x := yL_pass) B (hts _ List.mem_cons_self)]; rfl) (fun z hz => nomatch hz) (by decide) (by decide) (ow (k := 4) rfl) (va_Nw.use rfl hp2) hce hcv hcl ?_
      refine lv_astore_n (lv' := [(3, .ref q9), (0, .ref h0), (1, .int p0), (2, .ref q_900)]) hx hb dL_pass_12 rfl hl (by decide) rfl (fun ls hl => ?_)
      refine lv_iconst (v := 1) hx hb dL_pass_13 (by decide) ?_
      refine W.widen (k := 1) (n := 6) (Nat.le_of_ble_eq_true rfl) (Nat.le_of_ble_eq_true rfl) ?_
      exact W.iret (v := 1) hx hb hr (fun t ht hW => ⟨⟨1, (), rfl, hkx.symm, fl_0, (fun h => absurd (hkx.symm.trans h) (by decide)), by rw [ht]; exact hP, va_K.moved hW.alike hK, hD⟩, hS.F ht⟩) hS.2.2 dL_pass_14
    · refine vx_catch (name := "java/lang/IllegalStateException") hown [⟨0, 9, 12, 19⟩] ⟨0, 9, 15, 25⟩ [] (by rw [vx_table (x := yL_pass) B (hts _ List.mem_cons_self)]; rfl) (fun z hz => by simp only [List.mem_cons, List.not_mem_nil, or_false] at hz; subst hz; exact Or.inr ⟨by decide, "java/lang/IllegalArgumentException", (ow (k := 4) rfl), hp9⟩) (by decide) (by decide) (ow (k := 5) rfl) (va_Nw.use rfl hp7) hce hcv hcl ?_
      refine lv_astore_n (lv' := [(3, .ref q9), (0, .ref h0), (1, .int p0), (2, .ref q_900)]) hx hb dL_pass_15 rfl hl (by decide) rfl (fun ls hl => ?_)
      refine lv_iconst (v := 2) hx hb dL_pass_16 (by decide) ?_
      refine W.widen (k := 1) (n := 6) (Nat.le_of_ble_eq_true rfl) (Nat.le_of_ble_eq_true rfl) ?_
      exact W.iret (v := 2) hx hb hr (fun t ht hW => ⟨⟨2, (), rfl, hkx.symm, fl_0, (fun h => absurd (hkx.symm.trans h) (by decide)), by rw [ht]; exact hP, va_K.moved hW.alike hK, hD⟩, hS.F ht⟩) hS.2.2 dL_pass_17
  obtain ⟨hP1, hK1, hD1⟩ := hB
  rw [ht] at hP1
  have hK1 := va_K.moved hvm.symm hK1
  obtain ⟨hP, hD⟩ := va_join (wr := [(q_900, .inl (cA_901, 1, .inr (.inl fl_0)))]) (w1 := []) hP hD [0] [1] rfl rfl (by decide) (by decide) hk1 hFc hP1 hD1
  have hK := (hK.sub (tys' := [(cA_901, .long)]) [0] rfl).app hK1
  generalize H1 = H at hP hS ⊢
  have hP : va_P (dC, dI) vwP [(q_900, .inl (cA_901, 1, .inr (.inl fl_0)))] H := hP
  have hD : va_D A [(q_900, .inl (cA_901, 1, .inr (.inl fl_0)))] := hD
  have hK : va_K (dC, dI) vwP [(cA_901, .long)] s := hK
  refine W.widen (k := 1) (n := 6) (Nat.le_of_ble_eq_true rfl) (Nat.le_of_ble_eq_true rfl) ?_
  have hw_2002 := hw
  refine lv_i2l hx hb dL_pass_7 rfl ?_
  refine va_last hx hb hK hP hD hS 0 0 rfl rfl (show vp_in 0 1 by rw [vp_in_iff]; decide) dL_pass_8 (fun H locs hP hD hS => ?_)
  have hP : va_P (dC, dI) vwP [(q_900, .inl (cA_901, 1, .inr (.inl (vp_updL fl_0 (0 : Int32).toNatClampNeg ((r_2001 : Int32).toInt64)))))] H := hP
  have hD : va_D A [(q_900, .inl (cA_901, 1, .inr (.inl (vp_updL fl_0 (0 : Int32).toNatClampNeg ((r_2001 : Int32).toInt64)))))] := hD
  refine lv_goto (tgt := 18) hx hb dL_pass_9 (by decide) ?_
  refine lv_iconst (v := 0) hx hb dL_pass_18 (by decide) ?_
  refine W.widen (k := 1) (n := 6) (Nat.le_of_ble_eq_true rfl) (Nat.le_of_ble_eq_true rfl) ?_
  exact W.iret (v := 0) hx hb hr (fun t ht hW => ⟨⟨0, (), rfl, hw_2002.1.symm, (vp_updL fl_0 (0 : Int32).toNatClampNeg ((r_2001 : Int32).toInt64)), (fun _ => by rw [show (0 : Int32).toNatClampNeg = 0 from rfl, pk_uLs, hw_2002.2]), by rw [ht]; exact hP, va_K.moved hW.alike hK, hD⟩, hS.F ht⟩) hS.2.2 dL_pass_19
theorem dL_plain_0 : decode cL_plain 0 = .ok (.aload_n 1, 1) := by decide +kernel
theorem dL_plain_1 : decode cL_plain 1 = .ok (.iconst 0, 1) := by decide +kernel
theorem dL_plain_2 : decode cL_plain 2 = .ok (.aload_n 0, 1) := by decide +kernel
theorem dL_plain_3 : decode cL_plain 3 = .ok (.invokevirtual 32, 3) := by decide +kernel
theorem dL_plain_11 : decode cL_plain 11 = .ok (.astore_n 2, 1) := by decide +kernel
theorem dL_plain_12 : decode cL_plain 12 = .ok (.iconst 1, 1) := by decide +kernel
theorem dL_plain_13 : decode cL_plain 13 = .ok (.ireturn, 1) := by decide +kernel
theorem dL_plain_6 : decode cL_plain 6 = .ok (.i2l, 1) := by decide +kernel
theorem dL_plain_7 : decode cL_plain 7 = .ok (.lastore, 1) := by decide +kernel
theorem dL_plain_8 : decode cL_plain 8 = .ok (.goto 9, 3) := by decide +kernel
theorem dL_plain_17 : decode cL_plain 17 = .ok (.iconst 0, 1) := by decide +kernel
theorem dL_plain_18 : decode cL_plain 18 = .ok (.ireturn, 1) := by decide +kernel
def o_L_plain : List Cond := [.methodLink RL 32 yX11_plain, .instanceMethod yX11_plain, .selects RX11 yX11_plain yX11_plain, .initialized RX11, .classLink RL 25 "java/lang/IllegalStateException"]
def v_L_plain : List Cond := .codeWith yL_plain cL_plain 3 (some .int) [(0, 8, 11, 25), (0, 8, 14, 27)] :: (o_L_plain ++ (v_X11_plain ++ []))
theorem mow_L_plain : ∀ w ∈ o_L_plain, w ∈ v_L_plain := fun _ h => List.mem_cons_of_mem _ (List.mem_append_left _ h)
theorem mem_L_plain_0 : ∀ w ∈ v_X11_plain, w ∈ v_L_plain := fun _ h => List.mem_cons_of_mem _ (List.mem_append_right _ (List.mem_append_left _ h))
set_option maxRecDepth 20000 in
theorem gw_L_plain : v_L_plain.all goodWord = true := by decide +kernel
set_option maxRecDepth 20000 in
theorem g_L_plain_X11_plain : GoodIn v_L_plain (wsV RL 32 RX11 yX11_plain v_X11_plain) := goodIn_app (goodIn_sub (fun w h => mow_L_plain w (by revert w h; decide +kernel)) (by decide +kernel)) (goodIn_sub mem_L_plain_0 gw_X11_plain)
set_option maxHeartbeats 4000000 in
set_option maxRecDepth 100000 in
theorem c_L_plain (l : Launch) (dC : Nat → ClassId) (dI : Nat → Nat → Nat) (hst : l.stackTraces = false) (h0 : Nat) (q_1 : Nat) (q_3 : Nat) (q_21 : Nat) (q_39 : Nat) (q_52 : Nat) (q_60 : Nat) (q_66 : Nat) (q_73 : Nat) (q_79 : Nat) (q_84 : Nat) (q_92 : Nat) (q_102 : Nat) (q_107 : Nat) (q_900 : Nat) (cA_901 : ClassId) (fl_0 : Nat → Int64) (sz : Nat) (sa_RX11_195 : Nat) : Met l yL_plain v_L_plain ({ frames := 7, cells := 1, slots := 6, locals := 103 }) (va_Pc [.ref h0, .ref q_900] (fun U => U.heap.size = sz ∧ va_P (dC, dI) vwP [(h0, .inr (11, [.ref q_1, .int 0, .int (-1), .ref q_3, .ref q_21, .ref q_39, .int 0, .ref q_52, .int 0, .ref q_60, .ref q_66, .ref q_73, .ref q_79, .ref q_84, .ref q_92, .ref q_102, .ref q_107])), (q_900, .inl (cA_901, 1, .inr (.inl fl_0)))] U.heap ∧ va_K (dC, dI) vwP [(cA_901, .long)] U ∧ va_D (fun _ => True) [(h0, .inr (11, [.ref q_1, .int 0, .int (-1), .ref q_3, .ref q_21, .ref q_39, .int 0, .ref q_52, .int 0, .ref q_60, .ref q_66, .ref q_73, .ref q_79, .ref q_84, .ref q_92, .ref q_102, .ref q_107])), (q_900, .inl (cA_901, 1, .inr (.inl fl_0)))] ∧ vx_Zq Bundle.tN "UNASSIGNED_STACK" Bundle.steD (va_A [(h0, .inr (11, [.ref q_1, .int 0, .int (-1), .ref q_3, .ref q_21, .ref q_39, .int 0, .ref q_52, .int 0, .ref q_60, .ref q_66, .ref q_73, .ref q_79, .ref q_84, .ref q_92, .ref q_102, .ref q_107])), (q_900, .inl (cA_901, 1, .inr (.inl fl_0)))] sz) U U.heap ∧ vx_Zq Bundle.tN "SUPPRESSED_SENTINEL" Bundle.listD (va_A [(h0, .inr (11, [.ref q_1, .int 0, .int (-1), .ref q_3, .ref q_21, .ref q_39, .int 0, .ref q_52, .int 0, .ref q_60, .ref q_66, .ref q_73, .ref q_79, .ref q_84, .ref q_92, .ref q_102, .ref q_107])), (q_900, .inl (cA_901, 1, .inr (.inl fl_0)))] sz) U U.heap ∧ va_Nw (.castable "java/lang/IllegalStateException" "java/lang/IllegalStateException") U ∧ vk_R RX11 195 "no program that is ssa or coloured" sa_RX11_195 U ∧ va_Nw (.declares (Bundle.initS "java/lang/RuntimeException")) U ∧ va_Nw (.declares (Bundle.initS "java/lang/Exception")) U ∧ va_Nw (.declares (Bundle.initS "java/lang/Throwable")) U)) (va_Qi (fun (r : Int32) (_ : Unit) => r = kf_plain) (fun (_ : Unit) (t : State) => ∃ (g0_9 : Nat → Int64), (kf_plain = 0 → g0_9 0 = (vf_plain : Int32).toInt64) ∧ va_P (dC, dI) vwP [(q_900, .inl (cA_901, 1, .inr (.inl g0_9)))] t.heap ∧ va_K (dC, dI) vwP [(cA_901, .long)] t ∧ va_D (va_A [(h0, .inr (11, [.ref q_1, .int 0, .int (-1), .ref q_3, .ref q_21, .ref q_39, .int 0, .ref q_52, .int 0, .ref q_60, .ref q_66, .ref q_73, .ref q_79, .ref q_84, .ref q_92, .ref q_102, .ref q_107])), (q_900, .inl (cA_901, 1, .inr (.inl fl_0)))] sz) [(q_900, .inl (cA_901, 1, .inr (.inl g0_9)))]) (va_A [(h0, .inr (11, [.ref q_1, .int 0, .int (-1), .ref q_3, .ref q_21, .ref q_39, .int 0, .ref q_52, .int 0, .ref q_60, .ref q_66, .ref q_73, .ref q_79, .ref q_84, .ref q_92, .ref q_102, .ref q_107])), (q_900, .inl (cA_901, 1, .inr (.inl fl_0)))] sz)) 1 6 (va_A [(h0, .inr (11, [.ref q_1, .int 0, .int (-1), .ref q_3, .ref q_21, .ref q_39, .int 0, .ref q_52, .int 0, .ref q_60, .ref q_66, .ref q_73, .ref q_79, .ref q_84, .ref q_92, .ref q_102, .ref q_107])), (q_900, .inl (cA_901, 1, .inr (.inl fl_0)))] sz) := by
  refine va_MetW (cc := cL_plain) (maxL := 3) (ret := (some .int)) (by decide) rfl ?_
  intro p e s m args below meth c s₁ B hml hv
  obtain ⟨rfl, hsz, hP, hK, hD0, hp0, hp1, hp2, hp3, hp4, hp5, hp6⟩ := hv
  have hx := B.exec
  have hb := B.bytes
  have hr := B.returns
  have hts := atoms_spec (ws := v_L_plain) B.pre
  have hown : s.vm.findClass RL = some m.cls := findClass_of_methodNamed B.named
  have hlocks := B.notSynchronized
  have ow : ∀ {k : Nat} {w : Cond}, o_L_plain[k]? = some w → w.before ([.ref h0, .ref q_900] : List Value).toArray s = true := fun h => hts _ (mow_L_plain _ (List.mem_of_getElem? h))
  subst hsz
  have hD := hD0.self (sz := s.heap.size)
  generalize hAe : va_A [(h0, .inr (11, [.ref q_1, .int 0, .int (-1), .ref q_3, .ref q_21, .ref q_39, .int 0, .ref q_52, .int 0, .ref q_60, .ref q_66, .ref q_73, .ref q_79, .ref q_84, .ref q_92, .ref q_102, .ref q_107])), (q_900, .inl (cA_901, 1, .inr (.inl fl_0)))] s.heap.size = A at hD hp0 hp1 ⊢
  have hA : ∀ q : Nat, s.heap.size ≤ q → A q := fun q h => by rw [← hAe]; exact Or.inr h
  have hS : va_S A s.heap s.heap [] := va_S.rf
  have hP : va_P (dC, dI) vwP [(h0, .inr (11, [.ref q_1, .int 0, .int (-1), .ref q_3, .ref q_21, .ref q_39, .int 0, .ref q_52, .int 0, .ref q_60, .ref q_66, .ref q_73, .ref q_79, .ref q_84, .ref q_92, .ref q_102, .ref q_107])), (q_900, .inl (cA_901, 1, .inr (.inl fl_0)))] s.heap := hP
  have hl := lv_entry ([.ref h0, .ref q_900]) (n := 3) (Nat.le_of_ble_eq_true rfl)
  rw [lg_entry_eq]
  generalize (lg_sl ([.ref h0, .ref q_900]) ++ List.replicate (3 - (lg_sl ([.ref h0, .ref q_900])).length) Slot.unset).toArray = ls at hl ⊢
  have hl : lv_has ls 3 [(0, .ref h0), (1, .ref q_900)] := hl
  obtain ⟨H, hH⟩ : ∃ H, H = s.heap := ⟨_, rfl⟩
  rw [← hH] at hP
  have hS : va_S A s.heap H [] := by rw [hH]; exact hS
  rw [← hH]
  refine lv_aload_n hx hb dL_plain_0 rfl (lv_at hl 1 rfl) ?_
  refine lv_iconst (v := 0) hx hb dL_plain_1 (by decide) ?_
  refine lv_aload_n hx hb dL_plain_2 rfl (lv_at hl 0 rfl) ?_
  have hPc := hP.sub (ws' := [(h0, .inr (11, [.ref q_1, .int 0, .int (-1), .ref q_3, .ref q_21, .ref q_39, .int 0, .ref q_52, .int 0, .ref q_60, .ref q_66, .ref q_73, .ref q_79, .ref q_84, .ref q_92, .ref q_102, .ref q_107]))]) [0] rfl
  have hDc := hD.sub (ws' := [(h0, .inr (11, [.ref q_1, .int 0, .int (-1), .ref q_3, .ref q_21, .ref q_39, .int 0, .ref q_52, .int 0, .ref q_60, .ref q_66, .ref q_73, .ref q_79, .ref q_84, .ref q_92, .ref q_102, .ref q_107]))]) [0] (by decide) rfl
  have hKc := hK.sub (tys' := []) [] rfl
  have hFc := va_free (wc := [(h0, .inr (11, [.ref q_1, .int 0, .int (-1), .ref q_3, .ref q_21, .ref q_39, .int 0, .ref q_52, .int 0, .ref q_60, .ref q_66, .ref q_73, .ref q_79, .ref q_84, .ref q_92, .ref q_102, .ref q_107]))]) hD hS hA [0] rfl
  refine vx_calli (vx_runV (As := []) (rest := [.int 0, .ref q_900]) ⟨hx, hb, hml, hown, hts⟩ (c_X11_plain l dC dI hst h0 q_1 q_3 q_21 q_39 q_52 q_60 q_66 q_73 q_79 q_84 q_92 q_102 q_107 H.size sa_RX11_195) (cwV 0 hts g_L_plain_X11_plain rfl rfl rfl (by decide +kernel) ⟨(Nat.le_of_ble_eq_true rfl), (Nat.le_of_ble_eq_true rfl)⟩) ⟨fun a U g mk q => by obtain ⟨q0, q1, qP, qK, qD, e0, e1, e2, e3, e4, e5, e6⟩ := q; exact ⟨q0, q1, qP, va_K.moved (u := U) (U := U.calling g mk a) (Vm.Alike.refl U.vm) qK, qD, vx_Zq.moved (u := U) (U := U.calling g mk a) (Vm.Alike.refl U.vm) e0, vx_Zq.moved (u := U) (U := U.calling g mk a) (Vm.Alike.refl U.vm) e1, va_Nw.same rfl (u := U) (U := U.calling g mk a) rfl e2, vk_R.same (u := U) (U := U.calling g mk a) rfl e3, va_Nw.same rfl (u := U) (U := U.calling g mk a) rfl e4, va_Nw.same rfl (u := U) (U := U.calling g mk a) rfl e5, va_Nw.same rfl (u := U) (U := U.calling g mk a) rfl e6⟩, va_recv hKc hPc (ci := 11) (q0 := 0) rfl rfl, fun U hU hW => ⟨rfl, by rw [hU], by rw [hU]; exact hPc, va_K.moved hW.alike hKc, hDc.weaken (fun _ _ _ _ => trivial), by rw [hU]; exact vx_Zq.narrow (vx_Zq.moved hW.alike (vx_Zq.kept hp0 hS.2.1)) hFc, by rw [hU]; exact vx_Zq.narrow (vx_Zq.moved hW.alike (vx_Zq.kept hp1 hS.2.1)) hFc, va_Nw.warmC hW hp2, vk_R.warm hW hp3, va_Nw.warmD hW hp4, va_Nw.warmD hW hp5, va_Nw.warmD hW hp6⟩⟩ rfl rfl hl.1 rfl (lv_room (Nat.le_of_ble_eq_true rfl)) dL_plain_3 ⟨(Nat.le_of_ble_eq_true rfl), (Nat.le_of_ble_eq_true rfl)⟩) hS (fun q _ h => hFc q h) hFc (fun q _ h => hFc q h) (fun E ce q9 u t H1 locs ht hvm _ hB hz1 hk1 hS hce hcv hcl => ?_) (fun r_2001 u t H1 locs ht hvm hw hB hz1 hk1 hS => ?_)
  · obtain ⟨hP, hD⟩ := va_join (wr := [(q_900, .inl (cA_901, 1, .inr (.inl fl_0)))]) (w1 := []) hP hD [0] [1] rfl rfl (by decide) (by decide) hk1 hFc (fun k q h => by simp at h) ⟨fun i j p q h => by simp at h, fun k q h => by simp at h⟩
    have hK := hK.sub (tys' := [(cA_901, .long)]) [0] rfl
    generalize H1 = H at hP hS hce ⊢
    have hP : va_P (dC, dI) vwP [(q_900, .inl (cA_901, 1, .inr (.inl fl_0)))] H := hP
    have hD : va_D A [(q_900, .inl (cA_901, 1, .inr (.inl fl_0)))] := hD
    refine vx_widen (k := 1) (n := 6) (Nat.le_of_ble_eq_true rfl) (Nat.le_of_ble_eq_true rfl) ?_
    obtain ⟨rfl, hkx⟩ := hB
    refine vx_catch (name := "java/lang/IllegalStateException") hown [] ⟨0, 8, 11, 25⟩ [⟨0, 8, 14, 27⟩] (by rw [vx_table (x := yL_plain) B (hts _ List.mem_cons_self)]; rfl) (fun z hz => nomatch hz) (by decide) (by decide) (ow (k := 4) rfl) (va_Nw.use rfl hp2) hce hcv hcl ?_
    refine lv_astore_n (lv' := [(2, .ref q9), (0, .ref h0), (1, .ref q_900)]) hx hb dL_plain_11 rfl hl (by decide) rfl (fun ls hl => ?_)
    refine lv_iconst (v := 1) hx hb dL_plain_12 (by decide) ?_
    refine W.widen (k := 1) (n := 6) (Nat.le_of_ble_eq_true rfl) (Nat.le_of_ble_eq_true rfl) ?_
    exact W.iret (v := 1) hx hb hr (fun t ht hW => ⟨⟨1, (), rfl, hkx.symm, fl_0, (fun h => absurd (hkx.symm.trans h) (by decide)), by rw [ht]; exact hP, va_K.moved hW.alike hK, hD⟩, hS.F ht⟩) hS.2.2 dL_plain_13
  obtain ⟨hP1, hK1, hD1⟩ := hB
  rw [ht] at hP1
  have hK1 := va_K.moved hvm.symm hK1
  obtain ⟨hP, hD⟩ := va_join (wr := [(q_900, .inl (cA_901, 1, .inr (.inl fl_0)))]) (w1 := []) hP hD [0] [1] rfl rfl (by decide) (by decide) hk1 hFc hP1 hD1
  have hK := (hK.sub (tys' := [(cA_901, .long)]) [0] rfl).app hK1
  generalize H1 = H at hP hS ⊢
  have hP : va_P (dC, dI) vwP [(q_900, .inl (cA_901, 1, .inr (.inl fl_0)))] H := hP
  have hD : va_D A [(q_900, .inl (cA_901, 1, .inr (.inl fl_0)))] := hD
  have hK : va_K (dC, dI) vwP [(cA_901, .long)] s := hK
  refine W.widen (k := 1) (n := 6) (Nat.le_of_ble_eq_true rfl) (Nat.le_of_ble_eq_true rfl) ?_
  have hw_2002 := hw
  refine lv_i2l hx hb dL_plain_6 rfl ?_
  refine va_last hx hb hK hP hD hS 0 0 rfl rfl (show vp_in 0 1 by rw [vp_in_iff]; decide) dL_plain_7 (fun H locs hP hD hS => ?_)
  have hP : va_P (dC, dI) vwP [(q_900, .inl (cA_901, 1, .inr (.inl (vp_updL fl_0 (0 : Int32).toNatClampNeg ((r_2001 : Int32).toInt64)))))] H := hP
  have hD : va_D A [(q_900, .inl (cA_901, 1, .inr (.inl (vp_updL fl_0 (0 : Int32).toNatClampNeg ((r_2001 : Int32).toInt64)))))] := hD
  refine lv_goto (tgt := 17) hx hb dL_plain_8 (by decide) ?_
  refine lv_iconst (v := 0) hx hb dL_plain_17 (by decide) ?_
  refine W.widen (k := 1) (n := 6) (Nat.le_of_ble_eq_true rfl) (Nat.le_of_ble_eq_true rfl) ?_
  exact W.iret (v := 0) hx hb hr (fun t ht hW => ⟨⟨0, (), rfl, hw_2002.1.symm, (vp_updL fl_0 (0 : Int32).toNatClampNeg ((r_2001 : Int32).toInt64)), (fun _ => by rw [show (0 : Int32).toNatClampNeg = 0 from rfl, pk_uLs, hw_2002.2]), by rw [ht]; exact hP, va_K.moved hW.alike hK, hD⟩, hS.F ht⟩) hS.2.2 dL_plain_18
theorem dL_run_0 : decode cL_run 0 = .ok (.aload_n 2, 1) := by decide +kernel
theorem dL_run_1 : decode cL_run 1 = .ok (.iconst 0, 1) := by decide +kernel
theorem dL_run_2 : decode cL_run 2 = .ok (.aload_n 0, 1) := by decide +kernel
theorem dL_run_3 : decode cL_run 3 = .ok (.iload_n 1, 1) := by decide +kernel
theorem dL_run_4 : decode cL_run 4 = .ok (.invokevirtual 35, 3) := by decide +kernel
theorem dL_run_12 : decode cL_run 12 = .ok (.astore_n 3, 1) := by decide +kernel
theorem dL_run_13 : decode cL_run 13 = .ok (.iconst 1, 1) := by decide +kernel
theorem dL_run_14 : decode cL_run 14 = .ok (.ireturn, 1) := by decide +kernel
theorem dL_run_15 : decode cL_run 15 = .ok (.astore_n 3, 1) := by decide +kernel
theorem dL_run_16 : decode cL_run 16 = .ok (.iconst 2, 1) := by decide +kernel
theorem dL_run_17 : decode cL_run 17 = .ok (.ireturn, 1) := by decide +kernel
theorem dL_run_7 : decode cL_run 7 = .ok (.i2l, 1) := by decide +kernel
theorem dL_run_8 : decode cL_run 8 = .ok (.lastore, 1) := by decide +kernel
theorem dL_run_9 : decode cL_run 9 = .ok (.goto 9, 3) := by decide +kernel
theorem dL_run_18 : decode cL_run 18 = .ok (.iconst 0, 1) := by decide +kernel
theorem dL_run_19 : decode cL_run 19 = .ok (.ireturn, 1) := by decide +kernel
def o_L_run : List Cond := [.methodLink RL 35 yX11_run, .instanceMethod yX11_run, .selects RX11 yX11_run yX11_run, .initialized RX11, .classLink RL 19 "java/lang/IllegalArgumentException", .classLink RL 25 "java/lang/IllegalStateException"]
def v_L_run : List Cond := .codeWith yL_run cL_run 4 (some .int) [(0, 9, 12, 19), (0, 9, 15, 25)] :: (o_L_run ++ (v_X11_run ++ []))
theorem mow_L_run : ∀ w ∈ o_L_run, w ∈ v_L_run := fun _ h => List.mem_cons_of_mem _ (List.mem_append_left _ h)
theorem mem_L_run_0 : ∀ w ∈ v_X11_run, w ∈ v_L_run := fun _ h => List.mem_cons_of_mem _ (List.mem_append_right _ (List.mem_append_left _ h))
set_option maxRecDepth 20000 in
theorem gw_L_run : v_L_run.all goodWord = true := by decide +kernel
set_option maxRecDepth 20000 in
theorem g_L_run_X11_run : GoodIn v_L_run (wsV RL 35 RX11 yX11_run v_X11_run) := goodIn_app (goodIn_sub (fun w h => mow_L_run w (by revert w h; decide +kernel)) (by decide +kernel)) (goodIn_sub mem_L_run_0 gw_X11_run)
set_option maxHeartbeats 4000000 in
set_option maxRecDepth 100000 in
theorem c_L_run (l : Launch) (dC : Nat → ClassId) (dI : Nat → Nat → Nat) (hst : l.stackTraces = false) (h0 : Nat) (q_1 : Nat) (q_3 : Nat) (q_21 : Nat) (q_39 : Nat) (q_52 : Nat) (q_60 : Nat) (q_66 : Nat) (q_73 : Nat) (q_79 : Nat) (q_84 : Nat) (q_92 : Nat) (q_102 : Nat) (q_107 : Nat) (q_900 : Nat) (cA_901 : ClassId) (fl_0 : Nat → Int64) (p0 : Int32) (sz : Nat) (sa_RX11_204 : Nat) (sa_RX11_206 : Nat) : Met l yL_run v_L_run ({ frames := 7, cells := 1, slots := 6, locals := 103 }) (va_Pc [.ref h0, .int p0, .ref q_900] (fun U => U.heap.size = sz ∧ va_P (dC, dI) vwP [(h0, .inr (11, [.ref q_1, .int 0, .int (-1), .ref q_3, .ref q_21, .ref q_39, .int 0, .ref q_52, .int 0, .ref q_60, .ref q_66, .ref q_73, .ref q_79, .ref q_84, .ref q_92, .ref q_102, .ref q_107])), (q_900, .inl (cA_901, 1, .inr (.inl fl_0)))] U.heap ∧ va_K (dC, dI) vwP [(cA_901, .long)] U ∧ va_D (fun _ => True) [(h0, .inr (11, [.ref q_1, .int 0, .int (-1), .ref q_3, .ref q_21, .ref q_39, .int 0, .ref q_52, .int 0, .ref q_60, .ref q_66, .ref q_73, .ref q_79, .ref q_84, .ref q_92, .ref q_102, .ref q_107])), (q_900, .inl (cA_901, 1, .inr (.inl fl_0)))] ∧ vx_Zq Bundle.tN "UNASSIGNED_STACK" Bundle.steD (va_A [(h0, .inr (11, [.ref q_1, .int 0, .int (-1), .ref q_3, .ref q_21, .ref q_39, .int 0, .ref q_52, .int 0, .ref q_60, .ref q_66, .ref q_73, .ref q_79, .ref q_84, .ref q_92, .ref q_102, .ref q_107])), (q_900, .inl (cA_901, 1, .inr (.inl fl_0)))] sz) U U.heap ∧ vx_Zq Bundle.tN "SUPPRESSED_SENTINEL" Bundle.listD (va_A [(h0, .inr (11, [.ref q_1, .int 0, .int (-1), .ref q_3, .ref q_21, .ref q_39, .int 0, .ref q_52, .int 0, .ref q_60, .ref q_66, .ref q_73, .ref q_79, .ref q_84, .ref q_92, .ref q_102, .ref q_107])), (q_900, .inl (cA_901, 1, .inr (.inl fl_0)))] sz) U U.heap ∧ va_Nw (.castable "java/lang/IllegalArgumentException" "java/lang/IllegalArgumentException") U ∧ vk_R RX11 204 "fuel is not 1 to 100000" sa_RX11_204 U ∧ va_Nw (.declares (Bundle.initS "java/lang/RuntimeException")) U ∧ va_Nw (.declares (Bundle.initS "java/lang/Exception")) U ∧ va_Nw (.declares (Bundle.initS "java/lang/Throwable")) U ∧ va_Nw (.castable "java/lang/IllegalStateException" "java/lang/IllegalStateException") U ∧ vk_R RX11 206 "no program" sa_RX11_206 U ∧ va_Nc "java/lang/IllegalStateException" "java/lang/IllegalArgumentException" U)) (va_Qi (fun (r : Int32) (_ : Unit) => r = kf_run p0) (fun (_ : Unit) (t : State) => ∃ (g0_9 : Nat → Int64), (kf_run p0 = 0 → g0_9 0 = (vf_run : Int32).toInt64) ∧ va_P (dC, dI) vwP [(q_900, .inl (cA_901, 1, .inr (.inl g0_9)))] t.heap ∧ va_K (dC, dI) vwP [(cA_901, .long)] t ∧ va_D (va_A [(h0, .inr (11, [.ref q_1, .int 0, .int (-1), .ref q_3, .ref q_21, .ref q_39, .int 0, .ref q_52, .int 0, .ref q_60, .ref q_66, .ref q_73, .ref q_79, .ref q_84, .ref q_92, .ref q_102, .ref q_107])), (q_900, .inl (cA_901, 1, .inr (.inl fl_0)))] sz) [(q_900, .inl (cA_901, 1, .inr (.inl g0_9)))]) (va_A [(h0, .inr (11, [.ref q_1, .int 0, .int (-1), .ref q_3, .ref q_21, .ref q_39, .int 0, .ref q_52, .int 0, .ref q_60, .ref q_66, .ref q_73, .ref q_79, .ref q_84, .ref q_92, .ref q_102, .ref q_107])), (q_900, .inl (cA_901, 1, .inr (.inl fl_0)))] sz)) 1 6 (va_A [(h0, .inr (11, [.ref q_1, .int 0, .int (-1), .ref q_3, .ref q_21, .ref q_39, .int 0, .ref q_52, .int 0, .ref q_60, .ref q_66, .ref q_73, .ref q_79, .ref q_84, .ref q_92, .ref q_102, .ref q_107])), (q_900, .inl (cA_901, 1, .inr (.inl fl_0)))] sz) := by
  refine va_MetW (cc := cL_run) (maxL := 4) (ret := (some .int)) (by decide) rfl ?_
  intro p e s m args below meth c s₁ B hml hv
  obtain ⟨rfl, hsz, hP, hK, hD0, hp0, hp1, hp2, hp3, hp4, hp5, hp6, hp7, hp8, hp9⟩ := hv
  have hx := B.exec
  have hb := B.bytes
  have hr := B.returns
  have hts := atoms_spec (ws := v_L_run) B.pre
  have hown : s.vm.findClass RL = some m.cls := findClass_of_methodNamed B.named
  have hlocks := B.notSynchronized
  have ow : ∀ {k : Nat} {w : Cond}, o_L_run[k]? = some w → w.before ([.ref h0, .int p0, .ref q_900] : List Value).toArray s = true := fun h => hts _ (mow_L_run _ (List.mem_of_getElem? h))
  subst hsz
  have hD := hD0.self (sz := s.heap.size)
  generalize hAe : va_A [(h0, .inr (11, [.ref q_1, .int 0, .int (-1), .ref q_3, .ref q_21, .ref q_39, .int 0, .ref q_52, .int 0, .ref q_60, .ref q_66, .ref q_73, .ref q_79, .ref q_84, .ref q_92, .ref q_102, .ref q_107])), (q_900, .inl (cA_901, 1, .inr (.inl fl_0)))] s.heap.size = A at hD hp0 hp1 ⊢
  have hA : ∀ q : Nat, s.heap.size ≤ q → A q := fun q h => by rw [← hAe]; exact Or.inr h
  have hS : va_S A s.heap s.heap [] := va_S.rf
  have hP : va_P (dC, dI) vwP [(h0, .inr (11, [.ref q_1, .int 0, .int (-1), .ref q_3, .ref q_21, .ref q_39, .int 0, .ref q_52, .int 0, .ref q_60, .ref q_66, .ref q_73, .ref q_79, .ref q_84, .ref q_92, .ref q_102, .ref q_107])), (q_900, .inl (cA_901, 1, .inr (.inl fl_0)))] s.heap := hP
  have hl := lv_entry ([.ref h0, .int p0, .ref q_900]) (n := 4) (Nat.le_of_ble_eq_true rfl)
  rw [lg_entry_eq]
  generalize (lg_sl ([.ref h0, .int p0, .ref q_900]) ++ List.replicate (4 - (lg_sl ([.ref h0, .int p0, .ref q_900])).length) Slot.unset).toArray = ls at hl ⊢
  have hl : lv_has ls 4 [(0, .ref h0), (1, .int p0), (2, .ref q_900)] := hl
  obtain ⟨H, hH⟩ : ∃ H, H = s.heap := ⟨_, rfl⟩
  rw [← hH] at hP
  have hS : va_S A s.heap H [] := by rw [hH]; exact hS
  rw [← hH]
  refine lv_aload_n hx hb dL_run_0 rfl (lv_at hl 2 rfl) ?_
  refine lv_iconst (v := 0) hx hb dL_run_1 (by decide) ?_
  refine lv_aload_n hx hb dL_run_2 rfl (lv_at hl 0 rfl) ?_
  refine lv_iload_n hx hb dL_run_3 rfl (lv_at hl 1 rfl) ?_
  have hPc := hP.sub (ws' := [(h0, .inr (11, [.ref q_1, .int 0, .int (-1), .ref q_3, .ref q_21, .ref q_39, .int 0, .ref q_52, .int 0, .ref q_60, .ref q_66, .ref q_73, .ref q_79, .ref q_84, .ref q_92, .ref q_102, .ref q_107]))]) [0] rfl
  have hDc := hD.sub (ws' := [(h0, .inr (11, [.ref q_1, .int 0, .int (-1), .ref q_3, .ref q_21, .ref q_39, .int 0, .ref q_52, .int 0, .ref q_60, .ref q_66, .ref q_73, .ref q_79, .ref q_84, .ref q_92, .ref q_102, .ref q_107]))]) [0] (by decide) rfl
  have hKc := hK.sub (tys' := []) [] rfl
  have hFc := va_free (wc := [(h0, .inr (11, [.ref q_1, .int 0, .int (-1), .ref q_3, .ref q_21, .ref q_39, .int 0, .ref q_52, .int 0, .ref q_60, .ref q_66, .ref q_73, .ref q_79, .ref q_84, .ref q_92, .ref q_102, .ref q_107]))]) hD hS hA [0] rfl
  refine vx_calli (vx_runV (As := [.int p0]) (rest := [.int 0, .ref q_900]) ⟨hx, hb, hml, hown, hts⟩ (c_X11_run l dC dI hst h0 q_1 q_3 q_21 q_39 q_52 q_60 q_66 q_73 q_79 q_84 q_92 q_102 q_107 p0 H.size sa_RX11_204 sa_RX11_206) (cwV 1 hts g_L_run_X11_run rfl rfl rfl (by decide +kernel) ⟨(Nat.le_of_ble_eq_true rfl), (Nat.le_of_ble_eq_true rfl)⟩) ⟨fun a U g mk q => by obtain ⟨q0, q1, qP, qK, qD, e0, e1, e2, e3, e4, e5, e6, e7, e8⟩ := q; exact ⟨q0, q1, qP, va_K.moved (u := U) (U := U.calling g mk a) (Vm.Alike.refl U.vm) qK, qD, vx_Zq.moved (u := U) (U := U.calling g mk a) (Vm.Alike.refl U.vm) e0, vx_Zq.moved (u := U) (U := U.calling g mk a) (Vm.Alike.refl U.vm) e1, va_Nw.same rfl (u := U) (U := U.calling g mk a) rfl e2, vk_R.same (u := U) (U := U.calling g mk a) rfl e3, va_Nw.same rfl (u := U) (U := U.calling g mk a) rfl e4, va_Nw.same rfl (u := U) (U := U.calling g mk a) rfl e5, va_Nw.same rfl (u := U) (U := U.calling g mk a) rfl e6, va_Nw.same rfl (u := U) (U := U.calling g mk a) rfl e7, vk_R.same (u := U) (U := U.calling g mk a) rfl e8⟩, va_recv hKc hPc (ci := 11) (q0 := 0) rfl rfl, fun U hU hW => ⟨rfl, by rw [hU], by rw [hU]; exact hPc, va_K.moved hW.alike hKc, hDc.weaken (fun _ _ _ _ => trivial), by rw [hU]; exact vx_Zq.narrow (vx_Zq.moved hW.alike (vx_Zq.kept hp0 hS.2.1)) hFc, by rw [hU]; exact vx_Zq.narrow (vx_Zq.moved hW.alike (vx_Zq.kept hp1 hS.2.1)) hFc, va_Nw.warmC hW hp2, vk_R.warm hW hp3, va_Nw.warmD hW hp4, va_Nw.warmD hW hp5, va_Nw.warmD hW hp6, va_Nw.warmC hW hp7, vk_R.warm hW hp8⟩⟩ rfl rfl hl.1 rfl (lv_room (Nat.le_of_ble_eq_true rfl)) dL_run_4 ⟨(Nat.le_of_ble_eq_true rfl), (Nat.le_of_ble_eq_true rfl)⟩) hS (fun q _ h => hFc q h) hFc (fun q _ h => hFc q h) (fun E ce q9 u t H1 locs ht hvm _ hB hz1 hk1 hS hce hcv hcl => ?_) (fun r_2001 u t H1 locs ht hvm hw hB hz1 hk1 hS => ?_)
  · obtain ⟨hP, hD⟩ := va_join (wr := [(q_900, .inl (cA_901, 1, .inr (.inl fl_0)))]) (w1 := []) hP hD [0] [1] rfl rfl (by decide) (by decide) hk1 hFc (fun k q h => by simp at h) ⟨fun i j p q h => by simp at h, fun k q h => by simp at h⟩
    have hK := hK.sub (tys' := [(cA_901, .long)]) [0] rfl
    generalize H1 = H at hP hS hce ⊢
    have hP : va_P (dC, dI) vwP [(q_900, .inl (cA_901, 1, .inr (.inl fl_0)))] H := hP
    have hD : va_D A [(q_900, .inl (cA_901, 1, .inr (.inl fl_0)))] := hD
    refine vx_widen (k := 1) (n := 6) (Nat.le_of_ble_eq_true rfl) (Nat.le_of_ble_eq_true rfl) ?_
    rcases hB with ⟨rfl, hkx⟩ | ⟨rfl, hkx⟩
    · refine vx_catch (name := "java/lang/IllegalArgumentException") hown [] ⟨0, 9, 12, 19⟩ [⟨0, 9, 15, 25⟩] (by rw [vx_table (x := yL_run) B (hts _ List.mem_cons_self)]; rfl) (fun z hz => nomatch hz) (by decide) (by decide) (ow (k := 4) rfl) (va_Nw.use rfl hp2) hce hcv hcl ?_
      refine lv_astore_n (lv' := [(3, .ref q9), (0, .ref h0), (1, .int p0), (2, .ref q_900)]) hx hb dL_run_12 rfl hl (by decide) rfl (fun ls hl => ?_)
      refine lv_iconst (v := 1) hx hb dL_run_13 (by decide) ?_
      refine W.widen (k := 1) (n := 6) (Nat.le_of_ble_eq_true rfl) (Nat.le_of_ble_eq_true rfl) ?_
      exact W.iret (v := 1) hx hb hr (fun t ht hW => ⟨⟨1, (), rfl, hkx.symm, fl_0, (fun h => absurd (hkx.symm.trans h) (by decide)), by rw [ht]; exact hP, va_K.moved hW.alike hK, hD⟩, hS.F ht⟩) hS.2.2 dL_run_14
    · refine vx_catch (name := "java/lang/IllegalStateException") hown [⟨0, 9, 12, 19⟩] ⟨0, 9, 15, 25⟩ [] (by rw [vx_table (x := yL_run) B (hts _ List.mem_cons_self)]; rfl) (fun z hz => by simp only [List.mem_cons, List.not_mem_nil, or_false] at hz; subst hz; exact Or.inr ⟨by decide, "java/lang/IllegalArgumentException", (ow (k := 4) rfl), hp9⟩) (by decide) (by decide) (ow (k := 5) rfl) (va_Nw.use rfl hp7) hce hcv hcl ?_
      refine lv_astore_n (lv' := [(3, .ref q9), (0, .ref h0), (1, .int p0), (2, .ref q_900)]) hx hb dL_run_15 rfl hl (by decide) rfl (fun ls hl => ?_)
      refine lv_iconst (v := 2) hx hb dL_run_16 (by decide) ?_
      refine W.widen (k := 1) (n := 6) (Nat.le_of_ble_eq_true rfl) (Nat.le_of_ble_eq_true rfl) ?_
      exact W.iret (v := 2) hx hb hr (fun t ht hW => ⟨⟨2, (), rfl, hkx.symm, fl_0, (fun h => absurd (hkx.symm.trans h) (by decide)), by rw [ht]; exact hP, va_K.moved hW.alike hK, hD⟩, hS.F ht⟩) hS.2.2 dL_run_17
  obtain ⟨hP1, hK1, hD1⟩ := hB
  rw [ht] at hP1
  have hK1 := va_K.moved hvm.symm hK1
  obtain ⟨hP, hD⟩ := va_join (wr := [(q_900, .inl (cA_901, 1, .inr (.inl fl_0)))]) (w1 := []) hP hD [0] [1] rfl rfl (by decide) (by decide) hk1 hFc hP1 hD1
  have hK := (hK.sub (tys' := [(cA_901, .long)]) [0] rfl).app hK1
  generalize H1 = H at hP hS ⊢
  have hP : va_P (dC, dI) vwP [(q_900, .inl (cA_901, 1, .inr (.inl fl_0)))] H := hP
  have hD : va_D A [(q_900, .inl (cA_901, 1, .inr (.inl fl_0)))] := hD
  have hK : va_K (dC, dI) vwP [(cA_901, .long)] s := hK
  refine W.widen (k := 1) (n := 6) (Nat.le_of_ble_eq_true rfl) (Nat.le_of_ble_eq_true rfl) ?_
  have hw_2002 := hw
  refine lv_i2l hx hb dL_run_7 rfl ?_
  refine va_last hx hb hK hP hD hS 0 0 rfl rfl (show vp_in 0 1 by rw [vp_in_iff]; decide) dL_run_8 (fun H locs hP hD hS => ?_)
  have hP : va_P (dC, dI) vwP [(q_900, .inl (cA_901, 1, .inr (.inl (vp_updL fl_0 (0 : Int32).toNatClampNeg ((r_2001 : Int32).toInt64)))))] H := hP
  have hD : va_D A [(q_900, .inl (cA_901, 1, .inr (.inl (vp_updL fl_0 (0 : Int32).toNatClampNeg ((r_2001 : Int32).toInt64)))))] := hD
  refine lv_goto (tgt := 18) hx hb dL_run_9 (by decide) ?_
  refine lv_iconst (v := 0) hx hb dL_run_18 (by decide) ?_
  refine W.widen (k := 1) (n := 6) (Nat.le_of_ble_eq_true rfl) (Nat.le_of_ble_eq_true rfl) ?_
  exact W.iret (v := 0) hx hb hr (fun t ht hW => ⟨⟨0, (), rfl, hw_2002.1.symm, (vp_updL fl_0 (0 : Int32).toNatClampNeg ((r_2001 : Int32).toInt64)), (fun _ => by rw [show (0 : Int32).toNatClampNeg = 0 from rfl, pk_uLs, hw_2002.2]), by rw [ht]; exact hP, va_K.moved hW.alike hK, hD⟩, hS.F ht⟩) hS.2.2 dL_run_19
theorem dL_told_0 : decode cL_told 0 = .ok (.aload_n 2, 1) := by decide +kernel
theorem dL_told_1 : decode cL_told 1 = .ok (.iconst 0, 1) := by decide +kernel
theorem dL_told_2 : decode cL_told 2 = .ok (.aload_n 0, 1) := by decide +kernel
theorem dL_told_3 : decode cL_told 3 = .ok (.iload_n 1, 1) := by decide +kernel
theorem dL_told_4 : decode cL_told 4 = .ok (.invokevirtual 38, 3) := by decide +kernel
theorem dL_told_12 : decode cL_told 12 = .ok (.astore_n 3, 1) := by decide +kernel
theorem dL_told_13 : decode cL_told 13 = .ok (.iconst 1, 1) := by decide +kernel
theorem dL_told_14 : decode cL_told 14 = .ok (.ireturn, 1) := by decide +kernel
theorem dL_told_7 : decode cL_told 7 = .ok (.i2l, 1) := by decide +kernel
theorem dL_told_8 : decode cL_told 8 = .ok (.lastore, 1) := by decide +kernel
theorem dL_told_9 : decode cL_told 9 = .ok (.goto 6, 3) := by decide +kernel
theorem dL_told_15 : decode cL_told 15 = .ok (.iconst 0, 1) := by decide +kernel
theorem dL_told_16 : decode cL_told 16 = .ok (.ireturn, 1) := by decide +kernel
def o_L_told : List Cond := [.methodLink RL 38 yX11_told, .instanceMethod yX11_told, .selects RX11 yX11_told yX11_told, .initialized RX11, .classLink RL 19 "java/lang/IllegalArgumentException"]
def v_L_told : List Cond := .codeWith yL_told cL_told 4 (some .int) [(0, 9, 12, 19)] :: (o_L_told ++ (v_X11_told ++ []))
theorem mow_L_told : ∀ w ∈ o_L_told, w ∈ v_L_told := fun _ h => List.mem_cons_of_mem _ (List.mem_append_left _ h)
theorem mem_L_told_0 : ∀ w ∈ v_X11_told, w ∈ v_L_told := fun _ h => List.mem_cons_of_mem _ (List.mem_append_right _ (List.mem_append_left _ h))
set_option maxRecDepth 20000 in
theorem gw_L_told : v_L_told.all goodWord = true := by decide +kernel
set_option maxRecDepth 20000 in
theorem g_L_told_X11_told : GoodIn v_L_told (wsV RL 38 RX11 yX11_told v_X11_told) := goodIn_app (goodIn_sub (fun w h => mow_L_told w (by revert w h; decide +kernel)) (by decide +kernel)) (goodIn_sub mem_L_told_0 gw_X11_told)
set_option maxHeartbeats 4000000 in
set_option maxRecDepth 100000 in
theorem c_L_told (l : Launch) (dC : Nat → ClassId) (dI : Nat → Nat → Nat) (hst : l.stackTraces = false) (h0 : Nat) (q_1 : Nat) (q_3 : Nat) (q_21 : Nat) (q_39 : Nat) (q_52 : Nat) (q_60 : Nat) (q_66 : Nat) (q_73 : Nat) (q_79 : Nat) (q_84 : Nat) (q_92 : Nat) (q_102 : Nat) (q_107 : Nat) (q_103 : Nat) (q_104 : Nat) (q_105 : Nat) (q_106 : Nat) (q_900 : Nat) (cA_901 : ClassId) (fl_0 : Nat → Int64) (p0 : Int32) (sz : Nat) (sa_RX11_227 : Nat) : Met l yL_told v_L_told ({ frames := 7, cells := 1, slots := 6, locals := 103 }) (va_Pc [.ref h0, .int p0, .ref q_900] (fun U => U.heap.size = sz ∧ va_P (dC, dI) vwP [(h0, .inr (11, [.ref q_1, .int 0, .int (-1), .ref q_3, .ref q_21, .ref q_39, .int 0, .ref q_52, .int 0, .ref q_60, .ref q_66, .ref q_73, .ref q_79, .ref q_84, .ref q_92, .ref q_102, .ref q_107])), (q_102, .inr (5, [.int 0, .int 0, .int 0, .int 0, .int 0, .int (-1), .ref q_103, .ref q_104, .ref q_105, .ref q_106, .int 0])), (q_900, .inl (cA_901, 1, .inr (.inl fl_0)))] U.heap ∧ va_K (dC, dI) vwP [(cA_901, .long)] U ∧ va_D (fun _ => True) [(h0, .inr (11, [.ref q_1, .int 0, .int (-1), .ref q_3, .ref q_21, .ref q_39, .int 0, .ref q_52, .int 0, .ref q_60, .ref q_66, .ref q_73, .ref q_79, .ref q_84, .ref q_92, .ref q_102, .ref q_107])), (q_102, .inr (5, [.int 0, .int 0, .int 0, .int 0, .int 0, .int (-1), .ref q_103, .ref q_104, .ref q_105, .ref q_106, .int 0])), (q_900, .inl (cA_901, 1, .inr (.inl fl_0)))] ∧ vx_Zq Bundle.tN "UNASSIGNED_STACK" Bundle.steD (va_A [(h0, .inr (11, [.ref q_1, .int 0, .int (-1), .ref q_3, .ref q_21, .ref q_39, .int 0, .ref q_52, .int 0, .ref q_60, .ref q_66, .ref q_73, .ref q_79, .ref q_84, .ref q_92, .ref q_102, .ref q_107])), (q_102, .inr (5, [.int 0, .int 0, .int 0, .int 0, .int 0, .int (-1), .ref q_103, .ref q_104, .ref q_105, .ref q_106, .int 0])), (q_900, .inl (cA_901, 1, .inr (.inl fl_0)))] sz) U U.heap ∧ vx_Zq Bundle.tN "SUPPRESSED_SENTINEL" Bundle.listD (va_A [(h0, .inr (11, [.ref q_1, .int 0, .int (-1), .ref q_3, .ref q_21, .ref q_39, .int 0, .ref q_52, .int 0, .ref q_60, .ref q_66, .ref q_73, .ref q_79, .ref q_84, .ref q_92, .ref q_102, .ref q_107])), (q_102, .inr (5, [.int 0, .int 0, .int 0, .int 0, .int 0, .int (-1), .ref q_103, .ref q_104, .ref q_105, .ref q_106, .int 0])), (q_900, .inl (cA_901, 1, .inr (.inl fl_0)))] sz) U U.heap ∧ va_Nw (.castable "java/lang/IllegalArgumentException" "java/lang/IllegalArgumentException") U ∧ vk_R RX11 227 "nothing is told of that" sa_RX11_227 U ∧ va_Nw (.declares (Bundle.initS "java/lang/RuntimeException")) U ∧ va_Nw (.declares (Bundle.initS "java/lang/Exception")) U ∧ va_Nw (.declares (Bundle.initS "java/lang/Throwable")) U)) (va_Qi (fun (r : Int32) (_ : Unit) => r = kf_told p0) (fun (_ : Unit) (t : State) => ∃ (g0_9 : Nat → Int64), (kf_told p0 = 0 → g0_9 0 = (vf_told p0 : Int32).toInt64) ∧ va_P (dC, dI) vwP [(q_900, .inl (cA_901, 1, .inr (.inl g0_9)))] t.heap ∧ va_K (dC, dI) vwP [(cA_901, .long)] t ∧ va_D (va_A [(h0, .inr (11, [.ref q_1, .int 0, .int (-1), .ref q_3, .ref q_21, .ref q_39, .int 0, .ref q_52, .int 0, .ref q_60, .ref q_66, .ref q_73, .ref q_79, .ref q_84, .ref q_92, .ref q_102, .ref q_107])), (q_102, .inr (5, [.int 0, .int 0, .int 0, .int 0, .int 0, .int (-1), .ref q_103, .ref q_104, .ref q_105, .ref q_106, .int 0])), (q_900, .inl (cA_901, 1, .inr (.inl fl_0)))] sz) [(q_900, .inl (cA_901, 1, .inr (.inl g0_9)))]) (va_A [(h0, .inr (11, [.ref q_1, .int 0, .int (-1), .ref q_3, .ref q_21, .ref q_39, .int 0, .ref q_52, .int 0, .ref q_60, .ref q_66, .ref q_73, .ref q_79, .ref q_84, .ref q_92, .ref q_102, .ref q_107])), (q_102, .inr (5, [.int 0, .int 0, .int 0, .int 0, .int 0, .int (-1), .ref q_103, .ref q_104, .ref q_105, .ref q_106, .int 0])), (q_900, .inl (cA_901, 1, .inr (.inl fl_0)))] sz)) 1 6 (va_A [(h0, .inr (11, [.ref q_1, .int 0, .int (-1), .ref q_3, .ref q_21, .ref q_39, .int 0, .ref q_52, .int 0, .ref q_60, .ref q_66, .ref q_73, .ref q_79, .ref q_84, .ref q_92, .ref q_102, .ref q_107])), (q_102, .inr (5, [.int 0, .int 0, .int 0, .int 0, .int 0, .int (-1), .ref q_103, .ref q_104, .ref q_105, .ref q_106, .int 0])), (q_900, .inl (cA_901, 1, .inr (.inl fl_0)))] sz) := by
  refine va_MetW (cc := cL_told) (maxL := 4) (ret := (some .int)) (by decide) rfl ?_
  intro p e s m args below meth c s₁ B hml hv
  obtain ⟨rfl, hsz, hP, hK, hD0, hp0, hp1, hp2, hp3, hp4, hp5, hp6⟩ := hv
  have hx := B.exec
  have hb := B.bytes
  have hr := B.returns
  have hts := atoms_spec (ws := v_L_told) B.pre
  have hown : s.vm.findClass RL = some m.cls := findClass_of_methodNamed B.named
  have hlocks := B.notSynchronized
  have ow : ∀ {k : Nat} {w : Cond}, o_L_told[k]? = some w → w.before ([.ref h0, .int p0, .ref q_900] : List Value).toArray s = true := fun h => hts _ (mow_L_told _ (List.mem_of_getElem? h))
  subst hsz
  have hD := hD0.self (sz := s.heap.size)
  generalize hAe : va_A [(h0, .inr (11, [.ref q_1, .int 0, .int (-1), .ref q_3, .ref q_21, .ref q_39, .int 0, .ref q_52, .int 0, .ref q_60, .ref q_66, .ref q_73, .ref q_79, .ref q_84, .ref q_92, .ref q_102, .ref q_107])), (q_102, .inr (5, [.int 0, .int 0, .int 0, .int 0, .int 0, .int (-1), .ref q_103, .ref q_104, .ref q_105, .ref q_106, .int 0])), (q_900, .inl (cA_901, 1, .inr (.inl fl_0)))] s.heap.size = A at hD hp0 hp1 ⊢
  have hA : ∀ q : Nat, s.heap.size ≤ q → A q := fun q h => by rw [← hAe]; exact Or.inr h
  have hS : va_S A s.heap s.heap [] := va_S.rf
  have hP : va_P (dC, dI) vwP [(h0, .inr (11, [.ref q_1, .int 0, .int (-1), .ref q_3, .ref q_21, .ref q_39, .int 0, .ref q_52, .int 0, .ref q_60, .ref q_66, .ref q_73, .ref q_79, .ref q_84, .ref q_92, .ref q_102, .ref q_107])), (q_102, .inr (5, [.int 0, .int 0, .int 0, .int 0, .int 0, .int (-1), .ref q_103, .ref q_104, .ref q_105, .ref q_106, .int 0])), (q_900, .inl (cA_901, 1, .inr (.inl fl_0)))] s.heap := hP
  have hl := lv_entry ([.ref h0, .int p0, .ref q_900]) (n := 4) (Nat.le_of_ble_eq_true rfl)
  rw [lg_entry_eq]
  generalize (lg_sl ([.ref h0, .int p0, .ref q_900]) ++ List.replicate (4 - (lg_sl ([.ref h0, .int p0, .ref q_900])).length) Slot.unset).toArray = ls at hl ⊢
  have hl : lv_has ls 4 [(0, .ref h0), (1, .int p0), (2, .ref q_900)] := hl
  obtain ⟨H, hH⟩ : ∃ H, H = s.heap := ⟨_, rfl⟩
  rw [← hH] at hP
  have hS : va_S A s.heap H [] := by rw [hH]; exact hS
  rw [← hH]
  refine lv_aload_n hx hb dL_told_0 rfl (lv_at hl 2 rfl) ?_
  refine lv_iconst (v := 0) hx hb dL_told_1 (by decide) ?_
  refine lv_aload_n hx hb dL_told_2 rfl (lv_at hl 0 rfl) ?_
  refine lv_iload_n hx hb dL_told_3 rfl (lv_at hl 1 rfl) ?_
  have hPc := hP.sub (ws' := [(h0, .inr (11, [.ref q_1, .int 0, .int (-1), .ref q_3, .ref q_21, .ref q_39, .int 0, .ref q_52, .int 0, .ref q_60, .ref q_66, .ref q_73, .ref q_79, .ref q_84, .ref q_92, .ref q_102, .ref q_107])), (q_102, .inr (5, [.int 0, .int 0, .int 0, .int 0, .int 0, .int (-1), .ref q_103, .ref q_104, .ref q_105, .ref q_106, .int 0]))]) [0, 1] rfl
  have hDc := hD.sub (ws' := [(h0, .inr (11, [.ref q_1, .int 0, .int (-1), .ref q_3, .ref q_21, .ref q_39, .int 0, .ref q_52, .int 0, .ref q_60, .ref q_66, .ref q_73, .ref q_79, .ref q_84, .ref q_92, .ref q_102, .ref q_107])), (q_102, .inr (5, [.int 0, .int 0, .int 0, .int 0, .int 0, .int (-1), .ref q_103, .ref q_104, .ref q_105, .ref q_106, .int 0]))]) [0, 1] (by decide) rfl
  have hKc := hK.sub (tys' := []) [] rfl
  have hFc := va_free (wc := [(h0, .inr (11, [.ref q_1, .int 0, .int (-1), .ref q_3, .ref q_21, .ref q_39, .int 0, .ref q_52, .int 0, .ref q_60, .ref q_66, .ref q_73, .ref q_79, .ref q_84, .ref q_92, .ref q_102, .ref q_107])), (q_102, .inr (5, [.int 0, .int 0, .int 0, .int 0, .int 0, .int (-1), .ref q_103, .ref q_104, .ref q_105, .ref q_106, .int 0]))]) hD hS hA [0, 1] rfl
  refine vx_calli (vx_runV (As := [.int p0]) (rest := [.int 0, .ref q_900]) ⟨hx, hb, hml, hown, hts⟩ (c_X11_told l dC dI hst h0 q_1 q_3 q_21 q_39 q_52 q_60 q_66 q_73 q_79 q_84 q_92 q_102 q_107 q_103 q_104 q_105 q_106 p0 H.size sa_RX11_227) (cwV 1 hts g_L_told_X11_told rfl rfl rfl (by decide +kernel) ⟨(Nat.le_of_ble_eq_true rfl), (Nat.le_of_ble_eq_true rfl)⟩) ⟨fun a U g mk q => by obtain ⟨q0, q1, qP, qK, qD, e0, e1, e2, e3, e4, e5, e6⟩ := q; exact ⟨q0, q1, qP, va_K.moved (u := U) (U := U.calling g mk a) (Vm.Alike.refl U.vm) qK, qD, vx_Zq.moved (u := U) (U := U.calling g mk a) (Vm.Alike.refl U.vm) e0, vx_Zq.moved (u := U) (U := U.calling g mk a) (Vm.Alike.refl U.vm) e1, va_Nw.same rfl (u := U) (U := U.calling g mk a) rfl e2, vk_R.same (u := U) (U := U.calling g mk a) rfl e3, va_Nw.same rfl (u := U) (U := U.calling g mk a) rfl e4, va_Nw.same rfl (u := U) (U := U.calling g mk a) rfl e5, va_Nw.same rfl (u := U) (U := U.calling g mk a) rfl e6⟩, va_recv hKc hPc (ci := 11) (q0 := 0) rfl rfl, fun U hU hW => ⟨rfl, by rw [hU], by rw [hU]; exact hPc, va_K.moved hW.alike hKc, hDc.weaken (fun _ _ _ _ => trivial), by rw [hU]; exact vx_Zq.narrow (vx_Zq.moved hW.alike (vx_Zq.kept hp0 hS.2.1)) hFc, by rw [hU]; exact vx_Zq.narrow (vx_Zq.moved hW.alike (vx_Zq.kept hp1 hS.2.1)) hFc, va_Nw.warmC hW hp2, vk_R.warm hW hp3, va_Nw.warmD hW hp4, va_Nw.warmD hW hp5, va_Nw.warmD hW hp6⟩⟩ rfl rfl hl.1 rfl (lv_room (Nat.le_of_ble_eq_true rfl)) dL_told_4 ⟨(Nat.le_of_ble_eq_true rfl), (Nat.le_of_ble_eq_true rfl)⟩) hS (fun q _ h => hFc q h) hFc (fun q _ h => hFc q h) (fun E ce q9 u t H1 locs ht hvm _ hB hz1 hk1 hS hce hcv hcl => ?_) (fun r_2001 u t H1 locs ht hvm hw hB hz1 hk1 hS => ?_)
  · obtain ⟨hP, hD⟩ := va_join (wr := [(q_900, .inl (cA_901, 1, .inr (.inl fl_0)))]) (w1 := []) hP hD [0, 1] [2] rfl rfl (by decide) (by decide) hk1 hFc (fun k q h => by simp at h) ⟨fun i j p q h => by simp at h, fun k q h => by simp at h⟩
    have hK := hK.sub (tys' := [(cA_901, .long)]) [0] rfl
    generalize H1 = H at hP hS hce ⊢
    have hP : va_P (dC, dI) vwP [(q_900, .inl (cA_901, 1, .inr (.inl fl_0)))] H := hP
    have hD : va_D A [(q_900, .inl (cA_901, 1, .inr (.inl fl_0)))] := hD
    refine vx_widen (k := 1) (n := 6) (Nat.le_of_ble_eq_true rfl) (Nat.le_of_ble_eq_true rfl) ?_
    obtain ⟨rfl, hkx⟩ := hB
    refine vx_catch (name := "java/lang/IllegalArgumentException") hown [] ⟨0, 9, 12, 19⟩ [] (by rw [vx_table (x := yL_told) B (hts _ List.mem_cons_self)]; rfl) (fun z hz => nomatch hz) (by decide) (by decide) (ow (k := 4) rfl) (va_Nw.use rfl hp2) hce hcv hcl ?_
    refine lv_astore_n (lv' := [(3, .ref q9), (0, .ref h0), (1, .int p0), (2, .ref q_900)]) hx hb dL_told_12 rfl hl (by decide) rfl (fun ls hl => ?_)
    refine lv_iconst (v := 1) hx hb dL_told_13 (by decide) ?_
    refine W.widen (k := 1) (n := 6) (Nat.le_of_ble_eq_true rfl) (Nat.le_of_ble_eq_true rfl) ?_
    exact W.iret (v := 1) hx hb hr (fun t ht hW => ⟨⟨1, (), rfl, hkx.symm, fl_0, (fun h => absurd (hkx.symm.trans h) (by decide)), by rw [ht]; exact hP, va_K.moved hW.alike hK, hD⟩, hS.F ht⟩) hS.2.2 dL_told_14
  obtain ⟨hP1, hK1, hD1⟩ := hB
  rw [ht] at hP1
  have hK1 := va_K.moved hvm.symm hK1
  obtain ⟨hP, hD⟩ := va_join (wr := [(q_900, .inl (cA_901, 1, .inr (.inl fl_0)))]) (w1 := []) hP hD [0, 1] [2] rfl rfl (by decide) (by decide) hk1 hFc hP1 hD1
  have hK := (hK.sub (tys' := [(cA_901, .long)]) [0] rfl).app hK1
  generalize H1 = H at hP hS ⊢
  have hP : va_P (dC, dI) vwP [(q_900, .inl (cA_901, 1, .inr (.inl fl_0)))] H := hP
  have hD : va_D A [(q_900, .inl (cA_901, 1, .inr (.inl fl_0)))] := hD
  have hK : va_K (dC, dI) vwP [(cA_901, .long)] s := hK
  refine W.widen (k := 1) (n := 6) (Nat.le_of_ble_eq_true rfl) (Nat.le_of_ble_eq_true rfl) ?_
  have hw_2002 := hw
  refine lv_i2l hx hb dL_told_7 rfl ?_
  refine va_last hx hb hK hP hD hS 0 0 rfl rfl (show vp_in 0 1 by rw [vp_in_iff]; decide) dL_told_8 (fun H locs hP hD hS => ?_)
  have hP : va_P (dC, dI) vwP [(q_900, .inl (cA_901, 1, .inr (.inl (vp_updL fl_0 (0 : Int32).toNatClampNeg ((r_2001 : Int32).toInt64)))))] H := hP
  have hD : va_D A [(q_900, .inl (cA_901, 1, .inr (.inl (vp_updL fl_0 (0 : Int32).toNatClampNeg ((r_2001 : Int32).toInt64)))))] := hD
  refine lv_goto (tgt := 15) hx hb dL_told_9 (by decide) ?_
  refine lv_iconst (v := 0) hx hb dL_told_15 (by decide) ?_
  refine W.widen (k := 1) (n := 6) (Nat.le_of_ble_eq_true rfl) (Nat.le_of_ble_eq_true rfl) ?_
  exact W.iret (v := 0) hx hb hr (fun t ht hW => ⟨⟨0, (), rfl, hw_2002.1.symm, (vp_updL fl_0 (0 : Int32).toNatClampNeg ((r_2001 : Int32).toInt64)), (fun _ => by rw [show (0 : Int32).toNatClampNeg = 0 from rfl, pk_uLs, hw_2002.2]), by rw [ht]; exact hP, va_K.moved hW.alike hK, hD⟩, hS.F ht⟩) hS.2.2 dL_told_16
theorem dL_shown_0 : decode cL_shown 0 = .ok (.aload_n 2, 1) := by decide +kernel
theorem dL_shown_1 : decode cL_shown 1 = .ok (.iconst 0, 1) := by decide +kernel
theorem dL_shown_2 : decode cL_shown 2 = .ok (.aload_n 0, 1) := by decide +kernel
theorem dL_shown_3 : decode cL_shown 3 = .ok (.iload_n 1, 1) := by decide +kernel
theorem dL_shown_4 : decode cL_shown 4 = .ok (.invokevirtual 41, 3) := by decide +kernel
theorem dL_shown_12 : decode cL_shown 12 = .ok (.astore_n 3, 1) := by decide +kernel
theorem dL_shown_13 : decode cL_shown 13 = .ok (.iconst 1, 1) := by decide +kernel
theorem dL_shown_14 : decode cL_shown 14 = .ok (.ireturn, 1) := by decide +kernel
theorem dL_shown_7 : decode cL_shown 7 = .ok (.i2l, 1) := by decide +kernel
theorem dL_shown_8 : decode cL_shown 8 = .ok (.lastore, 1) := by decide +kernel
theorem dL_shown_9 : decode cL_shown 9 = .ok (.goto 6, 3) := by decide +kernel
theorem dL_shown_15 : decode cL_shown 15 = .ok (.iconst 0, 1) := by decide +kernel
theorem dL_shown_16 : decode cL_shown 16 = .ok (.ireturn, 1) := by decide +kernel
def o_L_shown : List Cond := [.methodLink RL 41 yX11_shown, .instanceMethod yX11_shown, .selects RX11 yX11_shown yX11_shown, .initialized RX11, .classLink RL 13 "java/lang/IndexOutOfBoundsException"]
def v_L_shown : List Cond := .codeWith yL_shown cL_shown 4 (some .int) [(0, 9, 12, 13)] :: (o_L_shown ++ (v_X11_shown ++ []))
theorem mow_L_shown : ∀ w ∈ o_L_shown, w ∈ v_L_shown := fun _ h => List.mem_cons_of_mem _ (List.mem_append_left _ h)
theorem mem_L_shown_0 : ∀ w ∈ v_X11_shown, w ∈ v_L_shown := fun _ h => List.mem_cons_of_mem _ (List.mem_append_right _ (List.mem_append_left _ h))
set_option maxRecDepth 20000 in
theorem gw_L_shown : v_L_shown.all goodWord = true := by decide +kernel
set_option maxRecDepth 20000 in
theorem g_L_shown_X11_shown : GoodIn v_L_shown (wsV RL 41 RX11 yX11_shown v_X11_shown) := goodIn_app (goodIn_sub (fun w h => mow_L_shown w (by revert w h; decide +kernel)) (by decide +kernel)) (goodIn_sub mem_L_shown_0 gw_X11_shown)
set_option maxHeartbeats 4000000 in
set_option maxRecDepth 100000 in
theorem c_L_shown (l : Launch) (dC : Nat → ClassId) (dI : Nat → Nat → Nat) (hst : l.stackTraces = false) (h0 : Nat) (q_1 : Nat) (q_3 : Nat) (q_21 : Nat) (q_39 : Nat) (q_52 : Nat) (q_60 : Nat) (q_66 : Nat) (q_73 : Nat) (q_79 : Nat) (q_84 : Nat) (q_92 : Nat) (q_102 : Nat) (q_107 : Nat) (q_103 : Nat) (q_104 : Nat) (q_105 : Nat) (q_106 : Nat) (q_900 : Nat) (cA_901 : ClassId) (fl_0 : Nat → Int64) (p0 : Int32) (sz : Nat) (sa_RX11_229 : Nat) : Met l yL_shown v_L_shown ({ frames := 7, cells := 1, slots := 6, locals := 103 }) (va_Pc [.ref h0, .int p0, .ref q_900] (fun U => U.heap.size = sz ∧ va_P (dC, dI) vwP [(h0, .inr (11, [.ref q_1, .int 0, .int (-1), .ref q_3, .ref q_21, .ref q_39, .int 0, .ref q_52, .int 0, .ref q_60, .ref q_66, .ref q_73, .ref q_79, .ref q_84, .ref q_92, .ref q_102, .ref q_107])), (q_102, .inr (5, [.int 0, .int 0, .int 0, .int 0, .int 0, .int (-1), .ref q_103, .ref q_104, .ref q_105, .ref q_106, .int 0])), (q_900, .inl (cA_901, 1, .inr (.inl fl_0)))] U.heap ∧ va_K (dC, dI) vwP [(cA_901, .long)] U ∧ va_D (fun _ => True) [(h0, .inr (11, [.ref q_1, .int 0, .int (-1), .ref q_3, .ref q_21, .ref q_39, .int 0, .ref q_52, .int 0, .ref q_60, .ref q_66, .ref q_73, .ref q_79, .ref q_84, .ref q_92, .ref q_102, .ref q_107])), (q_102, .inr (5, [.int 0, .int 0, .int 0, .int 0, .int 0, .int (-1), .ref q_103, .ref q_104, .ref q_105, .ref q_106, .int 0])), (q_900, .inl (cA_901, 1, .inr (.inl fl_0)))] ∧ vx_Zq Bundle.tN "UNASSIGNED_STACK" Bundle.steD (va_A [(h0, .inr (11, [.ref q_1, .int 0, .int (-1), .ref q_3, .ref q_21, .ref q_39, .int 0, .ref q_52, .int 0, .ref q_60, .ref q_66, .ref q_73, .ref q_79, .ref q_84, .ref q_92, .ref q_102, .ref q_107])), (q_102, .inr (5, [.int 0, .int 0, .int 0, .int 0, .int 0, .int (-1), .ref q_103, .ref q_104, .ref q_105, .ref q_106, .int 0])), (q_900, .inl (cA_901, 1, .inr (.inl fl_0)))] sz) U U.heap ∧ vx_Zq Bundle.tN "SUPPRESSED_SENTINEL" Bundle.listD (va_A [(h0, .inr (11, [.ref q_1, .int 0, .int (-1), .ref q_3, .ref q_21, .ref q_39, .int 0, .ref q_52, .int 0, .ref q_60, .ref q_66, .ref q_73, .ref q_79, .ref q_84, .ref q_92, .ref q_102, .ref q_107])), (q_102, .inr (5, [.int 0, .int 0, .int 0, .int 0, .int 0, .int (-1), .ref q_103, .ref q_104, .ref q_105, .ref q_106, .int 0])), (q_900, .inl (cA_901, 1, .inr (.inl fl_0)))] sz) U U.heap ∧ va_Nw (.castable "java/lang/IndexOutOfBoundsException" "java/lang/IndexOutOfBoundsException") U ∧ vk_R RX11 229 "not so many were shown" sa_RX11_229 U ∧ va_Nw (.declares (Bundle.initS "java/lang/RuntimeException")) U ∧ va_Nw (.declares (Bundle.initS "java/lang/Exception")) U ∧ va_Nw (.declares (Bundle.initS "java/lang/Throwable")) U)) (va_Qi (fun (r : Int32) (_ : Unit) => r = kf_shown) (fun (_ : Unit) (t : State) => ∃ (g0_9 : Nat → Int64), (kf_shown = 0 → g0_9 0 = (vf_shown : Int32).toInt64) ∧ va_P (dC, dI) vwP [(q_900, .inl (cA_901, 1, .inr (.inl g0_9)))] t.heap ∧ va_K (dC, dI) vwP [(cA_901, .long)] t ∧ va_D (va_A [(h0, .inr (11, [.ref q_1, .int 0, .int (-1), .ref q_3, .ref q_21, .ref q_39, .int 0, .ref q_52, .int 0, .ref q_60, .ref q_66, .ref q_73, .ref q_79, .ref q_84, .ref q_92, .ref q_102, .ref q_107])), (q_102, .inr (5, [.int 0, .int 0, .int 0, .int 0, .int 0, .int (-1), .ref q_103, .ref q_104, .ref q_105, .ref q_106, .int 0])), (q_900, .inl (cA_901, 1, .inr (.inl fl_0)))] sz) [(q_900, .inl (cA_901, 1, .inr (.inl g0_9)))]) (va_A [(h0, .inr (11, [.ref q_1, .int 0, .int (-1), .ref q_3, .ref q_21, .ref q_39, .int 0, .ref q_52, .int 0, .ref q_60, .ref q_66, .ref q_73, .ref q_79, .ref q_84, .ref q_92, .ref q_102, .ref q_107])), (q_102, .inr (5, [.int 0, .int 0, .int 0, .int 0, .int 0, .int (-1), .ref q_103, .ref q_104, .ref q_105, .ref q_106, .int 0])), (q_900, .inl (cA_901, 1, .inr (.inl fl_0)))] sz)) 1 6 (va_A [(h0, .inr (11, [.ref q_1, .int 0, .int (-1), .ref q_3, .ref q_21, .ref q_39, .int 0, .ref q_52, .int 0, .ref q_60, .ref q_66, .ref q_73, .ref q_79, .ref q_84, .ref q_92, .ref q_102, .ref q_107])), (q_102, .inr (5, [.int 0, .int 0, .int 0, .int 0, .int 0, .int (-1), .ref q_103, .ref q_104, .ref q_105, .ref q_106, .int 0])), (q_900, .inl (cA_901, 1, .inr (.inl fl_0)))] sz) := by
  refine va_MetW (cc := cL_shown) (maxL := 4) (ret := (some .int)) (by decide) rfl ?_
  intro p e s m args below meth c s₁ B hml hv
  obtain ⟨rfl, hsz, hP, hK, hD0, hp0, hp1, hp2, hp3, hp4, hp5, hp6⟩ := hv
  have hx := B.exec
  have hb := B.bytes
  have hr := B.returns
  have hts := atoms_spec (ws := v_L_shown) B.pre
  have hown : s.vm.findClass RL = some m.cls := findClass_of_methodNamed B.named
  have hlocks := B.notSynchronized
  have ow : ∀ {k : Nat} {w : Cond}, o_L_shown[k]? = some w → w.before ([.ref h0, .int p0, .ref q_900] : List Value).toArray s = true := fun h => hts _ (mow_L_shown _ (List.mem_of_getElem? h))
  subst hsz
  have hD := hD0.self (sz := s.heap.size)
  generalize hAe : va_A [(h0, .inr (11, [.ref q_1, .int 0, .int (-1), .ref q_3, .ref q_21, .ref q_39, .int 0, .ref q_52, .int 0, .ref q_60, .ref q_66, .ref q_73, .ref q_79, .ref q_84, .ref q_92, .ref q_102, .ref q_107])), (q_102, .inr (5, [.int 0, .int 0, .int 0, .int 0, .int 0, .int (-1), .ref q_103, .ref q_104, .ref q_105, .ref q_106, .int 0])), (q_900, .inl (cA_901, 1, .inr (.inl fl_0)))] s.heap.size = A at hD hp0 hp1 ⊢
  have hA : ∀ q : Nat, s.heap.size ≤ q → A q := fun q h => by rw [← hAe]; exact Or.inr h
  have hS : va_S A s.heap s.heap [] := va_S.rf
  have hP : va_P (dC, dI) vwP [(h0, .inr (11, [.ref q_1, .int 0, .int (-1), .ref q_3, .ref q_21, .ref q_39, .int 0, .ref q_52, .int 0, .ref q_60, .ref q_66, .ref q_73, .ref q_79, .ref q_84, .ref q_92, .ref q_102, .ref q_107])), (q_102, .inr (5, [.int 0, .int 0, .int 0, .int 0, .int 0, .int (-1), .ref q_103, .ref q_104, .ref q_105, .ref q_106, .int 0])), (q_900, .inl (cA_901, 1, .inr (.inl fl_0)))] s.heap := hP
  have hl := lv_entry ([.ref h0, .int p0, .ref q_900]) (n := 4) (Nat.le_of_ble_eq_true rfl)
  rw [lg_entry_eq]
  generalize (lg_sl ([.ref h0, .int p0, .ref q_900]) ++ List.replicate (4 - (lg_sl ([.ref h0, .int p0, .ref q_900])).length) Slot.unset).toArray = ls at hl ⊢
  have hl : lv_has ls 4 [(0, .ref h0), (1, .int p0), (2, .ref q_900)] := hl
  obtain ⟨H, hH⟩ : ∃ H, H = s.heap := ⟨_, rfl⟩
  rw [← hH] at hP
  have hS : va_S A s.heap H [] := by rw [hH]; exact hS
  rw [← hH]
  refine lv_aload_n hx hb dL_shown_0 rfl (lv_at hl 2 rfl) ?_
  refine lv_iconst (v := 0) hx hb dL_shown_1 (by decide) ?_
  refine lv_aload_n hx hb dL_shown_2 rfl (lv_at hl 0 rfl) ?_
  refine lv_iload_n hx hb dL_shown_3 rfl (lv_at hl 1 rfl) ?_
  have hPc := hP.sub (ws' := [(h0, .inr (11, [.ref q_1, .int 0, .int (-1), .ref q_3, .ref q_21, .ref q_39, .int 0, .ref q_52, .int 0, .ref q_60, .ref q_66, .ref q_73, .ref q_79, .ref q_84, .ref q_92, .ref q_102, .ref q_107])), (q_102, .inr (5, [.int 0, .int 0, .int 0, .int 0, .int 0, .int (-1), .ref q_103, .ref q_104, .ref q_105, .ref q_106, .int 0]))]) [0, 1] rfl
  have hDc := hD.sub (ws' := [(h0, .inr (11, [.ref q_1, .int 0, .int (-1), .ref q_3, .ref q_21, .ref q_39, .int 0, .ref q_52, .int 0, .ref q_60, .ref q_66, .ref q_73, .ref q_79, .ref q_84, .ref q_92, .ref q_102, .ref q_107])), (q_102, .inr (5, [.int 0, .int 0, .int 0, .int 0, .int 0, .int (-1), .ref q_103, .ref q_104, .ref q_105, .ref q_106, .int 0]))]) [0, 1] (by decide) rfl
  have hKc := hK.sub (tys' := []) [] rfl
  have hFc := va_free (wc := [(h0, .inr (11, [.ref q_1, .int 0, .int (-1), .ref q_3, .ref q_21, .ref q_39, .int 0, .ref q_52, .int 0, .ref q_60, .ref q_66, .ref q_73, .ref q_79, .ref q_84, .ref q_92, .ref q_102, .ref q_107])), (q_102, .inr (5, [.int 0, .int 0, .int 0, .int 0, .int 0, .int (-1), .ref q_103, .ref q_104, .ref q_105, .ref q_106, .int 0]))]) hD hS hA [0, 1] rfl
  refine vx_calli (vx_runV (As := [.int p0]) (rest := [.int 0, .ref q_900]) ⟨hx, hb, hml, hown, hts⟩ (c_X11_shown l dC dI hst h0 q_1 q_3 q_21 q_39 q_52 q_60 q_66 q_73 q_79 q_84 q_92 q_102 q_107 q_103 q_104 q_105 q_106 p0 H.size sa_RX11_229) (cwV 1 hts g_L_shown_X11_shown rfl rfl rfl (by decide +kernel) ⟨(Nat.le_of_ble_eq_true rfl), (Nat.le_of_ble_eq_true rfl)⟩) ⟨fun a U g mk q => by obtain ⟨q0, q1, qP, qK, qD, e0, e1, e2, e3, e4, e5, e6⟩ := q; exact ⟨q0, q1, qP, va_K.moved (u := U) (U := U.calling g mk a) (Vm.Alike.refl U.vm) qK, qD, vx_Zq.moved (u := U) (U := U.calling g mk a) (Vm.Alike.refl U.vm) e0, vx_Zq.moved (u := U) (U := U.calling g mk a) (Vm.Alike.refl U.vm) e1, va_Nw.same rfl (u := U) (U := U.calling g mk a) rfl e2, vk_R.same (u := U) (U := U.calling g mk a) rfl e3, va_Nw.same rfl (u := U) (U := U.calling g mk a) rfl e4, va_Nw.same rfl (u := U) (U := U.calling g mk a) rfl e5, va_Nw.same rfl (u := U) (U := U.calling g mk a) rfl e6⟩, va_recv hKc hPc (ci := 11) (q0 := 0) rfl rfl, fun U hU hW => ⟨rfl, by rw [hU], by rw [hU]; exact hPc, va_K.moved hW.alike hKc, hDc.weaken (fun _ _ _ _ => trivial), by rw [hU]; exact vx_Zq.narrow (vx_Zq.moved hW.alike (vx_Zq.kept hp0 hS.2.1)) hFc, by rw [hU]; exact vx_Zq.narrow (vx_Zq.moved hW.alike (vx_Zq.kept hp1 hS.2.1)) hFc, va_Nw.warmC hW hp2, vk_R.warm hW hp3, va_Nw.warmD hW hp4, va_Nw.warmD hW hp5, va_Nw.warmD hW hp6⟩⟩ rfl rfl hl.1 rfl (lv_room (Nat.le_of_ble_eq_true rfl)) dL_shown_4 ⟨(Nat.le_of_ble_eq_true rfl), (Nat.le_of_ble_eq_true rfl)⟩) hS (fun q _ h => hFc q h) hFc (fun q _ h => hFc q h) (fun E ce q9 u t H1 locs ht hvm _ hB hz1 hk1 hS hce hcv hcl => ?_) (fun r_2001 u t H1 locs ht hvm hw hB hz1 hk1 hS => ?_)
  · obtain ⟨hP, hD⟩ := va_join (wr := [(q_900, .inl (cA_901, 1, .inr (.inl fl_0)))]) (w1 := []) hP hD [0, 1] [2] rfl rfl (by decide) (by decide) hk1 hFc (fun k q h => by simp at h) ⟨fun i j p q h => by simp at h, fun k q h => by simp at h⟩
    have hK := hK.sub (tys' := [(cA_901, .long)]) [0] rfl
    generalize H1 = H at hP hS hce ⊢
    have hP : va_P (dC, dI) vwP [(q_900, .inl (cA_901, 1, .inr (.inl fl_0)))] H := hP
    have hD : va_D A [(q_900, .inl (cA_901, 1, .inr (.inl fl_0)))] := hD
    refine vx_widen (k := 1) (n := 6) (Nat.le_of_ble_eq_true rfl) (Nat.le_of_ble_eq_true rfl) ?_
    obtain ⟨rfl, hkx⟩ := hB
    refine vx_catch (name := "java/lang/IndexOutOfBoundsException") hown [] ⟨0, 9, 12, 13⟩ [] (by rw [vx_table (x := yL_shown) B (hts _ List.mem_cons_self)]; rfl) (fun z hz => nomatch hz) (by decide) (by decide) (ow (k := 4) rfl) (va_Nw.use rfl hp2) hce hcv hcl ?_
    refine lv_astore_n (lv' := [(3, .ref q9), (0, .ref h0), (1, .int p0), (2, .ref q_900)]) hx hb dL_shown_12 rfl hl (by decide) rfl (fun ls hl => ?_)
    refine lv_iconst (v := 1) hx hb dL_shown_13 (by decide) ?_
    refine W.widen (k := 1) (n := 6) (Nat.le_of_ble_eq_true rfl) (Nat.le_of_ble_eq_true rfl) ?_
    exact W.iret (v := 1) hx hb hr (fun t ht hW => ⟨⟨1, (), rfl, hkx.symm, fl_0, (fun h => absurd (hkx.symm.trans h) (by decide)), by rw [ht]; exact hP, va_K.moved hW.alike hK, hD⟩, hS.F ht⟩) hS.2.2 dL_shown_14
  obtain ⟨hP1, hK1, hD1⟩ := hB
  rw [ht] at hP1
  have hK1 := va_K.moved hvm.symm hK1
  obtain ⟨hP, hD⟩ := va_join (wr := [(q_900, .inl (cA_901, 1, .inr (.inl fl_0)))]) (w1 := []) hP hD [0, 1] [2] rfl rfl (by decide) (by decide) hk1 hFc hP1 hD1
  have hK := (hK.sub (tys' := [(cA_901, .long)]) [0] rfl).app hK1
  generalize H1 = H at hP hS ⊢
  have hP : va_P (dC, dI) vwP [(q_900, .inl (cA_901, 1, .inr (.inl fl_0)))] H := hP
  have hD : va_D A [(q_900, .inl (cA_901, 1, .inr (.inl fl_0)))] := hD
  have hK : va_K (dC, dI) vwP [(cA_901, .long)] s := hK
  refine W.widen (k := 1) (n := 6) (Nat.le_of_ble_eq_true rfl) (Nat.le_of_ble_eq_true rfl) ?_
  have hw_2002 := hw
  refine lv_i2l hx hb dL_shown_7 rfl ?_
  refine va_last hx hb hK hP hD hS 0 0 rfl rfl (show vp_in 0 1 by rw [vp_in_iff]; decide) dL_shown_8 (fun H locs hP hD hS => ?_)
  have hP : va_P (dC, dI) vwP [(q_900, .inl (cA_901, 1, .inr (.inl (vp_updL fl_0 (0 : Int32).toNatClampNeg ((r_2001 : Int32).toInt64)))))] H := hP
  have hD : va_D A [(q_900, .inl (cA_901, 1, .inr (.inl (vp_updL fl_0 (0 : Int32).toNatClampNeg ((r_2001 : Int32).toInt64)))))] := hD
  refine lv_goto (tgt := 15) hx hb dL_shown_9 (by decide) ?_
  refine lv_iconst (v := 0) hx hb dL_shown_15 (by decide) ?_
  refine W.widen (k := 1) (n := 6) (Nat.le_of_ble_eq_true rfl) (Nat.le_of_ble_eq_true rfl) ?_
  exact W.iret (v := 0) hx hb hr (fun t ht hW => ⟨⟨0, (), rfl, hw_2002.1.symm, (vp_updL fl_0 (0 : Int32).toNatClampNeg ((r_2001 : Int32).toInt64)), (fun _ => by rw [show (0 : Int32).toNatClampNeg = 0 from rfl, pk_uLs, hw_2002.2]), by rw [ht]; exact hP, va_K.moved hW.alike hK, hD⟩, hS.F ht⟩) hS.2.2 dL_shown_16
theorem dL_count_0 : decode cL_count 0 = .ok (.aload_n 2, 1) := by decide +kernel
theorem dL_count_1 : decode cL_count 1 = .ok (.iconst 0, 1) := by decide +kernel
theorem dL_count_2 : decode cL_count 2 = .ok (.aload_n 0, 1) := by decide +kernel
theorem dL_count_3 : decode cL_count 3 = .ok (.iload_n 1, 1) := by decide +kernel
theorem dL_count_4 : decode cL_count 4 = .ok (.invokevirtual 44, 3) := by decide +kernel
theorem dL_count_12 : decode cL_count 12 = .ok (.astore_n 3, 1) := by decide +kernel
theorem dL_count_13 : decode cL_count 13 = .ok (.iconst 1, 1) := by decide +kernel
theorem dL_count_14 : decode cL_count 14 = .ok (.ireturn, 1) := by decide +kernel
theorem dL_count_7 : decode cL_count 7 = .ok (.i2l, 1) := by decide +kernel
theorem dL_count_8 : decode cL_count 8 = .ok (.lastore, 1) := by decide +kernel
theorem dL_count_9 : decode cL_count 9 = .ok (.goto 6, 3) := by decide +kernel
theorem dL_count_15 : decode cL_count 15 = .ok (.iconst 0, 1) := by decide +kernel
theorem dL_count_16 : decode cL_count 16 = .ok (.ireturn, 1) := by decide +kernel
def o_L_count : List Cond := [.methodLink RL 44 yX11_count, .instanceMethod yX11_count, .selects RX11 yX11_count yX11_count, .initialized RX11, .classLink RL 19 "java/lang/IllegalArgumentException"]
def v_L_count : List Cond := .codeWith yL_count cL_count 4 (some .int) [(0, 9, 12, 19)] :: (o_L_count ++ (v_X11_count ++ []))
theorem mow_L_count : ∀ w ∈ o_L_count, w ∈ v_L_count := fun _ h => List.mem_cons_of_mem _ (List.mem_append_left _ h)
theorem mem_L_count_0 : ∀ w ∈ v_X11_count, w ∈ v_L_count := fun _ h => List.mem_cons_of_mem _ (List.mem_append_right _ (List.mem_append_left _ h))
set_option maxRecDepth 20000 in
theorem gw_L_count : v_L_count.all goodWord = true := by decide +kernel
set_option maxRecDepth 20000 in
theorem g_L_count_X11_count : GoodIn v_L_count (wsV RL 44 RX11 yX11_count v_X11_count) := goodIn_app (goodIn_sub (fun w h => mow_L_count w (by revert w h; decide +kernel)) (by decide +kernel)) (goodIn_sub mem_L_count_0 gw_X11_count)
set_option maxHeartbeats 4000000 in
set_option maxRecDepth 100000 in
theorem c_L_count (l : Launch) (dC : Nat → ClassId) (dI : Nat → Nat → Nat) (hst : l.stackTraces = false) (h0 : Nat) (q_1 : Nat) (q_3 : Nat) (q_21 : Nat) (q_39 : Nat) (q_52 : Nat) (q_60 : Nat) (q_66 : Nat) (q_73 : Nat) (q_79 : Nat) (q_84 : Nat) (q_92 : Nat) (q_102 : Nat) (q_107 : Nat) (q_61 : Nat) (q_62 : Nat) (q_63 : Nat) (q_108 : Nat) (q_109 : Nat) (q_900 : Nat) (cA_901 : ClassId) (fl_0 : Nat → Int64) (p0 : Int32) (sz : Nat) (sa_RX11_235 : Nat) : Met l yL_count v_L_count ({ frames := 7, cells := 1, slots := 6, locals := 103 }) (va_Pc [.ref h0, .int p0, .ref q_900] (fun U => U.heap.size = sz ∧ va_P (dC, dI) vwP [(h0, .inr (11, [.ref q_1, .int 0, .int (-1), .ref q_3, .ref q_21, .ref q_39, .int 0, .ref q_52, .int 0, .ref q_60, .ref q_66, .ref q_73, .ref q_79, .ref q_84, .ref q_92, .ref q_102, .ref q_107])), (q_60, .inr (7, [.int 0, .ref q_61, .int 0, .int 0, .int 1, .int 0, .int 0, .int 0, .null, .int 0, .int 0, .int 0, .int 0, .long 0, .int 0, .int (-1), .ref q_62, .ref q_63])), (q_107, .inr (6, [.int 0, .ref q_108, .ref q_109, .int 0, .int 0])), (q_900, .inl (cA_901, 1, .inr (.inl fl_0)))] U.heap ∧ va_K (dC, dI) vwP [(cA_901, .long)] U ∧ va_D (fun _ => True) [(h0, .inr (11, [.ref q_1, .int 0, .int (-1), .ref q_3, .ref q_21, .ref q_39, .int 0, .ref q_52, .int 0, .ref q_60, .ref q_66, .ref q_73, .ref q_79, .ref q_84, .ref q_92, .ref q_102, .ref q_107])), (q_60, .inr (7, [.int 0, .ref q_61, .int 0, .int 0, .int 1, .int 0, .int 0, .int 0, .null, .int 0, .int 0, .int 0, .int 0, .long 0, .int 0, .int (-1), .ref q_62, .ref q_63])), (q_107, .inr (6, [.int 0, .ref q_108, .ref q_109, .int 0, .int 0])), (q_900, .inl (cA_901, 1, .inr (.inl fl_0)))] ∧ vx_Zq Bundle.tN "UNASSIGNED_STACK" Bundle.steD (va_A [(h0, .inr (11, [.ref q_1, .int 0, .int (-1), .ref q_3, .ref q_21, .ref q_39, .int 0, .ref q_52, .int 0, .ref q_60, .ref q_66, .ref q_73, .ref q_79, .ref q_84, .ref q_92, .ref q_102, .ref q_107])), (q_60, .inr (7, [.int 0, .ref q_61, .int 0, .int 0, .int 1, .int 0, .int 0, .int 0, .null, .int 0, .int 0, .int 0, .int 0, .long 0, .int 0, .int (-1), .ref q_62, .ref q_63])), (q_107, .inr (6, [.int 0, .ref q_108, .ref q_109, .int 0, .int 0])), (q_900, .inl (cA_901, 1, .inr (.inl fl_0)))] sz) U U.heap ∧ vx_Zq Bundle.tN "SUPPRESSED_SENTINEL" Bundle.listD (va_A [(h0, .inr (11, [.ref q_1, .int 0, .int (-1), .ref q_3, .ref q_21, .ref q_39, .int 0, .ref q_52, .int 0, .ref q_60, .ref q_66, .ref q_73, .ref q_79, .ref q_84, .ref q_92, .ref q_102, .ref q_107])), (q_60, .inr (7, [.int 0, .ref q_61, .int 0, .int 0, .int 1, .int 0, .int 0, .int 0, .null, .int 0, .int 0, .int 0, .int 0, .long 0, .int 0, .int (-1), .ref q_62, .ref q_63])), (q_107, .inr (6, [.int 0, .ref q_108, .ref q_109, .int 0, .int 0])), (q_900, .inl (cA_901, 1, .inr (.inl fl_0)))] sz) U U.heap ∧ va_Nw (.castable "java/lang/IllegalArgumentException" "java/lang/IllegalArgumentException") U ∧ vk_R RX11 235 "nothing to count" sa_RX11_235 U ∧ va_Nw (.declares (Bundle.initS "java/lang/RuntimeException")) U ∧ va_Nw (.declares (Bundle.initS "java/lang/Exception")) U ∧ va_Nw (.declares (Bundle.initS "java/lang/Throwable")) U)) (va_Qi (fun (r : Int32) (_ : Unit) => r = kf_count p0) (fun (_ : Unit) (t : State) => ∃ (g0_9 : Nat → Int64), (kf_count p0 = 0 → g0_9 0 = (vf_count p0 : Int32).toInt64) ∧ va_P (dC, dI) vwP [(q_900, .inl (cA_901, 1, .inr (.inl g0_9)))] t.heap ∧ va_K (dC, dI) vwP [(cA_901, .long)] t ∧ va_D (va_A [(h0, .inr (11, [.ref q_1, .int 0, .int (-1), .ref q_3, .ref q_21, .ref q_39, .int 0, .ref q_52, .int 0, .ref q_60, .ref q_66, .ref q_73, .ref q_79, .ref q_84, .ref q_92, .ref q_102, .ref q_107])), (q_60, .inr (7, [.int 0, .ref q_61, .int 0, .int 0, .int 1, .int 0, .int 0, .int 0, .null, .int 0, .int 0, .int 0, .int 0, .long 0, .int 0, .int (-1), .ref q_62, .ref q_63])), (q_107, .inr (6, [.int 0, .ref q_108, .ref q_109, .int 0, .int 0])), (q_900, .inl (cA_901, 1, .inr (.inl fl_0)))] sz) [(q_900, .inl (cA_901, 1, .inr (.inl g0_9)))]) (va_A [(h0, .inr (11, [.ref q_1, .int 0, .int (-1), .ref q_3, .ref q_21, .ref q_39, .int 0, .ref q_52, .int 0, .ref q_60, .ref q_66, .ref q_73, .ref q_79, .ref q_84, .ref q_92, .ref q_102, .ref q_107])), (q_60, .inr (7, [.int 0, .ref q_61, .int 0, .int 0, .int 1, .int 0, .int 0, .int 0, .null, .int 0, .int 0, .int 0, .int 0, .long 0, .int 0, .int (-1), .ref q_62, .ref q_63])), (q_107, .inr (6, [.int 0, .ref q_108, .ref q_109, .int 0, .int 0])), (q_900, .inl (cA_901, 1, .inr (.inl fl_0)))] sz)) 1 6 (va_A [(h0, .inr (11, [.ref q_1, .int 0, .int (-1), .ref q_3, .ref q_21, .ref q_39, .int 0, .ref q_52, .int 0, .ref q_60, .ref q_66, .ref q_73, .ref q_79, .ref q_84, .ref q_92, .ref q_102, .ref q_107])), (q_60, .inr (7, [.int 0, .ref q_61, .int 0, .int 0, .int 1, .int 0, .int 0, .int 0, .null, .int 0, .int 0, .int 0, .int 0, .long 0, .int 0, .int (-1), .ref q_62, .ref q_63])), (q_107, .inr (6, [.int 0, .ref q_108, .ref q_109, .int 0, .int 0])), (q_900, .inl (cA_901, 1, .inr (.inl fl_0)))] sz) := by
  refine va_MetW (cc := cL_count) (maxL := 4) (ret := (some .int)) (by decide) rfl ?_
  intro p e s m args below meth c s₁ B hml hv
  obtain ⟨rfl, hsz, hP, hK, hD0, hp0, hp1, hp2, hp3, hp4, hp5, hp6⟩ := hv
  have hx := B.exec
  have hb := B.bytes
  have hr := B.returns
  have hts := atoms_spec (ws := v_L_count) B.pre
  have hown : s.vm.findClass RL = some m.cls := findClass_of_methodNamed B.named
  have hlocks := B.notSynchronized
  have ow : ∀ {k : Nat} {w : Cond}, o_L_count[k]? = some w → w.before ([.ref h0, .int p0, .ref q_900] : List Value).toArray s = true := fun h => hts _ (mow_L_count _ (List.mem_of_getElem? h))
  subst hsz
  have hD := hD0.self (sz := s.heap.size)
  generalize hAe : va_A [(h0, .inr (11, [.ref q_1, .int 0, .int (-1), .ref q_3, .ref q_21, .ref q_39, .int 0, .ref q_52, .int 0, .ref q_60, .ref q_66, .ref q_73, .ref q_79, .ref q_84, .ref q_92, .ref q_102, .ref q_107])), (q_60, .inr (7, [.int 0, .ref q_61, .int 0, .int 0, .int 1, .int 0, .int 0, .int 0, .null, .int 0, .int 0, .int 0, .int 0, .long 0, .int 0, .int (-1), .ref q_62, .ref q_63])), (q_107, .inr (6, [.int 0, .ref q_108, .ref q_109, .int 0, .int 0])), (q_900, .inl (cA_901, 1, .inr (.inl fl_0)))] s.heap.size = A at hD hp0 hp1 ⊢
  have hA : ∀ q : Nat, s.heap.size ≤ q → A q := fun q h => by rw [← hAe]; exact Or.inr h
  have hS : va_S A s.heap s.heap [] := va_S.rf
  have hP : va_P (dC, dI) vwP [(h0, .inr (11, [.ref q_1, .int 0, .int (-1), .ref q_3, .ref q_21, .ref q_39, .int 0, .ref q_52, .int 0, .ref q_60, .ref q_66, .ref q_73, .ref q_79, .ref q_84, .ref q_92, .ref q_102, .ref q_107])), (q_60, .inr (7, [.int 0, .ref q_61, .int 0, .int 0, .int 1, .int 0, .int 0, .int 0, .null, .int 0, .int 0, .int 0, .int 0, .long 0, .int 0, .int (-1), .ref q_62, .ref q_63])), (q_107, .inr (6, [.int 0, .ref q_108, .ref q_109, .int 0, .int 0])), (q_900, .inl (cA_901, 1, .inr (.inl fl_0)))] s.heap := hP
  have hl := lv_entry ([.ref h0, .int p0, .ref q_900]) (n := 4) (Nat.le_of_ble_eq_true rfl)
  rw [lg_entry_eq]
  generalize (lg_sl ([.ref h0, .int p0, .ref q_900]) ++ List.replicate (4 - (lg_sl ([.ref h0, .int p0, .ref q_900])).length) Slot.unset).toArray = ls at hl ⊢
  have hl : lv_has ls 4 [(0, .ref h0), (1, .int p0), (2, .ref q_900)] := hl
  obtain ⟨H, hH⟩ : ∃ H, H = s.heap := ⟨_, rfl⟩
  rw [← hH] at hP
  have hS : va_S A s.heap H [] := by rw [hH]; exact hS
  rw [← hH]
  refine lv_aload_n hx hb dL_count_0 rfl (lv_at hl 2 rfl) ?_
  refine lv_iconst (v := 0) hx hb dL_count_1 (by decide) ?_
  refine lv_aload_n hx hb dL_count_2 rfl (lv_at hl 0 rfl) ?_
  refine lv_iload_n hx hb dL_count_3 rfl (lv_at hl 1 rfl) ?_
  have hPc := hP.sub (ws' := [(h0, .inr (11, [.ref q_1, .int 0, .int (-1), .ref q_3, .ref q_21, .ref q_39, .int 0, .ref q_52, .int 0, .ref q_60, .ref q_66, .ref q_73, .ref q_79, .ref q_84, .ref q_92, .ref q_102, .ref q_107])), (q_60, .inr (7, [.int 0, .ref q_61, .int 0, .int 0, .int 1, .int 0, .int 0, .int 0, .null, .int 0, .int 0, .int 0, .int 0, .long 0, .int 0, .int (-1), .ref q_62, .ref q_63])), (q_107, .inr (6, [.int 0, .ref q_108, .ref q_109, .int 0, .int 0]))]) [0, 1, 2] rfl
  have hDc := hD.sub (ws' := [(h0, .inr (11, [.ref q_1, .int 0, .int (-1), .ref q_3, .ref q_21, .ref q_39, .int 0, .ref q_52, .int 0, .ref q_60, .ref q_66, .ref q_73, .ref q_79, .ref q_84, .ref q_92, .ref q_102, .ref q_107])), (q_60, .inr (7, [.int 0, .ref q_61, .int 0, .int 0, .int 1, .int 0, .int 0, .int 0, .null, .int 0, .int 0, .int 0, .int 0, .long 0, .int 0, .int (-1), .ref q_62, .ref q_63])), (q_107, .inr (6, [.int 0, .ref q_108, .ref q_109, .int 0, .int 0]))]) [0, 1, 2] (by decide) rfl
  have hKc := hK.sub (tys' := []) [] rfl
  have hFc := va_free (wc := [(h0, .inr (11, [.ref q_1, .int 0, .int (-1), .ref q_3, .ref q_21, .ref q_39, .int 0, .ref q_52, .int 0, .ref q_60, .ref q_66, .ref q_73, .ref q_79, .ref q_84, .ref q_92, .ref q_102, .ref q_107])), (q_60, .inr (7, [.int 0, .ref q_61, .int 0, .int 0, .int 1, .int 0, .int 0, .int 0, .null, .int 0, .int 0, .int 0, .int 0, .long 0, .int 0, .int (-1), .ref q_62, .ref q_63])), (q_107, .inr (6, [.int 0, .ref q_108, .ref q_109, .int 0, .int 0]))]) hD hS hA [0, 1, 2] rfl
  refine vx_calli (vx_runV (As := [.int p0]) (rest := [.int 0, .ref q_900]) ⟨hx, hb, hml, hown, hts⟩ (c_X11_count l dC dI hst h0 q_1 q_3 q_21 q_39 q_52 q_60 q_66 q_73 q_79 q_84 q_92 q_102 q_107 q_61 q_62 q_63 q_108 q_109 p0 H.size sa_RX11_235) (cwV 1 hts g_L_count_X11_count rfl rfl rfl (by decide +kernel) ⟨(Nat.le_of_ble_eq_true rfl), (Nat.le_of_ble_eq_true rfl)⟩) ⟨fun a U g mk q => by obtain ⟨q0, q1, qP, qK, qD, e0, e1, e2, e3, e4, e5, e6⟩ := q; exact ⟨q0, q1, qP, va_K.moved (u := U) (U := U.calling g mk a) (Vm.Alike.refl U.vm) qK, qD, vx_Zq.moved (u := U) (U := U.calling g mk a) (Vm.Alike.refl U.vm) e0, vx_Zq.moved (u := U) (U := U.calling g mk a) (Vm.Alike.refl U.vm) e1, va_Nw.same rfl (u := U) (U := U.calling g mk a) rfl e2, vk_R.same (u := U) (U := U.calling g mk a) rfl e3, va_Nw.same rfl (u := U) (U := U.calling g mk a) rfl e4, va_Nw.same rfl (u := U) (U := U.calling g mk a) rfl e5, va_Nw.same rfl (u := U) (U := U.calling g mk a) rfl e6⟩, va_recv hKc hPc (ci := 11) (q0 := 0) rfl rfl, fun U hU hW => ⟨rfl, by rw [hU], by rw [hU]; exact hPc, va_K.moved hW.alike hKc, hDc.weaken (fun _ _ _ _ => trivial), by rw [hU]; exact vx_Zq.narrow (vx_Zq.moved hW.alike (vx_Zq.kept hp0 hS.2.1)) hFc, by rw [hU]; exact vx_Zq.narrow (vx_Zq.moved hW.alike (vx_Zq.kept hp1 hS.2.1)) hFc, va_Nw.warmC hW hp2, vk_R.warm hW hp3, va_Nw.warmD hW hp4, va_Nw.warmD hW hp5, va_Nw.warmD hW hp6⟩⟩ rfl rfl hl.1 rfl (lv_room (Nat.le_of_ble_eq_true rfl)) dL_count_4 ⟨(Nat.le_of_ble_eq_true rfl), (Nat.le_of_ble_eq_true rfl)⟩) hS (fun q _ h => hFc q h) hFc (fun q _ h => hFc q h) (fun E ce q9 u t H1 locs ht hvm _ hB hz1 hk1 hS hce hcv hcl => ?_) (fun r_2001 u t H1 locs ht hvm hw hB hz1 hk1 hS => ?_)
  · obtain ⟨hP, hD⟩ := va_join (wr := [(q_900, .inl (cA_901, 1, .inr (.inl fl_0)))]) (w1 := []) hP hD [0, 1, 2] [3] rfl rfl (by decide) (by decide) hk1 hFc (fun k q h => by simp at h) ⟨fun i j p q h => by simp at h, fun k q h => by simp at h⟩
    have hK := hK.sub (tys' := [(cA_901, .long)]) [0] rfl
    generalize H1 = H at hP hS hce ⊢
    have hP : va_P (dC, dI) vwP [(q_900, .inl (cA_901, 1, .inr (.inl fl_0)))] H := hP
    have hD : va_D A [(q_900, .inl (cA_901, 1, .inr (.inl fl_0)))] := hD
    refine vx_widen (k := 1) (n := 6) (Nat.le_of_ble_eq_true rfl) (Nat.le_of_ble_eq_true rfl) ?_
    obtain ⟨rfl, hkx⟩ := hB
    refine vx_catch (name := "java/lang/IllegalArgumentException") hown [] ⟨0, 9, 12, 19⟩ [] (by rw [vx_table (x := yL_count) B (hts _ List.mem_cons_self)]; rfl) (fun z hz => nomatch hz) (by decide) (by decide) (ow (k := 4) rfl) (va_Nw.use rfl hp2) hce hcv hcl ?_
    refine lv_astore_n (lv' := [(3, .ref q9), (0, .ref h0), (1, .int p0), (2, .ref q_900)]) hx hb dL_count_12 rfl hl (by decide) rfl (fun ls hl => ?_)
    refine lv_iconst (v := 1) hx hb dL_count_13 (by decide) ?_
    refine W.widen (k := 1) (n := 6) (Nat.le_of_ble_eq_true rfl) (Nat.le_of_ble_eq_true rfl) ?_
    exact W.iret (v := 1) hx hb hr (fun t ht hW => ⟨⟨1, (), rfl, hkx.symm, fl_0, (fun h => absurd (hkx.symm.trans h) (by decide)), by rw [ht]; exact hP, va_K.moved hW.alike hK, hD⟩, hS.F ht⟩) hS.2.2 dL_count_14
  obtain ⟨hP1, hK1, hD1⟩ := hB
  rw [ht] at hP1
  have hK1 := va_K.moved hvm.symm hK1
  obtain ⟨hP, hD⟩ := va_join (wr := [(q_900, .inl (cA_901, 1, .inr (.inl fl_0)))]) (w1 := []) hP hD [0, 1, 2] [3] rfl rfl (by decide) (by decide) hk1 hFc hP1 hD1
  have hK := (hK.sub (tys' := [(cA_901, .long)]) [0] rfl).app hK1
  generalize H1 = H at hP hS ⊢
  have hP : va_P (dC, dI) vwP [(q_900, .inl (cA_901, 1, .inr (.inl fl_0)))] H := hP
  have hD : va_D A [(q_900, .inl (cA_901, 1, .inr (.inl fl_0)))] := hD
  have hK : va_K (dC, dI) vwP [(cA_901, .long)] s := hK
  refine W.widen (k := 1) (n := 6) (Nat.le_of_ble_eq_true rfl) (Nat.le_of_ble_eq_true rfl) ?_
  have hw_2002 := hw
  refine lv_i2l hx hb dL_count_7 rfl ?_
  refine va_last hx hb hK hP hD hS 0 0 rfl rfl (show vp_in 0 1 by rw [vp_in_iff]; decide) dL_count_8 (fun H locs hP hD hS => ?_)
  have hP : va_P (dC, dI) vwP [(q_900, .inl (cA_901, 1, .inr (.inl (vp_updL fl_0 (0 : Int32).toNatClampNeg ((r_2001 : Int32).toInt64)))))] H := hP
  have hD : va_D A [(q_900, .inl (cA_901, 1, .inr (.inl (vp_updL fl_0 (0 : Int32).toNatClampNeg ((r_2001 : Int32).toInt64)))))] := hD
  refine lv_goto (tgt := 15) hx hb dL_count_9 (by decide) ?_
  refine lv_iconst (v := 0) hx hb dL_count_15 (by decide) ?_
  refine W.widen (k := 1) (n := 6) (Nat.le_of_ble_eq_true rfl) (Nat.le_of_ble_eq_true rfl) ?_
  exact W.iret (v := 0) hx hb hr (fun t ht hW => ⟨⟨0, (), rfl, hw_2002.1.symm, (vp_updL fl_0 (0 : Int32).toNatClampNeg ((r_2001 : Int32).toInt64)), (fun _ => by rw [show (0 : Int32).toNatClampNeg = 0 from rfl, pk_uLs, hw_2002.2]), by rw [ht]; exact hP, va_K.moved hW.alike hK, hD⟩, hS.F ht⟩) hS.2.2 dL_count_16
theorem dL_block_0 : decode cL_block 0 = .ok (.aload_n 3, 1) := by decide +kernel
theorem dL_block_1 : decode cL_block 1 = .ok (.iconst 0, 1) := by decide +kernel
theorem dL_block_2 : decode cL_block 2 = .ok (.aload_n 0, 1) := by decide +kernel
theorem dL_block_3 : decode cL_block 3 = .ok (.iload_n 1, 1) := by decide +kernel
theorem dL_block_4 : decode cL_block 4 = .ok (.iload_n 2, 1) := by decide +kernel
theorem dL_block_5 : decode cL_block 5 = .ok (.invokevirtual 47, 3) := by decide +kernel
theorem dL_block_13 : decode cL_block 13 = .ok (.astore 4, 2) := by decide +kernel
theorem dL_block_15 : decode cL_block 15 = .ok (.iconst 1, 1) := by decide +kernel
theorem dL_block_16 : decode cL_block 16 = .ok (.ireturn, 1) := by decide +kernel
theorem dL_block_17 : decode cL_block 17 = .ok (.astore 4, 2) := by decide +kernel
theorem dL_block_19 : decode cL_block 19 = .ok (.iconst 2, 1) := by decide +kernel
theorem dL_block_20 : decode cL_block 20 = .ok (.ireturn, 1) := by decide +kernel
theorem dL_block_8 : decode cL_block 8 = .ok (.i2l, 1) := by decide +kernel
theorem dL_block_9 : decode cL_block 9 = .ok (.lastore, 1) := by decide +kernel
theorem dL_block_10 : decode cL_block 10 = .ok (.goto 11, 3) := by decide +kernel
theorem dL_block_21 : decode cL_block 21 = .ok (.iconst 0, 1) := by decide +kernel
theorem dL_block_22 : decode cL_block 22 = .ok (.ireturn, 1) := by decide +kernel
def o_L_block : List Cond := [.methodLink RL 47 yX11_block, .instanceMethod yX11_block, .selects RX11 yX11_block yX11_block, .initialized RX11, .classLink RL 19 "java/lang/IllegalArgumentException", .classLink RL 51 "java/util/NoSuchElementException"]
def v_L_block : List Cond := .codeWith yL_block cL_block 5 (some .int) [(0, 10, 13, 19), (0, 10, 17, 51)] :: (o_L_block ++ (v_X11_block ++ []))
theorem mow_L_block : ∀ w ∈ o_L_block, w ∈ v_L_block := fun _ h => List.mem_cons_of_mem _ (List.mem_append_left _ h)
theorem mem_L_block_0 : ∀ w ∈ v_X11_block, w ∈ v_L_block := fun _ h => List.mem_cons_of_mem _ (List.mem_append_right _ (List.mem_append_left _ h))
set_option maxRecDepth 20000 in
theorem gw_L_block : v_L_block.all goodWord = true := by decide +kernel
set_option maxRecDepth 20000 in
theorem g_L_block_X11_block : GoodIn v_L_block (wsV RL 47 RX11 yX11_block v_X11_block) := goodIn_app (goodIn_sub (fun w h => mow_L_block w (by revert w h; decide +kernel)) (by decide +kernel)) (goodIn_sub mem_L_block_0 gw_X11_block)
set_option maxHeartbeats 4000000 in
set_option maxRecDepth 100000 in
theorem c_L_block (l : Launch) (dC : Nat → ClassId) (dI : Nat → Nat → Nat) (hst : l.stackTraces = false) (h0 : Nat) (q_1 : Nat) (q_3 : Nat) (q_21 : Nat) (q_39 : Nat) (q_52 : Nat) (q_60 : Nat) (q_66 : Nat) (q_73 : Nat) (q_79 : Nat) (q_84 : Nat) (q_92 : Nat) (q_102 : Nat) (q_107 : Nat) (q_900 : Nat) (cA_901 : ClassId) (fl_0 : Nat → Int64) (p0 : Int32) (p1 : Int32) (sz : Nat) (sa_RX11_247 : Nat) (sa_RX11_254 : Nat) : Met l yL_block v_L_block ({ frames := 7, cells := 1, slots := 6, locals := 104 }) (va_Pc [.ref h0, .int p0, .int p1, .ref q_900] (fun U => U.heap.size = sz ∧ va_P (dC, dI) vwP [(h0, .inr (11, [.ref q_1, .int 0, .int (-1), .ref q_3, .ref q_21, .ref q_39, .int 0, .ref q_52, .int 0, .ref q_60, .ref q_66, .ref q_73, .ref q_79, .ref q_84, .ref q_92, .ref q_102, .ref q_107])), (q_900, .inl (cA_901, 1, .inr (.inl fl_0)))] U.heap ∧ va_K (dC, dI) vwP [(cA_901, .long)] U ∧ va_D (fun _ => True) [(h0, .inr (11, [.ref q_1, .int 0, .int (-1), .ref q_3, .ref q_21, .ref q_39, .int 0, .ref q_52, .int 0, .ref q_60, .ref q_66, .ref q_73, .ref q_79, .ref q_84, .ref q_92, .ref q_102, .ref q_107])), (q_900, .inl (cA_901, 1, .inr (.inl fl_0)))] ∧ vx_Zq Bundle.tN "UNASSIGNED_STACK" Bundle.steD (va_A [(h0, .inr (11, [.ref q_1, .int 0, .int (-1), .ref q_3, .ref q_21, .ref q_39, .int 0, .ref q_52, .int 0, .ref q_60, .ref q_66, .ref q_73, .ref q_79, .ref q_84, .ref q_92, .ref q_102, .ref q_107])), (q_900, .inl (cA_901, 1, .inr (.inl fl_0)))] sz) U U.heap ∧ vx_Zq Bundle.tN "SUPPRESSED_SENTINEL" Bundle.listD (va_A [(h0, .inr (11, [.ref q_1, .int 0, .int (-1), .ref q_3, .ref q_21, .ref q_39, .int 0, .ref q_52, .int 0, .ref q_60, .ref q_66, .ref q_73, .ref q_79, .ref q_84, .ref q_92, .ref q_102, .ref q_107])), (q_900, .inl (cA_901, 1, .inr (.inl fl_0)))] sz) U U.heap ∧ va_Nw (.castable "java/lang/IllegalArgumentException" "java/lang/IllegalArgumentException") U ∧ vk_R RX11 247 "nothing is known of that" sa_RX11_247 U ∧ va_Nw (.declares (Bundle.initS "java/lang/RuntimeException")) U ∧ va_Nw (.declares (Bundle.initS "java/lang/Exception")) U ∧ va_Nw (.declares (Bundle.initS "java/lang/Throwable")) U ∧ va_Nw (.castable "java/util/NoSuchElementException" "java/util/NoSuchElementException") U ∧ vk_R RX11 254 "no such block" sa_RX11_254 U ∧ va_Nc "java/util/NoSuchElementException" "java/lang/IllegalArgumentException" U)) (va_Qi (fun (r : Int32) (_ : Unit) => r = kf_block p1) (fun (_ : Unit) (t : State) => ∃ (g0_9 : Nat → Int64), (kf_block p1 = 0 → g0_9 0 = (vf_block : Int32).toInt64) ∧ va_P (dC, dI) vwP [(q_900, .inl (cA_901, 1, .inr (.inl g0_9)))] t.heap ∧ va_K (dC, dI) vwP [(cA_901, .long)] t ∧ va_D (va_A [(h0, .inr (11, [.ref q_1, .int 0, .int (-1), .ref q_3, .ref q_21, .ref q_39, .int 0, .ref q_52, .int 0, .ref q_60, .ref q_66, .ref q_73, .ref q_79, .ref q_84, .ref q_92, .ref q_102, .ref q_107])), (q_900, .inl (cA_901, 1, .inr (.inl fl_0)))] sz) [(q_900, .inl (cA_901, 1, .inr (.inl g0_9)))]) (va_A [(h0, .inr (11, [.ref q_1, .int 0, .int (-1), .ref q_3, .ref q_21, .ref q_39, .int 0, .ref q_52, .int 0, .ref q_60, .ref q_66, .ref q_73, .ref q_79, .ref q_84, .ref q_92, .ref q_102, .ref q_107])), (q_900, .inl (cA_901, 1, .inr (.inl fl_0)))] sz)) 1 6 (va_A [(h0, .inr (11, [.ref q_1, .int 0, .int (-1), .ref q_3, .ref q_21, .ref q_39, .int 0, .ref q_52, .int 0, .ref q_60, .ref q_66, .ref q_73, .ref q_79, .ref q_84, .ref q_92, .ref q_102, .ref q_107])), (q_900, .inl (cA_901, 1, .inr (.inl fl_0)))] sz) := by
  refine va_MetW (cc := cL_block) (maxL := 5) (ret := (some .int)) (by decide) rfl ?_
  intro p e s m args below meth c s₁ B hml hv
  obtain ⟨rfl, hsz, hP, hK, hD0, hp0, hp1, hp2, hp3, hp4, hp5, hp6, hp7, hp8, hp9⟩ := hv
  have hx := B.exec
  have hb := B.bytes
  have hr := B.returns
  have hts := atoms_spec (ws := v_L_block) B.pre
  have hown : s.vm.findClass RL = some m.cls := findClass_of_methodNamed B.named
  have hlocks := B.notSynchronized
  have ow : ∀ {k : Nat} {w : Cond}, o_L_block[k]? = some w → w.before ([.ref h0, .int p0, .int p1, .ref q_900] : List Value).toArray s = true := fun h => hts _ (mow_L_block _ (List.mem_of_getElem? h))
  subst hsz
  have hD := hD0.self (sz := s.heap.size)
  generalize hAe : va_A [(h0, .inr (11, [.ref q_1, .int 0, .int (-1), .ref q_3, .ref q_21, .ref q_39, .int 0, .ref q_52, .int 0, .ref q_60, .ref q_66, .ref q_73, .ref q_79, .ref q_84, .ref q_92, .ref q_102, .ref q_107])), (q_900, .inl (cA_901, 1, .inr (.inl fl_0)))] s.heap.size = A at hD hp0 hp1 ⊢
  have hA : ∀ q : Nat, s.heap.size ≤ q → A q := fun q h => by rw [← hAe]; exact Or.inr h
  have hS : va_S A s.heap s.heap [] := va_S.rf
  have hP : va_P (dC, dI) vwP [(h0, .inr (11, [.ref q_1, .int 0, .int (-1), .ref q_3, .ref q_21, .ref q_39, .int 0, .ref q_52, .int 0, .ref q_60, .ref q_66, .ref q_73, .ref q_79, .ref q_84, .ref q_92, .ref q_102, .ref q_107])), (q_900, .inl (cA_901, 1, .inr (.inl fl_0)))] s.heap := hP
  have hl := lv_entry ([.ref h0, .int p0, .int p1, .ref q_900]) (n := 5) (Nat.le_of_ble_eq_true rfl)
  rw [lg_entry_eq]
  generalize (lg_sl ([.ref h0, .int p0, .int p1, .ref q_900]) ++ List.replicate (5 - (lg_sl ([.ref h0, .int p0, .int p1, .ref q_900])).length) Slot.unset).toArray = ls at hl ⊢
  have hl : lv_has ls 5 [(0, .ref h0), (1, .int p0), (2, .int p1), (3, .ref q_900)] := hl
  obtain ⟨H, hH⟩ : ∃ H, H = s.heap := ⟨_, rfl⟩
  rw [← hH] at hP
  have hS : va_S A s.heap H [] := by rw [hH]; exact hS
  rw [← hH]
  refine lv_aload_n hx hb dL_block_0 rfl (lv_at hl 3 rfl) ?_
  refine lv_iconst (v := 0) hx hb dL_block_1 (by decide) ?_
  refine lv_aload_n hx hb dL_block_2 rfl (lv_at hl 0 rfl) ?_
  refine lv_iload_n hx hb dL_block_3 rfl (lv_at hl 1 rfl) ?_
  refine lv_iload_n hx hb dL_block_4 rfl (lv_at hl 2 rfl) ?_
  have hPc := hP.sub (ws' := [(h0, .inr (11, [.ref q_1, .int 0, .int (-1), .ref q_3, .ref q_21, .ref q_39, .int 0, .ref q_52, .int 0, .ref q_60, .ref q_66, .ref q_73, .ref q_79, .ref q_84, .ref q_92, .ref q_102, .ref q_107]))]) [0] rfl
  have hDc := hD.sub (ws' := [(h0, .inr (11, [.ref q_1, .int 0, .int (-1), .ref q_3, .ref q_21, .ref q_39, .int 0, .ref q_52, .int 0, .ref q_60, .ref q_66, .ref q_73, .ref q_79, .ref q_84, .ref q_92, .ref q_102, .ref q_107]))]) [0] (by decide) rfl
  have hKc := hK.sub (tys' := []) [] rfl
  have hFc := va_free (wc := [(h0, .inr (11, [.ref q_1, .int 0, .int (-1), .ref q_3, .ref q_21, .ref q_39, .int 0, .ref q_52, .int 0, .ref q_60, .ref q_66, .ref q_73, .ref q_79, .ref q_84, .ref q_92, .ref q_102, .ref q_107]))]) hD hS hA [0] rfl
  refine vx_calli (vx_runV (As := [.int p0, .int p1]) (rest := [.int 0, .ref q_900]) ⟨hx, hb, hml, hown, hts⟩ (c_X11_block l dC dI hst h0 q_1 q_3 q_21 q_39 q_52 q_60 q_66 q_73 q_79 q_84 q_92 q_102 q_107 p0 p1 H.size sa_RX11_247 sa_RX11_254) (cwV 2 hts g_L_block_X11_block rfl rfl rfl (by decide +kernel) ⟨(Nat.le_of_ble_eq_true rfl), (Nat.le_of_ble_eq_true rfl)⟩) ⟨fun a U g mk q => by obtain ⟨q0, q1, qP, qK, qD, e0, e1, e2, e3, e4, e5, e6, e7, e8⟩ := q; exact ⟨q0, q1, qP, va_K.moved (u := U) (U := U.calling g mk a) (Vm.Alike.refl U.vm) qK, qD, vx_Zq.moved (u := U) (U := U.calling g mk a) (Vm.Alike.refl U.vm) e0, vx_Zq.moved (u := U) (U := U.calling g mk a) (Vm.Alike.refl U.vm) e1, va_Nw.same rfl (u := U) (U := U.calling g mk a) rfl e2, vk_R.same (u := U) (U := U.calling g mk a) rfl e3, va_Nw.same rfl (u := U) (U := U.calling g mk a) rfl e4, va_Nw.same rfl (u := U) (U := U.calling g mk a) rfl e5, va_Nw.same rfl (u := U) (U := U.calling g mk a) rfl e6, va_Nw.same rfl (u := U) (U := U.calling g mk a) rfl e7, vk_R.same (u := U) (U := U.calling g mk a) rfl e8⟩, va_recv hKc hPc (ci := 11) (q0 := 0) rfl rfl, fun U hU hW => ⟨rfl, by rw [hU], by rw [hU]; exact hPc, va_K.moved hW.alike hKc, hDc.weaken (fun _ _ _ _ => trivial), by rw [hU]; exact vx_Zq.narrow (vx_Zq.moved hW.alike (vx_Zq.kept hp0 hS.2.1)) hFc, by rw [hU]; exact vx_Zq.narrow (vx_Zq.moved hW.alike (vx_Zq.kept hp1 hS.2.1)) hFc, va_Nw.warmC hW hp2, vk_R.warm hW hp3, va_Nw.warmD hW hp4, va_Nw.warmD hW hp5, va_Nw.warmD hW hp6, va_Nw.warmC hW hp7, vk_R.warm hW hp8⟩⟩ rfl rfl hl.1 rfl (lv_room (Nat.le_of_ble_eq_true rfl)) dL_block_5 ⟨(Nat.le_of_ble_eq_true rfl), (Nat.le_of_ble_eq_true rfl)⟩) hS (fun q _ h => hFc q h) hFc (fun q _ h => hFc q h) (fun E ce q9 u t H1 locs ht hvm _ hB hz1 hk1 hS hce hcv hcl => ?_) (fun r_2001 u t H1 locs ht hvm hw hB hz1 hk1 hS => ?_)
  · obtain ⟨hP, hD⟩ := va_join (wr := [(q_900, .inl (cA_901, 1, .inr (.inl fl_0)))]) (w1 := []) hP hD [0] [1] rfl rfl (by decide) (by decide) hk1 hFc (fun k q h => by simp at h) ⟨fun i j p q h => by simp at h, fun k q h => by simp at h⟩
    have hK := hK.sub (tys' := [(cA_901, .long)]) [0] rfl
    generalize H1 = H at hP hS hce ⊢
    have hP : va_P (dC, dI) vwP [(q_900, .inl (cA_901, 1, .inr (.inl fl_0)))] H := hP
    have hD : va_D A [(q_900, .inl (cA_901, 1, .inr (.inl fl_0)))] := hD
    refine vx_widen (k := 1) (n := 6) (Nat.le_of_ble_eq_true rfl) (Nat.le_of_ble_eq_true rfl) ?_
    rcases hB with ⟨rfl, hkx⟩ | ⟨rfl, hkx⟩
    · refine vx_catch (name := "java/lang/IllegalArgumentException") hown [] ⟨0, 10, 13, 19⟩ [⟨0, 10, 17, 51⟩] (by rw [vx_table (x := yL_block) B (hts _ List.mem_cons_self)]; rfl) (fun z hz => nomatch hz) (by decide) (by decide) (ow (k := 4) rfl) (va_Nw.use rfl hp2) hce hcv hcl ?_
      refine lv_astore (lv' := [(4, .ref q9), (0, .ref h0), (1, .int p0), (2, .int p1), (3, .ref q_900)]) hx hb dL_block_13 hl (by decide) rfl (fun ls hl => ?_)
      refine lv_iconst (v := 1) hx hb dL_block_15 (by decide) ?_
      refine W.widen (k := 1) (n := 6) (Nat.le_of_ble_eq_true rfl) (Nat.le_of_ble_eq_true rfl) ?_
      exact W.iret (v := 1) hx hb hr (fun t ht hW => ⟨⟨1, (), rfl, hkx.symm, fl_0, (fun h => absurd (hkx.symm.trans h) (by decide)), by rw [ht]; exact hP, va_K.moved hW.alike hK, hD⟩, hS.F ht⟩) hS.2.2 dL_block_16
    · refine vx_catch (name := "java/util/NoSuchElementException") hown [⟨0, 10, 13, 19⟩] ⟨0, 10, 17, 51⟩ [] (by rw [vx_table (x := yL_block) B (hts _ List.mem_cons_self)]; rfl) (fun z hz => by simp only [List.mem_cons, List.not_mem_nil, or_false] at hz; subst hz; exact Or.inr ⟨by decide, "java/lang/IllegalArgumentException", (ow (k := 4) rfl), hp9⟩) (by decide) (by decide) (ow (k := 5) rfl) (va_Nw.use rfl hp7) hce hcv hcl ?_
      refine lv_astore (lv' := [(4, .ref q9), (0, .ref h0), (1, .int p0), (2, .int p1), (3, .ref q_900)]) hx hb dL_block_17 hl (by decide) rfl (fun ls hl => ?_)
      refine lv_iconst (v := 2) hx hb dL_block_19 (by decide) ?_
      refine W.widen (k := 1) (n := 6) (Nat.le_of_ble_eq_true rfl) (Nat.le_of_ble_eq_true rfl) ?_
      exact W.iret (v := 2) hx hb hr (fun t ht hW => ⟨⟨2, (), rfl, hkx.symm, fl_0, (fun h => absurd (hkx.symm.trans h) (by decide)), by rw [ht]; exact hP, va_K.moved hW.alike hK, hD⟩, hS.F ht⟩) hS.2.2 dL_block_20
  obtain ⟨hP1, hK1, hD1⟩ := hB
  rw [ht] at hP1
  have hK1 := va_K.moved hvm.symm hK1
  obtain ⟨hP, hD⟩ := va_join (wr := [(q_900, .inl (cA_901, 1, .inr (.inl fl_0)))]) (w1 := []) hP hD [0] [1] rfl rfl (by decide) (by decide) hk1 hFc hP1 hD1
  have hK := (hK.sub (tys' := [(cA_901, .long)]) [0] rfl).app hK1
  generalize H1 = H at hP hS ⊢
  have hP : va_P (dC, dI) vwP [(q_900, .inl (cA_901, 1, .inr (.inl fl_0)))] H := hP
  have hD : va_D A [(q_900, .inl (cA_901, 1, .inr (.inl fl_0)))] := hD
  have hK : va_K (dC, dI) vwP [(cA_901, .long)] s := hK
  refine W.widen (k := 1) (n := 6) (Nat.le_of_ble_eq_true rfl) (Nat.le_of_ble_eq_true rfl) ?_
  have hw_2002 := hw
  refine lv_i2l hx hb dL_block_8 rfl ?_
  refine va_last hx hb hK hP hD hS 0 0 rfl rfl (show vp_in 0 1 by rw [vp_in_iff]; decide) dL_block_9 (fun H locs hP hD hS => ?_)
  have hP : va_P (dC, dI) vwP [(q_900, .inl (cA_901, 1, .inr (.inl (vp_updL fl_0 (0 : Int32).toNatClampNeg ((r_2001 : Int32).toInt64)))))] H := hP
  have hD : va_D A [(q_900, .inl (cA_901, 1, .inr (.inl (vp_updL fl_0 (0 : Int32).toNatClampNeg ((r_2001 : Int32).toInt64)))))] := hD
  refine lv_goto (tgt := 21) hx hb dL_block_10 (by decide) ?_
  refine lv_iconst (v := 0) hx hb dL_block_21 (by decide) ?_
  refine W.widen (k := 1) (n := 6) (Nat.le_of_ble_eq_true rfl) (Nat.le_of_ble_eq_true rfl) ?_
  exact W.iret (v := 0) hx hb hr (fun t ht hW => ⟨⟨0, (), rfl, hw_2002.1.symm, (vp_updL fl_0 (0 : Int32).toNatClampNeg ((r_2001 : Int32).toInt64)), (fun _ => by rw [show (0 : Int32).toNatClampNeg = 0 from rfl, pk_uLs, hw_2002.2]), by rw [ht]; exact hP, va_K.moved hW.alike hK, hD⟩, hS.F ht⟩) hS.2.2 dL_block_22
theorem dL_list_0 : decode cL_list 0 = .ok (.aload_n 1, 1) := by decide +kernel
theorem dL_list_1 : decode cL_list 1 = .ok (.iconst 0, 1) := by decide +kernel
theorem dL_list_2 : decode cL_list 2 = .ok (.aload_n 0, 1) := by decide +kernel
theorem dL_list_3 : decode cL_list 3 = .ok (.invokevirtual 53, 3) := by decide +kernel
theorem dL_list_11 : decode cL_list 11 = .ok (.astore_n 2, 1) := by decide +kernel
theorem dL_list_12 : decode cL_list 12 = .ok (.iconst 1, 1) := by decide +kernel
theorem dL_list_13 : decode cL_list 13 = .ok (.ireturn, 1) := by decide +kernel
theorem dL_list_6 : decode cL_list 6 = .ok (.i2l, 1) := by decide +kernel
theorem dL_list_7 : decode cL_list 7 = .ok (.lastore, 1) := by decide +kernel
theorem dL_list_8 : decode cL_list 8 = .ok (.goto 6, 3) := by decide +kernel
theorem dL_list_14 : decode cL_list 14 = .ok (.iconst 0, 1) := by decide +kernel
theorem dL_list_15 : decode cL_list 15 = .ok (.ireturn, 1) := by decide +kernel
def o_L_list : List Cond := [.methodLink RL 53 yX11_list, .instanceMethod yX11_list, .selects RX11 yX11_list yX11_list, .initialized RX11, .classLink RL 25 "java/lang/IllegalStateException"]
def v_L_list : List Cond := .codeWith yL_list cL_list 3 (some .int) [(0, 8, 11, 25)] :: (o_L_list ++ (v_X11_list ++ []))
theorem mow_L_list : ∀ w ∈ o_L_list, w ∈ v_L_list := fun _ h => List.mem_cons_of_mem _ (List.mem_append_left _ h)
theorem mem_L_list_0 : ∀ w ∈ v_X11_list, w ∈ v_L_list := fun _ h => List.mem_cons_of_mem _ (List.mem_append_right _ (List.mem_append_left _ h))
set_option maxRecDepth 20000 in
theorem gw_L_list : v_L_list.all goodWord = true := by decide +kernel
set_option maxRecDepth 20000 in
theorem g_L_list_X11_list : GoodIn v_L_list (wsV RL 53 RX11 yX11_list v_X11_list) := goodIn_app (goodIn_sub (fun w h => mow_L_list w (by revert w h; decide +kernel)) (by decide +kernel)) (goodIn_sub mem_L_list_0 gw_X11_list)
set_option maxHeartbeats 4000000 in
set_option maxRecDepth 100000 in
theorem c_L_list (l : Launch) (dC : Nat → ClassId) (dI : Nat → Nat → Nat) (hst : l.stackTraces = false) (h0 : Nat) (q_1 : Nat) (q_3 : Nat) (q_21 : Nat) (q_39 : Nat) (q_52 : Nat) (q_60 : Nat) (q_66 : Nat) (q_73 : Nat) (q_79 : Nat) (q_84 : Nat) (q_92 : Nat) (q_102 : Nat) (q_107 : Nat) (q_900 : Nat) (cA_901 : ClassId) (fl_0 : Nat → Int64) (sz : Nat) (sa_RX11_206 : Nat) : Met l yL_list v_L_list ({ frames := 7, cells := 1, slots := 6, locals := 102 }) (va_Pc [.ref h0, .ref q_900] (fun U => U.heap.size = sz ∧ va_P (dC, dI) vwP [(h0, .inr (11, [.ref q_1, .int 0, .int (-1), .ref q_3, .ref q_21, .ref q_39, .int 0, .ref q_52, .int 0, .ref q_60, .ref q_66, .ref q_73, .ref q_79, .ref q_84, .ref q_92, .ref q_102, .ref q_107])), (q_900, .inl (cA_901, 1, .inr (.inl fl_0)))] U.heap ∧ va_K (dC, dI) vwP [(cA_901, .long)] U ∧ va_D (fun _ => True) [(h0, .inr (11, [.ref q_1, .int 0, .int (-1), .ref q_3, .ref q_21, .ref q_39, .int 0, .ref q_52, .int 0, .ref q_60, .ref q_66, .ref q_73, .ref q_79, .ref q_84, .ref q_92, .ref q_102, .ref q_107])), (q_900, .inl (cA_901, 1, .inr (.inl fl_0)))] ∧ vx_Zq Bundle.tN "UNASSIGNED_STACK" Bundle.steD (va_A [(h0, .inr (11, [.ref q_1, .int 0, .int (-1), .ref q_3, .ref q_21, .ref q_39, .int 0, .ref q_52, .int 0, .ref q_60, .ref q_66, .ref q_73, .ref q_79, .ref q_84, .ref q_92, .ref q_102, .ref q_107])), (q_900, .inl (cA_901, 1, .inr (.inl fl_0)))] sz) U U.heap ∧ vx_Zq Bundle.tN "SUPPRESSED_SENTINEL" Bundle.listD (va_A [(h0, .inr (11, [.ref q_1, .int 0, .int (-1), .ref q_3, .ref q_21, .ref q_39, .int 0, .ref q_52, .int 0, .ref q_60, .ref q_66, .ref q_73, .ref q_79, .ref q_84, .ref q_92, .ref q_102, .ref q_107])), (q_900, .inl (cA_901, 1, .inr (.inl fl_0)))] sz) U U.heap ∧ va_Nw (.castable "java/lang/IllegalStateException" "java/lang/IllegalStateException") U ∧ vk_R RX11 206 "no program" sa_RX11_206 U ∧ va_Nw (.declares (Bundle.initS "java/lang/RuntimeException")) U ∧ va_Nw (.declares (Bundle.initS "java/lang/Exception")) U ∧ va_Nw (.declares (Bundle.initS "java/lang/Throwable")) U)) (va_Qi (fun (r : Int32) (_ : Unit) => r = kf_list) (fun (_ : Unit) (t : State) => ∃ (g0_9 : Nat → Int64), (kf_list = 0 → g0_9 0 = (vf_list : Int32).toInt64) ∧ va_P (dC, dI) vwP [(q_900, .inl (cA_901, 1, .inr (.inl g0_9)))] t.heap ∧ va_K (dC, dI) vwP [(cA_901, .long)] t ∧ va_D (va_A [(h0, .inr (11, [.ref q_1, .int 0, .int (-1), .ref q_3, .ref q_21, .ref q_39, .int 0, .ref q_52, .int 0, .ref q_60, .ref q_66, .ref q_73, .ref q_79, .ref q_84, .ref q_92, .ref q_102, .ref q_107])), (q_900, .inl (cA_901, 1, .inr (.inl fl_0)))] sz) [(q_900, .inl (cA_901, 1, .inr (.inl g0_9)))]) (va_A [(h0, .inr (11, [.ref q_1, .int 0, .int (-1), .ref q_3, .ref q_21, .ref q_39, .int 0, .ref q_52, .int 0, .ref q_60, .ref q_66, .ref q_73, .ref q_79, .ref q_84, .ref q_92, .ref q_102, .ref q_107])), (q_900, .inl (cA_901, 1, .inr (.inl fl_0)))] sz)) 1 6 (va_A [(h0, .inr (11, [.ref q_1, .int 0, .int (-1), .ref q_3, .ref q_21, .ref q_39, .int 0, .ref q_52, .int 0, .ref q_60, .ref q_66, .ref q_73, .ref q_79, .ref q_84, .ref q_92, .ref q_102, .ref q_107])), (q_900, .inl (cA_901, 1, .inr (.inl fl_0)))] sz) := by
  refine va_MetW (cc := cL_list) (maxL := 3) (ret := (some .int)) (by decide) rfl ?_
  intro p e s m args below meth c s₁ B hml hv
  obtain ⟨rfl, hsz, hP, hK, hD0, hp0, hp1, hp2, hp3, hp4, hp5, hp6⟩ := hv
  have hx := B.exec
  have hb := B.bytes
  have hr := B.returns
  have hts := atoms_spec (ws := v_L_list) B.pre
  have hown : s.vm.findClass RL = some m.cls := findClass_of_methodNamed B.named
  have hlocks := B.notSynchronized
  have ow : ∀ {k : Nat} {w : Cond}, o_L_list[k]? = some w → w.before ([.ref h0, .ref q_900] : List Value).toArray s = true := fun h => hts _ (mow_L_list _ (List.mem_of_getElem? h))
  subst hsz
  have hD := hD0.self (sz := s.heap.size)
  generalize hAe : va_A [(h0, .inr (11, [.ref q_1, .int 0, .int (-1), .ref q_3, .ref q_21, .ref q_39, .int 0, .ref q_52, .int 0, .ref q_60, .ref q_66, .ref q_73, .ref q_79, .ref q_84, .ref q_92, .ref q_102, .ref q_107])), (q_900, .inl (cA_901, 1, .inr (.inl fl_0)))] s.heap.size = A at hD hp0 hp1 ⊢
  have hA : ∀ q : Nat, s.heap.size ≤ q → A q := fun q h => by rw [← hAe]; exact Or.inr h
  have hS : va_S A s.heap s.heap [] := va_S.rf
  have hP : va_P (dC, dI) vwP [(h0, .inr (11, [.ref q_1, .int 0, .int (-1), .ref q_3, .ref q_21, .ref q_39, .int 0, .ref q_52, .int 0, .ref q_60, .ref q_66, .ref q_73, .ref q_79, .ref q_84, .ref q_92, .ref q_102, .ref q_107])), (q_900, .inl (cA_901, 1, .inr (.inl fl_0)))] s.heap := hP
  have hl := lv_entry ([.ref h0, .ref q_900]) (n := 3) (Nat.le_of_ble_eq_true rfl)
  rw [lg_entry_eq]
  generalize (lg_sl ([.ref h0, .ref q_900]) ++ List.replicate (3 - (lg_sl ([.ref h0, .ref q_900])).length) Slot.unset).toArray = ls at hl ⊢
  have hl : lv_has ls 3 [(0, .ref h0), (1, .ref q_900)] := hl
  obtain ⟨H, hH⟩ : ∃ H, H = s.heap := ⟨_, rfl⟩
  rw [← hH] at hP
  have hS : va_S A s.heap H [] := by rw [hH]; exact hS
  rw [← hH]
  refine lv_aload_n hx hb dL_list_0 rfl (lv_at hl 1 rfl) ?_
  refine lv_iconst (v := 0) hx hb dL_list_1 (by decide) ?_
  refine lv_aload_n hx hb dL_list_2 rfl (lv_at hl 0 rfl) ?_
  have hPc := hP.sub (ws' := [(h0, .inr (11, [.ref q_1, .int 0, .int (-1), .ref q_3, .ref q_21, .ref q_39, .int 0, .ref q_52, .int 0, .ref q_60, .ref q_66, .ref q_73, .ref q_79, .ref q_84, .ref q_92, .ref q_102, .ref q_107]))]) [0] rfl
  have hDc := hD.sub (ws' := [(h0, .inr (11, [.ref q_1, .int 0, .int (-1), .ref q_3, .ref q_21, .ref q_39, .int 0, .ref q_52, .int 0, .ref q_60, .ref q_66, .ref q_73, .ref q_79, .ref q_84, .ref q_92, .ref q_102, .ref q_107]))]) [0] (by decide) rfl
  have hKc := hK.sub (tys' := []) [] rfl
  have hFc := va_free (wc := [(h0, .inr (11, [.ref q_1, .int 0, .int (-1), .ref q_3, .ref q_21, .ref q_39, .int 0, .ref q_52, .int 0, .ref q_60, .ref q_66, .ref q_73, .ref q_79, .ref q_84, .ref q_92, .ref q_102, .ref q_107]))]) hD hS hA [0] rfl
  refine vx_calli (vx_runV (As := []) (rest := [.int 0, .ref q_900]) ⟨hx, hb, hml, hown, hts⟩ (c_X11_list l dC dI hst h0 q_1 q_3 q_21 q_39 q_52 q_60 q_66 q_73 q_79 q_84 q_92 q_102 q_107 H.size sa_RX11_206) (cwV 0 hts g_L_list_X11_list rfl rfl rfl (by decide +kernel) ⟨(Nat.le_of_ble_eq_true rfl), (Nat.le_of_ble_eq_true rfl)⟩) ⟨fun a U g mk q => by obtain ⟨q0, q1, qP, qK, qD, e0, e1, e2, e3, e4, e5, e6⟩ := q; exact ⟨q0, q1, qP, va_K.moved (u := U) (U := U.calling g mk a) (Vm.Alike.refl U.vm) qK, qD, vx_Zq.moved (u := U) (U := U.calling g mk a) (Vm.Alike.refl U.vm) e0, vx_Zq.moved (u := U) (U := U.calling g mk a) (Vm.Alike.refl U.vm) e1, va_Nw.same rfl (u := U) (U := U.calling g mk a) rfl e2, vk_R.same (u := U) (U := U.calling g mk a) rfl e3, va_Nw.same rfl (u := U) (U := U.calling g mk a) rfl e4, va_Nw.same rfl (u := U) (U := U.calling g mk a) rfl e5, va_Nw.same rfl (u := U) (U := U.calling g mk a) rfl e6⟩, va_recv hKc hPc (ci := 11) (q0 := 0) rfl rfl, fun U hU hW => ⟨rfl, by rw [hU], by rw [hU]; exact hPc, va_K.moved hW.alike hKc, hDc.weaken (fun _ _ _ _ => trivial), by rw [hU]; exact vx_Zq.narrow (vx_Zq.moved hW.alike (vx_Zq.kept hp0 hS.2.1)) hFc, by rw [hU]; exact vx_Zq.narrow (vx_Zq.moved hW.alike (vx_Zq.kept hp1 hS.2.1)) hFc, va_Nw.warmC hW hp2, vk_R.warm hW hp3, va_Nw.warmD hW hp4, va_Nw.warmD hW hp5, va_Nw.warmD hW hp6⟩⟩ rfl rfl hl.1 rfl (lv_room (Nat.le_of_ble_eq_true rfl)) dL_list_3 ⟨(Nat.le_of_ble_eq_true rfl), (Nat.le_of_ble_eq_true rfl)⟩) hS (fun q _ h => hFc q h) hFc (fun q _ h => hFc q h) (fun E ce q9 u t H1 locs ht hvm _ hB hz1 hk1 hS hce hcv hcl => ?_) (fun r_2001 u t H1 locs ht hvm hw hB hz1 hk1 hS => ?_)
  · obtain ⟨hP, hD⟩ := va_join (wr := [(q_900, .inl (cA_901, 1, .inr (.inl fl_0)))]) (w1 := []) hP hD [0] [1] rfl rfl (by decide) (by decide) hk1 hFc (fun k q h => by simp at h) ⟨fun i j p q h => by simp at h, fun k q h => by simp at h⟩
    have hK := hK.sub (tys' := [(cA_901, .long)]) [0] rfl
    generalize H1 = H at hP hS hce ⊢
    have hP : va_P (dC, dI) vwP [(q_900, .inl (cA_901, 1, .inr (.inl fl_0)))] H := hP
    have hD : va_D A [(q_900, .inl (cA_901, 1, .inr (.inl fl_0)))] := hD
    refine vx_widen (k := 1) (n := 6) (Nat.le_of_ble_eq_true rfl) (Nat.le_of_ble_eq_true rfl) ?_
    obtain ⟨rfl, hkx⟩ := hB
    refine vx_catch (name := "java/lang/IllegalStateException") hown [] ⟨0, 8, 11, 25⟩ [] (by rw [vx_table (x := yL_list) B (hts _ List.mem_cons_self)]; rfl) (fun z hz => nomatch hz) (by decide) (by decide) (ow (k := 4) rfl) (va_Nw.use rfl hp2) hce hcv hcl ?_
    refine lv_astore_n (lv' := [(2, .ref q9), (0, .ref h0), (1, .ref q_900)]) hx hb dL_list_11 rfl hl (by decide) rfl (fun ls hl => ?_)
    refine lv_iconst (v := 1) hx hb dL_list_12 (by decide) ?_
    refine W.widen (k := 1) (n := 6) (Nat.le_of_ble_eq_true rfl) (Nat.le_of_ble_eq_true rfl) ?_
    exact W.iret (v := 1) hx hb hr (fun t ht hW => ⟨⟨1, (), rfl, hkx.symm, fl_0, (fun h => absurd (hkx.symm.trans h) (by decide)), by rw [ht]; exact hP, va_K.moved hW.alike hK, hD⟩, hS.F ht⟩) hS.2.2 dL_list_13
  obtain ⟨hP1, hK1, hD1⟩ := hB
  rw [ht] at hP1
  have hK1 := va_K.moved hvm.symm hK1
  obtain ⟨hP, hD⟩ := va_join (wr := [(q_900, .inl (cA_901, 1, .inr (.inl fl_0)))]) (w1 := []) hP hD [0] [1] rfl rfl (by decide) (by decide) hk1 hFc hP1 hD1
  have hK := (hK.sub (tys' := [(cA_901, .long)]) [0] rfl).app hK1
  generalize H1 = H at hP hS ⊢
  have hP : va_P (dC, dI) vwP [(q_900, .inl (cA_901, 1, .inr (.inl fl_0)))] H := hP
  have hD : va_D A [(q_900, .inl (cA_901, 1, .inr (.inl fl_0)))] := hD
  have hK : va_K (dC, dI) vwP [(cA_901, .long)] s := hK
  refine W.widen (k := 1) (n := 6) (Nat.le_of_ble_eq_true rfl) (Nat.le_of_ble_eq_true rfl) ?_
  have hw_2002 := hw
  refine lv_i2l hx hb dL_list_6 rfl ?_
  refine va_last hx hb hK hP hD hS 0 0 rfl rfl (show vp_in 0 1 by rw [vp_in_iff]; decide) dL_list_7 (fun H locs hP hD hS => ?_)
  have hP : va_P (dC, dI) vwP [(q_900, .inl (cA_901, 1, .inr (.inl (vp_updL fl_0 (0 : Int32).toNatClampNeg ((r_2001 : Int32).toInt64)))))] H := hP
  have hD : va_D A [(q_900, .inl (cA_901, 1, .inr (.inl (vp_updL fl_0 (0 : Int32).toNatClampNeg ((r_2001 : Int32).toInt64)))))] := hD
  refine lv_goto (tgt := 14) hx hb dL_list_8 (by decide) ?_
  refine lv_iconst (v := 0) hx hb dL_list_14 (by decide) ?_
  refine W.widen (k := 1) (n := 6) (Nat.le_of_ble_eq_true rfl) (Nat.le_of_ble_eq_true rfl) ?_
  exact W.iret (v := 0) hx hb hr (fun t ht hW => ⟨⟨0, (), rfl, hw_2002.1.symm, (vp_updL fl_0 (0 : Int32).toNatClampNeg ((r_2001 : Int32).toInt64)), (fun _ => by rw [show (0 : Int32).toNatClampNeg = 0 from rfl, pk_uLs, hw_2002.2]), by rw [ht]; exact hP, va_K.moved hW.alike hK, hD⟩, hS.F ht⟩) hS.2.2 dL_list_15
theorem dL_word_0 : decode cL_word 0 = .ok (.aload_n 2, 1) := by decide +kernel
theorem dL_word_1 : decode cL_word 1 = .ok (.iconst 0, 1) := by decide +kernel
theorem dL_word_2 : decode cL_word 2 = .ok (.aload_n 0, 1) := by decide +kernel
theorem dL_word_3 : decode cL_word 3 = .ok (.iload_n 1, 1) := by decide +kernel
theorem dL_word_4 : decode cL_word 4 = .ok (.invokevirtual 56, 3) := by decide +kernel
theorem dL_word_11 : decode cL_word 11 = .ok (.astore_n 3, 1) := by decide +kernel
theorem dL_word_12 : decode cL_word 12 = .ok (.iconst 1, 1) := by decide +kernel
theorem dL_word_13 : decode cL_word 13 = .ok (.ireturn, 1) := by decide +kernel
theorem dL_word_7 : decode cL_word 7 = .ok (.lastore, 1) := by decide +kernel
theorem dL_word_8 : decode cL_word 8 = .ok (.goto 6, 3) := by decide +kernel
theorem dL_word_14 : decode cL_word 14 = .ok (.iconst 0, 1) := by decide +kernel
theorem dL_word_15 : decode cL_word 15 = .ok (.ireturn, 1) := by decide +kernel
def o_L_word : List Cond := [.methodLink RL 56 yX11_word, .instanceMethod yX11_word, .selects RX11 yX11_word yX11_word, .initialized RX11, .classLink RL 13 "java/lang/IndexOutOfBoundsException"]
def v_L_word : List Cond := .codeWith yL_word cL_word 4 (some .int) [(0, 8, 11, 13)] :: (o_L_word ++ (v_X11_word ++ []))
theorem mow_L_word : ∀ w ∈ o_L_word, w ∈ v_L_word := fun _ h => List.mem_cons_of_mem _ (List.mem_append_left _ h)
theorem mem_L_word_0 : ∀ w ∈ v_X11_word, w ∈ v_L_word := fun _ h => List.mem_cons_of_mem _ (List.mem_append_right _ (List.mem_append_left _ h))
set_option maxRecDepth 20000 in
theorem gw_L_word : v_L_word.all goodWord = true := by decide +kernel
set_option maxRecDepth 20000 in
theorem g_L_word_X11_word : GoodIn v_L_word (wsV RL 56 RX11 yX11_word v_X11_word) := goodIn_app (goodIn_sub (fun w h => mow_L_word w (by revert w h; decide +kernel)) (by decide +kernel)) (goodIn_sub mem_L_word_0 gw_X11_word)
set_option maxHeartbeats 4000000 in
set_option maxRecDepth 100000 in
theorem c_L_word (l : Launch) (dC : Nat → ClassId) (dI : Nat → Nat → Nat) (hst : l.stackTraces = false) (h0 : Nat) (q_1 : Nat) (q_3 : Nat) (q_21 : Nat) (q_39 : Nat) (q_52 : Nat) (q_60 : Nat) (q_66 : Nat) (q_73 : Nat) (q_79 : Nat) (q_84 : Nat) (q_92 : Nat) (q_102 : Nat) (q_107 : Nat) (q_108 : Nat) (q_109 : Nat) (q_900 : Nat) (cA_901 : ClassId) (fl_0 : Nat → Int64) (p0 : Int32) (sz : Nat) (sa_RX11_285 : Nat) : Met l yL_word v_L_word ({ frames := 7, cells := 1, slots := 6, locals := 103 }) (va_Pc [.ref h0, .int p0, .ref q_900] (fun U => U.heap.size = sz ∧ va_P (dC, dI) vwP [(h0, .inr (11, [.ref q_1, .int 0, .int (-1), .ref q_3, .ref q_21, .ref q_39, .int 0, .ref q_52, .int 0, .ref q_60, .ref q_66, .ref q_73, .ref q_79, .ref q_84, .ref q_92, .ref q_102, .ref q_107])), (q_107, .inr (6, [.int 0, .ref q_108, .ref q_109, .int 0, .int 0])), (q_900, .inl (cA_901, 1, .inr (.inl fl_0)))] U.heap ∧ va_K (dC, dI) vwP [(cA_901, .long)] U ∧ va_D (fun _ => True) [(h0, .inr (11, [.ref q_1, .int 0, .int (-1), .ref q_3, .ref q_21, .ref q_39, .int 0, .ref q_52, .int 0, .ref q_60, .ref q_66, .ref q_73, .ref q_79, .ref q_84, .ref q_92, .ref q_102, .ref q_107])), (q_107, .inr (6, [.int 0, .ref q_108, .ref q_109, .int 0, .int 0])), (q_900, .inl (cA_901, 1, .inr (.inl fl_0)))] ∧ vx_Zq Bundle.tN "UNASSIGNED_STACK" Bundle.steD (va_A [(h0, .inr (11, [.ref q_1, .int 0, .int (-1), .ref q_3, .ref q_21, .ref q_39, .int 0, .ref q_52, .int 0, .ref q_60, .ref q_66, .ref q_73, .ref q_79, .ref q_84, .ref q_92, .ref q_102, .ref q_107])), (q_107, .inr (6, [.int 0, .ref q_108, .ref q_109, .int 0, .int 0])), (q_900, .inl (cA_901, 1, .inr (.inl fl_0)))] sz) U U.heap ∧ vx_Zq Bundle.tN "SUPPRESSED_SENTINEL" Bundle.listD (va_A [(h0, .inr (11, [.ref q_1, .int 0, .int (-1), .ref q_3, .ref q_21, .ref q_39, .int 0, .ref q_52, .int 0, .ref q_60, .ref q_66, .ref q_73, .ref q_79, .ref q_84, .ref q_92, .ref q_102, .ref q_107])), (q_107, .inr (6, [.int 0, .ref q_108, .ref q_109, .int 0, .int 0])), (q_900, .inl (cA_901, 1, .inr (.inl fl_0)))] sz) U U.heap ∧ va_Nw (.castable "java/lang/IndexOutOfBoundsException" "java/lang/IndexOutOfBoundsException") U ∧ vk_R RX11 285 "none of the bytes of the result" sa_RX11_285 U ∧ va_Nw (.declares (Bundle.initS "java/lang/RuntimeException")) U ∧ va_Nw (.declares (Bundle.initS "java/lang/Exception")) U ∧ va_Nw (.declares (Bundle.initS "java/lang/Throwable")) U)) (va_Qi (fun (r : Int32) (_ : Unit) => r = kf_word) (fun (_ : Unit) (t : State) => ∃ (g0_9 : Nat → Int64), (kf_word = 0 → g0_9 0 = vf_word) ∧ va_P (dC, dI) vwP [(q_900, .inl (cA_901, 1, .inr (.inl g0_9)))] t.heap ∧ va_K (dC, dI) vwP [(cA_901, .long)] t ∧ va_D (va_A [(h0, .inr (11, [.ref q_1, .int 0, .int (-1), .ref q_3, .ref q_21, .ref q_39, .int 0, .ref q_52, .int 0, .ref q_60, .ref q_66, .ref q_73, .ref q_79, .ref q_84, .ref q_92, .ref q_102, .ref q_107])), (q_107, .inr (6, [.int 0, .ref q_108, .ref q_109, .int 0, .int 0])), (q_900, .inl (cA_901, 1, .inr (.inl fl_0)))] sz) [(q_900, .inl (cA_901, 1, .inr (.inl g0_9)))]) (va_A [(h0, .inr (11, [.ref q_1, .int 0, .int (-1), .ref q_3, .ref q_21, .ref q_39, .int 0, .ref q_52, .int 0, .ref q_60, .ref q_66, .ref q_73, .ref q_79, .ref q_84, .ref q_92, .ref q_102, .ref q_107])), (q_107, .inr (6, [.int 0, .ref q_108, .ref q_109, .int 0, .int 0])), (q_900, .inl (cA_901, 1, .inr (.inl fl_0)))] sz)) 1 6 (va_A [(h0, .inr (11, [.ref q_1, .int 0, .int (-1), .ref q_3, .ref q_21, .ref q_39, .int 0, .ref q_52, .int 0, .ref q_60, .ref q_66, .ref q_73, .ref q_79, .ref q_84, .ref q_92, .ref q_102, .ref q_107])), (q_107, .inr (6, [.int 0, .ref q_108, .ref q_109, .int 0, .int 0])), (q_900, .inl (cA_901, 1, .inr (.inl fl_0)))] sz) := by
  refine va_MetW (cc := cL_word) (maxL := 4) (ret := (some .int)) (by decide) rfl ?_
  intro p e s m args below meth c s₁ B hml hv
  obtain ⟨rfl, hsz, hP, hK, hD0, hp0, hp1, hp2, hp3, hp4, hp5, hp6⟩ := hv
  have hx := B.exec
  have hb := B.bytes
  have hr := B.returns
  have hts := atoms_spec (ws := v_L_word) B.pre
  have hown : s.vm.findClass RL = some m.cls := findClass_of_methodNamed B.named
  have hlocks := B.notSynchronized
  have ow : ∀ {k : Nat} {w : Cond}, o_L_word[k]? = some w → w.before ([.ref h0, .int p0, .ref q_900] : List Value).toArray s = true := fun h => hts _ (mow_L_word _ (List.mem_of_getElem? h))
  subst hsz
  have hD := hD0.self (sz := s.heap.size)
  generalize hAe : va_A [(h0, .inr (11, [.ref q_1, .int 0, .int (-1), .ref q_3, .ref q_21, .ref q_39, .int 0, .ref q_52, .int 0, .ref q_60, .ref q_66, .ref q_73, .ref q_79, .ref q_84, .ref q_92, .ref q_102, .ref q_107])), (q_107, .inr (6, [.int 0, .ref q_108, .ref q_109, .int 0, .int 0])), (q_900, .inl (cA_901, 1, .inr (.inl fl_0)))] s.heap.size = A at hD hp0 hp1 ⊢
  have hA : ∀ q : Nat, s.heap.size ≤ q → A q := fun q h => by rw [← hAe]; exact Or.inr h
  have hS : va_S A s.heap s.heap [] := va_S.rf
  have hP : va_P (dC, dI) vwP [(h0, .inr (11, [.ref q_1, .int 0, .int (-1), .ref q_3, .ref q_21, .ref q_39, .int 0, .ref q_52, .int 0, .ref q_60, .ref q_66, .ref q_73, .ref q_79, .ref q_84, .ref q_92, .ref q_102, .ref q_107])), (q_107, .inr (6, [.int 0, .ref q_108, .ref q_109, .int 0, .int 0])), (q_900, .inl (cA_901, 1, .inr (.inl fl_0)))] s.heap := hP
  have hl := lv_entry ([.ref h0, .int p0, .ref q_900]) (n := 4) (Nat.le_of_ble_eq_true rfl)
  rw [lg_entry_eq]
  generalize (lg_sl ([.ref h0, .int p0, .ref q_900]) ++ List.replicate (4 - (lg_sl ([.ref h0, .int p0, .ref q_900])).length) Slot.unset).toArray = ls at hl ⊢
  have hl : lv_has ls 4 [(0, .ref h0), (1, .int p0), (2, .ref q_900)] := hl
  obtain ⟨H, hH⟩ : ∃ H, H = s.heap := ⟨_, rfl⟩
  rw [← hH] at hP
  have hS : va_S A s.heap H [] := by rw [hH]; exact hS
  rw [← hH]
  refine lv_aload_n hx hb dL_word_0 rfl (lv_at hl 2 rfl) ?_
  refine lv_iconst (v := 0) hx hb dL_word_1 (by decide) ?_
  refine lv_aload_n hx hb dL_word_2 rfl (lv_at hl 0 rfl) ?_
  refine lv_iload_n hx hb dL_word_3 rfl (lv_at hl 1 rfl) ?_
  have hPc := hP.sub (ws' := [(h0, .inr (11, [.ref q_1, .int 0, .int (-1), .ref q_3, .ref q_21, .ref q_39, .int 0, .ref q_52, .int 0, .ref q_60, .ref q_66, .ref q_73, .ref q_79, .ref q_84, .ref q_92, .ref q_102, .ref q_107])), (q_107, .inr (6, [.int 0, .ref q_108, .ref q_109, .int 0, .int 0]))]) [0, 1] rfl
  have hDc := hD.sub (ws' := [(h0, .inr (11, [.ref q_1, .int 0, .int (-1), .ref q_3, .ref q_21, .ref q_39, .int 0, .ref q_52, .int 0, .ref q_60, .ref q_66, .ref q_73, .ref q_79, .ref q_84, .ref q_92, .ref q_102, .ref q_107])), (q_107, .inr (6, [.int 0, .ref q_108, .ref q_109, .int 0, .int 0]))]) [0, 1] (by decide) rfl
  have hKc := hK.sub (tys' := []) [] rfl
  have hFc := va_free (wc := [(h0, .inr (11, [.ref q_1, .int 0, .int (-1), .ref q_3, .ref q_21, .ref q_39, .int 0, .ref q_52, .int 0, .ref q_60, .ref q_66, .ref q_73, .ref q_79, .ref q_84, .ref q_92, .ref q_102, .ref q_107])), (q_107, .inr (6, [.int 0, .ref q_108, .ref q_109, .int 0, .int 0]))]) hD hS hA [0, 1] rfl
  refine vx_calll (vx_runV (As := [.int p0]) (rest := [.int 0, .ref q_900]) ⟨hx, hb, hml, hown, hts⟩ (c_X11_word l dC dI hst h0 q_1 q_3 q_21 q_39 q_52 q_60 q_66 q_73 q_79 q_84 q_92 q_102 q_107 q_108 q_109 p0 H.size sa_RX11_285) (cwV 1 hts g_L_word_X11_word rfl rfl rfl (by decide +kernel) ⟨(Nat.le_of_ble_eq_true rfl), (Nat.le_of_ble_eq_true rfl)⟩) ⟨fun a U g mk q => by obtain ⟨q0, q1, qP, qK, qD, e0, e1, e2, e3, e4, e5, e6⟩ := q; exact ⟨q0, q1, qP, va_K.moved (u := U) (U := U.calling g mk a) (Vm.Alike.refl U.vm) qK, qD, vx_Zq.moved (u := U) (U := U.calling g mk a) (Vm.Alike.refl U.vm) e0, vx_Zq.moved (u := U) (U := U.calling g mk a) (Vm.Alike.refl U.vm) e1, va_Nw.same rfl (u := U) (U := U.calling g mk a) rfl e2, vk_R.same (u := U) (U := U.calling g mk a) rfl e3, va_Nw.same rfl (u := U) (U := U.calling g mk a) rfl e4, va_Nw.same rfl (u := U) (U := U.calling g mk a) rfl e5, va_Nw.same rfl (u := U) (U := U.calling g mk a) rfl e6⟩, va_recv hKc hPc (ci := 11) (q0 := 0) rfl rfl, fun U hU hW => ⟨rfl, by rw [hU], by rw [hU]; exact hPc, va_K.moved hW.alike hKc, hDc.weaken (fun _ _ _ _ => trivial), by rw [hU]; exact vx_Zq.narrow (vx_Zq.moved hW.alike (vx_Zq.kept hp0 hS.2.1)) hFc, by rw [hU]; exact vx_Zq.narrow (vx_Zq.moved hW.alike (vx_Zq.kept hp1 hS.2.1)) hFc, va_Nw.warmC hW hp2, vk_R.warm hW hp3, va_Nw.warmD hW hp4, va_Nw.warmD hW hp5, va_Nw.warmD hW hp6⟩⟩ rfl rfl hl.1 rfl (lv_room (Nat.le_of_ble_eq_true rfl)) dL_word_4 ⟨(Nat.le_of_ble_eq_true rfl), (Nat.le_of_ble_eq_true rfl)⟩) hS (fun q _ h => hFc q h) hFc (fun q _ h => hFc q h) (fun E ce q9 u t H1 locs ht hvm _ hB hz1 hk1 hS hce hcv hcl => ?_) (fun r_2001 u t H1 locs ht hvm hw hB hz1 hk1 hS => ?_)
  · obtain ⟨hP, hD⟩ := va_join (wr := [(q_900, .inl (cA_901, 1, .inr (.inl fl_0)))]) (w1 := []) hP hD [0, 1] [2] rfl rfl (by decide) (by decide) hk1 hFc (fun k q h => by simp at h) ⟨fun i j p q h => by simp at h, fun k q h => by simp at h⟩
    have hK := hK.sub (tys' := [(cA_901, .long)]) [0] rfl
    generalize H1 = H at hP hS hce ⊢
    have hP : va_P (dC, dI) vwP [(q_900, .inl (cA_901, 1, .inr (.inl fl_0)))] H := hP
    have hD : va_D A [(q_900, .inl (cA_901, 1, .inr (.inl fl_0)))] := hD
    refine vx_widen (k := 1) (n := 6) (Nat.le_of_ble_eq_true rfl) (Nat.le_of_ble_eq_true rfl) ?_
    obtain ⟨rfl, hkx⟩ := hB
    refine vx_catch (name := "java/lang/IndexOutOfBoundsException") hown [] ⟨0, 8, 11, 13⟩ [] (by rw [vx_table (x := yL_word) B (hts _ List.mem_cons_self)]; rfl) (fun z hz => nomatch hz) (by decide) (by decide) (ow (k := 4) rfl) (va_Nw.use rfl hp2) hce hcv hcl ?_
    refine lv_astore_n (lv' := [(3, .ref q9), (0, .ref h0), (1, .int p0), (2, .ref q_900)]) hx hb dL_word_11 rfl hl (by decide) rfl (fun ls hl => ?_)
    refine lv_iconst (v := 1) hx hb dL_word_12 (by decide) ?_
    refine W.widen (k := 1) (n := 6) (Nat.le_of_ble_eq_true rfl) (Nat.le_of_ble_eq_true rfl) ?_
    exact W.iret (v := 1) hx hb hr (fun t ht hW => ⟨⟨1, (), rfl, hkx.symm, fl_0, (fun h => absurd (hkx.symm.trans h) (by decide)), by rw [ht]; exact hP, va_K.moved hW.alike hK, hD⟩, hS.F ht⟩) hS.2.2 dL_word_13
  obtain ⟨hP1, hK1, hD1⟩ := hB
  rw [ht] at hP1
  have hK1 := va_K.moved hvm.symm hK1
  obtain ⟨hP, hD⟩ := va_join (wr := [(q_900, .inl (cA_901, 1, .inr (.inl fl_0)))]) (w1 := []) hP hD [0, 1] [2] rfl rfl (by decide) (by decide) hk1 hFc hP1 hD1
  have hK := (hK.sub (tys' := [(cA_901, .long)]) [0] rfl).app hK1
  generalize H1 = H at hP hS ⊢
  have hP : va_P (dC, dI) vwP [(q_900, .inl (cA_901, 1, .inr (.inl fl_0)))] H := hP
  have hD : va_D A [(q_900, .inl (cA_901, 1, .inr (.inl fl_0)))] := hD
  have hK : va_K (dC, dI) vwP [(cA_901, .long)] s := hK
  refine W.widen (k := 1) (n := 6) (Nat.le_of_ble_eq_true rfl) (Nat.le_of_ble_eq_true rfl) ?_
  have hw_2002 := hw
  refine va_last hx hb hK hP hD hS 0 0 rfl rfl (show vp_in 0 1 by rw [vp_in_iff]; decide) dL_word_7 (fun H locs hP hD hS => ?_)
  have hP : va_P (dC, dI) vwP [(q_900, .inl (cA_901, 1, .inr (.inl (vp_updL fl_0 (0 : Int32).toNatClampNeg r_2001))))] H := hP
  have hD : va_D A [(q_900, .inl (cA_901, 1, .inr (.inl (vp_updL fl_0 (0 : Int32).toNatClampNeg r_2001))))] := hD
  refine lv_goto (tgt := 14) hx hb dL_word_8 (by decide) ?_
  refine lv_iconst (v := 0) hx hb dL_word_14 (by decide) ?_
  refine W.widen (k := 1) (n := 6) (Nat.le_of_ble_eq_true rfl) (Nat.le_of_ble_eq_true rfl) ?_
  exact W.iret (v := 0) hx hb hr (fun t ht hW => ⟨⟨0, (), rfl, hw_2002.1.symm, (vp_updL fl_0 (0 : Int32).toNatClampNeg r_2001), (fun _ => by rw [show (0 : Int32).toNatClampNeg = 0 from rfl, pk_uLs, hw_2002.2]), by rw [ht]; exact hP, va_K.moved hW.alike hK, hD⟩, hS.F ht⟩) hS.2.2 dL_word_15
