theorem dX19_sweep_0 : decode cX19_sweep 0 = .ok (.iconst 0, 1) := by decide +kernel
theorem dX19_sweep_1 : decode cX19_sweep 1 = .ok (.istore_n 1, 1) := by decide +kernel
theorem dX19_sweep_2 : decode cX19_sweep 2 = .ok (.iload_n 1, 1) := by decide +kernel
theorem dX19_sweep_3 : decode cX19_sweep 3 = .ok (.aload_n 0, 1) := by decide +kernel
theorem dX19_sweep_4 : decode cX19_sweep 4 = .ok (.invokevirtual 31, 3) := by decide +kernel
theorem dX19_sweep_7 : decode cX19_sweep 7 = .ok (.if_icmp .ge 107, 3) := by decide +kernel
theorem dX19_sweep_114 : decode cX19_sweep 114 = .ok (.return_, 1) := by decide +kernel
theorem dX19_sweep_10 : decode cX19_sweep 10 = .ok (.aload_n 0, 1) := by decide +kernel
theorem dX19_sweep_11 : decode cX19_sweep 11 = .ok (.iload_n 1, 1) := by decide +kernel
theorem dX19_sweep_12 : decode cX19_sweep 12 = .ok (.invokevirtual 57, 3) := by decide +kernel
theorem dX19_sweep_15 : decode cX19_sweep 15 = .ok (.astore_n 2, 1) := by decide +kernel
theorem dX19_sweep_16 : decode cX19_sweep 16 = .ok (.aload_n 2, 1) := by decide +kernel
theorem dX19_sweep_17 : decode cX19_sweep 17 = .ok (.getfield 76, 3) := by decide +kernel
theorem dX19_sweep_20 : decode cX19_sweep 20 = .ok (.invokevirtual 53, 3) := by decide +kernel
theorem dX19_sweep_23 : decode cX19_sweep 23 = .ok (.iconst 1, 1) := by decide +kernel
theorem dX19_sweep_24 : decode cX19_sweep 24 = .ok (.isub, 1) := by decide +kernel
theorem dX19_sweep_25 : decode cX19_sweep 25 = .ok (.istore_n 3, 1) := by decide +kernel
theorem dX19_sweep_26 : decode cX19_sweep 26 = .ok (.iload_n 3, 1) := by decide +kernel
theorem dX19_sweep_27 : decode cX19_sweep 27 = .ok (.ifCond .lt 35, 3) := by decide +kernel
theorem dX19_sweep_62 : decode cX19_sweep 62 = .ok (.aload_n 2, 1) := by decide +kernel
theorem dX19_sweep_63 : decode cX19_sweep 63 = .ok (.getfield 116, 3) := by decide +kernel
theorem dX19_sweep_66 : decode cX19_sweep 66 = .ok (.invokevirtual 53, 3) := by decide +kernel
theorem dX19_sweep_69 : decode cX19_sweep 69 = .ok (.iconst 1, 1) := by decide +kernel
theorem dX19_sweep_70 : decode cX19_sweep 70 = .ok (.isub, 1) := by decide +kernel
theorem dX19_sweep_71 : decode cX19_sweep 71 = .ok (.istore_n 3, 1) := by decide +kernel
theorem dX19_sweep_72 : decode cX19_sweep 72 = .ok (.iload_n 3, 1) := by decide +kernel
theorem dX19_sweep_73 : decode cX19_sweep 73 = .ok (.ifCond .lt 35, 3) := by decide +kernel
theorem dX19_sweep_108 : decode cX19_sweep 108 = .ok (.iinc 1 1, 3) := by decide +kernel
theorem dX19_sweep_111 : decode cX19_sweep 111 = .ok (.goto (-109), 3) := by decide +kernel
theorem dX19_sweep_76 : decode cX19_sweep 76 = .ok (.aload_n 2, 1) := by decide +kernel
theorem dX19_sweep_77 : decode cX19_sweep 77 = .ok (.getfield 116, 3) := by decide +kernel
theorem dX19_sweep_80 : decode cX19_sweep 80 = .ok (.iload_n 3, 1) := by decide +kernel
theorem dX19_sweep_81 : decode cX19_sweep 81 = .ok (.invokevirtual 41, 3) := by decide +kernel
theorem dX19_sweep_84 : decode cX19_sweep 84 = .ok (.checkcast 65, 3) := by decide +kernel
theorem dX19_sweep_87 : decode cX19_sweep 87 = .ok (.getfield 319, 3) := by decide +kernel
theorem dX19_sweep_90 : decode cX19_sweep 90 = .ok (.ifCond .eq 12, 3) := by decide +kernel
theorem dX19_sweep_102 : decode cX19_sweep 102 = .ok (.iinc 3 (-1), 3) := by decide +kernel
theorem dX19_sweep_105 : decode cX19_sweep 105 = .ok (.goto (-33), 3) := by decide +kernel
theorem dX19_sweep_93 : decode cX19_sweep 93 = .ok (.aload_n 2, 1) := by decide +kernel
theorem dX19_sweep_94 : decode cX19_sweep 94 = .ok (.getfield 116, 3) := by decide +kernel
theorem dX19_sweep_97 : decode cX19_sweep 97 = .ok (.iload_n 3, 1) := by decide +kernel
theorem dX19_sweep_98 : decode cX19_sweep 98 = .ok (.invokevirtual 54, 3) := by decide +kernel
theorem dX19_sweep_101 : decode cX19_sweep 101 = .ok (.pop, 1) := by decide +kernel
theorem dX19_sweep_30 : decode cX19_sweep 30 = .ok (.aload_n 2, 1) := by decide +kernel
theorem dX19_sweep_31 : decode cX19_sweep 31 = .ok (.getfield 76, 3) := by decide +kernel
theorem dX19_sweep_34 : decode cX19_sweep 34 = .ok (.iload_n 3, 1) := by decide +kernel
theorem dX19_sweep_35 : decode cX19_sweep 35 = .ok (.invokevirtual 41, 3) := by decide +kernel
theorem dX19_sweep_38 : decode cX19_sweep 38 = .ok (.checkcast 79, 3) := by decide +kernel
theorem dX19_sweep_41 : decode cX19_sweep 41 = .ok (.getfield 335, 3) := by decide +kernel
theorem dX19_sweep_44 : decode cX19_sweep 44 = .ok (.ifCond .eq 12, 3) := by decide +kernel
theorem dX19_sweep_56 : decode cX19_sweep 56 = .ok (.iinc 3 (-1), 3) := by decide +kernel
theorem dX19_sweep_59 : decode cX19_sweep 59 = .ok (.goto (-33), 3) := by decide +kernel
theorem dX19_sweep_47 : decode cX19_sweep 47 = .ok (.aload_n 2, 1) := by decide +kernel
theorem dX19_sweep_48 : decode cX19_sweep 48 = .ok (.getfield 76, 3) := by decide +kernel
theorem dX19_sweep_51 : decode cX19_sweep 51 = .ok (.iload_n 3, 1) := by decide +kernel
theorem dX19_sweep_52 : decode cX19_sweep 52 = .ok (.invokevirtual 54, 3) := by decide +kernel
theorem dX19_sweep_55 : decode cX19_sweep 55 = .ok (.pop, 1) := by decide +kernel
def o_P19_sweep : List Cond := [.methodLink RX19 31 yX13_size, .instanceMethod yX13_size, .selects RX13 yX13_size yX13_size, .initialized RX13, .methodLink RX19 57 yX13_get, .instanceMethod yX13_get, .selects RX13 yX13_get yX13_get, .fieldLink RX19 76 "SsaForgeModel$Block" "phis" "Ljava/util/ArrayList;", .methodLink RX19 53 yJx4a65c_size_8abf5, .instanceMethod yJx4a65c_size_8abf5, .selects RJx4a65c yJx4a65c_size_8abf5 yJx4a65c_size_8abf5, .initialized RJx4a65c, .fieldLink RX19 116 "SsaForgeModel$Block" "rows" "Ljava/util/ArrayList;", .methodLink RX19 41 yJx4a65c_get_915e3, .instanceMethod yJx4a65c_get_915e3, .selects RJx4a65c yJx4a65c_get_915e3 yJx4a65c_get_915e3, .classLink RX19 65 "SsaForgeModel$Row", .fieldLink RX19 319 "SsaForgeModel$Row" "gone" "Z", .methodLink RX19 54 yJx4a65c_remove_915e3, .instanceMethod yJx4a65c_remove_915e3, .selects RJx4a65c yJx4a65c_remove_915e3 yJx4a65c_remove_915e3, .classLink RX19 79 "SsaForgeModel$Phi", .fieldLink RX19 335 "SsaForgeModel$Phi" "gone" "Z"]
def v_P19_sweep : List Cond := .code yX19_sweep cX19_sweep 4 none :: (o_P19_sweep ++ (v_PC_size ++ (v_PC_get ++ (wsX120 ++ (v_PL_size ++ (v_PL_get ++ (wsX170 ++ (v_PL_remove ++ (wsX150 ++ [])))))))))
theorem mow_P19_sweep : ∀ w ∈ o_P19_sweep, w ∈ v_P19_sweep := fun _ h => List.mem_cons_of_mem _ (List.mem_append_left _ h)
theorem mem_P19_sweep_0 : ∀ w ∈ v_PC_size, w ∈ v_P19_sweep := fun _ h => List.mem_cons_of_mem _ (List.mem_append_right _ (List.mem_append_left _ h))
theorem mem_P19_sweep_1 : ∀ w ∈ v_PC_get, w ∈ v_P19_sweep := fun _ h => List.mem_cons_of_mem _ (List.mem_append_right _ (List.mem_append_right _ (List.mem_append_left _ h)))
theorem mem_P19_sweep_2 : ∀ w ∈ wsX120, w ∈ v_P19_sweep := fun _ h => List.mem_cons_of_mem _ (List.mem_append_right _ (List.mem_append_right _ (List.mem_append_right _ (List.mem_append_left _ h))))
theorem mem_P19_sweep_3 : ∀ w ∈ v_PL_size, w ∈ v_P19_sweep := fun _ h => List.mem_cons_of_mem _ (List.mem_append_right _ (List.mem_append_right _ (List.mem_append_right _ (List.mem_append_right _ (List.mem_append_left _ h)))))
theorem mem_P19_sweep_4 : ∀ w ∈ v_PL_get, w ∈ v_P19_sweep := fun _ h => List.mem_cons_of_mem _ (List.mem_append_right _ (List.mem_append_right _ (List.mem_append_right _ (List.mem_append_right _ (List.mem_append_right _ (List.mem_append_left _ h))))))
theorem mem_P19_sweep_5 : ∀ w ∈ wsX170, w ∈ v_P19_sweep := fun _ h => List.mem_cons_of_mem _ (List.mem_append_right _ (List.mem_append_right _ (List.mem_append_right _ (List.mem_append_right _ (List.mem_append_right _ (List.mem_append_right _ (List.mem_append_left _ h)))))))
theorem mem_P19_sweep_6 : ∀ w ∈ v_PL_remove, w ∈ v_P19_sweep := fun _ h => List.mem_cons_of_mem _ (List.mem_append_right _ (List.mem_append_right _ (List.mem_append_right _ (List.mem_append_right _ (List.mem_append_right _ (List.mem_append_right _ (List.mem_append_right _ (List.mem_append_left _ h))))))))
theorem mem_P19_sweep_7 : ∀ w ∈ wsX150, w ∈ v_P19_sweep := fun _ h => List.mem_cons_of_mem _ (List.mem_append_right _ (List.mem_append_right _ (List.mem_append_right _ (List.mem_append_right _ (List.mem_append_right _ (List.mem_append_right _ (List.mem_append_right _ (List.mem_append_right _ (List.mem_append_left _ h)))))))))
set_option maxRecDepth 20000 in
theorem gw_P19_sweep : v_P19_sweep.all goodWord = true := by decide +kernel
set_option maxRecDepth 20000 in
theorem g_P19_sweep_PC_size : GoodIn v_P19_sweep (wsV RX19 31 RX13 yX13_size v_PC_size) := goodIn_app (goodIn_sub (fun w h => mow_P19_sweep w (by revert w h; decide +kernel)) (by decide +kernel)) (goodIn_sub mem_P19_sweep_0 gw_PC_size)
set_option maxRecDepth 20000 in
theorem g_P19_sweep_PC_get : GoodIn v_P19_sweep (wsV RX19 57 RX13 yX13_get v_PC_get) := goodIn_app (goodIn_sub (fun w h => mow_P19_sweep w (by revert w h; decide +kernel)) (by decide +kernel)) (goodIn_sub mem_P19_sweep_1 gw_PC_get)
set_option maxRecDepth 20000 in
theorem g_P19_sweep_PL_size : GoodIn v_P19_sweep (wsV RX19 53 RJx4a65c yJx4a65c_size_8abf5 v_PL_size) := goodIn_app (goodIn_sub (fun w h => mow_P19_sweep w (by revert w h; decide +kernel)) (by decide +kernel)) (goodIn_sub mem_P19_sweep_3 gw_PL_size)
set_option maxRecDepth 20000 in
theorem g_P19_sweep_PL_get : GoodIn v_P19_sweep (wsV RX19 41 RJx4a65c yJx4a65c_get_915e3 v_PL_get) := goodIn_app (goodIn_sub (fun w h => mow_P19_sweep w (by revert w h; decide +kernel)) (by decide +kernel)) (goodIn_sub mem_P19_sweep_4 gw_PL_get)
set_option maxRecDepth 20000 in
theorem g_P19_sweep_PL_remove : GoodIn v_P19_sweep (wsV RX19 54 RJx4a65c yJx4a65c_remove_915e3 v_PL_remove) := goodIn_app (goodIn_sub (fun w h => mow_P19_sweep w (by revert w h; decide +kernel)) (by decide +kernel)) (goodIn_sub mem_P19_sweep_6 gw_PL_remove)
set_option maxHeartbeats 4000000 in
set_option maxRecDepth 100000 in
theorem c_P19_sweep (l : Launch) (dC : Nat → ClassId) (dI : Nat → Nat → Nat) (cI : ClassId) (cZ : ClassId) (hc : Nat) (v13_0 : Value) (v13_1 : Value) (v13_2 : Value) (v13_3 : Value) (v13_4 : Value) (v13_6 : Value) (la : Nat) (cO : ClassId) (L : List Nat) (P : PO) (sx_ed : Nat) (hX_a : ALP L P cO cI cZ sx_ed la) (sz : Nat) : Met l yX19_sweep v_P19_sweep ({ frames := 4, cells := 0, slots := 0, locals := 106 }) (va_Pc [.ref hc] (fun U => U.heap.size = sz ∧ va_P (dC, dI) vwQ ([(hc, .inr (12, [v13_0, v13_1, v13_2, v13_3, v13_4, .ref la, v13_6]))] ++ va_pl L (pE P)) U.heap ∧ va_K (dC, dI) vwQ [(cO, .object "java/lang/Object"), (cI, .int), (cZ, .boolean)] U ∧ va_D (fun _ => True) ([(hc, .inr (12, [v13_0, v13_1, v13_2, v13_3, v13_4, .ref la, v13_6]))] ++ va_pl L (pE P)) ∧ va_Nw (.castable "SsaForgeModel$Block" "SsaForgeModel$Block") U ∧ va_Nw (.castable "SsaForgeModel$Row" "SsaForgeModel$Row") U ∧ va_Nw (.castable "SsaForgeModel$Row" "java/lang/Object") U ∧ va_Nw (.castable "SsaForgeModel$Phi" "java/lang/Object") U ∧ va_Nw (.castable "SsaForgeModel$Block" "java/lang/Object") U ∧ va_Nw (.castable "SsaForgeModel$Phi" "SsaForgeModel$Phi") U)) (va_Qv (fun _ : Unit => True) (fun (_ : Unit) (t : State) => ∃ (Pn_9 : PO), ((KEP L P L Pn_9 la ∧ ALP L Pn_9 cO cI cZ sx_ed la ∧ Pn_9.tot 2 la ≤ P.tot 2 la ∧ Pn_9.tot 1 la ≤ P.tot 1 la)) ∧ va_P (dC, dI) vwQ ([(hc, .inr (12, [v13_0, v13_1, v13_2, v13_3, v13_4, .ref la, v13_6]))] ++ va_pl L (pE Pn_9)) t.heap ∧ va_K (dC, dI) vwQ [(cO, .object "java/lang/Object"), (cI, .int), (cZ, .boolean)] t ∧ va_D (va_A ([(hc, .inr (12, [v13_0, v13_1, v13_2, v13_3, v13_4, .ref la, v13_6]))] ++ va_pl L (pE P)) sz) ([(hc, .inr (12, [v13_0, v13_1, v13_2, v13_3, v13_4, .ref la, v13_6]))] ++ va_pl L (pE Pn_9))) (va_A ([(hc, .inr (12, [v13_0, v13_1, v13_2, v13_3, v13_4, .ref la, v13_6]))] ++ va_pl L (pE P)) sz)) 0 0 (va_A ([(hc, .inr (12, [v13_0, v13_1, v13_2, v13_3, v13_4, .ref la, v13_6]))] ++ va_pl L (pE P)) sz) := by
  refine Met.ofW (cc := cX19_sweep) (maxL := 4) (ret := none) (by decide) rfl ?_
  intro p e s m args below meth c s₁ B hml hv
  obtain ⟨rfl, hsz, hP, hK, hD0, hp0, hp1, hp2, hp3, hp4, hp5⟩ := hv
  have hx := B.exec
  have hb := B.bytes
  have hr := B.returns
  have hts := atoms_spec (ws := v_P19_sweep) B.pre
  have hown : s.vm.findClass RX19 = some m.cls := findClass_of_methodNamed B.named
  have hlocks := B.notSynchronized
  have ow : ∀ {k : Nat} {w : Cond}, o_P19_sweep[k]? = some w → w.before ([.ref hc] : List Value).toArray s = true := fun h => hts _ (mow_P19_sweep _ (List.mem_of_getElem? h))
  subst hsz
  have hD := hD0.self (sz := s.heap.size)
  generalize hAe : va_A ([(hc, .inr (12, [v13_0, v13_1, v13_2, v13_3, v13_4, .ref la, v13_6]))] ++ va_pl L (pE P)) s.heap.size = A at hD ⊢
  have hA : ∀ q : Nat, s.heap.size ≤ q → A q := fun q h => by rw [← hAe]; exact Or.inr h
  have hS : va_S A s.heap s.heap [] := va_S.rf
  have hP : va_P (dC, dI) vwQ ([(hc, .inr (12, [v13_0, v13_1, v13_2, v13_3, v13_4, .ref la, v13_6]))] ++ va_pl L (pE P)) s.heap := hP
  have hl := lv_entry ([.ref hc]) (n := 4) (Nat.le_of_ble_eq_true rfl)
  rw [lg_entry_eq]
  generalize (lg_sl ([.ref hc]) ++ List.replicate (4 - (lg_sl ([.ref hc])).length) Slot.unset).toArray = ls at hl ⊢
  have hl : lv_has ls 4 [(0, .ref hc)] := hl
  obtain ⟨H, hH⟩ : ∃ H, H = s.heap := ⟨_, rfl⟩
  rw [← hH] at hP
  have hS : va_S A s.heap H [] := by rw [hH]; exact hS
  rw [← hH]
  refine zW_cap (fun Q hQ => ?_)
  have hX_a9 := hX_a
  have hla := hX_a.lok.2.2.1
  have hla2 := hX_a.1.1.2.1
  refine lv_iconst (v := 0) hx hb dX19_sweep_0 (by decide) ?_
  refine lv_istore_n (lv' := [(1, .int 0), (0, .ref hc)]) hx hb dX19_sweep_1 rfl hl (by decide) rfl (fun ls hl => ?_)
  have key2 : ∀ n2 : Nat, ∀ (d2_1 : Int) (P2 : PO) (ls : Array Slot) (H : Heap) (locs : List Loc), (P2.tot 2 la ≤ P.tot 2 la ∧ P2.tot 1 la ≤ P.tot 1 la) → (KEP L P L P2 la) → (ALP L P2 cO cI cZ sx_ed la) → (0 ≤ d2_1 ∧ d2_1 ≤ 300) → ((400 - d2_1 : Int).toNat) < n2 → lv_has ls 4 [(0, .ref hc), (1, .int (zI (d2_1)))] → va_P (dC, dI) vwQ ([(hc, .inr (12, [v13_0, v13_1, v13_2, v13_3, v13_4, .ref la, v13_6]))] ++ va_pl L (pE P2)) H → va_D A ([(hc, .inr (12, [v13_0, v13_1, v13_2, v13_3, v13_4, .ref la, v13_6]))] ++ va_pl L (pE P2)) → va_S A s.heap H locs → W p l e (headSpec v_P19_sweep ({ frames := 4, cells := 0, slots := 0, locals := 106 })).room s m ([.ref hc] : List Value).toArray below meth c H locs 0 0 Q (F0 m 2 ls []) := by
    intro n2
    induction n2 with
    | zero => intro d2_1 P2 ls H locs tP2 kP2 aP2 jd2_1 hm2; exact absurd hm2 (by omega)
    | succ n2 ih2 =>
      intro d2_1 P2 ls H locs tP2 kP2 aP2 jd2_1 hm2 hl hP hD hS
      have hq_1 : la ∈ L ∧ P2.kd la = 30 := kP2.mem hX_a.lok.1 hX_a.lok.2.1 (by decide)
      have hz9 := kP2.2.2.1
      have hA_2 : KEP L P L P2 la := (KEP.refl L P la).trans kP2
      have hj2 := kP2
      refine lv_iload_n hx hb dX19_sweep_2 rfl (lv_at hl 1 rfl) ?_
      refine lv_aload_n hx hb dX19_sweep_3 rfl (lv_at hl 0 rfl) ?_
      have hX_l := aP2.lok
      have hlz9 := hX_l.2.2.1
      have hPc := hP.part (X := [(hc, .inr (12, [v13_0, v13_1, v13_2, v13_3, v13_4, .ref la, v13_6]))]) (cx := [(hc, .inr (12, [v13_0, v13_1, v13_2, v13_3, v13_4, .ref la, v13_6]))]) (pl := va_pl L (pE P2)) [0] rfl
      have hDc := hD.part (X := [(hc, .inr (12, [v13_0, v13_1, v13_2, v13_3, v13_4, .ref la, v13_6]))]) (cx := [(hc, .inr (12, [v13_0, v13_1, v13_2, v13_3, v13_4, .ref la, v13_6]))]) (pl := va_pl L (pE P2)) [0] (by decide) rfl
      have hKc := hK.sub (tys' := [(cO, .object "java/lang/Object")]) [0] rfl
      have hFc := va_freeP (X := [(hc, .inr (12, [v13_0, v13_1, v13_2, v13_3, v13_4, .ref la, v13_6]))]) (cx := [(hc, .inr (12, [v13_0, v13_1, v13_2, v13_3, v13_4, .ref la, v13_6]))]) (pl := va_pl L (pE P2)) hD hS hA [0] rfl
      refine va_calli (va_runV (As := []) (rest := [.int (zI (d2_1))]) ⟨hx, hb, hml, hown, hts⟩ (c_PC_size l dC dI hc v13_0 v13_1 v13_2 v13_3 v13_4 v13_6 la cO L P2 hX_l H.size) (cwV 0 hts g_P19_sweep_PC_size rfl rfl rfl (by decide +kernel) ⟨(Nat.le_of_ble_eq_true rfl), (Nat.le_of_ble_eq_true rfl)⟩) ⟨fun a U g mk q => by obtain ⟨q0, q1, qP, qK, qD⟩ := q; exact ⟨q0, q1, qP, va_K.moved (u := U) (U := U.calling g mk a) (Vm.Alike.refl U.vm) qK, qD⟩, va_recv hKc hPc (ci := 12) (q0 := 0) rfl rfl, fun U hU hW => ⟨rfl, by rw [hU], by rw [hU]; exact hPc, va_K.moved hW.alike hKc, hDc.weaken (fun _ _ _ _ => trivial)⟩⟩ rfl rfl hl.1 rfl (lv_room (Nat.le_of_ble_eq_true rfl)) dX19_sweep_4 ⟨(Nat.le_of_ble_eq_true rfl), (Nat.le_of_ble_eq_true rfl)⟩) hS (fun q _ h => hFc q h) hFc (fun r_3 u t H1 locs ht hvm hw hB hz1 hk1 hS => ?_)
      obtain ⟨hP1, hK1, hD1⟩ := hB
      rw [ht] at hP1
      have hK1 := va_K.moved hvm.symm hK1
      obtain ⟨hP, hD⟩ := va_joinP (X := [(hc, .inr (12, [v13_0, v13_1, v13_2, v13_3, v13_4, .ref la, v13_6]))]) (cx := [(hc, .inr (12, [v13_0, v13_1, v13_2, v13_3, v13_4, .ref la, v13_6]))]) (wr := []) (rx := [(hc, .inr (12, [v13_0, v13_1, v13_2, v13_3, v13_4, .ref la, v13_6]))]) (pl := va_pl L (pE P2)) (pl1 := va_pl L (pE P2)) hP hD [0] [] rfl rfl (by decide) (by decide) hk1 hFc hP1 hD1
      have hK := (hK.sub (tys' := [(cI, .int), (cZ, .boolean)]) [1, 2] rfl).app hK1
      generalize H1 = H at hP hS ⊢
      have hP : va_P (dC, dI) vwQ ([(hc, .inr (12, [v13_0, v13_1, v13_2, v13_3, v13_4, .ref la, v13_6]))] ++ va_pl L (pE P2)) H := hP
      have hD : va_D A ([(hc, .inr (12, [v13_0, v13_1, v13_2, v13_3, v13_4, .ref la, v13_6]))] ++ va_pl L (pE P2)) := hD
      have hK : va_K (dC, dI) vwQ [(cI, .int), (cZ, .boolean), (cO, .object "java/lang/Object")] s := hK
      refine W.widen (k := 0) (n := 0) (Nat.le_of_ble_eq_true rfl) (Nat.le_of_ble_eq_true rfl) ?_
      obtain rfl : r_3 = (zI (P2.lz la)) := hw
      refine lv_icmp_ge (tgt := 114) hx hb dX19_sweep_7 (by decide) (fun b7 => ?_) (fun b7 => ?_)
      · have yb7 : (P2.lz la : Int) ≤ (d2_1 : Int) := (zI_le (a := P2.lz la) (b := d2_1) (by omega) (by omega) (by omega) (by omega)).mp b7
        subst hQ
        have hK := hK.sub (tys' := [(cO, .object "java/lang/Object"), (cI, .int), (cZ, .boolean)]) [2, 0, 1] rfl
        refine W.widen (k := 0) (n := 0) (Nat.le_of_ble_eq_true rfl) (Nat.le_of_ble_eq_true rfl) ?_
        exact W.vret hx hb hr (fun t ht hW => ⟨⟨(), rfl, trivial, P2, ⟨hA_2, aP2, by omega, by omega⟩, by rw [ht]; exact hP, va_K.moved hW.alike hK, hD⟩, hS.F ht⟩) hS.2.2 dX19_sweep_114
      · have yb7 : ¬ (P2.lz la : Int) ≤ (d2_1 : Int) := fun q => b7 ((zI_le (a := P2.lz la) (b := d2_1) (by omega) (by omega) (by omega) (by omega)).mpr q)
        refine lv_aload_n hx hb dX19_sweep_10 rfl (lv_at hl 0 rfl) ?_
        refine lv_iload_n hx hb dX19_sweep_11 rfl (lv_at hl 1 rfl) ?_
        have hX_l := aP2.lok
        obtain ⟨x, ex⟩ : ∃ q9 : Nat, q9 = P2.el la (d2_1) := ⟨_, rfl⟩
        have hX_el := ex
        have hPc := hP.part (X := [(hc, .inr (12, [v13_0, v13_1, v13_2, v13_3, v13_4, .ref la, v13_6]))]) (cx := [(hc, .inr (12, [v13_0, v13_1, v13_2, v13_3, v13_4, .ref la, v13_6]))]) (pl := va_pl L (pE P2)) [0] rfl
        have hDc := hD.part (X := [(hc, .inr (12, [v13_0, v13_1, v13_2, v13_3, v13_4, .ref la, v13_6]))]) (cx := [(hc, .inr (12, [v13_0, v13_1, v13_2, v13_3, v13_4, .ref la, v13_6]))]) (pl := va_pl L (pE P2)) [0] (by decide) rfl
        have hKc := hK.sub (tys' := [(cO, .object "java/lang/Object")]) [2] rfl
        have hFc := va_freeP (X := [(hc, .inr (12, [v13_0, v13_1, v13_2, v13_3, v13_4, .ref la, v13_6]))]) (cx := [(hc, .inr (12, [v13_0, v13_1, v13_2, v13_3, v13_4, .ref la, v13_6]))]) (pl := va_pl L (pE P2)) hD hS hA [0] rfl
        refine va_callr (va_runV (As := [.int (zI (d2_1))]) (rest := []) ⟨hx, hb, hml, hown, hts⟩ (c_PC_get l dC dI hc v13_0 v13_1 v13_2 v13_3 v13_4 v13_6 la cO L P2 d2_1 x hX_l (by omega) hX_el H.size) (cwV 1 hts g_P19_sweep_PC_get rfl rfl rfl (by decide +kernel) ⟨(Nat.le_of_ble_eq_true rfl), (Nat.le_of_ble_eq_true rfl)⟩) ⟨fun a U g mk q => by obtain ⟨q0, q1, qP, qK, qD, e0⟩ := q; exact ⟨q0, q1, qP, va_K.moved (u := U) (U := U.calling g mk a) (Vm.Alike.refl U.vm) qK, qD, va_Nw.same rfl (u := U) (U := U.calling g mk a) rfl e0⟩, va_recv hKc hPc (ci := 12) (q0 := 0) rfl rfl, fun U hU hW => ⟨rfl, by rw [hU], by rw [hU]; exact hPc, va_K.moved hW.alike hKc, hDc.weaken (fun _ _ _ _ => trivial), va_Nw.warmC hW hp0⟩⟩ rfl rfl hl.1 rfl (lv_room (Nat.le_of_ble_eq_true rfl)) dX19_sweep_12 ⟨(Nat.le_of_ble_eq_true rfl), (Nat.le_of_ble_eq_true rfl)⟩) hS (fun q _ h => hFc q h) hFc (fun u q_4 t H1 locs ht hvm hw hB hz1 hk1 hS => ?_)
        obtain ⟨hxt_4, hP1, hK1, hD1⟩ := hB
        rw [ht] at hP1
        have hK1 := va_K.moved hvm.symm hK1
        obtain ⟨hP, hD⟩ := va_joinP (X := [(hc, .inr (12, [v13_0, v13_1, v13_2, v13_3, v13_4, .ref la, v13_6]))]) (cx := [(hc, .inr (12, [v13_0, v13_1, v13_2, v13_3, v13_4, .ref la, v13_6]))]) (wr := []) (rx := [(hc, .inr (12, [v13_0, v13_1, v13_2, v13_3, v13_4, .ref la, v13_6]))]) (pl := va_pl L (pE P2)) (pl1 := va_pl L (pE P2)) hP hD [0] [] rfl rfl (by decide) (by decide) hk1 hFc hP1 hD1
        have hK := (hK.sub (tys' := [(cI, .int), (cZ, .boolean)]) [0, 1] rfl).app hK1
        generalize H1 = H at hP hS ⊢
        have hP : va_P (dC, dI) vwQ ([(hc, .inr (12, [v13_0, v13_1, v13_2, v13_3, v13_4, .ref la, v13_6]))] ++ va_pl L (pE P2)) H := hP
        have hD : va_D A ([(hc, .inr (12, [v13_0, v13_1, v13_2, v13_3, v13_4, .ref la, v13_6]))] ++ va_pl L (pE P2)) := hD
        have hK : va_K (dC, dI) vwQ [(cI, .int), (cZ, .boolean), (cO, .object "java/lang/Object")] s := hK
        refine W.widen (k := 0) (n := 0) (Nat.le_of_ble_eq_true rfl) (Nat.le_of_ble_eq_true rfl) ?_
        rw [hxt_4]
        obtain ⟨xb_5, h9⟩ : ∃ q9 : Nat, q9 = x := ⟨_, rfl⟩
        subst h9
        have hi_6 : INB P2 la xb_5 := ⟨d2_1, by omega, by omega, ex⟩
        clear hX_el
        have hB_7 := aP2.inb hi_6
        have hfb := hB_7.2.2.2.2
        refine lv_astore_n (lv' := [(2, .ref xb_5), (0, .ref hc), (1, .int (zI (d2_1)))]) hx hb dX19_sweep_15 rfl hl (by decide) rfl (fun ls hl => ?_)
        refine lv_aload_n hx hb dX19_sweep_16 rfl (lv_at hl 0 rfl) ?_
        obtain ⟨kp_8, hkp_8⟩ := va_pl_get (X := [(hc, .inr (12, [v13_0, v13_1, v13_2, v13_3, v13_4, .ref la, v13_6]))]) (f := pE P2) hB_7.1.1
        rw [pE_block hB_7.1.2] at hkp_8
        refine va_get (D := (dC, dI)) (ci := 19) (v := .ref (P2.bp xb_5)) (C := RX12) (T := TX12) (N := 5) hx hb hts mem_P19_sweep_2 hown hK hP kp_8 hkp_8 rfl 0 (by decide) (ow (k := 7) rfl) (fun _ h9 => h9) rfl dX19_sweep_17 ?_
        obtain ⟨pr_9, epr_9⟩ : ∃ q9 : Nat, q9 = P2.bp xb_5 := ⟨_, rfl⟩
        rw [← epr_9]
        have hlk_10 : LOK L P2 cO 15 pr_9 := (by rw [epr_9]; exact (aP2.inb hi_6).2.2.1)
        have hlz9 := hlk_10.2.2.1
        have hlk_11 := (show LOK L P2 cO 15 pr_9 from (by rw [← epr_9.symm]; exact (aP2.inb hi_6).2.2.1))
        have hX_x := hlk_11.1
        have hX_k := hlk_11.2.1
        have hlz9 := hlk_11.2.2.1
        have hPc := hP.part (X := [(hc, .inr (12, [v13_0, v13_1, v13_2, v13_3, v13_4, .ref la, v13_6]))]) (cx := []) (pl := va_pl L (pE P2)) [] rfl
        have hDc := hD.part (X := [(hc, .inr (12, [v13_0, v13_1, v13_2, v13_3, v13_4, .ref la, v13_6]))]) (cx := []) (pl := va_pl L (pE P2)) [] (by decide) rfl
        have hKc := hK.sub (tys' := [(cO, .object "java/lang/Object")]) [2] rfl
        have hFc := va_freeP (X := [(hc, .inr (12, [v13_0, v13_1, v13_2, v13_3, v13_4, .ref la, v13_6]))]) (cx := []) (pl := va_pl L (pE P2)) hD hS hA [] rfl
        refine va_calli (va_runV (As := []) (rest := []) ⟨hx, hb, hml, hown, hts⟩ (c_PL_size l dC dI cO L P2 pr_9 hX_x hX_k (by omega) H.size) (cwV 0 hts g_P19_sweep_PL_size rfl rfl rfl (by decide +kernel) ⟨(Nat.le_of_ble_eq_true rfl), (Nat.le_of_ble_eq_true rfl)⟩) ⟨fun a U g mk q => by obtain ⟨q0, q1, qP, qK, qD⟩ := q; exact ⟨q0, q1, qP, va_K.moved (u := U) (U := U.calling g mk a) (Vm.Alike.refl U.vm) qK, qD⟩, recv_30 hKc hPc hlk_10.1 hlk_10.2.1, fun U hU hW => ⟨rfl, by rw [hU], by rw [hU]; exact hPc, va_K.moved hW.alike hKc, hDc.weaken (fun _ _ _ _ => trivial)⟩⟩ rfl rfl hl.1 rfl (lv_room (Nat.le_of_ble_eq_true rfl)) dX19_sweep_20 ⟨(Nat.le_of_ble_eq_true rfl), (Nat.le_of_ble_eq_true rfl)⟩) hS (fun q _ h => hFc q h) hFc (fun r_12 u t H1 locs ht hvm hw hB hz1 hk1 hS => ?_)
        obtain ⟨hP1, hK1, hD1⟩ := hB
        rw [ht] at hP1
        have hK1 := va_K.moved hvm.symm hK1
        obtain ⟨hP, hD⟩ := va_joinP (X := [(hc, .inr (12, [v13_0, v13_1, v13_2, v13_3, v13_4, .ref la, v13_6]))]) (cx := []) (wr := [(hc, .inr (12, [v13_0, v13_1, v13_2, v13_3, v13_4, .ref la, v13_6]))]) (rx := []) (pl := va_pl L (pE P2)) (pl1 := va_pl L (pE P2)) hP hD [] [0] rfl rfl (by decide) (by decide) hk1 hFc hP1 hD1
        have hK := (hK.sub (tys' := [(cI, .int), (cZ, .boolean)]) [0, 1] rfl).app hK1
        generalize H1 = H at hP hS ⊢
        have hP : va_P (dC, dI) vwQ ([(hc, .inr (12, [v13_0, v13_1, v13_2, v13_3, v13_4, .ref la, v13_6]))] ++ va_pl L (pE P2)) H := hP
        have hD : va_D A ([(hc, .inr (12, [v13_0, v13_1, v13_2, v13_3, v13_4, .ref la, v13_6]))] ++ va_pl L (pE P2)) := hD
        have hK : va_K (dC, dI) vwQ [(cI, .int), (cZ, .boolean), (cO, .object "java/lang/Object")] s := hK
        refine W.widen (k := 0) (n := 0) (Nat.le_of_ble_eq_true rfl) (Nat.le_of_ble_eq_true rfl) ?_
        obtain rfl : r_12 = (zI (P2.lz pr_9)) := hw
        refine lv_iconst (v := 1) hx hb dX19_sweep_23 (by decide) ?_
        refine lv_isub hx hb dX19_sweep_24 ?_
        refine lv_topi (fun z ez => ?_)
        obtain rfl : z = zI ((P2.lz pr_9) - 1) := ez.trans (zI_sub (P2.lz pr_9) (1))
        refine lv_istore_n (lv' := [(3, .int (zI ((P2.lz pr_9) - 1))), (2, .ref xb_5), (0, .ref hc), (1, .int (zI (d2_1)))]) hx hb dX19_sweep_25 rfl hl (by decide) rfl (fun ls hl => ?_)
        have key26 : ∀ n26 : Nat, ∀ (d26_3 : Int) (P26 : PO) (ls : Array Slot) (H : Heap) (locs : List Loc), (P26.tot 2 la ≤ P2.tot 2 la ∧ P26.tot 1 la ≤ P2.tot 1 la) → (KEP L P2 L P26 la) → (ALP L P26 cO cI cZ sx_ed la) → (-1 ≤ d26_3 ∧ d26_3 < 40000 ∧ d26_3 < P26.lz pr_9) → ((d26_3 + 1 : Int).toNat) < n26 → lv_has ls 4 [(0, .ref hc), (1, .int (zI (d2_1))), (2, .ref xb_5), (3, .int (zI (d26_3)))] → va_P (dC, dI) vwQ ([(hc, .inr (12, [v13_0, v13_1, v13_2, v13_3, v13_4, .ref la, v13_6]))] ++ va_pl L (pE P26)) H → va_D A ([(hc, .inr (12, [v13_0, v13_1, v13_2, v13_3, v13_4, .ref la, v13_6]))] ++ va_pl L (pE P26)) → va_S A s.heap H locs → W p l e (headSpec v_P19_sweep ({ frames := 4, cells := 0, slots := 0, locals := 106 })).room s m ([.ref hc] : List Value).toArray below meth c H locs 0 0 Q (F0 m 26 ls []) := by
          intro n26
          induction n26 with
          | zero => intro d26_3 P26 ls H locs tP26 kP26 aP26 jd26_3 hm26; exact absurd hm26 (by omega)
          | succ n26 ih26 =>
            intro d26_3 P26 ls H locs tP26 kP26 aP26 jd26_3 hm26 hl hP hD hS
            have hq_13 : la ∈ L ∧ P26.kd la = 30 := kP26.mem hq_1.1 hq_1.2 (by decide)
            have hq_14 : xb_5 ∈ L ∧ P26.kd xb_5 = 12 := kP26.mem hB_7.1.1 hB_7.1.2 (by decide)
            have hq_15 : pr_9 ∈ L ∧ P26.kd pr_9 = 30 := kP26.mem hlk_10.1 hlk_10.2.1 (by decide)
            have hi_16 : INB P26 la xb_5 := kP26.inb hi_6
            have ha_17 : P26.bp xb_5 = pr_9 := kP26.bp hB_7.1.1 hB_7.1.2 epr_9.symm
            have hz9 := kP26.2.2.1
            have hA_18 : KEP L P L P26 la := hA_2.trans kP26
            have hA_19 : KEP L P2 L P26 la := (KEP.refl L P2 la).trans kP26
            have hj26 := kP26
            refine lv_iload_n hx hb dX19_sweep_26 rfl (lv_at hl 3 rfl) ?_
            refine lv_if_lt (tgt := 62) hx hb dX19_sweep_27 (by decide) (fun b27 => ?_) (fun b27 => ?_)
            · have yb27 : (d26_3 : Int) < (0 : Int) := (zI_lt (a := d26_3) (b := 0) (by omega) (by omega) (by omega) (by omega)).mp b27
              refine lv_aload_n hx hb dX19_sweep_62 rfl (lv_at hl 2 rfl) ?_
              have hfb := (aP26.inb hi_16).2.2.2.2
              obtain ⟨kp_20, hkp_20⟩ := va_pl_get (X := [(hc, .inr (12, [v13_0, v13_1, v13_2, v13_3, v13_4, .ref la, v13_6]))]) (f := pE P26) hq_14.1
              rw [pE_block hq_14.2] at hkp_20
              refine va_get (D := (dC, dI)) (ci := 19) (v := .ref (P26.br xb_5)) (C := RX12) (T := TX12) (N := 5) hx hb hts mem_P19_sweep_2 hown hK hP kp_20 hkp_20 rfl 1 (by decide) (ow (k := 12) rfl) (fun _ h9 => h9) rfl dX19_sweep_63 ?_
              obtain ⟨pr_21, epr_21⟩ : ∃ q9 : Nat, q9 = P26.br xb_5 := ⟨_, rfl⟩
              rw [← epr_21]
              have hlk_22 : LOK L P26 cO 17 pr_21 := (by rw [epr_21]; exact (aP26.inb hi_16).2.1)
              have hlz9 := hlk_22.2.2.1
              have hlk_23 := (show LOK L P26 cO 17 pr_21 from (by rw [← epr_21.symm]; exact (aP26.inb hi_16).2.1))
              have hX_x := hlk_23.1
              have hX_k := hlk_23.2.1
              have hlz9 := hlk_23.2.2.1
              have hPc := hP.part (X := [(hc, .inr (12, [v13_0, v13_1, v13_2, v13_3, v13_4, .ref la, v13_6]))]) (cx := []) (pl := va_pl L (pE P26)) [] rfl
              have hDc := hD.part (X := [(hc, .inr (12, [v13_0, v13_1, v13_2, v13_3, v13_4, .ref la, v13_6]))]) (cx := []) (pl := va_pl L (pE P26)) [] (by decide) rfl
              have hKc := hK.sub (tys' := [(cO, .object "java/lang/Object")]) [2] rfl
              have hFc := va_freeP (X := [(hc, .inr (12, [v13_0, v13_1, v13_2, v13_3, v13_4, .ref la, v13_6]))]) (cx := []) (pl := va_pl L (pE P26)) hD hS hA [] rfl
              refine va_calli (va_runV (As := []) (rest := []) ⟨hx, hb, hml, hown, hts⟩ (c_PL_size l dC dI cO L P26 pr_21 hX_x hX_k (by omega) H.size) (cwV 0 hts g_P19_sweep_PL_size rfl rfl rfl (by decide +kernel) ⟨(Nat.le_of_ble_eq_true rfl), (Nat.le_of_ble_eq_true rfl)⟩) ⟨fun a U g mk q => by obtain ⟨q0, q1, qP, qK, qD⟩ := q; exact ⟨q0, q1, qP, va_K.moved (u := U) (U := U.calling g mk a) (Vm.Alike.refl U.vm) qK, qD⟩, recv_30 hKc hPc hlk_22.1 hlk_22.2.1, fun U hU hW => ⟨rfl, by rw [hU], by rw [hU]; exact hPc, va_K.moved hW.alike hKc, hDc.weaken (fun _ _ _ _ => trivial)⟩⟩ rfl rfl hl.1 rfl (lv_room (Nat.le_of_ble_eq_true rfl)) dX19_sweep_66 ⟨(Nat.le_of_ble_eq_true rfl), (Nat.le_of_ble_eq_true rfl)⟩) hS (fun q _ h => hFc q h) hFc (fun r_24 u t H1 locs ht hvm hw hB hz1 hk1 hS => ?_)
              obtain ⟨hP1, hK1, hD1⟩ := hB
              rw [ht] at hP1
              have hK1 := va_K.moved hvm.symm hK1
              obtain ⟨hP, hD⟩ := va_joinP (X := [(hc, .inr (12, [v13_0, v13_1, v13_2, v13_3, v13_4, .ref la, v13_6]))]) (cx := []) (wr := [(hc, .inr (12, [v13_0, v13_1, v13_2, v13_3, v13_4, .ref la, v13_6]))]) (rx := []) (pl := va_pl L (pE P26)) (pl1 := va_pl L (pE P26)) hP hD [] [0] rfl rfl (by decide) (by decide) hk1 hFc hP1 hD1
              have hK := (hK.sub (tys' := [(cI, .int), (cZ, .boolean)]) [0, 1] rfl).app hK1
              generalize H1 = H at hP hS ⊢
              have hP : va_P (dC, dI) vwQ ([(hc, .inr (12, [v13_0, v13_1, v13_2, v13_3, v13_4, .ref la, v13_6]))] ++ va_pl L (pE P26)) H := hP
              have hD : va_D A ([(hc, .inr (12, [v13_0, v13_1, v13_2, v13_3, v13_4, .ref la, v13_6]))] ++ va_pl L (pE P26)) := hD
              have hK : va_K (dC, dI) vwQ [(cI, .int), (cZ, .boolean), (cO, .object "java/lang/Object")] s := hK
              refine W.widen (k := 0) (n := 0) (Nat.le_of_ble_eq_true rfl) (Nat.le_of_ble_eq_true rfl) ?_
              obtain rfl : r_24 = (zI (P26.lz pr_21)) := hw
              refine lv_iconst (v := 1) hx hb dX19_sweep_69 (by decide) ?_
              refine lv_isub hx hb dX19_sweep_70 ?_
              refine lv_topi (fun z ez => ?_)
              obtain rfl : z = zI ((P26.lz pr_21) - 1) := ez.trans (zI_sub (P26.lz pr_21) (1))
              refine lv_istore_n (lv' := [(3, .int (zI ((P26.lz pr_21) - 1))), (0, .ref hc), (1, .int (zI (d2_1))), (2, .ref xb_5)]) hx hb dX19_sweep_71 rfl hl (by decide) rfl (fun ls hl => ?_)
              have key72 : ∀ n72 : Nat, ∀ (d72_3 : Int) (P72 : PO) (ls : Array Slot) (H : Heap) (locs : List Loc), (P72.tot 2 la ≤ P26.tot 2 la ∧ P72.tot 1 la ≤ P26.tot 1 la) → (KEP L P26 L P72 la) → (ALP L P72 cO cI cZ sx_ed la) → (-1 ≤ d72_3 ∧ d72_3 < 40000 ∧ d72_3 < P72.lz pr_21) → ((d72_3 + 1 : Int).toNat) < n72 → lv_has ls 4 [(0, .ref hc), (1, .int (zI (d2_1))), (2, .ref xb_5), (3, .int (zI (d72_3)))] → va_P (dC, dI) vwQ ([(hc, .inr (12, [v13_0, v13_1, v13_2, v13_3, v13_4, .ref la, v13_6]))] ++ va_pl L (pE P72)) H → va_D A ([(hc, .inr (12, [v13_0, v13_1, v13_2, v13_3, v13_4, .ref la, v13_6]))] ++ va_pl L (pE P72)) → va_S A s.heap H locs → W p l e (headSpec v_P19_sweep ({ frames := 4, cells := 0, slots := 0, locals := 106 })).room s m ([.ref hc] : List Value).toArray below meth c H locs 0 0 Q (F0 m 72 ls []) := by
                intro n72
                induction n72 with
                | zero => intro d72_3 P72 ls H locs tP72 kP72 aP72 jd72_3 hm72; exact absurd hm72 (by omega)
                | succ n72 ih72 =>
                  intro d72_3 P72 ls H locs tP72 kP72 aP72 jd72_3 hm72 hl hP hD hS
                  have hq_25 : la ∈ L ∧ P72.kd la = 30 := kP72.mem hq_13.1 hq_13.2 (by decide)
                  have hq_26 : xb_5 ∈ L ∧ P72.kd xb_5 = 12 := kP72.mem hq_14.1 hq_14.2 (by decide)
                  have hq_27 : pr_9 ∈ L ∧ P72.kd pr_9 = 30 := kP72.mem hq_15.1 hq_15.2 (by decide)
                  have hq_28 : pr_21 ∈ L ∧ P72.kd pr_21 = 30 := kP72.mem hlk_22.1 hlk_22.2.1 (by decide)
                  have hi_29 : INB P72 la xb_5 := kP72.inb hi_16
                  have ha_30 : P72.bp xb_5 = pr_9 := kP72.bp hq_14.1 hq_14.2 ha_17
                  have ha_31 : P72.br xb_5 = pr_21 := kP72.br hq_14.1 hq_14.2 epr_21.symm
                  have hz9 := kP72.2.2.1
                  have hA_32 : KEP L P L P72 la := hA_18.trans kP72
                  have hA_33 : KEP L P2 L P72 la := hA_19.trans kP72
                  have hA_34 : KEP L P26 L P72 la := (KEP.refl L P26 la).trans kP72
                  have hj72 := kP72
                  refine lv_iload_n hx hb dX19_sweep_72 rfl (lv_at hl 3 rfl) ?_
                  refine lv_if_lt (tgt := 108) hx hb dX19_sweep_73 (by decide) (fun b73 => ?_) (fun b73 => ?_)
                  · have yb73 : (d72_3 : Int) < (0 : Int) := (zI_lt (a := d72_3) (b := 0) (by omega) (by omega) (by omega) (by omega)).mp b73
                    refine lv_iinc (v := zI (d2_1 + 1)) (lv' := [(1, .int (zI (d2_1 + 1))), (0, .ref hc), (2, .ref xb_5), (3, .int (zI (d72_3)))]) hx hb dX19_sweep_108 hl (k := 1) rfl (zI_add (d2_1) (1)) (by decide) rfl (fun ls hl => ?_)
                    refine lv_goto (tgt := 2) hx hb dX19_sweep_111 (by decide) ?_
                    exact ih2 (d2_1 + 1) P72 ls H _ (by omega) (kP2.trans hA_33) aP72 (by omega) (by omega) (lv_sub hl [1, 0] rfl) hP hD hS
                  · have yb73 : ¬ (d72_3 : Int) < (0 : Int) := fun q => b73 ((zI_lt (a := d72_3) (b := 0) (by omega) (by omega) (by omega) (by omega)).mpr q)
                    refine lv_aload_n hx hb dX19_sweep_76 rfl (lv_at hl 2 rfl) ?_
                    have hfb := (aP72.inb hi_29).2.2.2.2
                    obtain ⟨kp_35, hkp_35⟩ := va_pl_get (X := [(hc, .inr (12, [v13_0, v13_1, v13_2, v13_3, v13_4, .ref la, v13_6]))]) (f := pE P72) hq_26.1
                    rw [pE_block hq_26.2] at hkp_35
                    refine va_get (D := (dC, dI)) (ci := 19) (v := .ref (P72.br xb_5)) (C := RX12) (T := TX12) (N := 5) hx hb hts mem_P19_sweep_2 hown hK hP kp_35 hkp_35 rfl 1 (by decide) (ow (k := 12) rfl) (fun _ h9 => h9) rfl dX19_sweep_77 ?_
                    obtain ⟨pr_36, epr_36⟩ : ∃ q9 : Nat, q9 = P72.br xb_5 := ⟨_, rfl⟩
                    rw [← epr_36]
                    obtain rfl : pr_21 = pr_36 := (by rw [epr_36]; exact ha_31.symm)
                    refine lv_iload_n hx hb dX19_sweep_80 rfl (lv_at hl 3 rfl) ?_
                    have hlk_37 := (show LOK L P72 cO 17 pr_21 from (by rw [← ha_31]; exact (aP72.inb hi_29).2.1))
                    obtain ⟨x, ex⟩ : ∃ q9 : Nat, q9 = P72.el pr_21 (d72_3) := ⟨_, rfl⟩
                    have hX_x := hlk_37.1
                    have hX_k := hlk_37.2.1
                    have hq9 := hlk_37.row (i := d72_3) (by omega) (by omega)
                    have hX_q : P72.le pr_21 ∈ L ∧ P72.kd (P72.le pr_21) = 31 ∧ P72.ac (P72.le pr_21) = cO := ⟨hq9.1, hq9.2.1, hq9.2.2.1⟩
                    have hq8 := hq9.2.2.2
                    have hX_e0 : P72.oa (P72.le pr_21) (d72_3).toNat = some x := (by rw [ex]; exact (hlk_37.2.2.2.2 (d72_3) (by omega) (by omega)).1)
                    have hxm : x ∈ L := (by rw [ex]; exact (hlk_37.2.2.2.2 (d72_3) (by omega) (by omega)).2.1)
                    have hxk := (hlk_37.2.2.2.2 (d72_3) (by omega) (by omega)).2.2
                    rw [← ex] at hxk
                    have hPc := hP.part (X := [(hc, .inr (12, [v13_0, v13_1, v13_2, v13_3, v13_4, .ref la, v13_6]))]) (cx := []) (pl := va_pl L (pE P72)) [] rfl
                    have hDc := hD.part (X := [(hc, .inr (12, [v13_0, v13_1, v13_2, v13_3, v13_4, .ref la, v13_6]))]) (cx := []) (pl := va_pl L (pE P72)) [] (by decide) rfl
                    have hKc := hK.sub (tys' := [(cO, .object "java/lang/Object")]) [2] rfl
                    have hFc := va_freeP (X := [(hc, .inr (12, [v13_0, v13_1, v13_2, v13_3, v13_4, .ref la, v13_6]))]) (cx := []) (pl := va_pl L (pE P72)) hD hS hA [] rfl
                    refine va_callr (va_runV (As := [.int (zI (d72_3))]) (rest := []) ⟨hx, hb, hml, hown, hts⟩ (c_PL_get l dC dI cO L P72 pr_21 d72_3 x hX_x hX_k hX_q (by omega) hX_e0 H.size) (cwV 1 hts g_P19_sweep_PL_get rfl rfl rfl (by decide +kernel) ⟨(Nat.le_of_ble_eq_true rfl), (Nat.le_of_ble_eq_true rfl)⟩) ⟨fun a U g mk q => by obtain ⟨q0, q1, qP, qK, qD⟩ := q; exact ⟨q0, q1, qP, va_K.moved (u := U) (U := U.calling g mk a) (Vm.Alike.refl U.vm) qK, qD⟩, recv_30 hKc hPc hq_28.1 hq_28.2, fun U hU hW => ⟨rfl, by rw [hU], by rw [hU]; exact hPc, va_K.moved hW.alike hKc, hDc.weaken (fun _ _ _ _ => trivial)⟩⟩ rfl rfl hl.1 rfl (lv_room (Nat.le_of_ble_eq_true rfl)) dX19_sweep_81 ⟨(Nat.le_of_ble_eq_true rfl), (Nat.le_of_ble_eq_true rfl)⟩) hS (fun q _ h => hFc q h) hFc (fun u q_38 t H1 locs ht hvm hw hB hz1 hk1 hS => ?_)
                    obtain ⟨hxt_38, hP1, hK1, hD1⟩ := hB
                    rw [ht] at hP1
                    have hK1 := va_K.moved hvm.symm hK1
                    obtain ⟨hP, hD⟩ := va_joinP (X := [(hc, .inr (12, [v13_0, v13_1, v13_2, v13_3, v13_4, .ref la, v13_6]))]) (cx := []) (wr := [(hc, .inr (12, [v13_0, v13_1, v13_2, v13_3, v13_4, .ref la, v13_6]))]) (rx := []) (pl := va_pl L (pE P72)) (pl1 := va_pl L (pE P72)) hP hD [] [0] rfl rfl (by decide) (by decide) hk1 hFc hP1 hD1
                    have hK := (hK.sub (tys' := [(cI, .int), (cZ, .boolean)]) [0, 1] rfl).app hK1
                    generalize H1 = H at hP hS ⊢
                    have hP : va_P (dC, dI) vwQ ([(hc, .inr (12, [v13_0, v13_1, v13_2, v13_3, v13_4, .ref la, v13_6]))] ++ va_pl L (pE P72)) H := hP
                    have hD : va_D A ([(hc, .inr (12, [v13_0, v13_1, v13_2, v13_3, v13_4, .ref la, v13_6]))] ++ va_pl L (pE P72)) := hD
                    have hK : va_K (dC, dI) vwQ [(cI, .int), (cZ, .boolean), (cO, .object "java/lang/Object")] s := hK
                    refine W.widen (k := 0) (n := 0) (Nat.le_of_ble_eq_true rfl) (Nat.le_of_ble_eq_true rfl) ?_
                    rw [hxt_38]
                    clear hX_e0
                    obtain ⟨xr_39, h9⟩ : ∃ q9 : Nat, q9 = x := ⟨_, rfl⟩
                    subst h9
                    have hm_40 := hxm
                    have hk_41 := hxk
                    refine va_castY (C := "SsaForgeModel$Row") (nm := "SsaForgeModel$Row") hx hb hown (ow (k := 16) rfl) hp1 (recv_17 hK hP hm_40 hk_41) dX19_sweep_84 ?_
                    have ⟨hr1, hr2, hr3, hr4, hr5, hr6, hr7, hr8, hr9⟩ := aP72.rok hm_40 hk_41
                    obtain ⟨kp_42, hkp_42⟩ := va_pl_get (X := [(hc, .inr (12, [v13_0, v13_1, v13_2, v13_3, v13_4, .ref la, v13_6]))]) (f := pE P72) hm_40
                    rw [pE_row hk_41] at hkp_42
                    refine va_get (D := (dC, dI)) (ci := 21) (v := .int (zI (P72.rg xr_39))) (C := RX17) (T := TX17) (N := 7) hx hb hts mem_P19_sweep_5 hown hK hP kp_42 hkp_42 rfl 6 (by decide) (ow (k := 17) rfl) (fun _ h9 => h9) rfl dX19_sweep_87 ?_
                    refine lv_if_eq (tgt := 102) hx hb dX19_sweep_90 (by decide) (fun b90 => ?_) (fun b90 => ?_)
                    · have yb90 : (P72.rg xr_39 : Int) = (0 : Int) := (zI_eq (a := P72.rg xr_39) (b := 0) (by omega) (by omega) (by omega) (by omega)).mp b90
                      refine lv_iinc (v := zI (d72_3 - 1)) (lv' := [(3, .int (zI (d72_3 - 1))), (0, .ref hc), (1, .int (zI (d2_1))), (2, .ref xb_5)]) hx hb dX19_sweep_102 hl (k := 3) rfl (zI_dec (d72_3) (1)) (by decide) rfl (fun ls hl => ?_)
                      refine lv_goto (tgt := 72) hx hb dX19_sweep_105 (by decide) ?_
                      exact ih72 (d72_3 - 1) P72 ls H _ (by omega) (kP72.trans (KEP.refl L P72 la)) aP72 (by omega) (by omega) (lv_sub hl [1, 2, 3, 0] rfl) hP hD hS
                    · have yb90 : ¬ (P72.rg xr_39 : Int) = (0 : Int) := fun q => b90 ((zI_eq (a := P72.rg xr_39) (b := 0) (by omega) (by omega) (by omega) (by omega)).mpr q)
                      refine lv_aload_n hx hb dX19_sweep_93 rfl (lv_at hl 2 rfl) ?_
                      obtain ⟨kp_43, hkp_43⟩ := va_pl_get (X := [(hc, .inr (12, [v13_0, v13_1, v13_2, v13_3, v13_4, .ref la, v13_6]))]) (f := pE P72) hq_26.1
                      rw [pE_block hq_26.2] at hkp_43
                      refine va_get (D := (dC, dI)) (ci := 19) (v := .ref (P72.br xb_5)) (C := RX12) (T := TX12) (N := 5) hx hb hts mem_P19_sweep_2 hown hK hP kp_43 hkp_43 rfl 1 (by decide) (ow (k := 12) rfl) (fun _ h9 => h9) rfl dX19_sweep_94 ?_
                      obtain ⟨pr_44, epr_44⟩ : ∃ q9 : Nat, q9 = P72.br xb_5 := ⟨_, rfl⟩
                      rw [← epr_44]
                      obtain rfl : pr_21 = pr_44 := (by rw [epr_44]; exact ha_31.symm)
                      refine lv_iload_n hx hb dX19_sweep_97 rfl (lv_at hl 3 rfl) ?_
                      have hlk_45 := (show LOK L P72 cO 17 pr_21 from (by rw [← ha_31]; exact (aP72.inb hi_29).2.1))
                      obtain ⟨x, ex⟩ : ∃ q9 : Nat, q9 = P72.el pr_21 (d72_3) := ⟨_, rfl⟩
                      have hX_x := hlk_45.1
                      have hX_k := hlk_45.2.1
                      have hq9 := hlk_45.row (i := d72_3) (by omega) (by omega)
                      have hX_q : P72.le pr_21 ∈ L ∧ P72.kd (P72.le pr_21) = 31 ∧ P72.ac (P72.le pr_21) = cO := ⟨hq9.1, hq9.2.1, hq9.2.2.1⟩
                      have hq8 := hq9.2.2.2
                      have hX_e0 : P72.oa (P72.le pr_21) (d72_3).toNat = some x := (by rw [ex]; exact (hlk_45.2.2.2.2 (d72_3) (by omega) (by omega)).1)
                      have hxm : x ∈ L := (by rw [ex]; exact (hlk_45.2.2.2.2 (d72_3) (by omega) (by omega)).2.1)
                      have hxk := (hlk_45.2.2.2.2 (d72_3) (by omega) (by omega)).2.2
                      rw [← ex] at hxk
                      have hon_46 := aP72.own hlk_45 (by omega)
                      have hX_s := hon_46.2.1
                      have ho9 := hon_46.2.2
                      have hPc := hP.part (X := [(hc, .inr (12, [v13_0, v13_1, v13_2, v13_3, v13_4, .ref la, v13_6]))]) (cx := []) (pl := va_pl L (pE P72)) [] rfl
                      have hDc := hD.part (X := [(hc, .inr (12, [v13_0, v13_1, v13_2, v13_3, v13_4, .ref la, v13_6]))]) (cx := []) (pl := va_pl L (pE P72)) [] (by decide) rfl
                      have hKc := hK.sub (tys' := [(cO, .object "java/lang/Object")]) [2] rfl
                      have hFc := va_freeP (X := [(hc, .inr (12, [v13_0, v13_1, v13_2, v13_3, v13_4, .ref la, v13_6]))]) (cx := []) (pl := va_pl L (pE P72)) hD hS hA [] rfl
                      refine va_callr (va_runV (As := [.int (zI (d72_3))]) (rest := []) ⟨hx, hb, hml, hown, hts⟩ (c_PL_remove l dC dI cO L P72 pr_21 d72_3 x hX_x hX_k hX_q hX_s (by omega) hX_e0 H.size) (cwV 1 hts g_P19_sweep_PL_remove rfl rfl rfl (by decide +kernel) ⟨(Nat.le_of_ble_eq_true rfl), (Nat.le_of_ble_eq_true rfl)⟩) ⟨fun a U g mk q => by obtain ⟨q0, q1, qP, qK, qD, e0, e1, e2⟩ := q; exact ⟨q0, q1, qP, va_K.moved (u := U) (U := U.calling g mk a) (Vm.Alike.refl U.vm) qK, qD, va_Nw.same rfl (u := U) (U := U.calling g mk a) rfl e0, va_Nw.same rfl (u := U) (U := U.calling g mk a) rfl e1, va_Nw.same rfl (u := U) (U := U.calling g mk a) rfl e2⟩, recv_30 hKc hPc hq_28.1 hq_28.2, fun U hU hW => ⟨rfl, by rw [hU], by rw [hU]; exact hPc, va_K.moved hW.alike hKc, hDc.weaken (fun _ _ _ _ => trivial), va_Nw.warmC hW hp2, va_Nw.warmC hW hp3, va_Nw.warmC hW hp4⟩⟩ rfl rfl hl.1 rfl (lv_room (Nat.le_of_ble_eq_true rfl)) dX19_sweep_98 ⟨(Nat.le_of_ble_eq_true rfl), (Nat.le_of_ble_eq_true rfl)⟩) hS (fun q _ h => hFc q h) hFc (fun u q_47 t H1 locs ht hvm hw hB hz1 hk1 hS => ?_)
                      obtain ⟨Pn_48, hxt_48, hP1, hK1, hD1⟩ := hB
                      rw [ht] at hP1
                      have hK1 := va_K.moved hvm.symm hK1
                      obtain ⟨hP, hD⟩ := va_joinP (X := [(hc, .inr (12, [v13_0, v13_1, v13_2, v13_3, v13_4, .ref la, v13_6]))]) (cx := []) (wr := [(hc, .inr (12, [v13_0, v13_1, v13_2, v13_3, v13_4, .ref la, v13_6]))]) (rx := []) (pl := va_pl L (pE P72)) (pl1 := va_pl L (pE Pn_48)) hP hD [] [0] rfl rfl (by decide) (by decide) hk1 hFc hP1 hD1
                      have hK := (hK.sub (tys' := [(cI, .int), (cZ, .boolean)]) [0, 1] rfl).app hK1
                      generalize H1 = H at hP hS ⊢
                      have hP : va_P (dC, dI) vwQ ([(hc, .inr (12, [v13_0, v13_1, v13_2, v13_3, v13_4, .ref la, v13_6]))] ++ va_pl L (pE Pn_48)) H := hP
                      have hD : va_D A ([(hc, .inr (12, [v13_0, v13_1, v13_2, v13_3, v13_4, .ref la, v13_6]))] ++ va_pl L (pE Pn_48)) := hD
                      have hK : va_K (dC, dI) vwQ [(cI, .int), (cZ, .boolean), (cO, .object "java/lang/Object")] s := hK
                      refine W.widen (k := 0) (n := 0) (Nat.le_of_ble_eq_true rfl) (Nat.le_of_ble_eq_true rfl) ?_
                      rw [hxt_48.1]
                      have hu_49 := hxt_48.2
                      have hek_52 : P72.ek pr_21 ≠ 12 := (by rw [← ha_31, (aP72.2.1.2.2.1 xb_5 hq_26.1 hq_26.2).1.1]; decide)
                      have hfl_53 := aP72.fl1 hlk_45 (by omega)
                      have hke_50 : KEP L P72 L Pn_48 la := aP72.lskep hu_49.1 hlk_45.1 hlk_45.2.1 hfl_53 hek_52
                      have hak_51 : ALP L Pn_48 cO cI cZ sx_ed la := aP72.remove hu_49.1 hlk_45.1 hlk_45.2.1 hfl_53 hek_52 hu_49.2.1 (by omega) hu_49.2.2.1 hu_49.2.2.2
                      have ht9 : Pn_48.tot 2 la = P72.tot 2 la + (-1) ∧ Pn_48.tot 1 la = P72.tot 1 la := aP72.tots hke_50 hi_29 2 (Or.inr rfl) ha_31 (d := -1) (by omega) (fun y _ _ n => hu_49.1.2.2.1 y n 0)
                      clear hX_e0
                      have hq_54 : la ∈ L ∧ Pn_48.kd la = 30 := hke_50.mem hq_25.1 hq_25.2 (by decide)
                      have hq_55 : xb_5 ∈ L ∧ Pn_48.kd xb_5 = 12 := hke_50.mem hq_26.1 hq_26.2 (by decide)
                      have hq_56 : pr_9 ∈ L ∧ Pn_48.kd pr_9 = 30 := hke_50.mem hq_27.1 hq_27.2 (by decide)
                      have hq_57 : pr_21 ∈ L ∧ Pn_48.kd pr_21 = 30 := hke_50.mem hq_28.1 hq_28.2 (by decide)
                      have hq_58 : xr_39 ∈ L ∧ Pn_48.kd xr_39 = 17 := hke_50.mem hm_40 hk_41 (by decide)
                      have hi_59 : INB Pn_48 la xb_5 := hke_50.inb hi_29
                      have ha_60 : Pn_48.bp xb_5 = pr_9 := hke_50.bp hq_26.1 hq_26.2 ha_30
                      have ha_61 : Pn_48.br xb_5 = pr_21 := hke_50.br hq_26.1 hq_26.2 ha_31
                      have hz9 := hke_50.2.2.1
                      have hA_62 : KEP L P L Pn_48 la := hA_32.trans hke_50
                      have hA_63 : KEP L P2 L Pn_48 la := hA_33.trans hke_50
                      have hA_64 : KEP L P26 L Pn_48 la := hA_34.trans hke_50
                      have hA_65 : KEP L P72 L Pn_48 la := (KEP.refl L P72 la).trans hke_50
                      have hzr := hu_49.2.1
                      refine lv_pop hx hb dX19_sweep_101 rfl ?_
                      refine lv_iinc (v := zI (d72_3 - 1)) (lv' := [(3, .int (zI (d72_3 - 1))), (0, .ref hc), (1, .int (zI (d2_1))), (2, .ref xb_5)]) hx hb dX19_sweep_102 hl (k := 3) rfl (zI_dec (d72_3) (1)) (by decide) rfl (fun ls hl => ?_)
                      refine lv_goto (tgt := 72) hx hb dX19_sweep_105 (by decide) ?_
                      exact ih72 (d72_3 - 1) Pn_48 ls H _ (by omega) (kP72.trans hA_65) hak_51 (by omega) (by omega) (lv_sub hl [1, 2, 3, 0] rfl) hP hD hS
              exact key72 (((P26.lz pr_21) - 1 + 1 : Int).toNat + 1) ((P26.lz pr_21) - 1) P26 ls H _ (by omega) (KEP.refl _ _ _) aP26 (by omega) (by omega) (lv_sub hl [1, 2, 3, 0] rfl) hP hD hS
            · have yb27 : ¬ (d26_3 : Int) < (0 : Int) := fun q => b27 ((zI_lt (a := d26_3) (b := 0) (by omega) (by omega) (by omega) (by omega)).mpr q)
              refine lv_aload_n hx hb dX19_sweep_30 rfl (lv_at hl 2 rfl) ?_
              have hfb := (aP26.inb hi_16).2.2.2.2
              obtain ⟨kp_66, hkp_66⟩ := va_pl_get (X := [(hc, .inr (12, [v13_0, v13_1, v13_2, v13_3, v13_4, .ref la, v13_6]))]) (f := pE P26) hq_14.1
              rw [pE_block hq_14.2] at hkp_66
              refine va_get (D := (dC, dI)) (ci := 19) (v := .ref (P26.bp xb_5)) (C := RX12) (T := TX12) (N := 5) hx hb hts mem_P19_sweep_2 hown hK hP kp_66 hkp_66 rfl 0 (by decide) (ow (k := 7) rfl) (fun _ h9 => h9) rfl dX19_sweep_31 ?_
              obtain ⟨pr_67, epr_67⟩ : ∃ q9 : Nat, q9 = P26.bp xb_5 := ⟨_, rfl⟩
              rw [← epr_67]
              obtain rfl : pr_9 = pr_67 := (by rw [epr_67]; exact ha_17.symm)
              refine lv_iload_n hx hb dX19_sweep_34 rfl (lv_at hl 3 rfl) ?_
              have hlk_68 := (show LOK L P26 cO 15 pr_9 from (by rw [← ha_17]; exact (aP26.inb hi_16).2.2.1))
              obtain ⟨x, ex⟩ : ∃ q9 : Nat, q9 = P26.el pr_9 (d26_3) := ⟨_, rfl⟩
              have hX_x := hlk_68.1
              have hX_k := hlk_68.2.1
              have hq9 := hlk_68.row (i := d26_3) (by omega) (by omega)
              have hX_q : P26.le pr_9 ∈ L ∧ P26.kd (P26.le pr_9) = 31 ∧ P26.ac (P26.le pr_9) = cO := ⟨hq9.1, hq9.2.1, hq9.2.2.1⟩
              have hq8 := hq9.2.2.2
              have hX_e0 : P26.oa (P26.le pr_9) (d26_3).toNat = some x := (by rw [ex]; exact (hlk_68.2.2.2.2 (d26_3) (by omega) (by omega)).1)
              have hxm : x ∈ L := (by rw [ex]; exact (hlk_68.2.2.2.2 (d26_3) (by omega) (by omega)).2.1)
              have hxk := (hlk_68.2.2.2.2 (d26_3) (by omega) (by omega)).2.2
              rw [← ex] at hxk
              have hPc := hP.part (X := [(hc, .inr (12, [v13_0, v13_1, v13_2, v13_3, v13_4, .ref la, v13_6]))]) (cx := []) (pl := va_pl L (pE P26)) [] rfl
              have hDc := hD.part (X := [(hc, .inr (12, [v13_0, v13_1, v13_2, v13_3, v13_4, .ref la, v13_6]))]) (cx := []) (pl := va_pl L (pE P26)) [] (by decide) rfl
              have hKc := hK.sub (tys' := [(cO, .object "java/lang/Object")]) [2] rfl
              have hFc := va_freeP (X := [(hc, .inr (12, [v13_0, v13_1, v13_2, v13_3, v13_4, .ref la, v13_6]))]) (cx := []) (pl := va_pl L (pE P26)) hD hS hA [] rfl
              refine va_callr (va_runV (As := [.int (zI (d26_3))]) (rest := []) ⟨hx, hb, hml, hown, hts⟩ (c_PL_get l dC dI cO L P26 pr_9 d26_3 x hX_x hX_k hX_q (by omega) hX_e0 H.size) (cwV 1 hts g_P19_sweep_PL_get rfl rfl rfl (by decide +kernel) ⟨(Nat.le_of_ble_eq_true rfl), (Nat.le_of_ble_eq_true rfl)⟩) ⟨fun a U g mk q => by obtain ⟨q0, q1, qP, qK, qD⟩ := q; exact ⟨q0, q1, qP, va_K.moved (u := U) (U := U.calling g mk a) (Vm.Alike.refl U.vm) qK, qD⟩, recv_30 hKc hPc hq_15.1 hq_15.2, fun U hU hW => ⟨rfl, by rw [hU], by rw [hU]; exact hPc, va_K.moved hW.alike hKc, hDc.weaken (fun _ _ _ _ => trivial)⟩⟩ rfl rfl hl.1 rfl (lv_room (Nat.le_of_ble_eq_true rfl)) dX19_sweep_35 ⟨(Nat.le_of_ble_eq_true rfl), (Nat.le_of_ble_eq_true rfl)⟩) hS (fun q _ h => hFc q h) hFc (fun u q_69 t H1 locs ht hvm hw hB hz1 hk1 hS => ?_)
              obtain ⟨hxt_69, hP1, hK1, hD1⟩ := hB
              rw [ht] at hP1
              have hK1 := va_K.moved hvm.symm hK1
              obtain ⟨hP, hD⟩ := va_joinP (X := [(hc, .inr (12, [v13_0, v13_1, v13_2, v13_3, v13_4, .ref la, v13_6]))]) (cx := []) (wr := [(hc, .inr (12, [v13_0, v13_1, v13_2, v13_3, v13_4, .ref la, v13_6]))]) (rx := []) (pl := va_pl L (pE P26)) (pl1 := va_pl L (pE P26)) hP hD [] [0] rfl rfl (by decide) (by decide) hk1 hFc hP1 hD1
              have hK := (hK.sub (tys' := [(cI, .int), (cZ, .boolean)]) [0, 1] rfl).app hK1
              generalize H1 = H at hP hS ⊢
              have hP : va_P (dC, dI) vwQ ([(hc, .inr (12, [v13_0, v13_1, v13_2, v13_3, v13_4, .ref la, v13_6]))] ++ va_pl L (pE P26)) H := hP
              have hD : va_D A ([(hc, .inr (12, [v13_0, v13_1, v13_2, v13_3, v13_4, .ref la, v13_6]))] ++ va_pl L (pE P26)) := hD
              have hK : va_K (dC, dI) vwQ [(cI, .int), (cZ, .boolean), (cO, .object "java/lang/Object")] s := hK
              refine W.widen (k := 0) (n := 0) (Nat.le_of_ble_eq_true rfl) (Nat.le_of_ble_eq_true rfl) ?_
              rw [hxt_69]
              clear hX_e0
              obtain ⟨xp_70, h9⟩ : ∃ q9 : Nat, q9 = x := ⟨_, rfl⟩
              subst h9
              have hm_71 := hxm
              have hk_72 := hxk
              refine va_castY (C := "SsaForgeModel$Phi") (nm := "SsaForgeModel$Phi") hx hb hown (ow (k := 21) rfl) hp5 (recv_15 hK hP hm_71 hk_72) dX19_sweep_38 ?_
              have hp9 := aP26.pik hm_71 hk_72
              have hpn := hp9.2.2.2.2.1
              have hpt := hp9.2.2.2.2.2.1
              clear hp9
              obtain ⟨kp_73, hkp_73⟩ := va_pl_get (X := [(hc, .inr (12, [v13_0, v13_1, v13_2, v13_3, v13_4, .ref la, v13_6]))]) (f := pE P26) hm_71
              rw [pE_phi hk_72] at hkp_73
              refine va_get (D := (dC, dI)) (ci := 20) (v := .int (zI (P26.pg xp_70))) (C := RX15) (T := TX15) (N := 6) hx hb hts mem_P19_sweep_7 hown hK hP kp_73 hkp_73 rfl 5 (by decide) (ow (k := 22) rfl) (fun _ h9 => h9) rfl dX19_sweep_41 ?_
              refine lv_if_eq (tgt := 56) hx hb dX19_sweep_44 (by decide) (fun b44 => ?_) (fun b44 => ?_)
              · have yb44 : (P26.pg xp_70 : Int) = (0 : Int) := (zI_eq (a := P26.pg xp_70) (b := 0) (by omega) (by omega) (by omega) (by omega)).mp b44
                refine lv_iinc (v := zI (d26_3 - 1)) (lv' := [(3, .int (zI (d26_3 - 1))), (0, .ref hc), (1, .int (zI (d2_1))), (2, .ref xb_5)]) hx hb dX19_sweep_56 hl (k := 3) rfl (zI_dec (d26_3) (1)) (by decide) rfl (fun ls hl => ?_)
                refine lv_goto (tgt := 26) hx hb dX19_sweep_59 (by decide) ?_
                exact ih26 (d26_3 - 1) P26 ls H _ (by omega) (kP26.trans (KEP.refl L P26 la)) aP26 (by omega) (by omega) (lv_sub hl [1, 2, 3, 0] rfl) hP hD hS
              · have yb44 : ¬ (P26.pg xp_70 : Int) = (0 : Int) := fun q => b44 ((zI_eq (a := P26.pg xp_70) (b := 0) (by omega) (by omega) (by omega) (by omega)).mpr q)
                refine lv_aload_n hx hb dX19_sweep_47 rfl (lv_at hl 2 rfl) ?_
                obtain ⟨kp_74, hkp_74⟩ := va_pl_get (X := [(hc, .inr (12, [v13_0, v13_1, v13_2, v13_3, v13_4, .ref la, v13_6]))]) (f := pE P26) hq_14.1
                rw [pE_block hq_14.2] at hkp_74
                refine va_get (D := (dC, dI)) (ci := 19) (v := .ref (P26.bp xb_5)) (C := RX12) (T := TX12) (N := 5) hx hb hts mem_P19_sweep_2 hown hK hP kp_74 hkp_74 rfl 0 (by decide) (ow (k := 7) rfl) (fun _ h9 => h9) rfl dX19_sweep_48 ?_
                obtain ⟨pr_75, epr_75⟩ : ∃ q9 : Nat, q9 = P26.bp xb_5 := ⟨_, rfl⟩
                rw [← epr_75]
                obtain rfl : pr_9 = pr_75 := (by rw [epr_75]; exact ha_17.symm)
                refine lv_iload_n hx hb dX19_sweep_51 rfl (lv_at hl 3 rfl) ?_
                have hlk_76 := (show LOK L P26 cO 15 pr_9 from (by rw [← ha_17]; exact (aP26.inb hi_16).2.2.1))
                obtain ⟨x, ex⟩ : ∃ q9 : Nat, q9 = P26.el pr_9 (d26_3) := ⟨_, rfl⟩
                have hX_x := hlk_76.1
                have hX_k := hlk_76.2.1
                have hq9 := hlk_76.row (i := d26_3) (by omega) (by omega)
                have hX_q : P26.le pr_9 ∈ L ∧ P26.kd (P26.le pr_9) = 31 ∧ P26.ac (P26.le pr_9) = cO := ⟨hq9.1, hq9.2.1, hq9.2.2.1⟩
                have hq8 := hq9.2.2.2
                have hX_e0 : P26.oa (P26.le pr_9) (d26_3).toNat = some x := (by rw [ex]; exact (hlk_76.2.2.2.2 (d26_3) (by omega) (by omega)).1)
                have hxm : x ∈ L := (by rw [ex]; exact (hlk_76.2.2.2.2 (d26_3) (by omega) (by omega)).2.1)
                have hxk := (hlk_76.2.2.2.2 (d26_3) (by omega) (by omega)).2.2
                rw [← ex] at hxk
                have hon_77 := aP26.own hlk_76 (by omega)
                have hX_s := hon_77.2.1
                have ho9 := hon_77.2.2
                have hPc := hP.part (X := [(hc, .inr (12, [v13_0, v13_1, v13_2, v13_3, v13_4, .ref la, v13_6]))]) (cx := []) (pl := va_pl L (pE P26)) [] rfl
                have hDc := hD.part (X := [(hc, .inr (12, [v13_0, v13_1, v13_2, v13_3, v13_4, .ref la, v13_6]))]) (cx := []) (pl := va_pl L (pE P26)) [] (by decide) rfl
                have hKc := hK.sub (tys' := [(cO, .object "java/lang/Object")]) [2] rfl
                have hFc := va_freeP (X := [(hc, .inr (12, [v13_0, v13_1, v13_2, v13_3, v13_4, .ref la, v13_6]))]) (cx := []) (pl := va_pl L (pE P26)) hD hS hA [] rfl
                refine va_callr (va_runV (As := [.int (zI (d26_3))]) (rest := []) ⟨hx, hb, hml, hown, hts⟩ (c_PL_remove l dC dI cO L P26 pr_9 d26_3 x hX_x hX_k hX_q hX_s (by omega) hX_e0 H.size) (cwV 1 hts g_P19_sweep_PL_remove rfl rfl rfl (by decide +kernel) ⟨(Nat.le_of_ble_eq_true rfl), (Nat.le_of_ble_eq_true rfl)⟩) ⟨fun a U g mk q => by obtain ⟨q0, q1, qP, qK, qD, e0, e1, e2⟩ := q; exact ⟨q0, q1, qP, va_K.moved (u := U) (U := U.calling g mk a) (Vm.Alike.refl U.vm) qK, qD, va_Nw.same rfl (u := U) (U := U.calling g mk a) rfl e0, va_Nw.same rfl (u := U) (U := U.calling g mk a) rfl e1, va_Nw.same rfl (u := U) (U := U.calling g mk a) rfl e2⟩, recv_30 hKc hPc hq_15.1 hq_15.2, fun U hU hW => ⟨rfl, by rw [hU], by rw [hU]; exact hPc, va_K.moved hW.alike hKc, hDc.weaken (fun _ _ _ _ => trivial), va_Nw.warmC hW hp2, va_Nw.warmC hW hp3, va_Nw.warmC hW hp4⟩⟩ rfl rfl hl.1 rfl (lv_room (Nat.le_of_ble_eq_true rfl)) dX19_sweep_52 ⟨(Nat.le_of_ble_eq_true rfl), (Nat.le_of_ble_eq_true rfl)⟩) hS (fun q _ h => hFc q h) hFc (fun u q_78 t H1 locs ht hvm hw hB hz1 hk1 hS => ?_)
                obtain ⟨Pn_79, hxt_79, hP1, hK1, hD1⟩ := hB
                rw [ht] at hP1
                have hK1 := va_K.moved hvm.symm hK1
                obtain ⟨hP, hD⟩ := va_joinP (X := [(hc, .inr (12, [v13_0, v13_1, v13_2, v13_3, v13_4, .ref la, v13_6]))]) (cx := []) (wr := [(hc, .inr (12, [v13_0, v13_1, v13_2, v13_3, v13_4, .ref la, v13_6]))]) (rx := []) (pl := va_pl L (pE P26)) (pl1 := va_pl L (pE Pn_79)) hP hD [] [0] rfl rfl (by decide) (by decide) hk1 hFc hP1 hD1
                have hK := (hK.sub (tys' := [(cI, .int), (cZ, .boolean)]) [0, 1] rfl).app hK1
                generalize H1 = H at hP hS ⊢
                have hP : va_P (dC, dI) vwQ ([(hc, .inr (12, [v13_0, v13_1, v13_2, v13_3, v13_4, .ref la, v13_6]))] ++ va_pl L (pE Pn_79)) H := hP
                have hD : va_D A ([(hc, .inr (12, [v13_0, v13_1, v13_2, v13_3, v13_4, .ref la, v13_6]))] ++ va_pl L (pE Pn_79)) := hD
                have hK : va_K (dC, dI) vwQ [(cI, .int), (cZ, .boolean), (cO, .object "java/lang/Object")] s := hK
                refine W.widen (k := 0) (n := 0) (Nat.le_of_ble_eq_true rfl) (Nat.le_of_ble_eq_true rfl) ?_
                rw [hxt_79.1]
                have hu_80 := hxt_79.2
                have hek_83 : P26.ek pr_9 ≠ 12 := (by rw [← ha_17, (aP26.2.1.2.2.1 xb_5 hq_14.1 hq_14.2).2.1]; decide)
                have hfl_84 := aP26.fl1 hlk_76 (by omega)
                have hke_81 : KEP L P26 L Pn_79 la := aP26.lskep hu_80.1 hlk_76.1 hlk_76.2.1 hfl_84 hek_83
                have hak_82 : ALP L Pn_79 cO cI cZ sx_ed la := aP26.remove hu_80.1 hlk_76.1 hlk_76.2.1 hfl_84 hek_83 hu_80.2.1 (by omega) hu_80.2.2.1 hu_80.2.2.2
                have ht9 : Pn_79.tot 1 la = P26.tot 1 la + (-1) ∧ Pn_79.tot 2 la = P26.tot 2 la := aP26.tots hke_81 hi_16 1 (Or.inl rfl) ha_17 (d := -1) (by omega) (fun y _ _ n => hu_80.1.2.2.1 y n 0)
                clear hX_e0
                have hq_85 : la ∈ L ∧ Pn_79.kd la = 30 := hke_81.mem hq_13.1 hq_13.2 (by decide)
                have hq_86 : xb_5 ∈ L ∧ Pn_79.kd xb_5 = 12 := hke_81.mem hq_14.1 hq_14.2 (by decide)
                have hq_87 : pr_9 ∈ L ∧ Pn_79.kd pr_9 = 30 := hke_81.mem hq_15.1 hq_15.2 (by decide)
                have hq_88 : xp_70 ∈ L ∧ Pn_79.kd xp_70 = 15 := hke_81.mem hm_71 hk_72 (by decide)
                have hi_89 : INB Pn_79 la xb_5 := hke_81.inb hi_16
                have ha_90 : Pn_79.bp xb_5 = pr_9 := hke_81.bp hq_14.1 hq_14.2 ha_17
                have hz9 := hke_81.2.2.1
                have hA_91 : KEP L P L Pn_79 la := hA_18.trans hke_81
                have hA_92 : KEP L P2 L Pn_79 la := hA_19.trans hke_81
                have hA_93 : KEP L P26 L Pn_79 la := (KEP.refl L P26 la).trans hke_81
                have hzr := hu_80.2.1
                refine lv_pop hx hb dX19_sweep_55 rfl ?_
                refine lv_iinc (v := zI (d26_3 - 1)) (lv' := [(3, .int (zI (d26_3 - 1))), (0, .ref hc), (1, .int (zI (d2_1))), (2, .ref xb_5)]) hx hb dX19_sweep_56 hl (k := 3) rfl (zI_dec (d26_3) (1)) (by decide) rfl (fun ls hl => ?_)
                refine lv_goto (tgt := 26) hx hb dX19_sweep_59 (by decide) ?_
                exact ih26 (d26_3 - 1) Pn_79 ls H _ (by omega) (kP26.trans hA_93) hak_82 (by omega) (by omega) (lv_sub hl [1, 2, 3, 0] rfl) hP hD hS
        exact key26 (((P2.lz pr_9) - 1 + 1 : Int).toNat + 1) ((P2.lz pr_9) - 1) P2 ls H _ (by omega) (KEP.refl _ _ _) aP2 (by omega) (by omega) (lv_sub hl [2, 3, 1, 0] rfl) hP hD hS
  exact key2 ((400 - 0 : Int).toNat + 1) 0 P ls H _ (by omega) (KEP.refl _ _ _) hX_a9 (by omega) (by omega) (lv_sub hl [1, 0] rfl) hP hD hS
