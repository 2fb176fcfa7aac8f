def o_PB_ways : List Cond := [.fieldLink RX12 24 "SsaForgeModel$Block" "end" "LSsaForgeModel$Row;", .fieldLink RX12 28 "SsaForgeModel$Row" "op" "I", .fieldLink RX12 32 "SsaForgeModel$Block" "first" "I", .fieldLink RX12 35 "SsaForgeModel$Block" "second" "I"]
def v_PB_ways : List Cond := .code yX12_ways cX12_ways 1 (some .int) :: (o_PB_ways ++ (wsX120 ++ (wsX170 ++ [])))
theorem mow_PB_ways : ∀ w ∈ o_PB_ways, w ∈ v_PB_ways := fun _ h => List.mem_cons_of_mem _ (List.mem_append_left _ h)
theorem mem_PB_ways_0 : ∀ w ∈ wsX120, w ∈ v_PB_ways := fun _ h => List.mem_cons_of_mem _ (List.mem_append_right _ (List.mem_append_left _ h))
theorem mem_PB_ways_1 : ∀ w ∈ wsX170, w ∈ v_PB_ways := fun _ h => List.mem_cons_of_mem _ (List.mem_append_right _ (List.mem_append_right _ (List.mem_append_left _ h)))
set_option maxRecDepth 20000 in
theorem gw_PB_ways : v_PB_ways.all goodWord = true := by decide +kernel
set_option maxHeartbeats 4000000 in
set_option maxRecDepth 100000 in
theorem c_PB_ways (l : Launch) (dC : Nat → ClassId) (dI : Nat → Nat → Nat) (cO : ClassId) (L : List Nat) (P : PO) (xb : Nat) (nb : Int) (hX_B : BOK L P cO nb xb) (hX_ro : ∀ q : Nat, q ∈ L → P.kd q = 17 → ROK9 P q) (hNn : nb ≤ 300) (sz : Nat) : Met l yX12_ways v_PB_ways ({ frames := 0, cells := 0, slots := 0, locals := 0 }) (va_Pc [.ref xb] (fun U => U.heap.size = sz ∧ va_P (dC, dI) vwQ ([] ++ va_pl L (pE P)) U.heap ∧ va_K (dC, dI) vwQ [(cO, .object "java/lang/Object")] U ∧ va_D (fun _ => True) ([] ++ va_pl L (pE P)))) (va_Qi (fun (r : Int32) (_ : Unit) => r = zI (rWays (P.ro (P.be xb)) (P.bf xb) (P.bs xb))) (fun (_ : Unit) (t : State) => va_P (dC, dI) vwQ ([] ++ va_pl L (pE P)) t.heap ∧ va_K (dC, dI) vwQ [(cO, .object "java/lang/Object")] t ∧ va_D (va_A ([] ++ va_pl L (pE P)) sz) ([] ++ va_pl L (pE P))) (va_A ([] ++ va_pl L (pE P)) sz)) 0 0 (va_A ([] ++ va_pl L (pE P)) sz) := by
  refine Met.ofW (cc := cX12_ways) (maxL := 1) (ret := (some .int)) (by decide) rfl ?_
  intro p e s m args below meth c s₁ B hml hv
  obtain ⟨rfl, hsz, hP, hK, hD0⟩ := hv
  have hx := B.exec
  have hb := B.bytes
  have hr := B.returns
  have hts := atoms_spec (ws := v_PB_ways) B.pre
  have hown : s.vm.findClass RX12 = some m.cls := findClass_of_methodNamed B.named
  have hlocks := B.notSynchronized
  have ow : ∀ {k : Nat} {w : Cond}, o_PB_ways[k]? = some w → w.before ([.ref xb] : List Value).toArray s = true := fun h => hts _ (mow_PB_ways _ (List.mem_of_getElem? h))
  subst hsz
  have hD := hD0.self (sz := s.heap.size)
  generalize hAe : va_A ([] ++ va_pl L (pE P)) s.heap.size = A at hD ⊢
  have hA : ∀ q : Nat, s.heap.size ≤ q → A q := fun q h => by rw [← hAe]; exact Or.inr h
  have hS : va_S A s.heap s.heap [] := va_S.rf
  have hP : va_P (dC, dI) vwQ ([] ++ va_pl L (pE P)) s.heap := hP
  have hl := lv_entry ([.ref xb]) (n := 1) (Nat.le_of_ble_eq_true rfl)
  rw [lg_entry_eq]
  generalize (lg_sl ([.ref xb]) ++ List.replicate (1 - (lg_sl ([.ref xb])).length) Slot.unset).toArray = ls at hl ⊢
  have hl : lv_has ls 1 [(0, .ref xb)] := hl
  obtain ⟨H, hH⟩ : ∃ H, H = s.heap := ⟨_, rfl⟩
  rw [← hH] at hP
  have hS : va_S A s.heap H [] := by rw [hH]; exact hS
  rw [← hH]
  refine zW_cap (fun Q hQ => ?_)
  have hfb := hX_B.2.2.2.2
  refine lv_aload_n hx hb dX12_ways_0 rfl (lv_at hl 0 rfl) ?_
  obtain ⟨kp_1, hkp_1⟩ := va_pl_get (X := []) (f := pE P) hX_B.1.1
  rw [pE_block hX_B.1.2] at hkp_1
  refine va_get (D := (dC, dI)) (ci := 19) (v := .ref (P.be xb)) (C := RX12) (T := TX12) (N := 5) hx hb hts mem_PB_ways_0 hown hK hP kp_1 hkp_1 rfl 2 (by decide) (ow (k := 0) rfl) (fun _ h9 => h9) rfl dX12_ways_1 ?_
  obtain ⟨pr_2, epr_2⟩ : ∃ q9 : Nat, q9 = P.be xb := ⟨_, rfl⟩
  rw [← epr_2]
  have hmpr_2 : pr_2 ∈ L ∧ P.kd pr_2 = 17 := (by rw [epr_2]; exact hX_B.2.2.2.1)
  have hre := (hX_ro pr_2 hmpr_2.1 hmpr_2.2).1
  have heo : P.ro pr_2 = P.ro (P.be xb) := (by rw [epr_2])
  obtain ⟨kp_3, hkp_3⟩ := va_pl_get (X := []) (f := pE P) hmpr_2.1
  rw [pE_row hmpr_2.2] at hkp_3
  refine va_get (D := (dC, dI)) (ci := 21) (v := .int (zI (P.ro pr_2))) (C := RX17) (T := TX17) (N := 7) hx hb hts mem_PB_ways_1 hown hK hP kp_3 hkp_3 rfl 0 (by decide) (ow (k := 1) rfl) (fun _ h9 => h9) rfl dX12_ways_4 ?_
  refine lv_bipush (v := 32) hx hb dX12_ways_7 (by decide) ?_
  refine lv_icmp_ne (tgt := 16) hx hb dX12_ways_9 (by decide) (fun b9 => ?_) (fun b9 => ?_)
  · have yb9 : ¬ (P.ro pr_2 : Int) = (32 : Int) := fun q => b9 ((zI_eq (a := P.ro pr_2) (b := 32) (by omega) (by omega) (by omega) (by omega)).mpr q)
    refine lv_aload_n hx hb dX12_ways_16 rfl (lv_at hl 0 rfl) ?_
    obtain ⟨kp_4, hkp_4⟩ := va_pl_get (X := []) (f := pE P) hX_B.1.1
    rw [pE_block hX_B.1.2] at hkp_4
    refine va_get (D := (dC, dI)) (ci := 19) (v := .ref (P.be xb)) (C := RX12) (T := TX12) (N := 5) hx hb hts mem_PB_ways_0 hown hK hP kp_4 hkp_4 rfl 2 (by decide) (ow (k := 0) rfl) (fun _ h9 => h9) rfl dX12_ways_17 ?_
    obtain ⟨pr_5, epr_5⟩ : ∃ q9 : Nat, q9 = P.be xb := ⟨_, rfl⟩
    rw [← epr_5]
    have hmpr_5 : pr_5 ∈ L ∧ P.kd pr_5 = 17 := (by rw [epr_5]; exact hX_B.2.2.2.1)
    have hre := (hX_ro pr_5 hmpr_5.1 hmpr_5.2).1
    have heo : P.ro pr_5 = P.ro (P.be xb) := (by rw [epr_5])
    obtain ⟨kp_6, hkp_6⟩ := va_pl_get (X := []) (f := pE P) hmpr_5.1
    rw [pE_row hmpr_5.2] at hkp_6
    refine va_get (D := (dC, dI)) (ci := 21) (v := .int (zI (P.ro pr_5))) (C := RX17) (T := TX17) (N := 7) hx hb hts mem_PB_ways_1 hown hK hP kp_6 hkp_6 rfl 0 (by decide) (ow (k := 1) rfl) (fun _ h9 => h9) rfl dX12_ways_20 ?_
    refine lv_bipush (v := 30) hx hb dX12_ways_23 (by decide) ?_
    refine lv_icmp_eq (tgt := 39) hx hb dX12_ways_25 (by decide) (fun b25 => ?_) (fun b25 => ?_)
    · have yb25 : (P.ro pr_5 : Int) = (30 : Int) := (zI_eq (a := P.ro pr_5) (b := 30) (by omega) (by omega) (by omega) (by omega)).mp b25
      refine lv_iconst (v := 1) hx hb dX12_ways_39 (by decide) ?_
      refine lv_goto (tgt := 44) hx hb dX12_ways_40 (by decide) ?_
      subst hQ
      refine W.widen (k := 0) (n := 0) (Nat.le_of_ble_eq_true rfl) (Nat.le_of_ble_eq_true rfl) ?_
      exact W.iret (v := 1) hx hb hr (fun t ht hW => ⟨⟨1, (), rfl, (congrArg zI (show (1 : Int) = rWays (P.ro (P.be xb)) (P.bf xb) (P.bs xb) by unfold rWays; (repeat' split) <;> omega)), by rw [ht]; exact hP, va_K.moved hW.alike hK, hD⟩, hS.F ht⟩) hS.2.2 dX12_ways_44
    · have yb25 : ¬ (P.ro pr_5 : Int) = (30 : Int) := fun q => b25 ((zI_eq (a := P.ro pr_5) (b := 30) (by omega) (by omega) (by omega) (by omega)).mpr q)
      refine lv_aload_n hx hb dX12_ways_28 rfl (lv_at hl 0 rfl) ?_
      obtain ⟨kp_7, hkp_7⟩ := va_pl_get (X := []) (f := pE P) hX_B.1.1
      rw [pE_block hX_B.1.2] at hkp_7
      refine va_get (D := (dC, dI)) (ci := 19) (v := .int (zI (P.bf xb))) (C := RX12) (T := TX12) (N := 5) hx hb hts mem_PB_ways_0 hown hK hP kp_7 hkp_7 rfl 3 (by decide) (ow (k := 2) rfl) (fun _ h9 => h9) rfl dX12_ways_29 ?_
      refine lv_aload_n hx hb dX12_ways_32 rfl (lv_at hl 0 rfl) ?_
      obtain ⟨kp_8, hkp_8⟩ := va_pl_get (X := []) (f := pE P) hX_B.1.1
      rw [pE_block hX_B.1.2] at hkp_8
      refine va_get (D := (dC, dI)) (ci := 19) (v := .int (zI (P.bs xb))) (C := RX12) (T := TX12) (N := 5) hx hb hts mem_PB_ways_0 hown hK hP kp_8 hkp_8 rfl 4 (by decide) (ow (k := 3) rfl) (fun _ h9 => h9) rfl dX12_ways_33 ?_
      refine lv_icmp_ne (tgt := 43) hx hb dX12_ways_36 (by decide) (fun b36 => ?_) (fun b36 => ?_)
      · have yb36 : ¬ (P.bf xb : Int) = (P.bs xb : Int) := fun q => b36 ((zI_eq (a := P.bf xb) (b := P.bs xb) (by omega) (by omega) (by omega) (by omega)).mpr q)
        refine lv_iconst (v := 2) hx hb dX12_ways_43 (by decide) ?_
        subst hQ
        refine W.widen (k := 0) (n := 0) (Nat.le_of_ble_eq_true rfl) (Nat.le_of_ble_eq_true rfl) ?_
        exact W.iret (v := 2) hx hb hr (fun t ht hW => ⟨⟨2, (), rfl, (congrArg zI (show (2 : Int) = rWays (P.ro (P.be xb)) (P.bf xb) (P.bs xb) by unfold rWays; (repeat' split) <;> omega)), by rw [ht]; exact hP, va_K.moved hW.alike hK, hD⟩, hS.F ht⟩) hS.2.2 dX12_ways_44
      · have yb36 : (P.bf xb : Int) = (P.bs xb : Int) := (zI_eq (a := P.bf xb) (b := P.bs xb) (by omega) (by omega) (by omega) (by omega)).mp b36
        refine lv_iconst (v := 1) hx hb dX12_ways_39 (by decide) ?_
        refine lv_goto (tgt := 44) hx hb dX12_ways_40 (by decide) ?_
        subst hQ
        refine W.widen (k := 0) (n := 0) (Nat.le_of_ble_eq_true rfl) (Nat.le_of_ble_eq_true rfl) ?_
        exact W.iret (v := 1) hx hb hr (fun t ht hW => ⟨⟨1, (), rfl, (congrArg zI (show (1 : Int) = rWays (P.ro (P.be xb)) (P.bf xb) (P.bs xb) by unfold rWays; (repeat' split) <;> omega)), by rw [ht]; exact hP, va_K.moved hW.alike hK, hD⟩, hS.F ht⟩) hS.2.2 dX12_ways_44
  · have yb9 : (P.ro pr_2 : Int) = (32 : Int) := (zI_eq (a := P.ro pr_2) (b := 32) (by omega) (by omega) (by omega) (by omega)).mp b9
    refine lv_iconst (v := 0) hx hb dX12_ways_12 (by decide) ?_
    refine lv_goto (tgt := 44) hx hb dX12_ways_13 (by decide) ?_
    subst hQ
    refine W.widen (k := 0) (n := 0) (Nat.le_of_ble_eq_true rfl) (Nat.le_of_ble_eq_true rfl) ?_
    exact W.iret (v := 0) hx hb hr (fun t ht hW => ⟨⟨0, (), rfl, (congrArg zI (show (0 : Int) = rWays (P.ro (P.be xb)) (P.bf xb) (P.bs xb) by unfold rWays; (repeat' split) <;> omega)), by rw [ht]; exact hP, va_K.moved hW.alike hK, hD⟩, hS.F ht⟩) hS.2.2 dX12_ways_44
def o_PB_way : List Cond := [.fieldLink RX12 35 "SsaForgeModel$Block" "second" "I", .fieldLink RX12 32 "SsaForgeModel$Block" "first" "I"]
def v_PB_way : List Cond := .code yX12_way cX12_way 2 (some .int) :: (o_PB_way ++ (wsX120 ++ []))
theorem mow_PB_way : ∀ w ∈ o_PB_way, w ∈ v_PB_way := fun _ h => List.mem_cons_of_mem _ (List.mem_append_left _ h)
theorem mem_PB_way_0 : ∀ w ∈ wsX120, w ∈ v_PB_way := fun _ h => List.mem_cons_of_mem _ (List.mem_append_right _ (List.mem_append_left _ h))
set_option maxRecDepth 20000 in
theorem gw_PB_way : v_PB_way.all goodWord = true := by decide +kernel
set_option maxHeartbeats 4000000 in
set_option maxRecDepth 100000 in
theorem c_PB_way (l : Launch) (dC : Nat → ClassId) (dI : Nat → Nat → Nat) (cO : ClassId) (L : List Nat) (P : PO) (xb : Nat) (nb : Int) (k0 : Int) (hX_B : BOK L P cO nb xb) (hNk : 0 ≤ k0 ∧ k0 ≤ 1 ∧ nb ≤ 300) (sz : Nat) : Met l yX12_way v_PB_way ({ frames := 0, cells := 0, slots := 0, locals := 0 }) (va_Pc [.ref xb, .int (zI (k0))] (fun U => U.heap.size = sz ∧ va_P (dC, dI) vwQ ([] ++ va_pl L (pE P)) U.heap ∧ va_K (dC, dI) vwQ [(cO, .object "java/lang/Object")] U ∧ va_D (fun _ => True) ([] ++ va_pl L (pE P)))) (va_Qi (fun (r : Int32) (_ : Unit) => r = zI (rWay (P.bf xb) (P.bs xb) (k0))) (fun (_ : Unit) (t : State) => va_P (dC, dI) vwQ ([] ++ va_pl L (pE P)) t.heap ∧ va_K (dC, dI) vwQ [(cO, .object "java/lang/Object")] t ∧ va_D (va_A ([] ++ va_pl L (pE P)) sz) ([] ++ va_pl L (pE P))) (va_A ([] ++ va_pl L (pE P)) sz)) 0 0 (va_A ([] ++ va_pl L (pE P)) sz) := by
  refine Met.ofW (cc := cX12_way) (maxL := 2) (ret := (some .int)) (by decide) rfl ?_
  intro p e s m args below meth c s₁ B hml hv
  obtain ⟨rfl, hsz, hP, hK, hD0⟩ := hv
  have hx := B.exec
  have hb := B.bytes
  have hr := B.returns
  have hts := atoms_spec (ws := v_PB_way) B.pre
  have hown : s.vm.findClass RX12 = some m.cls := findClass_of_methodNamed B.named
  have hlocks := B.notSynchronized
  have ow : ∀ {k : Nat} {w : Cond}, o_PB_way[k]? = some w → w.before ([.ref xb, .int (zI (k0))] : List Value).toArray s = true := fun h => hts _ (mow_PB_way _ (List.mem_of_getElem? h))
  subst hsz
  have hD := hD0.self (sz := s.heap.size)
  generalize hAe : va_A ([] ++ va_pl L (pE P)) s.heap.size = A at hD ⊢
  have hA : ∀ q : Nat, s.heap.size ≤ q → A q := fun q h => by rw [← hAe]; exact Or.inr h
  have hS : va_S A s.heap s.heap [] := va_S.rf
  have hP : va_P (dC, dI) vwQ ([] ++ va_pl L (pE P)) s.heap := hP
  have hl := lv_entry ([.ref xb, .int (zI (k0))]) (n := 2) (Nat.le_of_ble_eq_true rfl)
  rw [lg_entry_eq]
  generalize (lg_sl ([.ref xb, .int (zI (k0))]) ++ List.replicate (2 - (lg_sl ([.ref xb, .int (zI (k0))])).length) Slot.unset).toArray = ls at hl ⊢
  have hl : lv_has ls 2 [(0, .ref xb), (1, .int (zI (k0)))] := hl
  obtain ⟨H, hH⟩ : ∃ H, H = s.heap := ⟨_, rfl⟩
  rw [← hH] at hP
  have hS : va_S A s.heap H [] := by rw [hH]; exact hS
  rw [← hH]
  refine zW_cap (fun Q hQ => ?_)
  have hfb := hX_B.2.2.2.2
  refine lv_iload_n hx hb dX12_way_0 rfl (lv_at hl 1 rfl) ?_
  refine lv_if_ne (tgt := 11) hx hb dX12_way_1 (by decide) (fun b1 => ?_) (fun b1 => ?_)
  · have yb1 : ¬ (k0 : Int) = (0 : Int) := fun q => b1 ((zI_eq (a := k0) (b := 0) (by omega) (by omega) (by omega) (by omega)).mpr q)
    refine lv_aload_n hx hb dX12_way_11 rfl (lv_at hl 0 rfl) ?_
    obtain ⟨kp_1, hkp_1⟩ := va_pl_get (X := []) (f := pE P) hX_B.1.1
    rw [pE_block hX_B.1.2] at hkp_1
    refine va_get (D := (dC, dI)) (ci := 19) (v := .int (zI (P.bs xb))) (C := RX12) (T := TX12) (N := 5) hx hb hts mem_PB_way_0 hown hK hP kp_1 hkp_1 rfl 4 (by decide) (ow (k := 0) rfl) (fun _ h9 => h9) rfl dX12_way_12 ?_
    subst hQ
    refine W.widen (k := 0) (n := 0) (Nat.le_of_ble_eq_true rfl) (Nat.le_of_ble_eq_true rfl) ?_
    exact W.iret (v := (zI (P.bs xb))) hx hb hr (fun t ht hW => ⟨⟨(zI (P.bs xb)), (), rfl, (congrArg zI (show (P.bs xb : Int) = rWay (P.bf xb) (P.bs xb) (k0) by unfold rWay; (repeat' split) <;> omega)), by rw [ht]; exact hP, va_K.moved hW.alike hK, hD⟩, hS.F ht⟩) hS.2.2 dX12_way_15
  · have yb1 : (k0 : Int) = (0 : Int) := (zI_eq (a := k0) (b := 0) (by omega) (by omega) (by omega) (by omega)).mp b1
    refine lv_aload_n hx hb dX12_way_4 rfl (lv_at hl 0 rfl) ?_
    obtain ⟨kp_2, hkp_2⟩ := va_pl_get (X := []) (f := pE P) hX_B.1.1
    rw [pE_block hX_B.1.2] at hkp_2
    refine va_get (D := (dC, dI)) (ci := 19) (v := .int (zI (P.bf xb))) (C := RX12) (T := TX12) (N := 5) hx hb hts mem_PB_way_0 hown hK hP kp_2 hkp_2 rfl 3 (by decide) (ow (k := 1) rfl) (fun _ h9 => h9) rfl dX12_way_5 ?_
    refine lv_goto (tgt := 15) hx hb dX12_way_8 (by decide) ?_
    subst hQ
    refine W.widen (k := 0) (n := 0) (Nat.le_of_ble_eq_true rfl) (Nat.le_of_ble_eq_true rfl) ?_
    exact W.iret (v := (zI (P.bf xb))) hx hb hr (fun t ht hW => ⟨⟨(zI (P.bf xb)), (), rfl, (congrArg zI (show (P.bf xb : Int) = rWay (P.bf xb) (P.bs xb) (k0) by unfold rWay; (repeat' split) <;> omega)), by rw [ht]; exact hP, va_K.moved hW.alike hK, hD⟩, hS.F ht⟩) hS.2.2 dX12_way_15
theorem dX19_leads_0 : decode cX19_leads 0 = .ok (.iconst 0, 1) := by decide +kernel
theorem dX19_leads_1 : decode cX19_leads 1 = .ok (.istore_n 2, 1) := by decide +kernel
theorem dX19_leads_2 : decode cX19_leads 2 = .ok (.iload_n 2, 1) := by decide +kernel
theorem dX19_leads_3 : decode cX19_leads 3 = .ok (.aload_n 0, 1) := by decide +kernel
theorem dX19_leads_4 : decode cX19_leads 4 = .ok (.invokevirtual 441, 3) := by decide +kernel
theorem dX19_leads_7 : decode cX19_leads 7 = .ok (.if_icmp .ge 20, 3) := by decide +kernel
theorem dX19_leads_27 : decode cX19_leads 27 = .ok (.iconst 0, 1) := by decide +kernel
theorem dX19_leads_28 : decode cX19_leads 28 = .ok (.ireturn, 1) := by decide +kernel
theorem dX19_leads_10 : decode cX19_leads 10 = .ok (.aload_n 0, 1) := by decide +kernel
theorem dX19_leads_11 : decode cX19_leads 11 = .ok (.iload_n 2, 1) := by decide +kernel
theorem dX19_leads_12 : decode cX19_leads 12 = .ok (.invokevirtual 451, 3) := by decide +kernel
theorem dX19_leads_15 : decode cX19_leads 15 = .ok (.iload_n 1, 1) := by decide +kernel
theorem dX19_leads_16 : decode cX19_leads 16 = .ok (.if_icmp .ne 5, 3) := by decide +kernel
theorem dX19_leads_21 : decode cX19_leads 21 = .ok (.iinc 2 1, 3) := by decide +kernel
theorem dX19_leads_24 : decode cX19_leads 24 = .ok (.goto (-22), 3) := by decide +kernel
theorem dX19_leads_19 : decode cX19_leads 19 = .ok (.iconst 1, 1) := by decide +kernel
theorem dX19_leads_20 : decode cX19_leads 20 = .ok (.ireturn, 1) := by decide +kernel
def o_P19_leads : List Cond := [.methodLink RX19 441 yX12_ways, .instanceMethod yX12_ways, .selects RX12 yX12_ways yX12_ways, .initialized RX12, .methodLink RX19 451 yX12_way, .instanceMethod yX12_way, .selects RX12 yX12_way yX12_way]
def v_P19_leads : List Cond := .code yX19_leads cX19_leads 3 (some .boolean) :: (o_P19_leads ++ (v_PB_ways ++ (v_PB_way ++ [])))
theorem mow_P19_leads : ∀ w ∈ o_P19_leads, w ∈ v_P19_leads := fun _ h => List.mem_cons_of_mem _ (List.mem_append_left _ h)
theorem mem_P19_leads_0 : ∀ w ∈ v_PB_ways, w ∈ v_P19_leads := fun _ h => List.mem_cons_of_mem _ (List.mem_append_right _ (List.mem_append_left _ h))
theorem mem_P19_leads_1 : ∀ w ∈ v_PB_way, w ∈ v_P19_leads := fun _ h => List.mem_cons_of_mem _ (List.mem_append_right _ (List.mem_append_right _ (List.mem_append_left _ h)))
set_option maxRecDepth 20000 in
theorem gw_P19_leads : v_P19_leads.all goodWord = true := by decide +kernel
set_option maxRecDepth 20000 in
theorem g_P19_leads_PB_ways : GoodIn v_P19_leads (wsV RX19 441 RX12 yX12_ways v_PB_ways) := goodIn_app (goodIn_sub (fun w h => mow_P19_leads w (by revert w h; decide +kernel)) (by decide +kernel)) (goodIn_sub mem_P19_leads_0 gw_PB_ways)
set_option maxRecDepth 20000 in
theorem g_P19_leads_PB_way : GoodIn v_P19_leads (wsV RX19 451 RX12 yX12_way v_PB_way) := goodIn_app (goodIn_sub (fun w h => mow_P19_leads w (by revert w h; decide +kernel)) (by decide +kernel)) (goodIn_sub mem_P19_leads_1 gw_PB_way)
set_option maxHeartbeats 4000000 in
set_option maxRecDepth 100000 in
theorem c_P19_leads (l : Launch) (dC : Nat → ClassId) (dI : Nat → Nat → Nat) (cO : ClassId) (L : List Nat) (P : PO) (xb : Nat) (nb : Int) (b0 : Int) (hX_B : BOK L P cO nb xb) (hX_ro : ∀ q : Nat, q ∈ L → P.kd q = 17 → ROK9 P q) (hNb : 0 ≤ b0 ∧ b0 ≤ 300 ∧ nb ≤ 300) (sz : Nat) : Met l yX19_leads v_P19_leads ({ frames := 1, cells := 0, slots := 0, locals := 21 }) (va_Pc [.ref xb, .int (zI (b0))] (fun U => U.heap.size = sz ∧ va_P (dC, dI) vwQ ([] ++ va_pl L (pE P)) U.heap ∧ va_K (dC, dI) vwQ [(cO, .object "java/lang/Object")] U ∧ va_D (fun _ => True) ([] ++ va_pl L (pE P)))) (va_Qi (fun (r : Int32) (_ : Unit) => ∃ z : Int, r = zI z ∧ (0 ≤ z ∧ z ≤ 1)) (fun (_ : Unit) (t : State) => va_P (dC, dI) vwQ ([] ++ va_pl L (pE P)) t.heap ∧ va_K (dC, dI) vwQ [(cO, .object "java/lang/Object")] t ∧ va_D (va_A ([] ++ va_pl L (pE P)) sz) ([] ++ va_pl L (pE P))) (va_A ([] ++ va_pl L (pE P)) sz)) 0 0 (va_A ([] ++ va_pl L (pE P)) sz) := by
  refine Met.ofW (cc := cX19_leads) (maxL := 3) (ret := (some .boolean)) (by decide) rfl ?_
  intro p e s m args below meth c s₁ B hml hv
  obtain ⟨rfl, hsz, hP, hK, hD0⟩ := hv
  have hx := B.exec
  have hb := B.bytes
  have hr := B.returns
  have hts := atoms_spec (ws := v_P19_leads) B.pre
  have hown : s.vm.findClass RX19 = some m.cls := findClass_of_methodNamed B.named
  have hlocks := B.notSynchronized
  have ow : ∀ {k : Nat} {w : Cond}, o_P19_leads[k]? = some w → w.before ([.ref xb, .int (zI (b0))] : List Value).toArray s = true := fun h => hts _ (mow_P19_leads _ (List.mem_of_getElem? h))
  subst hsz
  have hD := hD0.self (sz := s.heap.size)
  generalize hAe : va_A ([] ++ va_pl L (pE P)) s.heap.size = A at hD ⊢
  have hA : ∀ q : Nat, s.heap.size ≤ q → A q := fun q h => by rw [← hAe]; exact Or.inr h
  have hS : va_S A s.heap s.heap [] := va_S.rf
  have hP : va_P (dC, dI) vwQ ([] ++ va_pl L (pE P)) s.heap := hP
  have hl := lv_entry ([.ref xb, .int (zI (b0))]) (n := 3) (Nat.le_of_ble_eq_true rfl)
  rw [lg_entry_eq]
  generalize (lg_sl ([.ref xb, .int (zI (b0))]) ++ List.replicate (3 - (lg_sl ([.ref xb, .int (zI (b0))])).length) Slot.unset).toArray = ls at hl ⊢
  have hl : lv_has ls 3 [(0, .ref xb), (1, .int (zI (b0)))] := hl
  obtain ⟨H, hH⟩ : ∃ H, H = s.heap := ⟨_, rfl⟩
  rw [← hH] at hP
  have hS : va_S A s.heap H [] := by rw [hH]; exact hS
  rw [← hH]
  refine zW_cap (fun Q hQ => ?_)
  have hfb := hX_B.2.2.2.2
  refine lv_iconst (v := 0) hx hb dX19_leads_0 (by decide) ?_
  refine lv_istore_n (lv' := [(2, .int 0), (0, .ref xb), (1, .int (zI (b0)))]) hx hb dX19_leads_1 rfl hl (by decide) rfl (fun ls hl => ?_)
  have key2 : ∀ n2 : Nat, ∀ (d2_2 : Int) (ls : Array Slot) (H : Heap) (locs : List Loc), (0 ≤ d2_2 ∧ d2_2 ≤ 2) → ((10 - d2_2 : Int).toNat) < n2 → lv_has ls 3 [(0, .ref xb), (1, .int (zI (b0))), (2, .int (zI (d2_2)))] → va_P (dC, dI) vwQ ([] ++ va_pl L (pE P)) H → va_D A ([] ++ va_pl L (pE P)) → va_S A s.heap H locs → W p l e (headSpec v_P19_leads ({ frames := 1, cells := 0, slots := 0, locals := 21 })).room s m ([.ref xb, .int (zI (b0))] : List Value).toArray below meth c H locs 0 0 Q (F0 m 2 ls []) := by
    intro n2
    induction n2 with
    | zero => intro d2_2 ls H locs jd2_2 hm2; exact absurd hm2 (by omega)
    | succ n2 ih2 =>
      intro d2_2 ls H locs jd2_2 hm2 hl hP hD hS
      refine lv_iload_n hx hb dX19_leads_2 rfl (lv_at hl 2 rfl) ?_
      refine lv_aload_n hx hb dX19_leads_3 rfl (lv_at hl 0 rfl) ?_
      have hPc := hP.part (X := []) (cx := []) (pl := va_pl L (pE P)) [] rfl
      have hDc := hD.part (X := []) (cx := []) (pl := va_pl L (pE P)) [] (by decide) rfl
      have hKc := hK.sub (tys' := [(cO, .object "java/lang/Object")]) [0] rfl
      have hFc := va_freeP (X := []) (cx := []) (pl := va_pl L (pE P)) hD hS hA [] rfl
      refine va_calli (va_runV (As := []) (rest := [.int (zI (d2_2))]) ⟨hx, hb, hml, hown, hts⟩ (c_PB_ways l dC dI cO L P xb nb hX_B hX_ro (by omega) H.size) (cwV 0 hts g_P19_leads_PB_ways rfl rfl rfl (by decide +kernel) ⟨(Nat.le_of_ble_eq_true rfl), (Nat.le_of_ble_eq_true rfl)⟩) ⟨fun a U g mk q => by obtain ⟨q0, q1, qP, qK, qD⟩ := q; exact ⟨q0, q1, qP, va_K.moved (u := U) (U := U.calling g mk a) (Vm.Alike.refl U.vm) qK, qD⟩, recv_12 hKc hPc hX_B.1.1 hX_B.1.2, fun U hU hW => ⟨rfl, by rw [hU], by rw [hU]; exact hPc, va_K.moved hW.alike hKc, hDc.weaken (fun _ _ _ _ => trivial)⟩⟩ rfl rfl hl.1 rfl (lv_room (Nat.le_of_ble_eq_true rfl)) dX19_leads_4 ⟨(Nat.le_of_ble_eq_true rfl), (Nat.le_of_ble_eq_true rfl)⟩) hS (fun q _ h => hFc q h) hFc (fun r_1 u t H1 locs ht hvm hw hB hz1 hk1 hS => ?_)
      obtain ⟨hP1, hK1, hD1⟩ := hB
      rw [ht] at hP1
      have hK1 := va_K.moved hvm.symm hK1
      obtain ⟨hP, hD⟩ := va_joinP (X := []) (cx := []) (wr := []) (rx := []) (pl := va_pl L (pE P)) (pl1 := va_pl L (pE P)) hP hD [] [] rfl rfl (by decide) (by decide) hk1 hFc hP1 hD1
      have hK := (hK.sub (tys' := []) [] rfl).app hK1
      generalize H1 = H at hP hS ⊢
      have hP : va_P (dC, dI) vwQ ([] ++ va_pl L (pE P)) H := hP
      have hD : va_D A ([] ++ va_pl L (pE P)) := hD
      have hK : va_K (dC, dI) vwQ [(cO, .object "java/lang/Object")] s := hK
      refine W.widen (k := 0) (n := 0) (Nat.le_of_ble_eq_true rfl) (Nat.le_of_ble_eq_true rfl) ?_
      obtain rfl : r_1 = (zI (rWays (P.ro (P.be xb)) (P.bf xb) (P.bs xb))) := hw
      have := rWays_spec (P.ro (P.be xb)) (P.bf xb) (P.bs xb)
      refine lv_icmp_ge (tgt := 27) hx hb dX19_leads_7 (by decide) (fun b7 => ?_) (fun b7 => ?_)
      · have yb7 : (rWays (P.ro (P.be xb)) (P.bf xb) (P.bs xb) : Int) ≤ (d2_2 : Int) := (zI_le (a := rWays (P.ro (P.be xb)) (P.bf xb) (P.bs xb)) (b := d2_2) (by omega) (by omega) (by omega) (by omega)).mp b7
        refine lv_iconst (v := 0) hx hb dX19_leads_27 (by decide) ?_
        subst hQ
        refine W.widen (k := 0) (n := 0) (Nat.le_of_ble_eq_true rfl) (Nat.le_of_ble_eq_true rfl) ?_
        exact W.zret (v := 0) hx hb hr (by decide) (fun t ht hW => ⟨⟨0, (), rfl, ⟨0, rfl, by omega⟩, by rw [ht]; exact hP, va_K.moved hW.alike hK, hD⟩, hS.F ht⟩) hS.2.2 dX19_leads_28
      · have yb7 : ¬ (rWays (P.ro (P.be xb)) (P.bf xb) (P.bs xb) : Int) ≤ (d2_2 : Int) := fun q => b7 ((zI_le (a := rWays (P.ro (P.be xb)) (P.bf xb) (P.bs xb)) (b := d2_2) (by omega) (by omega) (by omega) (by omega)).mpr q)
        refine lv_aload_n hx hb dX19_leads_10 rfl (lv_at hl 0 rfl) ?_
        refine lv_iload_n hx hb dX19_leads_11 rfl (lv_at hl 2 rfl) ?_
        have hPc := hP.part (X := []) (cx := []) (pl := va_pl L (pE P)) [] rfl
        have hDc := hD.part (X := []) (cx := []) (pl := va_pl L (pE P)) [] (by decide) rfl
        have hKc := hK.sub (tys' := [(cO, .object "java/lang/Object")]) [0] rfl
        have hFc := va_freeP (X := []) (cx := []) (pl := va_pl L (pE P)) hD hS hA [] rfl
        refine va_calli (va_runV (As := [.int (zI (d2_2))]) (rest := []) ⟨hx, hb, hml, hown, hts⟩ (c_PB_way l dC dI cO L P xb nb d2_2 hX_B (by omega) H.size) (cwV 1 hts g_P19_leads_PB_way rfl rfl rfl (by decide +kernel) ⟨(Nat.le_of_ble_eq_true rfl), (Nat.le_of_ble_eq_true rfl)⟩) ⟨fun a U g mk q => by obtain ⟨q0, q1, qP, qK, qD⟩ := q; exact ⟨q0, q1, qP, va_K.moved (u := U) (U := U.calling g mk a) (Vm.Alike.refl U.vm) qK, qD⟩, recv_12 hKc hPc hX_B.1.1 hX_B.1.2, fun U hU hW => ⟨rfl, by rw [hU], by rw [hU]; exact hPc, va_K.moved hW.alike hKc, hDc.weaken (fun _ _ _ _ => trivial)⟩⟩ rfl rfl hl.1 rfl (lv_room (Nat.le_of_ble_eq_true rfl)) dX19_leads_12 ⟨(Nat.le_of_ble_eq_true rfl), (Nat.le_of_ble_eq_true rfl)⟩) hS (fun q _ h => hFc q h) hFc (fun r_2 u t H1 locs ht hvm hw hB hz1 hk1 hS => ?_)
        obtain ⟨hP1, hK1, hD1⟩ := hB
        rw [ht] at hP1
        have hK1 := va_K.moved hvm.symm hK1
        obtain ⟨hP, hD⟩ := va_joinP (X := []) (cx := []) (wr := []) (rx := []) (pl := va_pl L (pE P)) (pl1 := va_pl L (pE P)) hP hD [] [] rfl rfl (by decide) (by decide) hk1 hFc hP1 hD1
        have hK := (hK.sub (tys' := []) [] rfl).app hK1
        generalize H1 = H at hP hS ⊢
        have hP : va_P (dC, dI) vwQ ([] ++ va_pl L (pE P)) H := hP
        have hD : va_D A ([] ++ va_pl L (pE P)) := hD
        have hK : va_K (dC, dI) vwQ [(cO, .object "java/lang/Object")] s := hK
        refine W.widen (k := 0) (n := 0) (Nat.le_of_ble_eq_true rfl) (Nat.le_of_ble_eq_true rfl) ?_
        obtain rfl : r_2 = (zI (rWay (P.bf xb) (P.bs xb) (d2_2))) := hw
        have := rWay_spec (P.bf xb) (P.bs xb) (d2_2)
        refine lv_iload_n hx hb dX19_leads_15 rfl (lv_at hl 1 rfl) ?_
        refine lv_icmp_ne (tgt := 21) hx hb dX19_leads_16 (by decide) (fun b16 => ?_) (fun b16 => ?_)
        · have yb16 : ¬ (rWay (P.bf xb) (P.bs xb) (d2_2) : Int) = (b0 : Int) := fun q => b16 ((zI_eq (a := rWay (P.bf xb) (P.bs xb) (d2_2)) (b := b0) (by omega) (by omega) (by omega) (by omega)).mpr q)
          refine lv_iinc (v := zI (d2_2 + 1)) (lv' := [(2, .int (zI (d2_2 + 1))), (0, .ref xb), (1, .int (zI (b0)))]) hx hb dX19_leads_21 hl (k := 2) rfl (zI_add (d2_2) (1)) (by decide) rfl (fun ls hl => ?_)
          refine lv_goto (tgt := 2) hx hb dX19_leads_24 (by decide) ?_
          exact ih2 (d2_2 + 1) ls H _ (by omega) (by omega) (lv_sub hl [1, 2, 0] rfl) hP hD hS
        · have yb16 : (rWay (P.bf xb) (P.bs xb) (d2_2) : Int) = (b0 : Int) := (zI_eq (a := rWay (P.bf xb) (P.bs xb) (d2_2)) (b := b0) (by omega) (by omega) (by omega) (by omega)).mp b16
          refine lv_iconst (v := 1) hx hb dX19_leads_19 (by decide) ?_
          subst hQ
          refine W.widen (k := 0) (n := 0) (Nat.le_of_ble_eq_true rfl) (Nat.le_of_ble_eq_true rfl) ?_
          exact W.zret (v := 1) hx hb hr (by decide) (fun t ht hW => ⟨⟨1, (), rfl, ⟨1, rfl, by omega⟩, by rw [ht]; exact hP, va_K.moved hW.alike hK, hD⟩, hS.F ht⟩) hS.2.2 dX19_leads_20
  exact key2 ((10 - 0 : Int).toNat + 1) 0 ls H _ (by omega) (by omega) (lv_sub hl [1, 2, 0] rfl) hP hD hS
