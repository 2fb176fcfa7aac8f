def o_P19_leadsE : List Cond := [.methodLink RX19 441 yX12_ways, .instanceMethod yX12_ways, .selects RX12 yX12_ways yX12_ways, .initialized RX12, .methodLink RX19 451 yX12_way, .instanceMethod yX12_way, .selects RX12 yX12_way yX12_way]
def v_P19_leadsE : List Cond := .code yX19_leads cX19_leads 3 (some .boolean) :: (o_P19_leadsE ++ (v_PB_ways ++ (v_PB_way ++ [])))
theorem mow_P19_leadsE : ∀ w ∈ o_P19_leadsE, w ∈ v_P19_leadsE := fun _ h => List.mem_cons_of_mem _ (List.mem_append_left _ h)
theorem mem_P19_leadsE_0 : ∀ w ∈ v_PB_ways, w ∈ v_P19_leadsE := fun _ h => List.mem_cons_of_mem _ (List.mem_append_right _ (List.mem_append_left _ h))
theorem mem_P19_leadsE_1 : ∀ w ∈ v_PB_way, w ∈ v_P19_leadsE := fun _ h => List.mem_cons_of_mem _ (List.mem_append_right _ (List.mem_append_right _ (List.mem_append_left _ h)))
set_option maxRecDepth 20000 in
theorem gw_P19_leadsE : v_P19_leadsE.all goodWord = true := by decide +kernel
set_option maxRecDepth 20000 in
theorem g_P19_leadsE_PB_ways : GoodIn v_P19_leadsE (wsV RX19 441 RX12 yX12_ways v_PB_ways) := goodIn_app (goodIn_sub (fun w h => mow_P19_leadsE w (by revert w h; decide +kernel)) (by decide +kernel)) (goodIn_sub mem_P19_leadsE_0 gw_PB_ways)
set_option maxRecDepth 20000 in
theorem g_P19_leadsE_PB_way : GoodIn v_P19_leadsE (wsV RX19 451 RX12 yX12_way v_PB_way) := goodIn_app (goodIn_sub (fun w h => mow_P19_leadsE w (by revert w h; decide +kernel)) (by decide +kernel)) (goodIn_sub mem_P19_leadsE_1 gw_PB_way)
set_option maxHeartbeats 4000000 in
set_option maxRecDepth 100000 in
theorem c_P19_leadsE (l : Launch) (dC : Nat → ClassId) (dI : Nat → Nat → Nat) (cO : ClassId) (L : List Nat) (P : PO) (xb : Nat) (nb : Int) (b0 : Int) (hX_B : BOK L P cO nb xb) (hX_ro : ∀ q : Nat, q ∈ L → P.kd q = 17 → ROK9 P q) (hNb : 0 ≤ b0 ∧ b0 ≤ 300 ∧ nb ≤ 300) (sz : Nat) : Met l yX19_leads v_P19_leadsE ({ frames := 1, cells := 0, slots := 0, locals := 21 }) (va_Pc [.ref xb, .int (zI (b0))] (fun U => U.heap.size = sz ∧ va_P (dC, dI) vwQ ([] ++ va_pl L (pE P)) U.heap ∧ va_K (dC, dI) vwQ [(cO, .object "java/lang/Object")] U ∧ va_D (fun _ => True) ([] ++ va_pl L (pE P)))) (va_Qi (fun (r : Int32) (_ : Unit) => ∃ z : Int, r = zI z ∧ (0 ≤ z ∧ z ≤ 1 ∧ ANS z (∃ k9 : Int, 0 ≤ k9 ∧ k9 < rWays (P.ro (P.be xb)) (P.bf xb) (P.bs xb) ∧ rWay (P.bf xb) (P.bs xb) k9 = b0))) (fun (_ : Unit) (t : State) => va_P (dC, dI) vwQ ([] ++ va_pl L (pE P)) t.heap ∧ va_K (dC, dI) vwQ [(cO, .object "java/lang/Object")] t ∧ va_D (va_A ([] ++ va_pl L (pE P)) sz) ([] ++ va_pl L (pE P))) (va_A ([] ++ va_pl L (pE P)) sz)) 0 0 (va_A ([] ++ va_pl L (pE P)) sz) := by
  refine Met.ofW (cc := cX19_leads) (maxL := 3) (ret := (some .boolean)) (by decide) rfl ?_
  intro p e s m args below meth c s₁ B hml hv
  obtain ⟨rfl, hsz, hP, hK, hD0⟩ := hv
  have hx := B.exec
  have hb := B.bytes
  have hr := B.returns
  have hts := atoms_spec (ws := v_P19_leadsE) B.pre
  have hown : s.vm.findClass RX19 = some m.cls := findClass_of_methodNamed B.named
  have hlocks := B.notSynchronized
  have ow : ∀ {k : Nat} {w : Cond}, o_P19_leadsE[k]? = some w → w.before ([.ref xb, .int (zI (b0))] : List Value).toArray s = true := fun h => hts _ (mow_P19_leadsE _ (List.mem_of_getElem? h))
  subst hsz
  have hD := hD0.self (sz := s.heap.size)
  generalize hAe : va_A ([] ++ va_pl L (pE P)) s.heap.size = A at hD ⊢
  have hA : ∀ q : Nat, s.heap.size ≤ q → A q := fun q h => by rw [← hAe]; exact Or.inr h
  have hS : va_S A s.heap s.heap [] := va_S.rf
  have hP : va_P (dC, dI) vwQ ([] ++ va_pl L (pE P)) s.heap := hP
  have hl := lv_entry ([.ref xb, .int (zI (b0))]) (n := 3) (Nat.le_of_ble_eq_true rfl)
  rw [lg_entry_eq]
  generalize (lg_sl ([.ref xb, .int (zI (b0))]) ++ List.replicate (3 - (lg_sl ([.ref xb, .int (zI (b0))])).length) Slot.unset).toArray = ls at hl ⊢
  have hl : lv_has ls 3 [(0, .ref xb), (1, .int (zI (b0)))] := hl
  obtain ⟨H, hH⟩ : ∃ H, H = s.heap := ⟨_, rfl⟩
  rw [← hH] at hP
  have hS : va_S A s.heap H [] := by rw [hH]; exact hS
  rw [← hH]
  refine zW_cap (fun Q hQ => ?_)
  have hfb := hX_B.2.2.2.2
  refine lv_iconst (v := 0) hx hb dX19_leads_0 (by decide) ?_
  refine lv_istore_n (lv' := [(2, .int 0), (0, .ref xb), (1, .int (zI (b0)))]) hx hb dX19_leads_1 rfl hl (by decide) rfl (fun ls hl => ?_)
  have key2 : ∀ n2 : Nat, ∀ (d2_2 : Int) (ls : Array Slot) (H : Heap) (locs : List Loc), (0 ≤ d2_2 ∧ d2_2 ≤ 2) → (∀ k9 : Int, 0 ≤ k9 → k9 < d2_2 → rWay (P.bf xb) (P.bs xb) k9 ≠ b0) → ((10 - d2_2 : Int).toNat) < n2 → lv_has ls 3 [(0, .ref xb), (1, .int (zI (b0))), (2, .int (zI (d2_2)))] → va_P (dC, dI) vwQ ([] ++ va_pl L (pE P)) H → va_D A ([] ++ va_pl L (pE P)) → va_S A s.heap H locs → W p l e (headSpec v_P19_leadsE ({ frames := 1, cells := 0, slots := 0, locals := 21 })).room s m ([.ref xb, .int (zI (b0))] : List Value).toArray below meth c H locs 0 0 Q (F0 m 2 ls []) := by
    intro n2
    induction n2 with
    | zero => intro d2_2 ls H locs jd2_2 jw2 hm2; exact absurd hm2 (by omega)
    | succ n2 ih2 =>
      intro d2_2 ls H locs jd2_2 jw2 hm2 hl hP hD hS
      refine lv_iload_n hx hb dX19_leads_2 rfl (lv_at hl 2 rfl) ?_
      refine lv_aload_n hx hb dX19_leads_3 rfl (lv_at hl 0 rfl) ?_
      have hPc := hP.part (X := []) (cx := []) (pl := va_pl L (pE P)) [] rfl
      have hDc := hD.part (X := []) (cx := []) (pl := va_pl L (pE P)) [] (by decide) rfl
      have hKc := hK.sub (tys' := [(cO, .object "java/lang/Object")]) [0] rfl
      have hFc := va_freeP (X := []) (cx := []) (pl := va_pl L (pE P)) hD hS hA [] rfl
      refine va_calli (va_runV (As := []) (rest := [.int (zI (d2_2))]) ⟨hx, hb, hml, hown, hts⟩ (c_PB_ways l dC dI cO L P xb nb hX_B hX_ro (by omega) H.size) (cwV 0 hts g_P19_leadsE_PB_ways rfl rfl rfl (by decide +kernel) ⟨(Nat.le_of_ble_eq_true rfl), (Nat.le_of_ble_eq_true rfl)⟩) ⟨fun a U g mk q => by obtain ⟨q0, q1, qP, qK, qD⟩ := q; exact ⟨q0, q1, qP, va_K.moved (u := U) (U := U.calling g mk a) (Vm.Alike.refl U.vm) qK, qD⟩, recv_12 hKc hPc hX_B.1.1 hX_B.1.2, fun U hU hW => ⟨rfl, by rw [hU], by rw [hU]; exact hPc, va_K.moved hW.alike hKc, hDc.weaken (fun _ _ _ _ => trivial)⟩⟩ rfl rfl hl.1 rfl (lv_room (Nat.le_of_ble_eq_true rfl)) dX19_leads_4 ⟨(Nat.le_of_ble_eq_true rfl), (Nat.le_of_ble_eq_true rfl)⟩) hS (fun q _ h => hFc q h) hFc (fun r_1 u t H1 locs ht hvm hw hB hz1 hk1 hS => ?_)
      obtain ⟨hP1, hK1, hD1⟩ := hB
      rw [ht] at hP1
      have hK1 := va_K.moved hvm.symm hK1
      obtain ⟨hP, hD⟩ := va_joinP (X := []) (cx := []) (wr := []) (rx := []) (pl := va_pl L (pE P)) (pl1 := va_pl L (pE P)) hP hD [] [] rfl rfl (by decide) (by decide) hk1 hFc hP1 hD1
      have hK := (hK.sub (tys' := []) [] rfl).app hK1
      generalize H1 = H at hP hS ⊢
      have hP : va_P (dC, dI) vwQ ([] ++ va_pl L (pE P)) H := hP
      have hD : va_D A ([] ++ va_pl L (pE P)) := hD
      have hK : va_K (dC, dI) vwQ [(cO, .object "java/lang/Object")] s := hK
      refine W.widen (k := 0) (n := 0) (Nat.le_of_ble_eq_true rfl) (Nat.le_of_ble_eq_true rfl) ?_
      obtain rfl : r_1 = (zI (rWays (P.ro (P.be xb)) (P.bf xb) (P.bs xb))) := hw
      have := rWays_spec (P.ro (P.be xb)) (P.bf xb) (P.bs xb)
      refine lv_icmp_ge (tgt := 27) hx hb dX19_leads_7 (by decide) (fun b7 => ?_) (fun b7 => ?_)
      · have yb7 : (rWays (P.ro (P.be xb)) (P.bf xb) (P.bs xb) : Int) ≤ (d2_2 : Int) := (zI_le (a := rWays (P.ro (P.be xb)) (P.bf xb) (P.bs xb)) (b := d2_2) (by omega) (by omega) (by omega) (by omega)).mp b7
        refine lv_iconst (v := 0) hx hb dX19_leads_27 (by decide) ?_
        subst hQ
        refine W.widen (k := 0) (n := 0) (Nat.le_of_ble_eq_true rfl) (Nat.le_of_ble_eq_true rfl) ?_
        exact W.zret (v := 0) hx hb hr (by decide) (fun t ht hW => ⟨⟨0, (), rfl, ⟨0, rfl, (by first | exact ⟨by omega, by omega, (fun _ => ⟨d2_2, by omega, by omega, by omega⟩), (fun q9 => absurd q9 (by decide))⟩ | exact ⟨by omega, by omega, (fun q9 => absurd rfl q9), (fun _ w9 => by obtain ⟨k9, k0, k1, e9⟩ := w9; exact jw2 k9 k0 (by omega) e9)⟩)⟩, by rw [ht]; exact hP, va_K.moved hW.alike hK, hD⟩, hS.F ht⟩) hS.2.2 dX19_leads_28
      · have yb7 : ¬ (rWays (P.ro (P.be xb)) (P.bf xb) (P.bs xb) : Int) ≤ (d2_2 : Int) := fun q => b7 ((zI_le (a := rWays (P.ro (P.be xb)) (P.bf xb) (P.bs xb)) (b := d2_2) (by omega) (by omega) (by omega) (by omega)).mpr q)
        refine lv_aload_n hx hb dX19_leads_10 rfl (lv_at hl 0 rfl) ?_
        refine lv_iload_n hx hb dX19_leads_11 rfl (lv_at hl 2 rfl) ?_
        have hPc := hP.part (X := []) (cx := []) (pl := va_pl L (pE P)) [] rfl
        have hDc := hD.part (X := []) (cx := []) (pl := va_pl L (pE P)) [] (by decide) rfl
        have hKc := hK.sub (tys' := [(cO, .object "java/lang/Object")]) [0] rfl
        have hFc := va_freeP (X := []) (cx := []) (pl := va_pl L (pE P)) hD hS hA [] rfl
        refine va_calli (va_runV (As := [.int (zI (d2_2))]) (rest := []) ⟨hx, hb, hml, hown, hts⟩ (c_PB_way l dC dI cO L P xb nb d2_2 hX_B (by omega) H.size) (cwV 1 hts g_P19_leadsE_PB_way rfl rfl rfl (by decide +kernel) ⟨(Nat.le_of_ble_eq_true rfl), (Nat.le_of_ble_eq_true rfl)⟩) ⟨fun a U g mk q => by obtain ⟨q0, q1, qP, qK, qD⟩ := q; exact ⟨q0, q1, qP, va_K.moved (u := U) (U := U.calling g mk a) (Vm.Alike.refl U.vm) qK, qD⟩, recv_12 hKc hPc hX_B.1.1 hX_B.1.2, fun U hU hW => ⟨rfl, by rw [hU], by rw [hU]; exact hPc, va_K.moved hW.alike hKc, hDc.weaken (fun _ _ _ _ => trivial)⟩⟩ rfl rfl hl.1 rfl (lv_room (Nat.le_of_ble_eq_true rfl)) dX19_leads_12 ⟨(Nat.le_of_ble_eq_true rfl), (Nat.le_of_ble_eq_true rfl)⟩) hS (fun q _ h => hFc q h) hFc (fun r_2 u t H1 locs ht hvm hw hB hz1 hk1 hS => ?_)
        obtain ⟨hP1, hK1, hD1⟩ := hB
        rw [ht] at hP1
        have hK1 := va_K.moved hvm.symm hK1
        obtain ⟨hP, hD⟩ := va_joinP (X := []) (cx := []) (wr := []) (rx := []) (pl := va_pl L (pE P)) (pl1 := va_pl L (pE P)) hP hD [] [] rfl rfl (by decide) (by decide) hk1 hFc hP1 hD1
        have hK := (hK.sub (tys' := []) [] rfl).app hK1
        generalize H1 = H at hP hS ⊢
        have hP : va_P (dC, dI) vwQ ([] ++ va_pl L (pE P)) H := hP
        have hD : va_D A ([] ++ va_pl L (pE P)) := hD
        have hK : va_K (dC, dI) vwQ [(cO, .object "java/lang/Object")] s := hK
        refine W.widen (k := 0) (n := 0) (Nat.le_of_ble_eq_true rfl) (Nat.le_of_ble_eq_true rfl) ?_
        obtain rfl : r_2 = (zI (rWay (P.bf xb) (P.bs xb) (d2_2))) := hw
        have := rWay_spec (P.bf xb) (P.bs xb) (d2_2)
        refine lv_iload_n hx hb dX19_leads_15 rfl (lv_at hl 1 rfl) ?_
        refine lv_icmp_ne (tgt := 21) hx hb dX19_leads_16 (by decide) (fun b16 => ?_) (fun b16 => ?_)
        · have yb16 : ¬ (rWay (P.bf xb) (P.bs xb) (d2_2) : Int) = (b0 : Int) := fun q => b16 ((zI_eq (a := rWay (P.bf xb) (P.bs xb) (d2_2)) (b := b0) (by omega) (by omega) (by omega) (by omega)).mpr q)
          refine lv_iinc (v := zI (d2_2 + 1)) (lv' := [(2, .int (zI (d2_2 + 1))), (0, .ref xb), (1, .int (zI (b0)))]) hx hb dX19_leads_21 hl (k := 2) rfl (zI_add (d2_2) (1)) (by decide) rfl (fun ls hl => ?_)
          refine lv_goto (tgt := 2) hx hb dX19_leads_24 (by decide) ?_
          exact ih2 (d2_2 + 1) ls H _ (by omega) (fun k9 h0 h1 e8 => by by_cases e9 : k9 = d2_2; (rw [e9] at e8; omega); exact jw2 k9 h0 (by omega) e8) (by omega) (lv_sub hl [1, 2, 0] rfl) hP hD hS
        · have yb16 : (rWay (P.bf xb) (P.bs xb) (d2_2) : Int) = (b0 : Int) := (zI_eq (a := rWay (P.bf xb) (P.bs xb) (d2_2)) (b := b0) (by omega) (by omega) (by omega) (by omega)).mp b16
          refine lv_iconst (v := 1) hx hb dX19_leads_19 (by decide) ?_
          subst hQ
          refine W.widen (k := 0) (n := 0) (Nat.le_of_ble_eq_true rfl) (Nat.le_of_ble_eq_true rfl) ?_
          exact W.zret (v := 1) hx hb hr (by decide) (fun t ht hW => ⟨⟨1, (), rfl, ⟨1, rfl, (by first | exact ⟨by omega, by omega, (fun _ => ⟨d2_2, by omega, by omega, by omega⟩), (fun q9 => absurd q9 (by decide))⟩ | exact ⟨by omega, by omega, (fun q9 => absurd rfl q9), (fun _ w9 => by obtain ⟨k9, k0, k1, e9⟩ := w9; exact jw2 k9 k0 (by omega) e9)⟩)⟩, by rw [ht]; exact hP, va_K.moved hW.alike hK, hD⟩, hS.F ht⟩) hS.2.2 dX19_leads_20
  exact key2 ((10 - 0 : Int).toNat + 1) 0 ls H _ (by omega) (fun k9 h0 h1 => by omega) (by omega) (lv_sub hl [1, 2, 0] rfl) hP hD hS
