def o_PP_placeX : List Cond := [.fieldLink RX15 24 "SsaForgeModel$Phi" "n" "I", .fieldLink RX15 7 "SsaForgeModel$Phi" "preds" "[I"]
def v_PP_placeX : List Cond := .code yX15_place cX15_place 3 (some .int) :: (o_PP_placeX ++ (wsX150 ++ []))
theorem mow_PP_placeX : ∀ w ∈ o_PP_placeX, w ∈ v_PP_placeX := fun _ h => List.mem_cons_of_mem _ (List.mem_append_left _ h)
theorem mem_PP_placeX_0 : ∀ w ∈ wsX150, w ∈ v_PP_placeX := fun _ h => List.mem_cons_of_mem _ (List.mem_append_right _ (List.mem_append_left _ h))
set_option maxRecDepth 20000 in
theorem gw_PP_placeX : v_PP_placeX.all goodWord = true := by decide +kernel
set_option maxHeartbeats 4000000 in
set_option maxRecDepth 100000 in
theorem c_PP_placeX (l : Launch) (dC : Nat → ClassId) (dI : Nat → Nat → Nat) (cO : ClassId) (cI : ClassId) (cZ : ClassId) (L : List Nat) (P : PO) (xp : Nat) (p0 : Int) (hX_p : PIK L P cI cZ xp) (hNp : 0 ≤ p0 ∧ p0 ≤ 300) (sz : Nat) : Met l yX15_place v_PP_placeX ({ frames := 0, cells := 0, slots := 0, locals := 0 }) (va_Pc [.ref xp, .int (zI (p0))] (fun U => U.heap.size = sz ∧ va_P (dC, dI) vwQ ([] ++ va_pl L (pE P)) U.heap ∧ va_K (dC, dI) vwQ [(cO, .object "java/lang/Object"), (cI, .int), (cZ, .boolean)] U ∧ va_D (fun _ => True) ([] ++ va_pl L (pE P)))) (va_Qi (fun (r : Int32) (_ : Unit) => ∃ z : Int, r = zI z ∧ (-1 ≤ z ∧ z < P.pn xp ∧ (HPP P xp p0 → 0 ≤ z))) (fun (_ : Unit) (t : State) => va_P (dC, dI) vwQ ([] ++ va_pl L (pE P)) t.heap ∧ va_K (dC, dI) vwQ [(cO, .object "java/lang/Object"), (cI, .int), (cZ, .boolean)] t ∧ va_D (va_A ([] ++ va_pl L (pE P)) sz) ([] ++ va_pl L (pE P))) (va_A ([] ++ va_pl L (pE P)) sz)) 0 0 (va_A ([] ++ va_pl L (pE P)) sz) := by
  refine Met.ofW (cc := cX15_place) (maxL := 3) (ret := (some .int)) (by decide) rfl ?_
  intro p e s m args below meth c s₁ B hml hv
  obtain ⟨rfl, hsz, hP, hK, hD0⟩ := hv
  have hx := B.exec
  have hb := B.bytes
  have hr := B.returns
  have hts := atoms_spec (ws := v_PP_placeX) B.pre
  have hown : s.vm.findClass RX15 = some m.cls := findClass_of_methodNamed B.named
  have hlocks := B.notSynchronized
  have ow : ∀ {k : Nat} {w : Cond}, o_PP_placeX[k]? = some w → w.before ([.ref xp, .int (zI (p0))] : List Value).toArray s = true := fun h => hts _ (mow_PP_placeX _ (List.mem_of_getElem? h))
  subst hsz
  have hD := hD0.self (sz := s.heap.size)
  generalize hAe : va_A ([] ++ va_pl L (pE P)) s.heap.size = A at hD ⊢
  have hA : ∀ q : Nat, s.heap.size ≤ q → A q := fun q h => by rw [← hAe]; exact Or.inr h
  have hS : va_S A s.heap s.heap [] := va_S.rf
  have hP : va_P (dC, dI) vwQ ([] ++ va_pl L (pE P)) s.heap := hP
  have hl := lv_entry ([.ref xp, .int (zI (p0))]) (n := 3) (Nat.le_of_ble_eq_true rfl)
  rw [lg_entry_eq]
  generalize (lg_sl ([.ref xp, .int (zI (p0))]) ++ List.replicate (3 - (lg_sl ([.ref xp, .int (zI (p0))])).length) Slot.unset).toArray = ls at hl ⊢
  have hl : lv_has ls 3 [(0, .ref xp), (1, .int (zI (p0)))] := hl
  obtain ⟨H, hH⟩ : ∃ H, H = s.heap := ⟨_, rfl⟩
  rw [← hH] at hP
  have hS : va_S A s.heap H [] := by rw [hH]; exact hS
  rw [← hH]
  refine zW_cap (fun Q hQ => ?_)
  have hpn := hX_p.2.2.2.2.1
  have hpt := hX_p.2.2.2.2.2.1
  have hpa := hX_p.2.2.2.2.2.2
  refine lv_iconst (v := 0) hx hb dX15_place_0 (by decide) ?_
  refine lv_istore_n (lv' := [(2, .int 0), (0, .ref xp), (1, .int (zI (p0)))]) hx hb dX15_place_1 rfl hl (by decide) rfl (fun ls hl => ?_)
  have key2 : ∀ n2 : Nat, ∀ (d2_2 : Int) (ls : Array Slot) (H : Heap) (locs : List Loc), (0 ≤ d2_2 ∧ d2_2 ≤ P.pn xp) → (∀ k : Int, 0 ≤ k → k < d2_2 → P.ia (P.pp xp) k ≠ p0) → ((P.pn xp - d2_2 : Int).toNat) < n2 → lv_has ls 3 [(0, .ref xp), (1, .int (zI (p0))), (2, .int (zI (d2_2)))] → va_P (dC, dI) vwQ ([] ++ va_pl L (pE P)) H → va_D A ([] ++ va_pl L (pE P)) → va_S A s.heap H locs → W p l e (headSpec v_PP_placeX ({ frames := 0, cells := 0, slots := 0, locals := 0 })).room s m ([.ref xp, .int (zI (p0))] : List Value).toArray below meth c H locs 0 0 Q (F0 m 2 ls []) := by
    intro n2
    induction n2 with
    | zero => intro d2_2 ls H locs jd2_2 jh hm2; exact absurd hm2 (by omega)
    | succ n2 ih2 =>
      intro d2_2 ls H locs jd2_2 jh hm2 hl hP hD hS
      refine lv_iload_n hx hb dX15_place_2 rfl (lv_at hl 2 rfl) ?_
      refine lv_aload_n hx hb dX15_place_3 rfl (lv_at hl 0 rfl) ?_
      obtain ⟨kp_1, hkp_1⟩ := va_pl_get (X := []) (f := pE P) hX_p.1.1
      rw [pE_phi hX_p.1.2] at hkp_1
      refine va_get (D := (dC, dI)) (ci := 20) (v := .int (zI (P.pn xp))) (C := RX15) (T := TX15) (N := 6) hx hb hts mem_PP_placeX_0 hown hK hP kp_1 hkp_1 rfl 1 (by decide) (ow (k := 0) rfl) (fun _ h9 => h9) rfl dX15_place_4 ?_
      refine lv_icmp_ge (tgt := 28) hx hb dX15_place_7 (by decide) (fun b7 => ?_) (fun b7 => ?_)
      · have yb7 : (P.pn xp : Int) ≤ (d2_2 : Int) := (zI_le (a := P.pn xp) (b := d2_2) (by omega) (by omega) (by omega) (by omega)).mp b7
        refine lv_iconst (v := (-1)) hx hb dX15_place_28 (by decide) ?_
        subst hQ
        refine W.widen (k := 0) (n := 0) (Nat.le_of_ble_eq_true rfl) (Nat.le_of_ble_eq_true rfl) ?_
        exact W.iret (v := (-1)) hx hb hr (fun t ht hW => ⟨⟨(-1), (), rfl, ⟨-1, rfl, (by first | exact ⟨by omega, by omega, fun _ => by omega⟩ | exact ⟨by omega, by omega, fun ⟨k, k0, k1, k2⟩ => absurd k2 (jh k k0 (by omega))⟩)⟩, by rw [ht]; exact hP, va_K.moved hW.alike hK, hD⟩, hS.F ht⟩) hS.2.2 dX15_place_29
      · have yb7 : ¬ (P.pn xp : Int) ≤ (d2_2 : Int) := fun q => b7 ((zI_le (a := P.pn xp) (b := d2_2) (by omega) (by omega) (by omega) (by omega)).mpr q)
        refine lv_aload_n hx hb dX15_place_10 rfl (lv_at hl 0 rfl) ?_
        obtain ⟨kp_2, hkp_2⟩ := va_pl_get (X := []) (f := pE P) hX_p.1.1
        rw [pE_phi hX_p.1.2] at hkp_2
        refine va_get (D := (dC, dI)) (ci := 20) (v := .ref (P.pp xp)) (C := RX15) (T := TX15) (N := 6) hx hb hts mem_PP_placeX_0 hown hK hP kp_2 hkp_2 rfl 2 (by decide) (ow (k := 1) rfl) (fun _ h9 => h9) rfl dX15_place_11 ?_
        obtain ⟨pr_3, epr_3⟩ : ∃ q9 : Nat, q9 = P.pp xp := ⟨_, rfl⟩
        rw [← epr_3]
        have hopr_3 : pr_3 ∈ L ∧ P.kd pr_3 = 40 ∧ P.ac pr_3 = cI ∧ P.ow pr_3 = xp := (by rw [epr_3]; exact hX_p.2.1)
        have hnpr_3 : P.an pr_3 = P.an (P.pp xp) := (by rw [epr_3])
        have hipr_3 : P.ia pr_3 = P.ia (P.pp xp) := (by rw [epr_3])
        refine lv_iload_n hx hb dX15_place_14 rfl (lv_at hl 2 rfl) ?_
        obtain ⟨kp_4, hkp_4⟩ := va_pl_get (X := []) (f := pE P) hopr_3.1
        rw [pE_n40 hopr_3.2.1, hopr_3.2.2.1] at hkp_4
        refine va_iald hx hb hK hP kp_4 1 hkp_4 rfl (zI_in (a := d2_2) (n := P.an pr_3) (by omega) (by omega) (by omega)) dX15_place_15 ?_
        refine lv_topi (fun z ez => ?_)
        obtain rfl : z = zI (P.ia pr_3 (d2_2)) := ez.trans (zI_ld (P.ia pr_3) (by omega) (by omega))
        have hv := (hpa (d2_2) (by omega) (by omega)).1
        rw [← hipr_3] at hv
        have hl9 : P.ia pr_3 (d2_2) = P.ia (P.pp xp) (d2_2) := (by rw [hipr_3])
        refine lv_iload_n hx hb dX15_place_16 rfl (lv_at hl 1 rfl) ?_
        refine lv_icmp_ne (tgt := 22) hx hb dX15_place_17 (by decide) (fun b17 => ?_) (fun b17 => ?_)
        · have yb17 : ¬ (P.ia pr_3 (d2_2) : Int) = (p0 : Int) := fun q => b17 ((zI_eq (a := P.ia pr_3 (d2_2)) (b := p0) (by omega) (by omega) (by omega) (by omega)).mpr q)
          refine lv_iinc (v := zI (d2_2 + 1)) (lv' := [(2, .int (zI (d2_2 + 1))), (0, .ref xp), (1, .int (zI (p0)))]) hx hb dX15_place_22 hl (k := 2) rfl (zI_add (d2_2) (1)) (by decide) rfl (fun ls hl => ?_)
          refine lv_goto (tgt := 2) hx hb dX15_place_25 (by decide) ?_
          exact ih2 (d2_2 + 1) ls H _ (by omega) (fun k k0 k1 => by by_cases e9 : k = d2_2; (rw [e9]; omega); exact jh k k0 (by omega)) (by omega) (lv_sub hl [1, 2, 0] rfl) hP hD hS
        · have yb17 : (P.ia pr_3 (d2_2) : Int) = (p0 : Int) := (zI_eq (a := P.ia pr_3 (d2_2)) (b := p0) (by omega) (by omega) (by omega) (by omega)).mp b17
          refine lv_iload_n hx hb dX15_place_20 rfl (lv_at hl 2 rfl) ?_
          subst hQ
          refine W.widen (k := 0) (n := 0) (Nat.le_of_ble_eq_true rfl) (Nat.le_of_ble_eq_true rfl) ?_
          exact W.iret (v := (zI (d2_2))) hx hb hr (fun t ht hW => ⟨⟨(zI (d2_2)), (), rfl, ⟨d2_2, rfl, (by first | exact ⟨by omega, by omega, fun _ => by omega⟩ | exact ⟨by omega, by omega, fun ⟨k, k0, k1, k2⟩ => absurd k2 (jh k k0 (by omega))⟩)⟩, by rw [ht]; exact hP, va_K.moved hW.alike hK, hD⟩, hS.F ht⟩) hS.2.2 dX15_place_21
  exact key2 ((P.pn xp - 0 : Int).toNat + 1) 0 ls H _ (by omega) (fun k k0 k1 => by omega) (by omega) (lv_sub hl [1, 2, 0] rfl) hP hD hS
