def o_PL_clearA : List Cond := [.fieldLink RJx4a65c 63 "java/util/ArrayList" "modCount" "I", .sameField "java/util/ArrayList" "java/util/AbstractList" "modCount" "I", .fieldLink RJx4a65c 9 "java/util/ArrayList" "elementData" "[Ljava/lang/Object;", .fieldLink RJx4a65c 48 "java/util/ArrayList" "size" "I"]
def v_PL_clearA : List Cond := .code yJx4a65c_clear_da8c8 cJx4a65c_clear_da8c8 4 none :: (o_PL_clearA ++ (wsJx4a65c0 ++ []))
theorem mow_PL_clearA : ∀ w ∈ o_PL_clearA, w ∈ v_PL_clearA := fun _ h => List.mem_cons_of_mem _ (List.mem_append_left _ h)
theorem mem_PL_clearA_0 : ∀ w ∈ wsJx4a65c0, w ∈ v_PL_clearA := fun _ h => List.mem_cons_of_mem _ (List.mem_append_right _ (List.mem_append_left _ h))
set_option maxRecDepth 20000 in
theorem gw_PL_clearA : v_PL_clearA.all goodWord = true := by decide +kernel
set_option maxHeartbeats 4000000 in
set_option maxRecDepth 100000 in
theorem c_PL_clearA (l : Launch) (dC : Nat → ClassId) (dI : Nat → Nat → Nat) (cO : ClassId) (L : List Nat) (P : PO) (xl : Nat) (sx_ed : Nat) (hX_x : xl ∈ L) (hX_k : P.kd xl = 30) (hNz : 0 ≤ P.lz xl ∧ P.lz xl ≤ 40000) (hX_c : ADC L P cO sx_ed xl) (sz : Nat) : Met l yJx4a65c_clear_da8c8 v_PL_clearA ({ frames := 0, cells := 0, slots := 0, locals := 0 }) (va_Pc [.ref xl] (fun U => U.heap.size = sz ∧ va_P (dC, dI) vwQ ([] ++ va_pl L (pE P)) U.heap ∧ va_K (dC, dI) vwQ [(cO, .object "java/lang/Object")] U ∧ va_D (fun _ => True) ([] ++ va_pl L (pE P)))) (va_Qv (fun _ : Unit => True) (fun (_ : Unit) (t : State) => ∃ (Pn_9 : PO), ((CLR xl L P Pn_9)) ∧ va_P (dC, dI) vwQ ([] ++ va_pl L (pE Pn_9)) t.heap ∧ va_K (dC, dI) vwQ [(cO, .object "java/lang/Object")] t ∧ va_D (va_A ([] ++ va_pl L (pE P)) sz) ([] ++ va_pl L (pE Pn_9))) (va_A ([] ++ va_pl L (pE P)) sz)) 0 0 (va_A ([] ++ va_pl L (pE P)) sz) := by
  refine Met.ofW (cc := cJx4a65c_clear_da8c8) (maxL := 4) (ret := none) (by decide) rfl ?_
  intro p e s m args below meth c s₁ B hml hv
  obtain ⟨rfl, hsz, hP, hK, hD0⟩ := hv
  have hx := B.exec
  have hb := B.bytes
  have hr := B.returns
  have hts := atoms_spec (ws := v_PL_clearA) B.pre
  have hown : s.vm.findClass RJx4a65c = some m.cls := findClass_of_methodNamed B.named
  have hlocks := B.notSynchronized
  have ow : ∀ {k : Nat} {w : Cond}, o_PL_clearA[k]? = some w → w.before ([.ref xl] : List Value).toArray s = true := fun h => hts _ (mow_PL_clearA _ (List.mem_of_getElem? h))
  subst hsz
  have hD := hD0.self (sz := s.heap.size)
  generalize hAe : va_A ([] ++ va_pl L (pE P)) s.heap.size = A at hD ⊢
  have hA : ∀ q : Nat, s.heap.size ≤ q → A q := fun q h => by rw [← hAe]; exact Or.inr h
  have hS : va_S A s.heap s.heap [] := va_S.rf
  have hP : va_P (dC, dI) vwQ ([] ++ va_pl L (pE P)) s.heap := hP
  have hl := lv_entry ([.ref xl]) (n := 4) (Nat.le_of_ble_eq_true rfl)
  rw [lg_entry_eq]
  generalize (lg_sl ([.ref xl]) ++ List.replicate (4 - (lg_sl ([.ref xl])).length) Slot.unset).toArray = ls at hl ⊢
  have hl : lv_has ls 4 [(0, .ref xl)] := hl
  obtain ⟨H, hH⟩ : ∃ H, H = s.heap := ⟨_, rfl⟩
  rw [← hH] at hP
  have hS : va_S A s.heap H [] := by rw [hH]; exact hS
  rw [← hH]
  refine zW_cap (fun Q hQ => ?_)
  unfold ADC at hX_c
  rcases hX_c with hX_c | hX_c
  · skip
    obtain ⟨hfl, hX_q, hX_s, hNi⟩ := hX_c
    obtain ⟨hP, hD⟩ := pool_out (X := []) hX_x (pE_list hX_k) hP hD
    obtain ⟨Lp_1, eLp_1⟩ : ∃ l9 : List Nat, l9 = L.erase xl := ⟨_, rfl⟩
    rw [← eLp_1] at hP hD
    obtain ⟨qr, eqr⟩ : ∃ q9 : Nat, q9 = P.le xl := ⟨_, rfl⟩
    rw [← eqr] at hP hD
    have hP : va_P (dC, dI) vwQ ([(xl, .inr (18, [.int (zI (P.lm xl)), .ref qr, .int (zI (P.lz xl))]))] ++ va_pl Lp_1 (pE P)) H := hP
    have hD : va_D A ([(xl, .inr (18, [.int (zI (P.lm xl)), .ref qr, .int (zI (P.lz xl))]))] ++ va_pl Lp_1 (pE P)) := hD
    have hq1 : qr ∈ L ∧ P.kd qr = 31 ∧ P.ac qr = cO := (by rw [eqr]; exact hX_q)
    have hq2 : qr ∈ Lp_1 := (by rw [eLp_1]; exact mem_er hq1.1 (kd_ne hq1.2.1 hX_k (by decide)))
    obtain ⟨hP, hD⟩ := pool_out (X := [(xl, .inr (18, [.int (zI (P.lm xl)), .ref qr, .int (zI (P.lz xl))]))]) hq2 (pE_obj hq1.2.1) hP hD
    obtain ⟨Lp_2, eLp_2⟩ : ∃ l9 : List Nat, l9 = Lp_1.erase qr := ⟨_, rfl⟩
    rw [← eLp_2] at hP hD
    rw [hq1.2.2] at hP hD
    obtain ⟨nr, enr⟩ : ∃ q9 : Nat, q9 = P.an qr := ⟨_, rfl⟩
    rw [← enr] at hP hD
    obtain ⟨fr, efr⟩ : ∃ q9 : Nat → Option Nat, q9 = P.oa qr := ⟨_, rfl⟩
    rw [← efr] at hP hD
    have hP : va_P (dC, dI) vwQ ([(xl, .inr (18, [.int (zI (P.lm xl)), .ref qr, .int (zI (P.lz xl))])), (qr, .inl (cO, nr, .inr (.inr (.inr (.inr fr)))))] ++ va_pl Lp_2 (pE P)) H := hP
    have hD : va_D A ([(xl, .inr (18, [.int (zI (P.lm xl)), .ref qr, .int (zI (P.lz xl))])), (qr, .inl (cO, nr, .inr (.inr (.inr (.inr fr)))))] ++ va_pl Lp_2 (pE P)) := hD
    have hnr : (nr : Int) = P.an (P.le xl) := (by rw [enr, eqr])
    have hX_el : ELS Lp_2 P fr := (by rw [eLp_2, eLp_1, efr, eqr]; rw [eqr] at hq1; exact (hX_s.er (nobk30 hX_k)).er (nobk31 hq1.2.1))
    refine lv_aload_n hx hb dJx4a65c_clear_da8c8_0 rfl (lv_at hl 0 rfl) ?_
    refine lv_dup hx hb dJx4a65c_clear_da8c8_1 rfl ?_
    refine va_get (D := (dC, dI)) (ci := 18) (v := .int (zI (P.lm xl))) (C := RJx4a65c) (T := TJx4a65c) (N := 3) hx hb hts mem_PL_clearA_0 hown hK hP 0 rfl rfl 0 (by decide) (ow (k := 0) rfl) (fun x9 h9 => u_same (ow (k := 1) rfl) x9 h9) rfl dJx4a65c_clear_da8c8_2 ?_
    refine lv_iconst (v := 1) hx hb dJx4a65c_clear_da8c8_5 (by decide) ?_
    refine lv_iadd hx hb dJx4a65c_clear_da8c8_6 ?_
    refine lv_topi (fun z ez => ?_)
    obtain rfl : z = zI ((P.lm xl) + 1) := ez.trans (zI_add (P.lm xl) (1))
    refine va_put (D := (dC, dI)) (ci := 18) (v := .int (zI ((P.lm xl) + 1))) (ty := .int) (C := RJx4a65c) (T := TJx4a65c) (N := 3) hx hb hts mem_PL_clearA_0 tyJx4a65c tyJx4a65c_ok nmJx4a65c hown hK hP hD hS 0 rfl rfl 0 (by decide) (ow (k := 0) rfl) (fun x9 h9 => u_same (ow (k := 1) rfl) x9 h9) rfl (by decide +kernel) rfl rfl (Nat.le_of_ble_eq_true rfl) dJx4a65c_clear_da8c8_7 (fun H locs hP hD hS => ?_)
    have hP : va_P (dC, dI) vwQ ([(xl, .inr (18, [.int (zI ((P.lm xl) + 1)), .ref qr, .int (zI (P.lz xl))])), (qr, .inl (cO, nr, .inr (.inr (.inr (.inr fr)))))] ++ va_pl Lp_2 (pE P)) H := hP
    have hD : va_D A ([(xl, .inr (18, [.int (zI ((P.lm xl) + 1)), .ref qr, .int (zI (P.lz xl))])), (qr, .inl (cO, nr, .inr (.inr (.inr (.inr fr)))))] ++ va_pl Lp_2 (pE P)) := hD
    obtain ⟨z_3, ez_3⟩ : ∃ z9 : Int, z9 = (P.lm xl) + 1 := ⟨_, rfl⟩
    rw [← ez_3] at hP hD
    have hP : va_P (dC, dI) vwQ ([(xl, .inr (18, [.int (zI (z_3)), .ref qr, .int (zI (P.lz xl))])), (qr, .inl (cO, nr, .inr (.inr (.inr (.inr fr)))))] ++ va_pl Lp_2 (pE P)) H := hP
    have hD : va_D A ([(xl, .inr (18, [.int (zI (z_3)), .ref qr, .int (zI (P.lz xl))])), (qr, .inl (cO, nr, .inr (.inr (.inr (.inr fr)))))] ++ va_pl Lp_2 (pE P)) := hD
    refine lv_aload_n hx hb dJx4a65c_clear_da8c8_10 rfl (lv_at hl 0 rfl) ?_
    refine va_get (D := (dC, dI)) (ci := 18) (v := .ref qr) (C := RJx4a65c) (T := TJx4a65c) (N := 3) hx hb hts mem_PL_clearA_0 hown hK hP 0 rfl rfl 1 (by decide) (ow (k := 2) rfl) (fun _ h9 => h9) rfl dJx4a65c_clear_da8c8_11 ?_
    refine lv_astore_n (lv' := [(1, .ref qr), (0, .ref xl)]) hx hb dJx4a65c_clear_da8c8_14 rfl hl (by decide) rfl (fun ls hl => ?_)
    refine lv_aload_n hx hb dJx4a65c_clear_da8c8_15 rfl (lv_at hl 1 rfl) ?_
    refine va_get (D := (dC, dI)) (ci := 18) (v := .int (zI (P.lz xl))) (C := RJx4a65c) (T := TJx4a65c) (N := 3) hx hb hts mem_PL_clearA_0 hown hK hP 0 rfl rfl 2 (by decide) (ow (k := 3) rfl) (fun _ h9 => h9) rfl dJx4a65c_clear_da8c8_16 ?_
    refine lv_istore_n (lv' := [(2, .int (zI (P.lz xl))), (1, .ref qr), (0, .ref xl)]) hx hb dJx4a65c_clear_da8c8_19 rfl hl (by decide) rfl (fun ls hl => ?_)
    refine lv_aload_n hx hb dJx4a65c_clear_da8c8_20 rfl (lv_at hl 2 rfl) ?_
    refine lv_iconst (v := 0) hx hb dJx4a65c_clear_da8c8_21 (by decide) ?_
    refine lv_dup_x1 hx hb dJx4a65c_clear_da8c8_22 rfl rfl ?_
    refine va_put (D := (dC, dI)) (ci := 18) (v := .int 0) (ty := .int) (C := RJx4a65c) (T := TJx4a65c) (N := 3) hx hb hts mem_PL_clearA_0 tyJx4a65c tyJx4a65c_ok nmJx4a65c hown hK hP hD hS 0 rfl rfl 2 (by decide) (ow (k := 3) rfl) (fun _ h9 => h9) rfl (by decide +kernel) rfl rfl (Nat.le_of_ble_eq_true rfl) dJx4a65c_clear_da8c8_23 (fun H locs hP hD hS => ?_)
    have hP : va_P (dC, dI) vwQ ([(xl, .inr (18, [.int (zI (z_3)), .ref qr, .int 0])), (qr, .inl (cO, nr, .inr (.inr (.inr (.inr fr)))))] ++ va_pl Lp_2 (pE P)) H := hP
    have hD : va_D A ([(xl, .inr (18, [.int (zI (z_3)), .ref qr, .int 0])), (qr, .inl (cO, nr, .inr (.inr (.inr (.inr fr)))))] ++ va_pl Lp_2 (pE P)) := hD
    refine lv_istore_n (lv' := [(3, .int 0), (2, .int (zI (P.lz xl))), (1, .ref qr), (0, .ref xl)]) hx hb dJx4a65c_clear_da8c8_26 rfl hl (by decide) rfl (fun ls hl => ?_)
    have key27 : ∀ n27 : Nat, ∀ (d27_3 : Int) (w27_qr : Nat → Option Nat) (ls : Array Slot) (H : Heap) (locs : List Loc), (0 ≤ d27_3 ∧ d27_3 ≤ 1000000000) → (ELS Lp_2 P w27_qr) → ((((P.lz xl)) - (d27_3) : Int).toNat) < n27 → lv_has ls 4 [(0, .ref xl), (1, .ref qr), (2, .int (zI (P.lz xl))), (3, .int (zI (d27_3)))] → va_P (dC, dI) vwQ ([(xl, .inr (18, [.int (zI (z_3)), .ref qr, .int 0])), (qr, .inl (cO, nr, .inr (.inr (.inr (.inr w27_qr)))))] ++ va_pl Lp_2 (pE P)) H → va_D A ([(xl, .inr (18, [.int (zI (z_3)), .ref qr, .int 0])), (qr, .inl (cO, nr, .inr (.inr (.inr (.inr w27_qr)))))] ++ va_pl Lp_2 (pE P)) → va_S A s.heap H locs → W p l e (headSpec v_PL_clearA ({ frames := 0, cells := 0, slots := 0, locals := 0 })).room s m ([.ref xl] : List Value).toArray below meth c H locs 0 0 Q (F0 m 27 ls []) := by
      intro n27
      induction n27 with
      | zero => intro d27_3 w27_qr ls H locs jd27_3 jE hm27; exact absurd hm27 (by omega)
      | succ n27 ih27 =>
        intro d27_3 w27_qr ls H locs jd27_3 jE hm27 hl hP hD hS
        refine lv_iload_n hx hb dJx4a65c_clear_da8c8_27 rfl (lv_at hl 3 rfl) ?_
        refine lv_iload_n hx hb dJx4a65c_clear_da8c8_28 rfl (lv_at hl 2 rfl) ?_
        refine lv_icmp_ge (tgt := 42) hx hb dJx4a65c_clear_da8c8_29 (by decide) (fun b29 => ?_) (fun b29 => ?_)
        · have yb29 : (P.lz xl : Int) ≤ (d27_3 : Int) := (zI_le (a := P.lz xl) (b := d27_3) (by omega) (by omega) (by omega) (by omega)).mp b29
          subst hQ
          rw [eLp_2] at hP hD
          obtain ⟨Pa_4, ePa_4⟩ : ∃ q9 : PO, q9 = P.ro9 qr (w27_qr) := ⟨_, rfl⟩
          obtain ⟨hP, hD⟩ := pool_in (X := [(xl, .inr (18, [.int (zI (z_3)), .ref qr, .int 0]))]) (P' := Pa_4) hq2 (by have h9 := putobjs (P := P) (x := qr) (f := w27_qr) hq1.2.1; rw [hq1.2.2, ← enr] at h9; rw [ePa_4]; exact h9) hP hD
          have hP : va_P (dC, dI) vwQ ([(xl, .inr (18, [.int (zI (z_3)), .ref qr, .int 0]))] ++ va_pl Lp_1 (pE Pa_4)) H := hP
          have hD : va_D A ([(xl, .inr (18, [.int (zI (z_3)), .ref qr, .int 0]))] ++ va_pl Lp_1 (pE Pa_4)) := hD
          rw [eLp_1] at hP hD
          obtain ⟨Pb_5, ePb_5⟩ : ∃ q9 : PO, q9 = Pa_4.ls9 xl (z_3) (0) := ⟨_, rfl⟩
          obtain ⟨hP, hD⟩ := pool_in (X := []) (P' := Pb_5) (e := listE (z_3) qr (0)) hX_x (by have h9 := putlist (P := Pa_4) (x := xl) (m := z_3) (z := 0) (by rw [ePa_4]; exact hX_k); rw [show Pa_4.le xl = qr from (by rw [ePa_4, eqr]; rfl)] at h9; rw [ePb_5]; exact h9) hP hD
          have hP : va_P (dC, dI) vwQ ([] ++ va_pl L (pE Pb_5)) H := hP
          have hD : va_D A ([] ++ va_pl L (pE Pb_5)) := hD
          have wLS : LS1 xl P Pb_5 := (by rw [ePb_5, ePa_4, eqr]; exact LS1.of _ _ _ _ _)
          have wZ : Pb_5.lz xl = 0 := (by rw [ePb_5]; exact ls9_lz _ _ _ _)
          have wF : Pb_5.oa (P.le xl) = w27_qr := (by rw [ePb_5, ePa_4, ← eqr]; exact ro9_at _ _ _)
          refine W.widen (k := 0) (n := 0) (Nat.le_of_ble_eq_true rfl) (Nat.le_of_ble_eq_true rfl) ?_
          exact W.vret hx hb hr (fun t ht hW => ⟨⟨(), rfl, trivial, Pb_5, ⟨wLS, (by omega), Or.inl ⟨hfl, (by have h9 := jE; rw [eLp_2, eLp_1] at h9; rw [wF]; exact h9.up wLS.1)⟩⟩, by rw [ht]; exact hP, va_K.moved hW.alike hK, hD⟩, hS.F ht⟩) hS.2.2 dJx4a65c_clear_da8c8_42
        · have yb29 : ¬ (P.lz xl : Int) ≤ (d27_3 : Int) := fun q => b29 ((zI_le (a := P.lz xl) (b := d27_3) (by omega) (by omega) (by omega) (by omega)).mpr q)
          refine lv_aload_n hx hb dJx4a65c_clear_da8c8_32 rfl (lv_at hl 1 rfl) ?_
          refine lv_iload_n hx hb dJx4a65c_clear_da8c8_33 rfl (lv_at hl 3 rfl) ?_
          refine lv_null hx hb dJx4a65c_clear_da8c8_34 ?_
          refine va_astqN (C := "java/lang/Object") (i := zI (d27_3)) hx hb hK hP hD hS 1 0 rfl rfl (zI_in (a := d27_3) (n := nr) (by omega) (by omega) (by omega)) dJx4a65c_clear_da8c8_35 (fun H locs hP hD hS => ?_)
          have hP : va_P (dC, dI) vwQ ([(xl, .inr (18, [.int (zI (z_3)), .ref qr, .int 0])), (qr, .inl (cO, nr, .inr (.inr (.inr (.inr (va_up w27_qr (zI (d27_3)).toNatClampNeg none))))))] ++ va_pl Lp_2 (pE P)) H := hP
          have hD : va_D A ([(xl, .inr (18, [.int (zI (z_3)), .ref qr, .int 0])), (qr, .inl (cO, nr, .inr (.inr (.inr (.inr (va_up w27_qr (zI (d27_3)).toNatClampNeg none))))))] ++ va_pl Lp_2 (pE P)) := hD
          generalize efo_6 : (va_up w27_qr (zI (d27_3)).toNatClampNeg none) = fo_6 at hP hD
          have hP : va_P (dC, dI) vwQ ([(xl, .inr (18, [.int (zI (z_3)), .ref qr, .int 0])), (qr, .inl (cO, nr, .inr (.inr (.inr (.inr fo_6)))))] ++ va_pl Lp_2 (pE P)) H := hP
          have hD : va_D A ([(xl, .inr (18, [.int (zI (z_3)), .ref qr, .int 0])), (qr, .inl (cO, nr, .inr (.inr (.inr (.inr fo_6)))))] ++ va_pl Lp_2 (pE P)) := hD
          rw [zI_cl (by omega) (by omega)] at efo_6
          refine lv_iinc (v := zI (d27_3 + 1)) (lv' := [(3, .int (zI (d27_3 + 1))), (0, .ref xl), (1, .ref qr), (2, .int (zI (P.lz xl)))]) hx hb dJx4a65c_clear_da8c8_36 hl (k := 3) rfl (zI_add (d27_3) (1)) (by decide) rfl (fun ls hl => ?_)
          refine lv_goto (tgt := 27) hx hb dJx4a65c_clear_da8c8_39 (by decide) ?_
          exact ih27 (d27_3 + 1) fo_6 ls H _ (by omega) (by rw [← efo_6]; exact jE.none _) (by omega) (lv_sub hl [1, 2, 3, 0] rfl) hP hD hS
    exact key27 ((((P.lz xl)) - (0) : Int).toNat + 1) 0 fr ls H _ (by omega) hX_el (by omega) (lv_sub hl [3, 2, 1, 0] rfl) hP hD hS
  · skip
    obtain ⟨hfl, hX_z, hX_e⟩ := hX_c
    obtain ⟨hP, hD⟩ := pool_out (X := []) hX_x (pE_list hX_k) hP hD
    obtain ⟨Lp_7, eLp_7⟩ : ∃ l9 : List Nat, l9 = L.erase xl := ⟨_, rfl⟩
    rw [← eLp_7, hX_z, hX_e] at hP hD
    have hP : va_P (dC, dI) vwQ ([(xl, .inr (18, [.int (zI (P.lm xl)), .ref sx_ed, .int 0]))] ++ va_pl Lp_7 (pE P)) H := hP
    have hD : va_D A ([(xl, .inr (18, [.int (zI (P.lm xl)), .ref sx_ed, .int 0]))] ++ va_pl Lp_7 (pE P)) := hD
    refine lv_aload_n hx hb dJx4a65c_clear_da8c8_0 rfl (lv_at hl 0 rfl) ?_
    refine lv_dup hx hb dJx4a65c_clear_da8c8_1 rfl ?_
    refine va_get (D := (dC, dI)) (ci := 18) (v := .int (zI (P.lm xl))) (C := RJx4a65c) (T := TJx4a65c) (N := 3) hx hb hts mem_PL_clearA_0 hown hK hP 0 rfl rfl 0 (by decide) (ow (k := 0) rfl) (fun x9 h9 => u_same (ow (k := 1) rfl) x9 h9) rfl dJx4a65c_clear_da8c8_2 ?_
    refine lv_iconst (v := 1) hx hb dJx4a65c_clear_da8c8_5 (by decide) ?_
    refine lv_iadd hx hb dJx4a65c_clear_da8c8_6 ?_
    refine lv_topi (fun z ez => ?_)
    obtain rfl : z = zI ((P.lm xl) + 1) := ez.trans (zI_add (P.lm xl) (1))
    refine va_put (D := (dC, dI)) (ci := 18) (v := .int (zI ((P.lm xl) + 1))) (ty := .int) (C := RJx4a65c) (T := TJx4a65c) (N := 3) hx hb hts mem_PL_clearA_0 tyJx4a65c tyJx4a65c_ok nmJx4a65c hown hK hP hD hS 0 rfl rfl 0 (by decide) (ow (k := 0) rfl) (fun x9 h9 => u_same (ow (k := 1) rfl) x9 h9) rfl (by decide +kernel) rfl rfl (Nat.le_of_ble_eq_true rfl) dJx4a65c_clear_da8c8_7 (fun H locs hP hD hS => ?_)
    have hP : va_P (dC, dI) vwQ ([(xl, .inr (18, [.int (zI ((P.lm xl) + 1)), .ref sx_ed, .int 0]))] ++ va_pl Lp_7 (pE P)) H := hP
    have hD : va_D A ([(xl, .inr (18, [.int (zI ((P.lm xl) + 1)), .ref sx_ed, .int 0]))] ++ va_pl Lp_7 (pE P)) := hD
    obtain ⟨z_8, ez_8⟩ : ∃ z9 : Int, z9 = (P.lm xl) + 1 := ⟨_, rfl⟩
    rw [← ez_8] at hP hD
    have hP : va_P (dC, dI) vwQ ([(xl, .inr (18, [.int (zI (z_8)), .ref sx_ed, .int 0]))] ++ va_pl Lp_7 (pE P)) H := hP
    have hD : va_D A ([(xl, .inr (18, [.int (zI (z_8)), .ref sx_ed, .int 0]))] ++ va_pl Lp_7 (pE P)) := hD
    refine lv_aload_n hx hb dJx4a65c_clear_da8c8_10 rfl (lv_at hl 0 rfl) ?_
    refine va_get (D := (dC, dI)) (ci := 18) (v := .ref sx_ed) (C := RJx4a65c) (T := TJx4a65c) (N := 3) hx hb hts mem_PL_clearA_0 hown hK hP 0 rfl rfl 1 (by decide) (ow (k := 2) rfl) (fun _ h9 => h9) rfl dJx4a65c_clear_da8c8_11 ?_
    refine lv_astore_n (lv' := [(1, .ref sx_ed), (0, .ref xl)]) hx hb dJx4a65c_clear_da8c8_14 rfl hl (by decide) rfl (fun ls hl => ?_)
    refine lv_aload_n hx hb dJx4a65c_clear_da8c8_15 rfl (lv_at hl 1 rfl) ?_
    refine va_get (D := (dC, dI)) (ci := 18) (v := .int 0) (C := RJx4a65c) (T := TJx4a65c) (N := 3) hx hb hts mem_PL_clearA_0 hown hK hP 0 rfl rfl 2 (by decide) (ow (k := 3) rfl) (fun _ h9 => h9) rfl dJx4a65c_clear_da8c8_16 ?_
    refine lv_istore_n (lv' := [(2, .int 0), (1, .ref sx_ed), (0, .ref xl)]) hx hb dJx4a65c_clear_da8c8_19 rfl hl (by decide) rfl (fun ls hl => ?_)
    refine lv_aload_n hx hb dJx4a65c_clear_da8c8_20 rfl (lv_at hl 2 rfl) ?_
    refine lv_iconst (v := 0) hx hb dJx4a65c_clear_da8c8_21 (by decide) ?_
    refine lv_dup_x1 hx hb dJx4a65c_clear_da8c8_22 rfl rfl ?_
    refine va_put (D := (dC, dI)) (ci := 18) (v := .int 0) (ty := .int) (C := RJx4a65c) (T := TJx4a65c) (N := 3) hx hb hts mem_PL_clearA_0 tyJx4a65c tyJx4a65c_ok nmJx4a65c hown hK hP hD hS 0 rfl rfl 2 (by decide) (ow (k := 3) rfl) (fun _ h9 => h9) rfl (by decide +kernel) rfl rfl (Nat.le_of_ble_eq_true rfl) dJx4a65c_clear_da8c8_23 (fun H locs hP hD hS => ?_)
    have hP : va_P (dC, dI) vwQ ([(xl, .inr (18, [.int (zI (z_8)), .ref sx_ed, .int 0]))] ++ va_pl Lp_7 (pE P)) H := hP
    have hD : va_D A ([(xl, .inr (18, [.int (zI (z_8)), .ref sx_ed, .int 0]))] ++ va_pl Lp_7 (pE P)) := hD
    refine lv_istore_n (lv' := [(3, .int 0), (2, .int 0), (1, .ref sx_ed), (0, .ref xl)]) hx hb dJx4a65c_clear_da8c8_26 rfl hl (by decide) rfl (fun ls hl => ?_)
    refine lv_iload_n hx hb dJx4a65c_clear_da8c8_27 rfl (lv_at hl 0 rfl) ?_
    refine lv_iload_n hx hb dJx4a65c_clear_da8c8_28 rfl (lv_at hl 1 rfl) ?_
    refine lv_icmp_ge (tgt := 42) hx hb dJx4a65c_clear_da8c8_29 (by decide) (fun _ => ?_) (fun h9 => absurd h9 (by decide))
    subst hQ
    rw [eLp_7] at hP hD
    obtain ⟨Pb_9, ePb_9⟩ : ∃ q9 : PO, q9 = P.ls9 xl (z_8) 0 := ⟨_, rfl⟩
    obtain ⟨hP, hD⟩ := pool_in (X := []) (P' := Pb_9) (e := listE (z_8) sx_ed 0) hX_x (by have h9 := putlist (P := P) (x := xl) (m := z_8) (z := 0) hX_k; rw [hX_e] at h9; rw [ePb_9]; exact h9) hP hD
    have hP : va_P (dC, dI) vwQ ([] ++ va_pl L (pE Pb_9)) H := hP
    have hD : va_D A ([] ++ va_pl L (pE Pb_9)) := hD
    have wLS : LS1 xl P Pb_9 := (by rw [ePb_9]; exact LS1.list _ _ _ _)
    have wZ : Pb_9.lz xl = 0 := (by rw [ePb_9]; exact ls9_lz _ _ _ _)
    refine W.widen (k := 0) (n := 0) (Nat.le_of_ble_eq_true rfl) (Nat.le_of_ble_eq_true rfl) ?_
    exact W.vret hx hb hr (fun t ht hW => ⟨⟨(), rfl, trivial, Pb_9, ⟨wLS, wZ, Or.inr (fun a => by rw [ePb_9]; rfl)⟩, by rw [ht]; exact hP, va_K.moved hW.alike hK, hD⟩, hS.F ht⟩) hS.2.2 dJx4a65c_clear_da8c8_42
