theorem dX2_meet_0 : decode cX2_meet 0 = .ok (.iload_n 1, 1) := by decide +kernel
theorem dX2_meet_1 : decode cX2_meet 1 = .ok (.istore_n 3, 1) := by decide +kernel
theorem dX2_meet_2 : decode cX2_meet 2 = .ok (.iload_n 2, 1) := by decide +kernel
theorem dX2_meet_3 : decode cX2_meet 3 = .ok (.istore 4, 2) := by decide +kernel
theorem dX2_meet_5 : decode cX2_meet 5 = .ok (.iconst 0, 1) := by decide +kernel
theorem dX2_meet_6 : decode cX2_meet 6 = .ok (.istore 5, 2) := by decide +kernel
theorem dX2_meet_8 : decode cX2_meet 8 = .ok (.iload_n 3, 1) := by decide +kernel
theorem dX2_meet_9 : decode cX2_meet 9 = .ok (.iload 4, 2) := by decide +kernel
theorem dX2_meet_11 : decode cX2_meet 11 = .ok (.if_icmp .eq 52, 3) := by decide +kernel
theorem dX2_meet_63 : decode cX2_meet 63 = .ok (.iload_n 3, 1) := by decide +kernel
theorem dX2_meet_64 : decode cX2_meet 64 = .ok (.ireturn, 1) := by decide +kernel
theorem dX2_meet_14 : decode cX2_meet 14 = .ok (.iload 5, 2) := by decide +kernel
theorem dX2_meet_16 : decode cX2_meet 16 = .ok (.sipush 600, 3) := by decide +kernel
theorem dX2_meet_19 : decode cX2_meet 19 = .ok (.if_icmp .ge 44, 3) := by decide +kernel
theorem dX2_meet_22 : decode cX2_meet 22 = .ok (.aload_n 0, 1) := by decide +kernel
theorem dX2_meet_23 : decode cX2_meet 23 = .ok (.getfield 42, 3) := by decide +kernel
theorem dX2_meet_26 : decode cX2_meet 26 = .ok (.iload_n 3, 1) := by decide +kernel
theorem dX2_meet_27 : decode cX2_meet 27 = .ok (.iaload, 1) := by decide +kernel
theorem dX2_meet_28 : decode cX2_meet 28 = .ok (.aload_n 0, 1) := by decide +kernel
theorem dX2_meet_29 : decode cX2_meet 29 = .ok (.getfield 42, 3) := by decide +kernel
theorem dX2_meet_32 : decode cX2_meet 32 = .ok (.iload 4, 2) := by decide +kernel
theorem dX2_meet_34 : decode cX2_meet 34 = .ok (.iaload, 1) := by decide +kernel
theorem dX2_meet_35 : decode cX2_meet 35 = .ok (.if_icmp .ge 13, 3) := by decide +kernel
theorem dX2_meet_48 : decode cX2_meet 48 = .ok (.aload_n 0, 1) := by decide +kernel
theorem dX2_meet_49 : decode cX2_meet 49 = .ok (.getfield 15, 3) := by decide +kernel
theorem dX2_meet_52 : decode cX2_meet 52 = .ok (.iload 4, 2) := by decide +kernel
theorem dX2_meet_54 : decode cX2_meet 54 = .ok (.iaload, 1) := by decide +kernel
theorem dX2_meet_55 : decode cX2_meet 55 = .ok (.istore 4, 2) := by decide +kernel
theorem dX2_meet_57 : decode cX2_meet 57 = .ok (.iinc 5 1, 3) := by decide +kernel
theorem dX2_meet_60 : decode cX2_meet 60 = .ok (.goto (-52), 3) := by decide +kernel
theorem dX2_meet_38 : decode cX2_meet 38 = .ok (.aload_n 0, 1) := by decide +kernel
theorem dX2_meet_39 : decode cX2_meet 39 = .ok (.getfield 15, 3) := by decide +kernel
theorem dX2_meet_42 : decode cX2_meet 42 = .ok (.iload_n 3, 1) := by decide +kernel
theorem dX2_meet_43 : decode cX2_meet 43 = .ok (.iaload, 1) := by decide +kernel
theorem dX2_meet_44 : decode cX2_meet 44 = .ok (.istore_n 3, 1) := by decide +kernel
theorem dX2_meet_45 : decode cX2_meet 45 = .ok (.goto 12, 3) := by decide +kernel
def o_X2_meet : List Cond := [.fieldLink RX2 42 "SsaForge$Flow" "post" "[I", .fieldLink RX2 15 "SsaForge$Flow" "idom" "[I"]
def v_X2_meet : List Cond := .code yX2_meet cX2_meet 6 (some .int) :: (o_X2_meet ++ (wsX20 ++ []))
theorem mow_X2_meet : ∀ w ∈ o_X2_meet, w ∈ v_X2_meet := fun _ h => List.mem_cons_of_mem _ (List.mem_append_left _ h)
theorem mem_X2_meet_0 : ∀ w ∈ wsX20, w ∈ v_X2_meet := fun _ h => List.mem_cons_of_mem _ (List.mem_append_right _ (List.mem_append_left _ h))
set_option maxRecDepth 20000 in
theorem gw_X2_meet : v_X2_meet.all goodWord = true := by decide +kernel
set_option maxHeartbeats 4000000 in
set_option maxRecDepth 100000 in
theorem c_X2_meet (l : Launch) (dC : Nat → ClassId) (dI : Nat → Nat → Nat) (h0 : Nat) (v2_0 : Value) (q_201 : Nat) (cA_201 : ClassId) (a2_idom : Int → Int) (v2_2 : Value) (v2_3 : Value) (v2_4 : Value) (v2_5 : Value) (v2_6 : Value) (v2_7 : Value) (v2_8 : Value) (q_209 : Nat) (cA_209 : ClassId) (a2_post : Int → Int) (v2_10 : Value) (v2_11 : Value) (v2_12 : Value) (b1 : Int) (b2 : Int) (B1 : Int) (a_9 : Int → Int) (a_11 : Int → Int) (a_12 : Int → Int) (a_13 : Int → Int) (a_14 : Int → Int) (a2_byPost : Int → Int) (z2_reached : Int) (hR_a2_idom : ∀ j : Int, -2 ≤ a2_idom j ∧ a2_idom j ≤ 299) (hR_a2_post : ∀ j : Int, -1 ≤ a2_post j ∧ a2_post j ≤ 299) (hN3B : B1 ≤ 300) (hX_W : FW a_9 a_11 a_12 B1 a2_post a2_byPost z2_reached) (hX_I : IDI B1 a_13 a_14 a2_post a2_idom) (hNb1 : 0 ≤ b1 ∧ b1 < B1 ∧ 0 ≤ a2_idom b1) (hNb2 : 0 ≤ b2 ∧ b2 < B1 ∧ 0 ≤ a2_idom b2) (sz : Nat) : Met l yX2_meet v_X2_meet ({ frames := 0, cells := 0, slots := 0, locals := 0 }) (va_Pc [.ref h0, .int (zI (b1)), .int (zI (b2))] (fun U => U.heap.size = sz ∧ va_P (dC, dI) vwP [(h0, .inr (2, [v2_0, .ref q_201, v2_2, v2_3, v2_4, v2_5, v2_6, v2_7, v2_8, .ref q_209, v2_10, v2_11, v2_12])), (q_201, .inl (cA_201, 300, .inl (fun j : Nat => zI (a2_idom (j : Int))))), (q_209, .inl (cA_209, 300, .inl (fun j : Nat => zI (a2_post (j : Int)))))] U.heap ∧ va_K (dC, dI) vwP [(cA_201, .int), (cA_209, .int)] U ∧ va_D (fun _ => True) [(h0, .inr (2, [v2_0, .ref q_201, v2_2, v2_3, v2_4, v2_5, v2_6, v2_7, v2_8, .ref q_209, v2_10, v2_11, v2_12])), (q_201, .inl (cA_201, 300, .inl (fun j : Nat => zI (a2_idom (j : Int))))), (q_209, .inl (cA_209, 300, .inl (fun j : Nat => zI (a2_post (j : Int)))))])) (va_Qi (fun (r : Int32) (_ : Unit) => ∃ z : Int, r = zI z ∧ (MT B1 a2_idom b1 b2 z)) (fun (_ : Unit) (t : State) => va_P (dC, dI) vwP [(h0, .inr (2, [v2_0, .ref q_201, v2_2, v2_3, v2_4, v2_5, v2_6, v2_7, v2_8, .ref q_209, v2_10, v2_11, v2_12])), (q_201, .inl (cA_201, 300, .inl (fun j : Nat => zI (a2_idom (j : Int))))), (q_209, .inl (cA_209, 300, .inl (fun j : Nat => zI (a2_post (j : Int)))))] t.heap ∧ va_K (dC, dI) vwP [(cA_201, .int), (cA_209, .int)] t ∧ va_D (va_A [(h0, .inr (2, [v2_0, .ref q_201, v2_2, v2_3, v2_4, v2_5, v2_6, v2_7, v2_8, .ref q_209, v2_10, v2_11, v2_12])), (q_201, .inl (cA_201, 300, .inl (fun j : Nat => zI (a2_idom (j : Int))))), (q_209, .inl (cA_209, 300, .inl (fun j : Nat => zI (a2_post (j : Int)))))] sz) [(h0, .inr (2, [v2_0, .ref q_201, v2_2, v2_3, v2_4, v2_5, v2_6, v2_7, v2_8, .ref q_209, v2_10, v2_11, v2_12])), (q_201, .inl (cA_201, 300, .inl (fun j : Nat => zI (a2_idom (j : Int))))), (q_209, .inl (cA_209, 300, .inl (fun j : Nat => zI (a2_post (j : Int)))))]) (va_A [(h0, .inr (2, [v2_0, .ref q_201, v2_2, v2_3, v2_4, v2_5, v2_6, v2_7, v2_8, .ref q_209, v2_10, v2_11, v2_12])), (q_201, .inl (cA_201, 300, .inl (fun j : Nat => zI (a2_idom (j : Int))))), (q_209, .inl (cA_209, 300, .inl (fun j : Nat => zI (a2_post (j : Int)))))] sz)) 0 0 (va_A [(h0, .inr (2, [v2_0, .ref q_201, v2_2, v2_3, v2_4, v2_5, v2_6, v2_7, v2_8, .ref q_209, v2_10, v2_11, v2_12])), (q_201, .inl (cA_201, 300, .inl (fun j : Nat => zI (a2_idom (j : Int))))), (q_209, .inl (cA_209, 300, .inl (fun j : Nat => zI (a2_post (j : Int)))))] sz) := by
  refine Met.ofW (cc := cX2_meet) (maxL := 6) (ret := (some .int)) (by decide) rfl ?_
  intro p e s m args below meth c s₁ B hml hv
  obtain ⟨rfl, hsz, hP, hK, hD0⟩ := hv
  have hx := B.exec
  have hb := B.bytes
  have hr := B.returns
  have hts := atoms_spec (ws := v_X2_meet) B.pre
  have hown : s.vm.findClass RX2 = some m.cls := findClass_of_methodNamed B.named
  have hlocks := B.notSynchronized
  have ow : ∀ {k : Nat} {w : Cond}, o_X2_meet[k]? = some w → w.before ([.ref h0, .int (zI (b1)), .int (zI (b2))] : List Value).toArray s = true := fun h => hts _ (mow_X2_meet _ (List.mem_of_getElem? h))
  subst hsz
  have hD := hD0.self (sz := s.heap.size)
  generalize hAe : va_A [(h0, .inr (2, [v2_0, .ref q_201, v2_2, v2_3, v2_4, v2_5, v2_6, v2_7, v2_8, .ref q_209, v2_10, v2_11, v2_12])), (q_201, .inl (cA_201, 300, .inl (fun j : Nat => zI (a2_idom (j : Int))))), (q_209, .inl (cA_209, 300, .inl (fun j : Nat => zI (a2_post (j : Int)))))] s.heap.size = A at hD ⊢
  have hA : ∀ q : Nat, s.heap.size ≤ q → A q := fun q h => by rw [← hAe]; exact Or.inr h
  have hS : va_S A s.heap s.heap [] := va_S.rf
  have hP : va_P (dC, dI) vwP [(h0, .inr (2, [v2_0, .ref q_201, v2_2, v2_3, v2_4, v2_5, v2_6, v2_7, v2_8, .ref q_209, v2_10, v2_11, v2_12])), (q_201, .inl (cA_201, 300, .inl (fun j : Nat => zI (a2_idom (j : Int))))), (q_209, .inl (cA_209, 300, .inl (fun j : Nat => zI (a2_post (j : Int)))))] s.heap := hP
  have hl := lv_entry ([.ref h0, .int (zI (b1)), .int (zI (b2))]) (n := 6) (Nat.le_of_ble_eq_true rfl)
  rw [lg_entry_eq]
  generalize (lg_sl ([.ref h0, .int (zI (b1)), .int (zI (b2))]) ++ List.replicate (6 - (lg_sl ([.ref h0, .int (zI (b1)), .int (zI (b2))])).length) Slot.unset).toArray = ls at hl ⊢
  have hl : lv_has ls 6 [(0, .ref h0), (1, .int (zI (b1))), (2, .int (zI (b2)))] := hl
  obtain ⟨H, hH⟩ : ∃ H, H = s.heap := ⟨_, rfl⟩
  rw [← hH] at hP
  have hS : va_S A s.heap H [] := by rw [hH]; exact hS
  rw [← hH]
  refine zW_cap (fun Q hQ => ?_)
  refine lv_iload_n hx hb dX2_meet_0 rfl (lv_at hl 1 rfl) ?_
  refine lv_istore_n (lv' := [(3, .int (zI (b1))), (0, .ref h0), (1, .int (zI (b1))), (2, .int (zI (b2)))]) hx hb dX2_meet_1 rfl hl (by decide) rfl (fun ls hl => ?_)
  refine lv_iload_n hx hb dX2_meet_2 rfl (lv_at hl 3 rfl) ?_
  refine lv_istore (lv' := [(4, .int (zI (b2))), (3, .int (zI (b1))), (0, .ref h0), (1, .int (zI (b1))), (2, .int (zI (b2)))]) hx hb dX2_meet_3 hl (by decide) rfl (fun ls hl => ?_)
  refine lv_iconst (v := 0) hx hb dX2_meet_5 (by decide) ?_
  refine lv_istore (lv' := [(5, .int 0), (4, .int (zI (b2))), (3, .int (zI (b1))), (0, .ref h0), (1, .int (zI (b1))), (2, .int (zI (b2)))]) hx hb dX2_meet_6 hl (by decide) rfl (fun ls hl => ?_)
  have key8 : ∀ n8 : Nat, ∀ (d8_5 : Int) (d8_4 : Int) (d8_3 : Int) (ls : Array Slot) (H : Heap) (locs : List Loc), (0 ≤ d8_5 ∧ d8_5 ≤ 1000000000) → (MI B1 a2_post a2_idom b1 b2 d8_3 d8_4 d8_5) → ((1000 - d8_5 : Int).toNat) < n8 → lv_has ls 6 [(0, .ref h0), (1, .int (zI (b1))), (2, .int (zI (b2))), (3, .int (zI (d8_3))), (4, .int (zI (d8_4))), (5, .int (zI (d8_5)))] → va_P (dC, dI) vwP [(h0, .inr (2, [v2_0, .ref q_201, v2_2, v2_3, v2_4, v2_5, v2_6, v2_7, v2_8, .ref q_209, v2_10, v2_11, v2_12])), (q_201, .inl (cA_201, 300, .inl (fun j : Nat => zI (a2_idom (j : Int))))), (q_209, .inl (cA_209, 300, .inl (fun j : Nat => zI (a2_post (j : Int)))))] H → va_D A [(h0, .inr (2, [v2_0, .ref q_201, v2_2, v2_3, v2_4, v2_5, v2_6, v2_7, v2_8, .ref q_209, v2_10, v2_11, v2_12])), (q_201, .inl (cA_201, 300, .inl (fun j : Nat => zI (a2_idom (j : Int))))), (q_209, .inl (cA_209, 300, .inl (fun j : Nat => zI (a2_post (j : Int)))))] → va_S A s.heap H locs → W p l e (headSpec v_X2_meet ({ frames := 0, cells := 0, slots := 0, locals := 0 })).room s m ([.ref h0, .int (zI (b1)), .int (zI (b2))] : List Value).toArray below meth c H locs 0 0 Q (F0 m 8 ls []) := by
    intro n8
    induction n8 with
    | zero => intro d8_5 d8_4 d8_3 ls H locs jd8_5 jM hm8; exact absurd hm8 (by omega)
    | succ n8 ih8 =>
      intro d8_5 d8_4 d8_3 ls H locs jd8_5 jM hm8 hl hP hD hS
      refine lv_iload_n hx hb dX2_meet_8 rfl (lv_at hl 3 rfl) ?_
      refine lv_iload hx hb dX2_meet_9 (lv_at hl 4 rfl) ?_
      refine lv_icmp_eq (tgt := 63) hx hb dX2_meet_11 (by decide) (fun b11 => ?_) (fun b11 => ?_)
      · have yb11 : (d8_3 : Int) = (d8_4 : Int) := (zI_eq (a := d8_3) (b := d8_4) (by omega) (by omega) (by omega) (by omega)).mp b11
        refine lv_iload_n hx hb dX2_meet_63 rfl (lv_at hl 3 rfl) ?_
        subst hQ
        refine W.widen (k := 0) (n := 0) (Nat.le_of_ble_eq_true rfl) (Nat.le_of_ble_eq_true rfl) ?_
        exact W.iret (v := (zI (d8_3))) hx hb hr (fun t ht hW => ⟨⟨(zI (d8_3)), (), rfl, ⟨d8_3, rfl, MI.done jM (by have h9 := MI.le hX_W hX_I (by omega) jM; omega)⟩, by rw [ht]; exact hP, va_K.moved hW.alike hK, hD⟩, hS.F ht⟩) hS.2.2 dX2_meet_64
      · have yb11 : ¬ (d8_3 : Int) = (d8_4 : Int) := fun q => b11 ((zI_eq (a := d8_3) (b := d8_4) (by omega) (by omega) (by omega) (by omega)).mpr q)
        refine lv_iload hx hb dX2_meet_14 (lv_at hl 5 rfl) ?_
        refine lv_sipush (v := 600) hx hb dX2_meet_16 (by decide) ?_
        refine lv_icmp_ge (tgt := 63) hx hb dX2_meet_19 (by decide) (fun b19 => ?_) (fun b19 => ?_)
        · have yb19 : (600 : Int) ≤ (d8_5 : Int) := (zI_le (a := 600) (b := d8_5) (by omega) (by omega) (by omega) (by omega)).mp b19
          refine lv_iload_n hx hb dX2_meet_63 rfl (lv_at hl 3 rfl) ?_
          subst hQ
          refine W.widen (k := 0) (n := 0) (Nat.le_of_ble_eq_true rfl) (Nat.le_of_ble_eq_true rfl) ?_
          exact W.iret (v := (zI (d8_3))) hx hb hr (fun t ht hW => ⟨⟨(zI (d8_3)), (), rfl, ⟨d8_3, rfl, MI.done jM (by have h9 := MI.le hX_W hX_I (by omega) jM; omega)⟩, by rw [ht]; exact hP, va_K.moved hW.alike hK, hD⟩, hS.F ht⟩) hS.2.2 dX2_meet_64
        · have yb19 : ¬ (600 : Int) ≤ (d8_5 : Int) := fun q => b19 ((zI_le (a := 600) (b := d8_5) (by omega) (by omega) (by omega) (by omega)).mpr q)
          have h1 := jM.o0
          have h2 := jM.t0
          refine lv_aload_n hx hb dX2_meet_22 rfl (lv_at hl 0 rfl) ?_
          refine va_get (D := (dC, dI)) (ci := 2) (v := .ref q_209) (C := RX2) (T := TX2) (N := 13) hx hb hts mem_X2_meet_0 hown hK hP 0 rfl rfl 9 (by decide) (ow (k := 0) rfl) (fun _ h9 => h9) rfl dX2_meet_23 ?_
          refine lv_iload_n hx hb dX2_meet_26 rfl (lv_at hl 3 rfl) ?_
          refine va_iald hx hb hK hP 2 1 rfl rfl (zI_in (a := d8_3) (n := 300) (by omega) (by omega) (by decide)) dX2_meet_27 ?_
          refine lv_topi (fun z ez => ?_)
          obtain rfl : z = zI (a2_post (d8_3)) := ez.trans (zI_ld (a2_post) (by omega) (by omega))
          have k1 := hR_a2_post (d8_3)
          refine lv_aload_n hx hb dX2_meet_28 rfl (lv_at hl 0 rfl) ?_
          refine va_get (D := (dC, dI)) (ci := 2) (v := .ref q_209) (C := RX2) (T := TX2) (N := 13) hx hb hts mem_X2_meet_0 hown hK hP 0 rfl rfl 9 (by decide) (ow (k := 0) rfl) (fun _ h9 => h9) rfl dX2_meet_29 ?_
          refine lv_iload hx hb dX2_meet_32 (lv_at hl 4 rfl) ?_
          refine va_iald hx hb hK hP 2 1 rfl rfl (zI_in (a := d8_4) (n := 300) (by omega) (by omega) (by decide)) dX2_meet_34 ?_
          refine lv_topi (fun z ez => ?_)
          obtain rfl : z = zI (a2_post (d8_4)) := ez.trans (zI_ld (a2_post) (by omega) (by omega))
          have k2 := hR_a2_post (d8_4)
          refine lv_icmp_ge (tgt := 48) hx hb dX2_meet_35 (by decide) (fun b35 => ?_) (fun b35 => ?_)
          · have yb35 : (a2_post (d8_4) : Int) ≤ (a2_post (d8_3) : Int) := (zI_le (a := a2_post (d8_4)) (b := a2_post (d8_3)) (by omega) (by omega) (by omega) (by omega)).mp b35
            refine lv_aload_n hx hb dX2_meet_48 rfl (lv_at hl 0 rfl) ?_
            refine va_get (D := (dC, dI)) (ci := 2) (v := .ref q_201) (C := RX2) (T := TX2) (N := 13) hx hb hts mem_X2_meet_0 hown hK hP 0 rfl rfl 1 (by decide) (ow (k := 1) rfl) (fun _ h9 => h9) rfl dX2_meet_49 ?_
            refine lv_iload hx hb dX2_meet_52 (lv_at hl 4 rfl) ?_
            refine va_iald hx hb hK hP 1 0 rfl rfl (zI_in (a := d8_4) (n := 300) (by omega) (by omega) (by decide)) dX2_meet_54 ?_
            refine lv_topi (fun z ez => ?_)
            obtain rfl : z = zI (a2_idom (d8_4)) := ez.trans (zI_ld (a2_idom) (by omega) (by omega))
            have k3 := hR_a2_idom (d8_4)
            refine lv_istore (lv' := [(4, .int (zI (a2_idom (d8_4)))), (0, .ref h0), (1, .int (zI (b1))), (2, .int (zI (b2))), (3, .int (zI (d8_3))), (5, .int (zI (d8_5)))]) hx hb dX2_meet_55 hl (by decide) rfl (fun ls hl => ?_)
            refine lv_iinc (v := zI (d8_5 + 1)) (lv' := [(5, .int (zI (d8_5 + 1))), (4, .int (zI (a2_idom (d8_4)))), (0, .ref h0), (1, .int (zI (b1))), (2, .int (zI (b2))), (3, .int (zI (d8_3)))]) hx hb dX2_meet_57 hl (k := 5) rfl (zI_add (d8_5) (1)) (by decide) rfl (fun ls hl => ?_)
            refine lv_goto (tgt := 8) hx hb dX2_meet_60 (by decide) ?_
            exact ih8 (d8_5 + 1) (a2_idom (d8_4)) d8_3 ls H _ (by omega) (MI.two hX_W hX_I jM (by omega) (by omega)) (by omega) (lv_sub hl [2, 3, 4, 5, 1, 0] rfl) hP hD hS
          · have yb35 : ¬ (a2_post (d8_4) : Int) ≤ (a2_post (d8_3) : Int) := fun q => b35 ((zI_le (a := a2_post (d8_4)) (b := a2_post (d8_3)) (by omega) (by omega) (by omega) (by omega)).mpr q)
            refine lv_aload_n hx hb dX2_meet_38 rfl (lv_at hl 0 rfl) ?_
            refine va_get (D := (dC, dI)) (ci := 2) (v := .ref q_201) (C := RX2) (T := TX2) (N := 13) hx hb hts mem_X2_meet_0 hown hK hP 0 rfl rfl 1 (by decide) (ow (k := 1) rfl) (fun _ h9 => h9) rfl dX2_meet_39 ?_
            refine lv_iload_n hx hb dX2_meet_42 rfl (lv_at hl 3 rfl) ?_
            refine va_iald hx hb hK hP 1 0 rfl rfl (zI_in (a := d8_3) (n := 300) (by omega) (by omega) (by decide)) dX2_meet_43 ?_
            refine lv_topi (fun z ez => ?_)
            obtain rfl : z = zI (a2_idom (d8_3)) := ez.trans (zI_ld (a2_idom) (by omega) (by omega))
            have k4 := hR_a2_idom (d8_3)
            refine lv_istore_n (lv' := [(3, .int (zI (a2_idom (d8_3)))), (0, .ref h0), (1, .int (zI (b1))), (2, .int (zI (b2))), (4, .int (zI (d8_4))), (5, .int (zI (d8_5)))]) hx hb dX2_meet_44 rfl hl (by decide) rfl (fun ls hl => ?_)
            refine lv_goto (tgt := 57) hx hb dX2_meet_45 (by decide) ?_
            refine lv_iinc (v := zI (d8_5 + 1)) (lv' := [(5, .int (zI (d8_5 + 1))), (3, .int (zI (a2_idom (d8_3)))), (0, .ref h0), (1, .int (zI (b1))), (2, .int (zI (b2))), (4, .int (zI (d8_4)))]) hx hb dX2_meet_57 hl (k := 5) rfl (zI_add (d8_5) (1)) (by decide) rfl (fun ls hl => ?_)
            refine lv_goto (tgt := 8) hx hb dX2_meet_60 (by decide) ?_
            exact ih8 (d8_5 + 1) d8_4 (a2_idom (d8_3)) ls H _ (by omega) (MI.one hX_W hX_I jM (by omega)) (by omega) (lv_sub hl [2, 3, 4, 1, 5, 0] rfl) hP hD hS
  exact key8 ((1000 - 0 : Int).toNat + 1) 0 b2 b1 ls H _ (by omega) (MI.start hX_I (by omega) (by omega)) (by omega) (lv_sub hl [3, 4, 5, 2, 1, 0] rfl) hP hD hS
theorem dX2_meetOfPreds_0 : decode cX2_meetOfPreds 0 = .ok (.bipush (-2), 2) := by decide +kernel
theorem dX2_meetOfPreds_2 : decode cX2_meetOfPreds 2 = .ok (.istore_n 3, 1) := by decide +kernel
theorem dX2_meetOfPreds_3 : decode cX2_meetOfPreds 3 = .ok (.aload_n 1, 1) := by decide +kernel
theorem dX2_meetOfPreds_4 : decode cX2_meetOfPreds 4 = .ok (.getfield 93, 3) := by decide +kernel
theorem dX2_meetOfPreds_7 : decode cX2_meetOfPreds 7 = .ok (.iload_n 2, 1) := by decide +kernel
theorem dX2_meetOfPreds_8 : decode cX2_meetOfPreds 8 = .ok (.iaload, 1) := by decide +kernel
theorem dX2_meetOfPreds_9 : decode cX2_meetOfPreds 9 = .ok (.istore 4, 2) := by decide +kernel
theorem dX2_meetOfPreds_11 : decode cX2_meetOfPreds 11 = .ok (.iload 4, 2) := by decide +kernel
theorem dX2_meetOfPreds_13 : decode cX2_meetOfPreds 13 = .ok (.aload_n 1, 1) := by decide +kernel
theorem dX2_meetOfPreds_14 : decode cX2_meetOfPreds 14 = .ok (.getfield 93, 3) := by decide +kernel
theorem dX2_meetOfPreds_17 : decode cX2_meetOfPreds 17 = .ok (.iload_n 2, 1) := by decide +kernel
theorem dX2_meetOfPreds_18 : decode cX2_meetOfPreds 18 = .ok (.iconst 1, 1) := by decide +kernel
theorem dX2_meetOfPreds_19 : decode cX2_meetOfPreds 19 = .ok (.iadd, 1) := by decide +kernel
theorem dX2_meetOfPreds_20 : decode cX2_meetOfPreds 20 = .ok (.iaload, 1) := by decide +kernel
theorem dX2_meetOfPreds_21 : decode cX2_meetOfPreds 21 = .ok (.if_icmp .ge 45, 3) := by decide +kernel
theorem dX2_meetOfPreds_66 : decode cX2_meetOfPreds 66 = .ok (.iload_n 3, 1) := by decide +kernel
theorem dX2_meetOfPreds_67 : decode cX2_meetOfPreds 67 = .ok (.ireturn, 1) := by decide +kernel
theorem dX2_meetOfPreds_24 : decode cX2_meetOfPreds 24 = .ok (.aload_n 1, 1) := by decide +kernel
theorem dX2_meetOfPreds_25 : decode cX2_meetOfPreds 25 = .ok (.getfield 96, 3) := by decide +kernel
theorem dX2_meetOfPreds_28 : decode cX2_meetOfPreds 28 = .ok (.iload 4, 2) := by decide +kernel
theorem dX2_meetOfPreds_30 : decode cX2_meetOfPreds 30 = .ok (.iaload, 1) := by decide +kernel
theorem dX2_meetOfPreds_31 : decode cX2_meetOfPreds 31 = .ok (.istore 5, 2) := by decide +kernel
theorem dX2_meetOfPreds_33 : decode cX2_meetOfPreds 33 = .ok (.aload_n 0, 1) := by decide +kernel
theorem dX2_meetOfPreds_34 : decode cX2_meetOfPreds 34 = .ok (.getfield 15, 3) := by decide +kernel
theorem dX2_meetOfPreds_37 : decode cX2_meetOfPreds 37 = .ok (.iload 5, 2) := by decide +kernel
theorem dX2_meetOfPreds_39 : decode cX2_meetOfPreds 39 = .ok (.iaload, 1) := by decide +kernel
theorem dX2_meetOfPreds_40 : decode cX2_meetOfPreds 40 = .ok (.ifCond .lt 20, 3) := by decide +kernel
theorem dX2_meetOfPreds_60 : decode cX2_meetOfPreds 60 = .ok (.iinc 4 1, 3) := by decide +kernel
theorem dX2_meetOfPreds_63 : decode cX2_meetOfPreds 63 = .ok (.goto (-52), 3) := by decide +kernel
theorem dX2_meetOfPreds_43 : decode cX2_meetOfPreds 43 = .ok (.iload_n 3, 1) := by decide +kernel
theorem dX2_meetOfPreds_44 : decode cX2_meetOfPreds 44 = .ok (.ifCond .ge 8, 3) := by decide +kernel
theorem dX2_meetOfPreds_52 : decode cX2_meetOfPreds 52 = .ok (.aload_n 0, 1) := by decide +kernel
theorem dX2_meetOfPreds_53 : decode cX2_meetOfPreds 53 = .ok (.iload 5, 2) := by decide +kernel
theorem dX2_meetOfPreds_55 : decode cX2_meetOfPreds 55 = .ok (.iload_n 3, 1) := by decide +kernel
theorem dX2_meetOfPreds_56 : decode cX2_meetOfPreds 56 = .ok (.invokevirtual 99, 3) := by decide +kernel
theorem dX2_meetOfPreds_59 : decode cX2_meetOfPreds 59 = .ok (.istore_n 3, 1) := by decide +kernel
theorem dX2_meetOfPreds_47 : decode cX2_meetOfPreds 47 = .ok (.iload 5, 2) := by decide +kernel
theorem dX2_meetOfPreds_49 : decode cX2_meetOfPreds 49 = .ok (.goto 10, 3) := by decide +kernel
def o_X2_meetOfPreds : List Cond := [.fieldLink RX2 93 "SsaForge$Code" "predStart" "[I", .fieldLink RX2 96 "SsaForge$Code" "preds" "[I", .fieldLink RX2 15 "SsaForge$Flow" "idom" "[I", .methodLink RX2 99 yX2_meet, .instanceMethod yX2_meet, .selects RX2 yX2_meet yX2_meet, .initialized RX2]
def v_X2_meetOfPreds : List Cond := .code yX2_meetOfPreds cX2_meetOfPreds 6 (some .int) :: (o_X2_meetOfPreds ++ (wsX00 ++ (wsX20 ++ (v_X2_meet ++ []))))
theorem mow_X2_meetOfPreds : ∀ w ∈ o_X2_meetOfPreds, w ∈ v_X2_meetOfPreds := fun _ h => List.mem_cons_of_mem _ (List.mem_append_left _ h)
theorem mem_X2_meetOfPreds_0 : ∀ w ∈ wsX00, w ∈ v_X2_meetOfPreds := fun _ h => List.mem_cons_of_mem _ (List.mem_append_right _ (List.mem_append_left _ h))
theorem mem_X2_meetOfPreds_1 : ∀ w ∈ wsX20, w ∈ v_X2_meetOfPreds := fun _ h => List.mem_cons_of_mem _ (List.mem_append_right _ (List.mem_append_right _ (List.mem_append_left _ h)))
theorem mem_X2_meetOfPreds_2 : ∀ w ∈ v_X2_meet, w ∈ v_X2_meetOfPreds := fun _ h => List.mem_cons_of_mem _ (List.mem_append_right _ (List.mem_append_right _ (List.mem_append_right _ (List.mem_append_left _ h))))
set_option maxRecDepth 20000 in
theorem gw_X2_meetOfPreds : v_X2_meetOfPreds.all goodWord = true := by decide +kernel
set_option maxRecDepth 20000 in
theorem g_X2_meetOfPreds_X2_meet : GoodIn v_X2_meetOfPreds (wsV RX2 99 RX2 yX2_meet v_X2_meet) := goodIn_app (goodIn_sub (fun w h => mow_X2_meetOfPreds w (by revert w h; decide +kernel)) (by decide +kernel)) (goodIn_sub mem_X2_meetOfPreds_2 gw_X2_meet)
set_option maxHeartbeats 4000000 in
set_option maxRecDepth 100000 in
theorem c_X2_meetOfPreds (l : Launch) (dC : Nat → ClassId) (dI : Nat → Nat → Nat) (h0 : Nat) (v2_0 : Value) (q_201 : Nat) (cA_201 : ClassId) (a2_idom : Int → Int) (v2_2 : Value) (v2_3 : Value) (v2_4 : Value) (v2_5 : Value) (v2_6 : Value) (v2_7 : Value) (v2_8 : Value) (q_209 : Nat) (cA_209 : ClassId) (a2_post : Int → Int) (v2_10 : Value) (v2_11 : Value) (v2_12 : Value) (hc : Nat) (B1 : Int) (v_1 : Value) (v_2 : Value) (v_3 : Value) (v_4 : Value) (v_5 : Value) (v_6 : Value) (v_7 : Value) (v_8 : Value) (v_9 : Value) (v_10 : Value) (v_11 : Value) (v_12 : Value) (q_713 : Nat) (cA_713 : ClassId) (a_13 : Int → Int) (q_714 : Nat) (cA_714 : ClassId) (a_14 : Int → Int) (v_15 : Value) (v_16 : Value) (v_17 : Value) (v_18 : Value) (b : Int) (a_9 : Int → Int) (a_11 : Int → Int) (a_12 : Int → Int) (a2_byPost : Int → Int) (z2_reached : Int) (hR_a2_idom : ∀ j : Int, -2 ≤ a2_idom j ∧ a2_idom j ≤ 299) (hR_a2_post : ∀ j : Int, -1 ≤ a2_post j ∧ a2_post j ≤ 299) (hNB1 : 0 ≤ B1 ∧ B1 ≤ 300) (hR_a_13 : ∀ j : Int, 0 ≤ a_13 j ∧ a_13 j ≤ 600) (hR_a_14 : ∀ j : Int, 0 ≤ a_14 j ∧ a_14 j ≤ 299) (hX_W : FW a_9 a_11 a_12 B1 a2_post a2_byPost z2_reached) (hX_I : IDI B1 a_13 a_14 a2_post a2_idom) (hX_L : PL a_9 a_11 a_12 B1 a_13 a_14) (hNb : 0 ≤ b ∧ b < B1) (sz : Nat) : Met l yX2_meetOfPreds v_X2_meetOfPreds ({ frames := 1, cells := 0, slots := 0, locals := 25 }) (va_Pc [.ref h0, .ref hc, .int (zI (b))] (fun U => U.heap.size = sz ∧ va_P (dC, dI) vwP [(h0, .inr (2, [v2_0, .ref q_201, v2_2, v2_3, v2_4, v2_5, v2_6, v2_7, v2_8, .ref q_209, v2_10, v2_11, v2_12])), (q_201, .inl (cA_201, 300, .inl (fun j : Nat => zI (a2_idom (j : Int))))), (q_209, .inl (cA_209, 300, .inl (fun j : Nat => zI (a2_post (j : Int))))), (hc, .inr (0, [.int (zI (B1)), v_1, v_2, v_3, v_4, v_5, v_6, v_7, v_8, v_9, v_10, v_11, v_12, .ref q_713, .ref q_714, v_15, v_16, v_17, v_18])), (q_713, .inl (cA_713, 301, .inl (fun j : Nat => zI (a_13 (j : Int))))), (q_714, .inl (cA_714, 600, .inl (fun j : Nat => zI (a_14 (j : Int)))))] U.heap ∧ va_K (dC, dI) vwP [(cA_201, .int), (cA_209, .int), (cA_713, .int), (cA_714, .int)] U ∧ va_D (fun _ => True) [(h0, .inr (2, [v2_0, .ref q_201, v2_2, v2_3, v2_4, v2_5, v2_6, v2_7, v2_8, .ref q_209, v2_10, v2_11, v2_12])), (q_201, .inl (cA_201, 300, .inl (fun j : Nat => zI (a2_idom (j : Int))))), (q_209, .inl (cA_209, 300, .inl (fun j : Nat => zI (a2_post (j : Int))))), (hc, .inr (0, [.int (zI (B1)), v_1, v_2, v_3, v_4, v_5, v_6, v_7, v_8, v_9, v_10, v_11, v_12, .ref q_713, .ref q_714, v_15, v_16, v_17, v_18])), (q_713, .inl (cA_713, 301, .inl (fun j : Nat => zI (a_13 (j : Int))))), (q_714, .inl (cA_714, 600, .inl (fun j : Nat => zI (a_14 (j : Int)))))])) (va_Qi (fun (r : Int32) (_ : Unit) => ∃ z : Int, r = zI z ∧ ((-2 ≤ z ∧ z < B1) ∧ PM B1 a_14 a2_idom (a_13 b) (a_13 (b + 1)) z)) (fun (_ : Unit) (t : State) => va_P (dC, dI) vwP [(h0, .inr (2, [v2_0, .ref q_201, v2_2, v2_3, v2_4, v2_5, v2_6, v2_7, v2_8, .ref q_209, v2_10, v2_11, v2_12])), (q_201, .inl (cA_201, 300, .inl (fun j : Nat => zI (a2_idom (j : Int))))), (q_209, .inl (cA_209, 300, .inl (fun j : Nat => zI (a2_post (j : Int))))), (hc, .inr (0, [.int (zI (B1)), v_1, v_2, v_3, v_4, v_5, v_6, v_7, v_8, v_9, v_10, v_11, v_12, .ref q_713, .ref q_714, v_15, v_16, v_17, v_18])), (q_713, .inl (cA_713, 301, .inl (fun j : Nat => zI (a_13 (j : Int))))), (q_714, .inl (cA_714, 600, .inl (fun j : Nat => zI (a_14 (j : Int)))))] t.heap ∧ va_K (dC, dI) vwP [(cA_201, .int), (cA_209, .int), (cA_713, .int), (cA_714, .int)] t ∧ va_D (va_A [(h0, .inr (2, [v2_0, .ref q_201, v2_2, v2_3, v2_4, v2_5, v2_6, v2_7, v2_8, .ref q_209, v2_10, v2_11, v2_12])), (q_201, .inl (cA_201, 300, .inl (fun j : Nat => zI (a2_idom (j : Int))))), (q_209, .inl (cA_209, 300, .inl (fun j : Nat => zI (a2_post (j : Int))))), (hc, .inr (0, [.int (zI (B1)), v_1, v_2, v_3, v_4, v_5, v_6, v_7, v_8, v_9, v_10, v_11, v_12, .ref q_713, .ref q_714, v_15, v_16, v_17, v_18])), (q_713, .inl (cA_713, 301, .inl (fun j : Nat => zI (a_13 (j : Int))))), (q_714, .inl (cA_714, 600, .inl (fun j : Nat => zI (a_14 (j : Int)))))] sz) [(h0, .inr (2, [v2_0, .ref q_201, v2_2, v2_3, v2_4, v2_5, v2_6, v2_7, v2_8, .ref q_209, v2_10, v2_11, v2_12])), (q_201, .inl (cA_201, 300, .inl (fun j : Nat => zI (a2_idom (j : Int))))), (q_209, .inl (cA_209, 300, .inl (fun j : Nat => zI (a2_post (j : Int))))), (hc, .inr (0, [.int (zI (B1)), v_1, v_2, v_3, v_4, v_5, v_6, v_7, v_8, v_9, v_10, v_11, v_12, .ref q_713, .ref q_714, v_15, v_16, v_17, v_18])), (q_713, .inl (cA_713, 301, .inl (fun j : Nat => zI (a_13 (j : Int))))), (q_714, .inl (cA_714, 600, .inl (fun j : Nat => zI (a_14 (j : Int)))))]) (va_A [(h0, .inr (2, [v2_0, .ref q_201, v2_2, v2_3, v2_4, v2_5, v2_6, v2_7, v2_8, .ref q_209, v2_10, v2_11, v2_12])), (q_201, .inl (cA_201, 300, .inl (fun j : Nat => zI (a2_idom (j : Int))))), (q_209, .inl (cA_209, 300, .inl (fun j : Nat => zI (a2_post (j : Int))))), (hc, .inr (0, [.int (zI (B1)), v_1, v_2, v_3, v_4, v_5, v_6, v_7, v_8, v_9, v_10, v_11, v_12, .ref q_713, .ref q_714, v_15, v_16, v_17, v_18])), (q_713, .inl (cA_713, 301, .inl (fun j : Nat => zI (a_13 (j : Int))))), (q_714, .inl (cA_714, 600, .inl (fun j : Nat => zI (a_14 (j : Int)))))] sz)) 0 0 (va_A [(h0, .inr (2, [v2_0, .ref q_201, v2_2, v2_3, v2_4, v2_5, v2_6, v2_7, v2_8, .ref q_209, v2_10, v2_11, v2_12])), (q_201, .inl (cA_201, 300, .inl (fun j : Nat => zI (a2_idom (j : Int))))), (q_209, .inl (cA_209, 300, .inl (fun j : Nat => zI (a2_post (j : Int))))), (hc, .inr (0, [.int (zI (B1)), v_1, v_2, v_3, v_4, v_5, v_6, v_7, v_8, v_9, v_10, v_11, v_12, .ref q_713, .ref q_714, v_15, v_16, v_17, v_18])), (q_713, .inl (cA_713, 301, .inl (fun j : Nat => zI (a_13 (j : Int))))), (q_714, .inl (cA_714, 600, .inl (fun j : Nat => zI (a_14 (j : Int)))))] sz) := by
  refine Met.ofW (cc := cX2_meetOfPreds) (maxL := 6) (ret := (some .int)) (by decide) rfl ?_
  intro p e s m args below meth c s₁ B hml hv
  obtain ⟨rfl, hsz, hP, hK, hD0⟩ := hv
  have hx := B.exec
  have hb := B.bytes
  have hr := B.returns
  have hts := atoms_spec (ws := v_X2_meetOfPreds) B.pre
  have hown : s.vm.findClass RX2 = some m.cls := findClass_of_methodNamed B.named
  have hlocks := B.notSynchronized
  have ow : ∀ {k : Nat} {w : Cond}, o_X2_meetOfPreds[k]? = some w → w.before ([.ref h0, .ref hc, .int (zI (b))] : List Value).toArray s = true := fun h => hts _ (mow_X2_meetOfPreds _ (List.mem_of_getElem? h))
  subst hsz
  have hD := hD0.self (sz := s.heap.size)
  generalize hAe : va_A [(h0, .inr (2, [v2_0, .ref q_201, v2_2, v2_3, v2_4, v2_5, v2_6, v2_7, v2_8, .ref q_209, v2_10, v2_11, v2_12])), (q_201, .inl (cA_201, 300, .inl (fun j : Nat => zI (a2_idom (j : Int))))), (q_209, .inl (cA_209, 300, .inl (fun j : Nat => zI (a2_post (j : Int))))), (hc, .inr (0, [.int (zI (B1)), v_1, v_2, v_3, v_4, v_5, v_6, v_7, v_8, v_9, v_10, v_11, v_12, .ref q_713, .ref q_714, v_15, v_16, v_17, v_18])), (q_713, .inl (cA_713, 301, .inl (fun j : Nat => zI (a_13 (j : Int))))), (q_714, .inl (cA_714, 600, .inl (fun j : Nat => zI (a_14 (j : Int)))))] s.heap.size = A at hD ⊢
  have hA : ∀ q : Nat, s.heap.size ≤ q → A q := fun q h => by rw [← hAe]; exact Or.inr h
  have hS : va_S A s.heap s.heap [] := va_S.rf
  have hP : va_P (dC, dI) vwP [(h0, .inr (2, [v2_0, .ref q_201, v2_2, v2_3, v2_4, v2_5, v2_6, v2_7, v2_8, .ref q_209, v2_10, v2_11, v2_12])), (q_201, .inl (cA_201, 300, .inl (fun j : Nat => zI (a2_idom (j : Int))))), (q_209, .inl (cA_209, 300, .inl (fun j : Nat => zI (a2_post (j : Int))))), (hc, .inr (0, [.int (zI (B1)), v_1, v_2, v_3, v_4, v_5, v_6, v_7, v_8, v_9, v_10, v_11, v_12, .ref q_713, .ref q_714, v_15, v_16, v_17, v_18])), (q_713, .inl (cA_713, 301, .inl (fun j : Nat => zI (a_13 (j : Int))))), (q_714, .inl (cA_714, 600, .inl (fun j : Nat => zI (a_14 (j : Int)))))] s.heap := hP
  have hl := lv_entry ([.ref h0, .ref hc, .int (zI (b))]) (n := 6) (Nat.le_of_ble_eq_true rfl)
  rw [lg_entry_eq]
  generalize (lg_sl ([.ref h0, .ref hc, .int (zI (b))]) ++ List.replicate (6 - (lg_sl ([.ref h0, .ref hc, .int (zI (b))])).length) Slot.unset).toArray = ls at hl ⊢
  have hl : lv_has ls 6 [(0, .ref h0), (1, .ref hc), (2, .int (zI (b)))] := hl
  obtain ⟨H, hH⟩ : ∃ H, H = s.heap := ⟨_, rfl⟩
  rw [← hH] at hP
  have hS : va_S A s.heap H [] := by rw [hH]; exact hS
  rw [← hH]
  refine zW_cap (fun Q hQ => ?_)
  refine lv_bipush (v := (-2)) hx hb dX2_meetOfPreds_0 (by decide) ?_
  refine lv_istore_n (lv' := [(3, .int (-2)), (0, .ref h0), (1, .ref hc), (2, .int (zI (b)))]) hx hb dX2_meetOfPreds_2 rfl hl (by decide) rfl (fun ls hl => ?_)
  have hm9 := hX_L.mono b (by omega) (by omega)
  refine lv_aload_n hx hb dX2_meetOfPreds_3 rfl (lv_at hl 2 rfl) ?_
  refine va_get (D := (dC, dI)) (ci := 0) (v := .ref q_713) (C := RX0) (T := TX0) (N := 19) hx hb hts mem_X2_meetOfPreds_0 hown hK hP 3 rfl rfl 13 (by decide) (ow (k := 0) rfl) (fun _ h9 => h9) rfl dX2_meetOfPreds_4 ?_
  refine lv_iload_n hx hb dX2_meetOfPreds_7 rfl (lv_at hl 3 rfl) ?_
  refine va_iald hx hb hK hP 4 2 rfl rfl (zI_in (a := b) (n := 301) (by omega) (by omega) (by decide)) dX2_meetOfPreds_8 ?_
  refine lv_topi (fun z ez => ?_)
  obtain rfl : z = zI (a_13 (b)) := ez.trans (zI_ld (a_13) (by omega) (by omega))
  have k1 := hR_a_13 (b)
  refine lv_istore (lv' := [(4, .int (zI (a_13 (b)))), (3, .int (-2)), (0, .ref h0), (1, .ref hc), (2, .int (zI (b)))]) hx hb dX2_meetOfPreds_9 hl (by decide) rfl (fun ls hl => ?_)
  have key11 : ∀ n11 : Nat, ∀ (d11_4 : Int) (d11_3 : Int) (ls : Array Slot) (H : Heap) (locs : List Loc), (a_13 b ≤ d11_4 ∧ d11_4 ≤ a_13 (b + 1)) → (-2 ≤ d11_3 ∧ d11_3 < B1) → (PM B1 a_14 a2_idom (a_13 b) d11_4 d11_3) → (((a_13 (b + 1)) - (d11_4) : Int).toNat) < n11 → lv_has ls 6 [(0, .ref h0), (1, .ref hc), (2, .int (zI (b))), (3, .int (zI (d11_3))), (4, .int (zI (d11_4)))] → va_P (dC, dI) vwP [(h0, .inr (2, [v2_0, .ref q_201, v2_2, v2_3, v2_4, v2_5, v2_6, v2_7, v2_8, .ref q_209, v2_10, v2_11, v2_12])), (q_201, .inl (cA_201, 300, .inl (fun j : Nat => zI (a2_idom (j : Int))))), (q_209, .inl (cA_209, 300, .inl (fun j : Nat => zI (a2_post (j : Int))))), (hc, .inr (0, [.int (zI (B1)), v_1, v_2, v_3, v_4, v_5, v_6, v_7, v_8, v_9, v_10, v_11, v_12, .ref q_713, .ref q_714, v_15, v_16, v_17, v_18])), (q_713, .inl (cA_713, 301, .inl (fun j : Nat => zI (a_13 (j : Int))))), (q_714, .inl (cA_714, 600, .inl (fun j : Nat => zI (a_14 (j : Int)))))] H → va_D A [(h0, .inr (2, [v2_0, .ref q_201, v2_2, v2_3, v2_4, v2_5, v2_6, v2_7, v2_8, .ref q_209, v2_10, v2_11, v2_12])), (q_201, .inl (cA_201, 300, .inl (fun j : Nat => zI (a2_idom (j : Int))))), (q_209, .inl (cA_209, 300, .inl (fun j : Nat => zI (a2_post (j : Int))))), (hc, .inr (0, [.int (zI (B1)), v_1, v_2, v_3, v_4, v_5, v_6, v_7, v_8, v_9, v_10, v_11, v_12, .ref q_713, .ref q_714, v_15, v_16, v_17, v_18])), (q_713, .inl (cA_713, 301, .inl (fun j : Nat => zI (a_13 (j : Int))))), (q_714, .inl (cA_714, 600, .inl (fun j : Nat => zI (a_14 (j : Int)))))] → va_S A s.heap H locs → W p l e (headSpec v_X2_meetOfPreds ({ frames := 1, cells := 0, slots := 0, locals := 25 })).room s m ([.ref h0, .ref hc, .int (zI (b))] : List Value).toArray below meth c H locs 0 0 Q (F0 m 11 ls []) := by
    intro n11
    induction n11 with
    | zero => intro d11_4 d11_3 ls H locs jd11_4 jd11_3 jP hm11; exact absurd hm11 (by omega)
    | succ n11 ih11 =>
      intro d11_4 d11_3 ls H locs jd11_4 jd11_3 jP hm11 hl hP hD hS
      refine lv_iload hx hb dX2_meetOfPreds_11 (lv_at hl 4 rfl) ?_
      refine lv_aload_n hx hb dX2_meetOfPreds_13 rfl (lv_at hl 1 rfl) ?_
      refine va_get (D := (dC, dI)) (ci := 0) (v := .ref q_713) (C := RX0) (T := TX0) (N := 19) hx hb hts mem_X2_meetOfPreds_0 hown hK hP 3 rfl rfl 13 (by decide) (ow (k := 0) rfl) (fun _ h9 => h9) rfl dX2_meetOfPreds_14 ?_
      refine lv_iload_n hx hb dX2_meetOfPreds_17 rfl (lv_at hl 2 rfl) ?_
      refine lv_iconst (v := 1) hx hb dX2_meetOfPreds_18 (by decide) ?_
      refine lv_iadd hx hb dX2_meetOfPreds_19 ?_
      refine lv_topi (fun z ez => ?_)
      obtain rfl : z = zI (b + 1) := ez.trans (zI_add (b) (1))
      refine va_iald hx hb hK hP 4 2 rfl rfl (zI_in (a := b + 1) (n := 301) (by omega) (by omega) (by decide)) dX2_meetOfPreds_20 ?_
      refine lv_topi (fun z ez => ?_)
      obtain rfl : z = zI (a_13 (b + 1)) := ez.trans (zI_ld (a_13) (by omega) (by omega))
      have k2 := hR_a_13 (b + 1)
      refine lv_icmp_ge (tgt := 66) hx hb dX2_meetOfPreds_21 (by decide) (fun b21 => ?_) (fun b21 => ?_)
      · have yb21 : (a_13 (b + 1) : Int) ≤ (d11_4 : Int) := (zI_le (a := a_13 (b + 1)) (b := d11_4) (by omega) (by omega) (by omega) (by omega)).mp b21
        refine lv_iload_n hx hb dX2_meetOfPreds_66 rfl (lv_at hl 3 rfl) ?_
        subst hQ
        refine W.widen (k := 0) (n := 0) (Nat.le_of_ble_eq_true rfl) (Nat.le_of_ble_eq_true rfl) ?_
        exact W.iret (v := (zI (d11_3))) hx hb hr (fun t ht hW => ⟨⟨(zI (d11_3)), (), rfl, ⟨d11_3, rfl, ⟨by omega, by have e9 : d11_4 = a_13 (b + 1) := (by omega); rw [e9] at jP; exact jP⟩⟩, by rw [ht]; exact hP, va_K.moved hW.alike hK, hD⟩, hS.F ht⟩) hS.2.2 dX2_meetOfPreds_67
      · have yb21 : ¬ (a_13 (b + 1) : Int) ≤ (d11_4 : Int) := fun q => b21 ((zI_le (a := a_13 (b + 1)) (b := d11_4) (by omega) (by omega) (by omega) (by omega)).mpr q)
        have ho9 := (hX_L.out b d11_4 (by omega) (by omega) (by omega) (by omega)).1
        refine lv_aload_n hx hb dX2_meetOfPreds_24 rfl (lv_at hl 1 rfl) ?_
        refine va_get (D := (dC, dI)) (ci := 0) (v := .ref q_714) (C := RX0) (T := TX0) (N := 19) hx hb hts mem_X2_meetOfPreds_0 hown hK hP 3 rfl rfl 14 (by decide) (ow (k := 1) rfl) (fun _ h9 => h9) rfl dX2_meetOfPreds_25 ?_
        refine lv_iload hx hb dX2_meetOfPreds_28 (lv_at hl 4 rfl) ?_
        refine va_iald hx hb hK hP 5 3 rfl rfl (zI_in (a := d11_4) (n := 600) (by omega) (by omega) (by decide)) dX2_meetOfPreds_30 ?_
        refine lv_topi (fun z ez => ?_)
        obtain rfl : z = zI (a_14 (d11_4)) := ez.trans (zI_ld (a_14) (by omega) (by omega))
        have k3 := hR_a_14 (d11_4)
        refine lv_istore (lv' := [(5, .int (zI (a_14 (d11_4)))), (0, .ref h0), (1, .ref hc), (2, .int (zI (b))), (3, .int (zI (d11_3))), (4, .int (zI (d11_4)))]) hx hb dX2_meetOfPreds_31 hl (by decide) rfl (fun ls hl => ?_)
        refine lv_aload_n hx hb dX2_meetOfPreds_33 rfl (lv_at hl 1 rfl) ?_
        refine va_get (D := (dC, dI)) (ci := 2) (v := .ref q_201) (C := RX2) (T := TX2) (N := 13) hx hb hts mem_X2_meetOfPreds_1 hown hK hP 0 rfl rfl 1 (by decide) (ow (k := 2) rfl) (fun _ h9 => h9) rfl dX2_meetOfPreds_34 ?_
        refine lv_iload hx hb dX2_meetOfPreds_37 (lv_at hl 0 rfl) ?_
        refine va_iald hx hb hK hP 1 0 rfl rfl (zI_in (a := a_14 (d11_4)) (n := 300) (by omega) (by omega) (by decide)) dX2_meetOfPreds_39 ?_
        refine lv_topi (fun z ez => ?_)
        obtain rfl : z = zI (a2_idom (a_14 (d11_4))) := ez.trans (zI_ld (a2_idom) (by omega) (by omega))
        have k4 := hR_a2_idom (a_14 (d11_4))
        refine lv_if_lt (tgt := 60) hx hb dX2_meetOfPreds_40 (by decide) (fun b40 => ?_) (fun b40 => ?_)
        · have yb40 : (a2_idom (a_14 (d11_4)) : Int) < (0 : Int) := (zI_lt (a := a2_idom (a_14 (d11_4))) (b := 0) (by omega) (by omega) (by omega) (by omega)).mp b40
          refine lv_iinc (v := zI (d11_4 + 1)) (lv' := [(4, .int (zI (d11_4 + 1))), (5, .int (zI (a_14 (d11_4)))), (0, .ref h0), (1, .ref hc), (2, .int (zI (b))), (3, .int (zI (d11_3)))]) hx hb dX2_meetOfPreds_60 hl (k := 5) rfl (zI_add (d11_4) (1)) (by decide) rfl (fun ls hl => ?_)
          refine lv_goto (tgt := 11) hx hb dX2_meetOfPreds_63 (by decide) ?_
          exact ih11 (d11_4 + 1) d11_3 ls H _ (by omega) (by omega) (PM.skip jP (by omega)) (by omega) (lv_sub hl [2, 3, 4, 5, 0] rfl) hP hD hS
        · have yb40 : ¬ (a2_idom (a_14 (d11_4)) : Int) < (0 : Int) := fun q => b40 ((zI_lt (a := a2_idom (a_14 (d11_4))) (b := 0) (by omega) (by omega) (by omega) (by omega)).mpr q)
          refine lv_iload_n hx hb dX2_meetOfPreds_43 rfl (lv_at hl 4 rfl) ?_
          refine lv_if_ge (tgt := 52) hx hb dX2_meetOfPreds_44 (by decide) (fun b44 => ?_) (fun b44 => ?_)
          · have yb44 : (0 : Int) ≤ (d11_3 : Int) := (zI_le (a := 0) (b := d11_3) (by omega) (by omega) (by omega) (by omega)).mp b44
            have hq9 := (jP.some (by omega)).1
            refine lv_aload_n hx hb dX2_meetOfPreds_52 rfl (lv_at hl 1 rfl) ?_
            refine lv_iload hx hb dX2_meetOfPreds_53 (lv_at hl 0 rfl) ?_
            refine lv_iload_n hx hb dX2_meetOfPreds_55 rfl (lv_at hl 4 rfl) ?_
            have hPc := hP.sub (ws' := [(h0, .inr (2, [v2_0, .ref q_201, v2_2, v2_3, v2_4, v2_5, v2_6, v2_7, v2_8, .ref q_209, v2_10, v2_11, v2_12])), (q_201, .inl (cA_201, 300, .inl (fun j : Nat => zI (a2_idom (j : Int))))), (q_209, .inl (cA_209, 300, .inl (fun j : Nat => zI (a2_post (j : Int)))))]) [0, 1, 2] rfl
            have hDc := hD.sub (ws' := [(h0, .inr (2, [v2_0, .ref q_201, v2_2, v2_3, v2_4, v2_5, v2_6, v2_7, v2_8, .ref q_209, v2_10, v2_11, v2_12])), (q_201, .inl (cA_201, 300, .inl (fun j : Nat => zI (a2_idom (j : Int))))), (q_209, .inl (cA_209, 300, .inl (fun j : Nat => zI (a2_post (j : Int)))))]) [0, 1, 2] (by decide) rfl
            have hKc := hK.sub (tys' := [(cA_201, .int), (cA_209, .int)]) [0, 1] rfl
            have hFc := va_free (wc := [(h0, .inr (2, [v2_0, .ref q_201, v2_2, v2_3, v2_4, v2_5, v2_6, v2_7, v2_8, .ref q_209, v2_10, v2_11, v2_12])), (q_201, .inl (cA_201, 300, .inl (fun j : Nat => zI (a2_idom (j : Int))))), (q_209, .inl (cA_209, 300, .inl (fun j : Nat => zI (a2_post (j : Int)))))]) hD hS hA [0, 1, 2] rfl
            refine va_calli (va_runV (As := [.int (zI (a_14 (d11_4))), .int (zI (d11_3))]) (rest := []) ⟨hx, hb, hml, hown, hts⟩ (c_X2_meet l dC dI h0 v2_0 q_201 cA_201 a2_idom v2_2 v2_3 v2_4 v2_5 v2_6 v2_7 v2_8 q_209 cA_209 a2_post v2_10 v2_11 v2_12 (a_14 (d11_4)) d11_3 B1 a_9 a_11 a_12 a_13 a_14 a2_byPost z2_reached hR_a2_idom hR_a2_post (by omega) hX_W hX_I (by omega) (by omega) H.size) (cwV 2 hts g_X2_meetOfPreds_X2_meet rfl rfl rfl (by decide +kernel) ⟨(Nat.le_of_ble_eq_true rfl), (Nat.le_of_ble_eq_true rfl)⟩) ⟨fun a U g mk q => by obtain ⟨q0, q1, qP, qK, qD⟩ := q; exact ⟨q0, q1, qP, va_K.moved (u := U) (U := U.calling g mk a) (Vm.Alike.refl U.vm) qK, qD⟩, va_recv hKc hPc (ci := 2) (q0 := 0) rfl rfl, fun U hU hW => ⟨rfl, by rw [hU], by rw [hU]; exact hPc, va_K.moved hW.alike hKc, hDc.weaken (fun _ _ _ _ => trivial)⟩⟩ rfl rfl hl.1 rfl (lv_room (Nat.le_of_ble_eq_true rfl)) dX2_meetOfPreds_56 ⟨(Nat.le_of_ble_eq_true rfl), (Nat.le_of_ble_eq_true rfl)⟩) hS (fun q _ h => hFc q h) hFc (fun r_2001 u t H1 locs ht hvm hw hB hz1 hk1 hS => ?_)
            obtain ⟨hP1, hK1, hD1⟩ := hB
            rw [ht] at hP1
            have hK1 := va_K.moved hvm.symm hK1
            obtain ⟨hP, hD⟩ := va_join (wr := [(hc, .inr (0, [.int (zI (B1)), v_1, v_2, v_3, v_4, v_5, v_6, v_7, v_8, v_9, v_10, v_11, v_12, .ref q_713, .ref q_714, v_15, v_16, v_17, v_18])), (q_713, .inl (cA_713, 301, .inl (fun j : Nat => zI (a_13 (j : Int))))), (q_714, .inl (cA_714, 600, .inl (fun j : Nat => zI (a_14 (j : Int)))))]) (w1 := [(h0, .inr (2, [v2_0, .ref q_201, v2_2, v2_3, v2_4, v2_5, v2_6, v2_7, v2_8, .ref q_209, v2_10, v2_11, v2_12])), (q_201, .inl (cA_201, 300, .inl (fun j : Nat => zI (a2_idom (j : Int))))), (q_209, .inl (cA_209, 300, .inl (fun j : Nat => zI (a2_post (j : Int)))))]) hP hD [0, 1, 2] [3, 4, 5] rfl rfl (by decide) (by decide) hk1 hFc hP1 hD1
            have hK := (hK.sub (tys' := [(cA_713, .int), (cA_714, .int)]) [2, 3] rfl).app hK1
            generalize H1 = H at hP hS ⊢
            have hP : va_P (dC, dI) vwP [(hc, .inr (0, [.int (zI (B1)), v_1, v_2, v_3, v_4, v_5, v_6, v_7, v_8, v_9, v_10, v_11, v_12, .ref q_713, .ref q_714, v_15, v_16, v_17, v_18])), (q_713, .inl (cA_713, 301, .inl (fun j : Nat => zI (a_13 (j : Int))))), (q_714, .inl (cA_714, 600, .inl (fun j : Nat => zI (a_14 (j : Int))))), (h0, .inr (2, [v2_0, .ref q_201, v2_2, v2_3, v2_4, v2_5, v2_6, v2_7, v2_8, .ref q_209, v2_10, v2_11, v2_12])), (q_201, .inl (cA_201, 300, .inl (fun j : Nat => zI (a2_idom (j : Int))))), (q_209, .inl (cA_209, 300, .inl (fun j : Nat => zI (a2_post (j : Int)))))] H := hP
            have hD : va_D A [(hc, .inr (0, [.int (zI (B1)), v_1, v_2, v_3, v_4, v_5, v_6, v_7, v_8, v_9, v_10, v_11, v_12, .ref q_713, .ref q_714, v_15, v_16, v_17, v_18])), (q_713, .inl (cA_713, 301, .inl (fun j : Nat => zI (a_13 (j : Int))))), (q_714, .inl (cA_714, 600, .inl (fun j : Nat => zI (a_14 (j : Int))))), (h0, .inr (2, [v2_0, .ref q_201, v2_2, v2_3, v2_4, v2_5, v2_6, v2_7, v2_8, .ref q_209, v2_10, v2_11, v2_12])), (q_201, .inl (cA_201, 300, .inl (fun j : Nat => zI (a2_idom (j : Int))))), (q_209, .inl (cA_209, 300, .inl (fun j : Nat => zI (a2_post (j : Int)))))] := hD
            have hK : va_K (dC, dI) vwP [(cA_713, .int), (cA_714, .int), (cA_201, .int), (cA_209, .int)] s := hK
            refine W.widen (k := 0) (n := 0) (Nat.le_of_ble_eq_true rfl) (Nat.le_of_ble_eq_true rfl) ?_
            have hw_2002 := hw
            obtain ⟨z_2003, rfl, hzz_2003⟩ := hw_2002
            have hq8 := hzz_2003.1
            refine lv_istore_n (lv' := [(3, .int (zI (z_2003))), (5, .int (zI (a_14 (d11_4)))), (0, .ref h0), (1, .ref hc), (2, .int (zI (b))), (4, .int (zI (d11_4)))]) hx hb dX2_meetOfPreds_59 rfl hl (by decide) rfl (fun ls hl => ?_)
            refine lv_iinc (v := zI (d11_4 + 1)) (lv' := [(4, .int (zI (d11_4 + 1))), (3, .int (zI (z_2003))), (5, .int (zI (a_14 (d11_4)))), (0, .ref h0), (1, .ref hc), (2, .int (zI (b)))]) hx hb dX2_meetOfPreds_60 hl (k := 5) rfl (zI_add (d11_4) (1)) (by decide) rfl (fun ls hl => ?_)
            refine lv_goto (tgt := 11) hx hb dX2_meetOfPreds_63 (by decide) ?_
            have hP := hP.sub (ws' := [(h0, .inr (2, [v2_0, .ref q_201, v2_2, v2_3, v2_4, v2_5, v2_6, v2_7, v2_8, .ref q_209, v2_10, v2_11, v2_12])), (q_201, .inl (cA_201, 300, .inl (fun j : Nat => zI (a2_idom (j : Int))))), (q_209, .inl (cA_209, 300, .inl (fun j : Nat => zI (a2_post (j : Int))))), (hc, .inr (0, [.int (zI (B1)), v_1, v_2, v_3, v_4, v_5, v_6, v_7, v_8, v_9, v_10, v_11, v_12, .ref q_713, .ref q_714, v_15, v_16, v_17, v_18])), (q_713, .inl (cA_713, 301, .inl (fun j : Nat => zI (a_13 (j : Int))))), (q_714, .inl (cA_714, 600, .inl (fun j : Nat => zI (a_14 (j : Int)))))]) [3, 4, 5, 0, 1, 2] rfl
            have hD := hD.sub (ws' := [(h0, .inr (2, [v2_0, .ref q_201, v2_2, v2_3, v2_4, v2_5, v2_6, v2_7, v2_8, .ref q_209, v2_10, v2_11, v2_12])), (q_201, .inl (cA_201, 300, .inl (fun j : Nat => zI (a2_idom (j : Int))))), (q_209, .inl (cA_209, 300, .inl (fun j : Nat => zI (a2_post (j : Int))))), (hc, .inr (0, [.int (zI (B1)), v_1, v_2, v_3, v_4, v_5, v_6, v_7, v_8, v_9, v_10, v_11, v_12, .ref q_713, .ref q_714, v_15, v_16, v_17, v_18])), (q_713, .inl (cA_713, 301, .inl (fun j : Nat => zI (a_13 (j : Int))))), (q_714, .inl (cA_714, 600, .inl (fun j : Nat => zI (a_14 (j : Int)))))]) [3, 4, 5, 0, 1, 2] (by decide) rfl
            exact ih11 (d11_4 + 1) z_2003 ls H _ (by omega) (by omega) (PM.more jP (by omega) (by omega) (by omega) hzz_2003) (by omega) (lv_sub hl [3, 4, 5, 1, 0] rfl) hP hD hS
          · have yb44 : ¬ (0 : Int) ≤ (d11_3 : Int) := fun q => b44 ((zI_le (a := 0) (b := d11_3) (by omega) (by omega) (by omega) (by omega)).mpr q)
            refine lv_iload hx hb dX2_meetOfPreds_47 (lv_at hl 0 rfl) ?_
            refine lv_goto (tgt := 59) hx hb dX2_meetOfPreds_49 (by decide) ?_
            skip
            refine lv_istore_n (lv' := [(3, .int (zI (a_14 (d11_4)))), (5, .int (zI (a_14 (d11_4)))), (0, .ref h0), (1, .ref hc), (2, .int (zI (b))), (4, .int (zI (d11_4)))]) hx hb dX2_meetOfPreds_59 rfl hl (by decide) rfl (fun ls hl => ?_)
            refine lv_iinc (v := zI (d11_4 + 1)) (lv' := [(4, .int (zI (d11_4 + 1))), (3, .int (zI (a_14 (d11_4)))), (5, .int (zI (a_14 (d11_4)))), (0, .ref h0), (1, .ref hc), (2, .int (zI (b)))]) hx hb dX2_meetOfPreds_60 hl (k := 5) rfl (zI_add (d11_4) (1)) (by decide) rfl (fun ls hl => ?_)
            refine lv_goto (tgt := 11) hx hb dX2_meetOfPreds_63 (by decide) ?_
            exact ih11 (d11_4 + 1) (a_14 (d11_4)) ls H _ (by omega) (by omega) (PM.first jP (by omega) (by omega) (by omega) (by omega)) (by omega) (lv_sub hl [3, 4, 5, 1, 0] rfl) hP hD hS
  exact key11 (((a_13 (b + 1)) - (a_13 (b)) : Int).toNat + 1) (a_13 (b)) (-2) ls H _ (by omega) (by omega) (PM.start B1 a_14 a2_idom (a_13 b)) (by omega) (lv_sub hl [2, 3, 4, 1, 0] rfl) hP hD hS
