def o_P14_isLiveE : List Cond := [.fieldLink RX14 36 "SsaForgeModel$Flow" "live" "[[Z"]
def v_P14_isLiveE : List Cond := .code yX14_isLive cX14_isLive 3 (some .boolean) :: (o_P14_isLiveE ++ (wsX140 ++ []))
theorem mow_P14_isLiveE : ∀ w ∈ o_P14_isLiveE, w ∈ v_P14_isLiveE := fun _ h => List.mem_cons_of_mem _ (List.mem_append_left _ h)
theorem mem_P14_isLiveE_0 : ∀ w ∈ wsX140, w ∈ v_P14_isLiveE := fun _ h => List.mem_cons_of_mem _ (List.mem_append_right _ (List.mem_append_left _ h))
set_option maxRecDepth 20000 in
theorem gw_P14_isLiveE : v_P14_isLiveE.all goodWord = true := by decide +kernel
set_option maxHeartbeats 4000000 in
set_option maxRecDepth 100000 in
theorem c_P14_isLiveE (l : Launch) (dC : Nat → ClassId) (dI : Nat → Nat → Nat) (cI : ClassId) (cZ : ClassId) (h0 : Nat) (v14_1 : Value) (v14_2 : Value) (v14_3 : Value) (v14_4 : Value) (v14_5 : Value) (v14_6 : Value) (v14_7 : Value) (v14_8 : Value) (v14_9 : Value) (v14_11 : Value) (v14_12 : Value) (q_v : Nat) (cV : ClassId) (nv : Nat) (fv : Nat → Option Nat) (hc : Nat) (v13_0 : Value) (v13_1 : Value) (v13_2 : Value) (v13_3 : Value) (v13_4 : Value) (v13_6 : Value) (la : Nat) (cO : ClassId) (L : List Nat) (P : PO) (sx_ed : Nat) (b0 : Int) (r0 : Int) (hNnv : nv ≤ 1000) (hX_a : ALP L P cO cI cZ sx_ed la) (hX_T : TBK L P 43 cZ fv (P.lz la) 1002 0 1) (hNb : 0 ≤ b0 ∧ b0 < P.lz la ∧ P.lz la ≤ nv ∧ 0 ≤ r0 ∧ r0 ≤ 1001) (sz : Nat) : Met l yX14_isLive v_P14_isLiveE ({ frames := 0, cells := 0, slots := 0, locals := 0 }) (va_Pc [.ref h0, .int (zI (b0)), .int (zI (r0))] (fun U => U.heap.size = sz ∧ va_P (dC, dI) vwQ ([(h0, .inr (13, [.ref hc, v14_1, v14_2, v14_3, v14_4, v14_5, v14_6, v14_7, v14_8, v14_9, .ref q_v, v14_11, v14_12])), (q_v, .inl (cV, nv, .inr (.inr (.inr (.inr fv))))), (hc, .inr (12, [v13_0, v13_1, v13_2, v13_3, v13_4, .ref la, v13_6]))] ++ va_pl L (pE P)) U.heap ∧ va_K (dC, dI) vwQ [(cV, .array .boolean), (cO, .object "java/lang/Object"), (cI, .int), (cZ, .boolean)] U ∧ va_D (fun _ => True) ([(h0, .inr (13, [.ref hc, v14_1, v14_2, v14_3, v14_4, v14_5, v14_6, v14_7, v14_8, v14_9, .ref q_v, v14_11, v14_12])), (q_v, .inl (cV, nv, .inr (.inr (.inr (.inr fv))))), (hc, .inr (12, [v13_0, v13_1, v13_2, v13_3, v13_4, .ref la, v13_6]))] ++ va_pl L (pE P)))) (va_Qi (fun (r : Int32) (_ : Unit) => ∃ z : Int, r = zI z ∧ (0 ≤ z ∧ z ≤ 1 ∧ z = LVT P fv b0 r0)) (fun (_ : Unit) (t : State) => va_P (dC, dI) vwQ ([(h0, .inr (13, [.ref hc, v14_1, v14_2, v14_3, v14_4, v14_5, v14_6, v14_7, v14_8, v14_9, .ref q_v, v14_11, v14_12])), (q_v, .inl (cV, nv, .inr (.inr (.inr (.inr fv))))), (hc, .inr (12, [v13_0, v13_1, v13_2, v13_3, v13_4, .ref la, v13_6]))] ++ va_pl L (pE P)) t.heap ∧ va_K (dC, dI) vwQ [(cV, .array .boolean), (cO, .object "java/lang/Object"), (cI, .int), (cZ, .boolean)] t ∧ va_D (va_A ([(h0, .inr (13, [.ref hc, v14_1, v14_2, v14_3, v14_4, v14_5, v14_6, v14_7, v14_8, v14_9, .ref q_v, v14_11, v14_12])), (q_v, .inl (cV, nv, .inr (.inr (.inr (.inr fv))))), (hc, .inr (12, [v13_0, v13_1, v13_2, v13_3, v13_4, .ref la, v13_6]))] ++ va_pl L (pE P)) sz) ([(h0, .inr (13, [.ref hc, v14_1, v14_2, v14_3, v14_4, v14_5, v14_6, v14_7, v14_8, v14_9, .ref q_v, v14_11, v14_12])), (q_v, .inl (cV, nv, .inr (.inr (.inr (.inr fv))))), (hc, .inr (12, [v13_0, v13_1, v13_2, v13_3, v13_4, .ref la, v13_6]))] ++ va_pl L (pE P))) (va_A ([(h0, .inr (13, [.ref hc, v14_1, v14_2, v14_3, v14_4, v14_5, v14_6, v14_7, v14_8, v14_9, .ref q_v, v14_11, v14_12])), (q_v, .inl (cV, nv, .inr (.inr (.inr (.inr fv))))), (hc, .inr (12, [v13_0, v13_1, v13_2, v13_3, v13_4, .ref la, v13_6]))] ++ va_pl L (pE P)) sz)) 0 0 (va_A ([(h0, .inr (13, [.ref hc, v14_1, v14_2, v14_3, v14_4, v14_5, v14_6, v14_7, v14_8, v14_9, .ref q_v, v14_11, v14_12])), (q_v, .inl (cV, nv, .inr (.inr (.inr (.inr fv))))), (hc, .inr (12, [v13_0, v13_1, v13_2, v13_3, v13_4, .ref la, v13_6]))] ++ va_pl L (pE P)) sz) := by
  refine Met.ofW (cc := cX14_isLive) (maxL := 3) (ret := (some .boolean)) (by decide) rfl ?_
  intro p e s m args below meth c s₁ B hml hv
  obtain ⟨rfl, hsz, hP, hK, hD0⟩ := hv
  have hx := B.exec
  have hb := B.bytes
  have hr := B.returns
  have hts := atoms_spec (ws := v_P14_isLiveE) B.pre
  have hown : s.vm.findClass RX14 = some m.cls := findClass_of_methodNamed B.named
  have hlocks := B.notSynchronized
  have ow : ∀ {k : Nat} {w : Cond}, o_P14_isLiveE[k]? = some w → w.before ([.ref h0, .int (zI (b0)), .int (zI (r0))] : List Value).toArray s = true := fun h => hts _ (mow_P14_isLiveE _ (List.mem_of_getElem? h))
  subst hsz
  have hD := hD0.self (sz := s.heap.size)
  generalize hAe : va_A ([(h0, .inr (13, [.ref hc, v14_1, v14_2, v14_3, v14_4, v14_5, v14_6, v14_7, v14_8, v14_9, .ref q_v, v14_11, v14_12])), (q_v, .inl (cV, nv, .inr (.inr (.inr (.inr fv))))), (hc, .inr (12, [v13_0, v13_1, v13_2, v13_3, v13_4, .ref la, v13_6]))] ++ va_pl L (pE P)) s.heap.size = A at hD ⊢
  have hA : ∀ q : Nat, s.heap.size ≤ q → A q := fun q h => by rw [← hAe]; exact Or.inr h
  have hS : va_S A s.heap s.heap [] := va_S.rf
  have hP : va_P (dC, dI) vwQ ([(h0, .inr (13, [.ref hc, v14_1, v14_2, v14_3, v14_4, v14_5, v14_6, v14_7, v14_8, v14_9, .ref q_v, v14_11, v14_12])), (q_v, .inl (cV, nv, .inr (.inr (.inr (.inr fv))))), (hc, .inr (12, [v13_0, v13_1, v13_2, v13_3, v13_4, .ref la, v13_6]))] ++ va_pl L (pE P)) s.heap := hP
  have hl := lv_entry ([.ref h0, .int (zI (b0)), .int (zI (r0))]) (n := 3) (Nat.le_of_ble_eq_true rfl)
  rw [lg_entry_eq]
  generalize (lg_sl ([.ref h0, .int (zI (b0)), .int (zI (r0))]) ++ List.replicate (3 - (lg_sl ([.ref h0, .int (zI (b0)), .int (zI (r0))])).length) Slot.unset).toArray = ls at hl ⊢
  have hl : lv_has ls 3 [(0, .ref h0), (1, .int (zI (b0))), (2, .int (zI (r0)))] := hl
  obtain ⟨H, hH⟩ : ∃ H, H = s.heap := ⟨_, rfl⟩
  rw [← hH] at hP
  have hS : va_S A s.heap H [] := by rw [hH]; exact hS
  rw [← hH]
  refine zW_cap (fun Q hQ => ?_)
  have hX_a9 := hX_a
  have hla := hX_a.lok.2.2.1
  have hla2 := hX_a.1.1.2.1
  refine lv_aload_n hx hb dX14_isLive_0 rfl (lv_at hl 0 rfl) ?_
  refine va_get (D := (dC, dI)) (ci := 13) (v := .ref q_v) (C := RX14) (T := TX14) (N := 13) hx hb hts mem_P14_isLiveE_0 hown hK hP 0 rfl rfl 10 (by decide) (ow (k := 0) rfl) (fun _ h9 => h9) rfl dX14_isLive_1 ?_
  refine lv_iload_n hx hb dX14_isLive_4 rfl (lv_at hl 1 rfl) ?_
  obtain ⟨yt_1, heyt_1, hmyt_1, hnyt_1, hiyt_1⟩ := hX_T (b0) (by omega) (by omega)
  refine va_aldr hx hb hK hP 1 0 rfl rfl (zI_in (a := b0) (n := nv) (by omega) (by omega) (by omega)) dX14_isLive_5 ?_
  rw [show va_rf (fv (zI (b0)).toNatClampNeg) = .ref yt_1 from (by rw [zI_cl (by omega) (by omega), heyt_1]; rfl)]
  refine lv_iload_n hx hb dX14_isLive_6 rfl (lv_at hl 2 rfl) ?_
  obtain ⟨kp_2, hkp_2⟩ := va_pl_get (X := [(h0, .inr (13, [.ref hc, v14_1, v14_2, v14_3, v14_4, v14_5, v14_6, v14_7, v14_8, v14_9, .ref q_v, v14_11, v14_12])), (q_v, .inl (cV, nv, .inr (.inr (.inr (.inr fv))))), (hc, .inr (12, [v13_0, v13_1, v13_2, v13_3, v13_4, .ref la, v13_6]))]) (f := pE P) hmyt_1.1
  rw [pE_n43 hmyt_1.2.1, hmyt_1.2.2] at hkp_2
  refine va_zald hx hb hK hP kp_2 3 hkp_2 rfl (zI_in (a := r0) (n := P.an yt_1) (by omega) (by omega) (by omega)) dX14_isLive_7 ?_
  refine lv_topi (fun z ez => ?_)
  obtain rfl : z = zI (P.ia yt_1 (r0)) := ez.trans (zI_ld (P.ia yt_1) (by omega) (by omega))
  have := hiyt_1 (r0)
  subst hQ
  refine W.widen (k := 0) (n := 0) (Nat.le_of_ble_eq_true rfl) (Nat.le_of_ble_eq_true rfl) ?_
  exact W.zret (v := (zI (P.ia yt_1 (r0)))) hx hb hr (zI_bool (by omega) (by omega)) (fun t ht hW => ⟨⟨(zI (P.ia yt_1 (r0))), (), rfl, ⟨P.ia yt_1 (r0), rfl, ⟨by omega, by omega, (LVT.at heyt_1 _).symm⟩⟩, by rw [ht]; exact hP, va_K.moved hW.alike hK, hD⟩, hS.F ht⟩) hS.2.2 dX14_isLive_8
