def o_PP_addQ : List Cond := [.fieldLink RX15 24 "SsaForgeModel$Phi" "n" "I", .fieldLink RX15 7 "SsaForgeModel$Phi" "preds" "[I", .fieldLink RX15 13 "SsaForgeModel$Phi" "operands" "[I", .fieldLink RX15 16 "SsaForgeModel$Phi" "regs" "[Z", .methodLink RX15 31 yJ7_copyOf_59c91, .static yJ7_copyOf_59c91, .initialized RJ7, .arrayClass .boolean]
def v_PP_addQ : List Cond := .code yX15_add cX15_add 6 none :: (o_PP_addQ ++ (wsX150 ++ (v_J7_copyOfI ++ [])))
theorem mow_PP_addQ : ∀ w ∈ o_PP_addQ, w ∈ v_PP_addQ := fun _ h => List.mem_cons_of_mem _ (List.mem_append_left _ h)
theorem mem_PP_addQ_0 : ∀ w ∈ wsX150, w ∈ v_PP_addQ := fun _ h => List.mem_cons_of_mem _ (List.mem_append_right _ (List.mem_append_left _ h))
theorem mem_PP_addQ_1 : ∀ w ∈ v_J7_copyOfI, w ∈ v_PP_addQ := fun _ h => List.mem_cons_of_mem _ (List.mem_append_right _ (List.mem_append_right _ (List.mem_append_left _ h)))
set_option maxRecDepth 20000 in
theorem gw_PP_addQ : v_PP_addQ.all goodWord = true := by decide +kernel
set_option maxRecDepth 20000 in
theorem g_PP_addQ_J7_copyOfI : GoodIn v_PP_addQ (va_wsS RX15 31 yJ7_copyOf_59c91 v_J7_copyOfI) := goodIn_app (goodIn_sub (fun w h => mow_PP_addQ w (by revert w h; decide +kernel)) (by decide +kernel)) (goodIn_sub mem_PP_addQ_1 gw_J7_copyOfI)
set_option maxHeartbeats 4000000 in
set_option maxRecDepth 100000 in
theorem c_PP_addQ (l : Launch) (dC : Nat → ClassId) (dI : Nat → Nat → Nat) (cO : ClassId) (cI : ClassId) (cZ : ClassId) (L : List Nat) (P : PO) (xp : Nat) (p0 : Int) (o0 : Int) (b0 : Int) (hX_p : PIK L P cI cZ xp) (hNp : 0 ≤ p0 ∧ p0 ≤ 299 ∧ -2147483648 ≤ o0 ∧ o0 ≤ 2147483647 ∧ 0 ≤ b0 ∧ b0 ≤ 1 ∧ P.pn xp ≤ 299) (hX_o : b0 = 0 ∨ (0 ≤ o0 ∧ o0 ≤ 1001)) (sz : Nat) (HU : Heap) : Met l yX15_add v_PP_addQ ({ frames := 2, cells := 3, slots := 3000, locals := 82 }) (va_Pc [.ref xp, .int (zI (p0)), .int (zI (o0)), .int (zI (b0))] (fun U => U.heap.size = sz ∧ va_P (dC, dI) vwQ ([] ++ va_pl L (pE P)) U.heap ∧ va_K (dC, dI) vwQ [(cO, .object "java/lang/Object"), (cI, .int), (cZ, .boolean)] U ∧ va_D (fun _ => True) ([] ++ va_pl L (pE P)) ∧ U.heap = HU)) (va_Qv (fun _ : Unit => True) (fun (_ : Unit) (t : State) => ∃ (Ln_9 : List Nat) (Pn_9 : PO) (kc_9 : Nat) (ks_9 : Nat), ((RM HU t.heap kc_9 ks_9 ∧ ((ks_9 : Int) ≤ 6 * ((Pn_9.an (Pn_9.pp xp) : Int) - P.an (P.pp xp)) ∧ (kc_9 : Int) ≤ 3 * ((Pn_9.an (Pn_9.pp xp) : Int) - P.an (P.pp xp)) ∧ (ks_9 : Int) ≤ 3000 ∧ (kc_9 : Int) ≤ 3)) ∧ ((PXC xp L P Ln_9 Pn_9 ∧ PIK Ln_9 Pn_9 cI cZ xp ∧ (Pn_9.pn xp = P.pn xp + 1 ∧ Pn_9.pt xp = P.pt xp ∧ Pn_9.pg xp = P.pg xp ∧ (Pn_9.an (Pn_9.pp xp) = P.an (P.pp xp) ∨ (Pn_9.an (Pn_9.pp xp) = 2 * P.an (P.pp xp) ∧ P.pn xp = P.an (P.pp xp)))) ∧ PAE P Pn_9 xp p0 o0 b0))) ∧ va_P (dC, dI) vwQ ([] ++ va_pl Ln_9 (pE Pn_9)) t.heap ∧ va_K (dC, dI) vwQ [(cO, .object "java/lang/Object"), (cI, .int), (cZ, .boolean)] t ∧ va_D (va_A ([] ++ va_pl L (pE P)) sz) ([] ++ va_pl Ln_9 (pE Pn_9))) (va_A ([] ++ va_pl L (pE P)) sz)) 3 3000 (va_A ([] ++ va_pl L (pE P)) sz) := by
  refine Met.ofW (cc := cX15_add) (maxL := 6) (ret := none) (by decide) rfl ?_
  intro p e s m args below meth c s₁ B hml hv
  obtain ⟨rfl, hsz, hP, hK, hD0, hp0⟩ := hv
  have hx := B.exec
  have hb := B.bytes
  have hr := B.returns
  have hts := atoms_spec (ws := v_PP_addQ) B.pre
  have hown : s.vm.findClass RX15 = some m.cls := findClass_of_methodNamed B.named
  have hlocks := B.notSynchronized
  have ow : ∀ {k : Nat} {w : Cond}, o_PP_addQ[k]? = some w → w.before ([.ref xp, .int (zI (p0)), .int (zI (o0)), .int (zI (b0))] : List Value).toArray s = true := fun h => hts _ (mow_PP_addQ _ (List.mem_of_getElem? h))
  subst hsz
  have hD := hD0.self (sz := s.heap.size)
  generalize hAe : va_A ([] ++ va_pl L (pE P)) s.heap.size = A at hD ⊢
  have hA : ∀ q : Nat, s.heap.size ≤ q → A q := fun q h => by rw [← hAe]; exact Or.inr h
  have hS : va_S A s.heap s.heap [] := va_S.rf
  have hP : va_P (dC, dI) vwQ ([] ++ va_pl L (pE P)) s.heap := hP
  have hl := lv_entry ([.ref xp, .int (zI (p0)), .int (zI (o0)), .int (zI (b0))]) (n := 6) (Nat.le_of_ble_eq_true rfl)
  rw [lg_entry_eq]
  generalize (lg_sl ([.ref xp, .int (zI (p0)), .int (zI (o0)), .int (zI (b0))]) ++ List.replicate (6 - (lg_sl ([.ref xp, .int (zI (p0)), .int (zI (o0)), .int (zI (b0))])).length) Slot.unset).toArray = ls at hl ⊢
  have hl : lv_has ls 6 [(0, .ref xp), (1, .int (zI (p0))), (2, .int (zI (o0))), (3, .int (zI (b0)))] := hl
  obtain ⟨H, hH⟩ : ∃ H, H = s.heap := ⟨_, rfl⟩
  rw [← hH] at hP
  have hS : va_S A s.heap H [] := by rw [hH]; exact hS
  rw [← hH]
  refine zW_cap (fun Q hQ => ?_)
  obtain ⟨a1, ea1⟩ : ∃ q9 : Nat, q9 = P.pp xp := ⟨_, rfl⟩
  have hka1 : a1 ∈ L ∧ P.kd a1 = 40 ∧ P.ac a1 = cI ∧ P.ow a1 = xp := (by rw [ea1]; exact hX_p.2.1)
  obtain ⟨a2, ea2⟩ : ∃ q9 : Nat, q9 = P.pu xp := ⟨_, rfl⟩
  have hka2 : a2 ∈ L ∧ P.kd a2 = 41 ∧ P.ac a2 = cI ∧ P.ow a2 = xp := (by rw [ea2]; exact hX_p.2.2.1)
  obtain ⟨a3, ea3⟩ : ∃ q9 : Nat, q9 = P.pr xp := ⟨_, rfl⟩
  have hka3 : a3 ∈ L ∧ P.kd a3 = 42 ∧ P.ac a3 = cZ ∧ P.ow a3 = xp := (by rw [ea3]; exact hX_p.2.2.2.1)
  have hpn := hX_p.2.2.2.2.1
  have hpt := hX_p.2.2.2.2.2.1
  rw [← ea1, ← ea2, ← ea3] at hpn
  obtain ⟨hP, hD⟩ := pool_out (X := []) hX_p.1.1 (pE_phi hX_p.1.2) hP hD
  rw [← ea1, ← ea2, ← ea3] at hP hD
  obtain ⟨Lp1, eLp1⟩ : ∃ l9 : List Nat, l9 = L.erase xp := ⟨_, rfl⟩
  rw [← eLp1] at hP hD
  have hP : va_P (dC, dI) vwQ ([(xp, .inr (20, [.int (zI (P.pt xp)), .int (zI (P.pn xp)), .ref a1, .ref a2, .ref a3, .int (zI (P.pg xp))]))] ++ va_pl Lp1 (pE P)) H := hP
  have hD : va_D A ([(xp, .inr (20, [.int (zI (P.pt xp)), .int (zI (P.pn xp)), .ref a1, .ref a2, .ref a3, .int (zI (P.pg xp))]))] ++ va_pl Lp1 (pE P)) := hD
  have hma1 : a1 ∈ Lp1 := (by rw [eLp1]; exact mem_er hka1.1 (kd_ne hka1.2.1 hX_p.1.2 (by decide)))
  obtain ⟨hP, hD⟩ := pool_out (X := [(xp, .inr (20, [.int (zI (P.pt xp)), .int (zI (P.pn xp)), .ref a1, .ref a2, .ref a3, .int (zI (P.pg xp))]))]) hma1 (pE_n40 hka1.2.1) hP hD
  rw [hka1.2.2.1] at hP hD
  obtain ⟨n1, en1⟩ : ∃ n9 : Nat, n9 = P.an a1 := ⟨_, rfl⟩
  obtain ⟨f1, ef1⟩ : ∃ f9 : Int → Int, f9 = P.ia a1 := ⟨_, rfl⟩
  obtain ⟨Lp2, eLp2⟩ : ∃ l9 : List Nat, l9 = Lp1.erase a1 := ⟨_, rfl⟩
  rw [← en1, ← ef1, ← eLp2] at hP hD
  have hP : va_P (dC, dI) vwQ ([(xp, .inr (20, [.int (zI (P.pt xp)), .int (zI (P.pn xp)), .ref a1, .ref a2, .ref a3, .int (zI (P.pg xp))])), (a1, .inl (cI, n1, .inl (fun j : Nat => zI (f1 (j : Int)))))] ++ va_pl Lp2 (pE P)) H := hP
  have hD : va_D A ([(xp, .inr (20, [.int (zI (P.pt xp)), .int (zI (P.pn xp)), .ref a1, .ref a2, .ref a3, .int (zI (P.pg xp))])), (a1, .inl (cI, n1, .inl (fun j : Nat => zI (f1 (j : Int)))))] ++ va_pl Lp2 (pE P)) := hD
  have rf1 : ∀ j : Int, f1 j = f1 j := (fun _ => rfl)
  have hma2 : a2 ∈ Lp2 := (by rw [eLp2]; exact mem_er (by rw [eLp1]; exact mem_er hka2.1 (kd_ne hka2.2.1 hX_p.1.2 (by decide))) (kd_ne hka2.2.1 hka1.2.1 (by decide)))
  obtain ⟨hP, hD⟩ := pool_out (X := [(xp, .inr (20, [.int (zI (P.pt xp)), .int (zI (P.pn xp)), .ref a1, .ref a2, .ref a3, .int (zI (P.pg xp))])), (a1, .inl (cI, n1, .inl (fun j : Nat => zI (f1 (j : Int)))))]) hma2 (pE_n41 hka2.2.1) hP hD
  rw [hka2.2.2.1] at hP hD
  obtain ⟨n2, en2⟩ : ∃ n9 : Nat, n9 = P.an a2 := ⟨_, rfl⟩
  obtain ⟨f2, ef2⟩ : ∃ f9 : Int → Int, f9 = P.ia a2 := ⟨_, rfl⟩
  obtain ⟨Lp3, eLp3⟩ : ∃ l9 : List Nat, l9 = Lp2.erase a2 := ⟨_, rfl⟩
  rw [← en2, ← ef2, ← eLp3] at hP hD
  have hP : va_P (dC, dI) vwQ ([(xp, .inr (20, [.int (zI (P.pt xp)), .int (zI (P.pn xp)), .ref a1, .ref a2, .ref a3, .int (zI (P.pg xp))])), (a1, .inl (cI, n1, .inl (fun j : Nat => zI (f1 (j : Int))))), (a2, .inl (cI, n2, .inl (fun j : Nat => zI (f2 (j : Int)))))] ++ va_pl Lp3 (pE P)) H := hP
  have hD : va_D A ([(xp, .inr (20, [.int (zI (P.pt xp)), .int (zI (P.pn xp)), .ref a1, .ref a2, .ref a3, .int (zI (P.pg xp))])), (a1, .inl (cI, n1, .inl (fun j : Nat => zI (f1 (j : Int))))), (a2, .inl (cI, n2, .inl (fun j : Nat => zI (f2 (j : Int)))))] ++ va_pl Lp3 (pE P)) := hD
  have rf2 : ∀ j : Int, f2 j = f2 j := (fun _ => rfl)
  have hma3 : a3 ∈ Lp3 := (by rw [eLp3]; exact mem_er (by rw [eLp2]; exact mem_er (by rw [eLp1]; exact mem_er hka3.1 (kd_ne hka3.2.1 hX_p.1.2 (by decide))) (kd_ne hka3.2.1 hka1.2.1 (by decide))) (kd_ne hka3.2.1 hka2.2.1 (by decide)))
  obtain ⟨hP, hD⟩ := pool_out (X := [(xp, .inr (20, [.int (zI (P.pt xp)), .int (zI (P.pn xp)), .ref a1, .ref a2, .ref a3, .int (zI (P.pg xp))])), (a1, .inl (cI, n1, .inl (fun j : Nat => zI (f1 (j : Int))))), (a2, .inl (cI, n2, .inl (fun j : Nat => zI (f2 (j : Int)))))]) hma3 (pE_n42 hka3.2.1) hP hD
  rw [hka3.2.2.1] at hP hD
  obtain ⟨n3, en3⟩ : ∃ n9 : Nat, n9 = P.an a3 := ⟨_, rfl⟩
  obtain ⟨f3, ef3⟩ : ∃ f9 : Int → Int, f9 = P.ia a3 := ⟨_, rfl⟩
  obtain ⟨Lp4, eLp4⟩ : ∃ l9 : List Nat, l9 = Lp3.erase a3 := ⟨_, rfl⟩
  rw [← en3, ← ef3, ← eLp4] at hP hD
  have hP : va_P (dC, dI) vwQ ([(xp, .inr (20, [.int (zI (P.pt xp)), .int (zI (P.pn xp)), .ref a1, .ref a2, .ref a3, .int (zI (P.pg xp))])), (a1, .inl (cI, n1, .inl (fun j : Nat => zI (f1 (j : Int))))), (a2, .inl (cI, n2, .inl (fun j : Nat => zI (f2 (j : Int))))), (a3, .inl (cZ, n3, .inl (fun j : Nat => zI (f3 (j : Int)))))] ++ va_pl Lp4 (pE P)) H := hP
  have hD : va_D A ([(xp, .inr (20, [.int (zI (P.pt xp)), .int (zI (P.pn xp)), .ref a1, .ref a2, .ref a3, .int (zI (P.pg xp))])), (a1, .inl (cI, n1, .inl (fun j : Nat => zI (f1 (j : Int))))), (a2, .inl (cI, n2, .inl (fun j : Nat => zI (f2 (j : Int))))), (a3, .inl (cZ, n3, .inl (fun j : Nat => zI (f3 (j : Int)))))] ++ va_pl Lp4 (pE P)) := hD
  have rf3 : ∀ j : Int, f3 j = f3 j := (fun _ => rfl)
  rw [← en1, ← en2, ← en3] at hpn
  have hef : ∀ i : Int, 0 ≤ i → i < P.pn xp → EF (f1 i) (f2 i) (f3 i) := (fun i i0 i1 => by rw [ef1, ef2, ef3, ea1, ea2, ea3]; exact hX_p.ef i0 i1)
  refine lv_aload_n hx hb dX15_add_0 rfl (lv_at hl 0 rfl) ?_
  refine va_get (D := (dC, dI)) (ci := 20) (v := .int (zI (P.pn xp))) (C := RX15) (T := TX15) (N := 6) hx hb hts mem_PP_addQ_0 hown hK hP 0 rfl rfl 1 (by decide) (ow (k := 0) rfl) (fun _ h9 => h9) rfl dX15_add_1 ?_
  refine lv_aload_n hx hb dX15_add_4 rfl (lv_at hl 0 rfl) ?_
  refine va_get (D := (dC, dI)) (ci := 20) (v := .ref a1) (C := RX15) (T := TX15) (N := 6) hx hb hts mem_PP_addQ_0 hown hK hP 0 rfl rfl 2 (by decide) (ow (k := 1) rfl) (fun _ h9 => h9) rfl dX15_add_5 ?_
  refine va_alen (v := zI ((n1 : Int))) hx hb hK hP 1 1 rfl rfl (zI_ofNat n1) dX15_add_8 ?_
  refine lv_icmp_ne (tgt := 92) hx hb dX15_add_9 (by decide) (fun b9 => ?_) (fun b9 => ?_)
  · have yb9 : ¬ (P.pn xp : Int) = ((n1 : Int) : Int) := fun q => b9 ((zI_eq (a := P.pn xp) (b := (n1 : Int)) (by omega) (by omega) (by omega) (by omega)).mpr q)
    refine lv_aload_n hx hb dX15_add_92 rfl (lv_at hl 0 rfl) ?_
    refine va_get (D := (dC, dI)) (ci := 20) (v := .ref a1) (C := RX15) (T := TX15) (N := 6) hx hb hts mem_PP_addQ_0 hown hK hP 0 rfl rfl 2 (by decide) (ow (k := 1) rfl) (fun _ h9 => h9) rfl dX15_add_93 ?_
    refine lv_aload_n hx hb dX15_add_96 rfl (lv_at hl 0 rfl) ?_
    refine va_get (D := (dC, dI)) (ci := 20) (v := .int (zI (P.pn xp))) (C := RX15) (T := TX15) (N := 6) hx hb hts mem_PP_addQ_0 hown hK hP 0 rfl rfl 1 (by decide) (ow (k := 0) rfl) (fun _ h9 => h9) rfl dX15_add_97 ?_
    refine lv_iload_n hx hb dX15_add_100 rfl (lv_at hl 1 rfl) ?_
    refine va_iast (i := zI (P.pn xp)) hx hb hK hP hD hS 1 1 rfl rfl (zI_in (a := P.pn xp) (n := n1) (by omega) (by omega) (by omega)) dX15_add_101 (fun H locs hP hD hS => ?_)
    have eQ : upd (fun j : Nat => zI (f1 (j : Int))) (zI (P.pn xp)).toNatClampNeg (zI (p0)) = (fun j : Nat => zI (zup f1 (P.pn xp) (p0) (j : Int))) := zI_st f1 (e := P.pn xp) (v := p0) (by omega) (by omega)
    rw [eQ] at hP hD
    clear eQ
    have ra_1 : ∀ j : Int, zup f1 (P.pn xp) (p0) j = zup f1 (P.pn xp) (p0) j := zup_P (P := fun x9 => x9 = x9) rf1 (show (p0) = (p0) by omega)
    obtain ⟨a_1, ea_1⟩ : ∃ a9 : Int → Int, a9 = zup f1 (P.pn xp) (p0) := ⟨_, rfl⟩
    rw [← ea_1] at hP hD ra_1
    have hP : va_P (dC, dI) vwQ ([(xp, .inr (20, [.int (zI (P.pt xp)), .int (zI (P.pn xp)), .ref a1, .ref a2, .ref a3, .int (zI (P.pg xp))])), (a1, .inl (cI, n1, .inl (fun j : Nat => zI (a_1 (j : Int))))), (a2, .inl (cI, n2, .inl (fun j : Nat => zI (f2 (j : Int))))), (a3, .inl (cZ, n3, .inl (fun j : Nat => zI (f3 (j : Int)))))] ++ va_pl Lp4 (pE P)) H := hP
    have hD : va_D A ([(xp, .inr (20, [.int (zI (P.pt xp)), .int (zI (P.pn xp)), .ref a1, .ref a2, .ref a3, .int (zI (P.pg xp))])), (a1, .inl (cI, n1, .inl (fun j : Nat => zI (a_1 (j : Int))))), (a2, .inl (cI, n2, .inl (fun j : Nat => zI (f2 (j : Int))))), (a3, .inl (cZ, n3, .inl (fun j : Nat => zI (f3 (j : Int)))))] ++ va_pl Lp4 (pE P)) := hD
    refine lv_aload_n hx hb dX15_add_102 rfl (lv_at hl 0 rfl) ?_
    refine va_get (D := (dC, dI)) (ci := 20) (v := .ref a2) (C := RX15) (T := TX15) (N := 6) hx hb hts mem_PP_addQ_0 hown hK hP 0 rfl rfl 3 (by decide) (ow (k := 2) rfl) (fun _ h9 => h9) rfl dX15_add_103 ?_
    refine lv_aload_n hx hb dX15_add_106 rfl (lv_at hl 0 rfl) ?_
    refine va_get (D := (dC, dI)) (ci := 20) (v := .int (zI (P.pn xp))) (C := RX15) (T := TX15) (N := 6) hx hb hts mem_PP_addQ_0 hown hK hP 0 rfl rfl 1 (by decide) (ow (k := 0) rfl) (fun _ h9 => h9) rfl dX15_add_107 ?_
    refine lv_iload_n hx hb dX15_add_110 rfl (lv_at hl 2 rfl) ?_
    refine va_iast (i := zI (P.pn xp)) hx hb hK hP hD hS 2 1 rfl rfl (zI_in (a := P.pn xp) (n := n2) (by omega) (by omega) (by omega)) dX15_add_111 (fun H locs hP hD hS => ?_)
    have eQ : upd (fun j : Nat => zI (f2 (j : Int))) (zI (P.pn xp)).toNatClampNeg (zI (o0)) = (fun j : Nat => zI (zup f2 (P.pn xp) (o0) (j : Int))) := zI_st f2 (e := P.pn xp) (v := o0) (by omega) (by omega)
    rw [eQ] at hP hD
    clear eQ
    have ra_2 : ∀ j : Int, zup f2 (P.pn xp) (o0) j = zup f2 (P.pn xp) (o0) j := zup_P (P := fun x9 => x9 = x9) rf2 (show (o0) = (o0) by omega)
    obtain ⟨a_2, ea_2⟩ : ∃ a9 : Int → Int, a9 = zup f2 (P.pn xp) (o0) := ⟨_, rfl⟩
    rw [← ea_2] at hP hD ra_2
    have hP : va_P (dC, dI) vwQ ([(xp, .inr (20, [.int (zI (P.pt xp)), .int (zI (P.pn xp)), .ref a1, .ref a2, .ref a3, .int (zI (P.pg xp))])), (a1, .inl (cI, n1, .inl (fun j : Nat => zI (a_1 (j : Int))))), (a2, .inl (cI, n2, .inl (fun j : Nat => zI (a_2 (j : Int))))), (a3, .inl (cZ, n3, .inl (fun j : Nat => zI (f3 (j : Int)))))] ++ va_pl Lp4 (pE P)) H := hP
    have hD : va_D A ([(xp, .inr (20, [.int (zI (P.pt xp)), .int (zI (P.pn xp)), .ref a1, .ref a2, .ref a3, .int (zI (P.pg xp))])), (a1, .inl (cI, n1, .inl (fun j : Nat => zI (a_1 (j : Int))))), (a2, .inl (cI, n2, .inl (fun j : Nat => zI (a_2 (j : Int))))), (a3, .inl (cZ, n3, .inl (fun j : Nat => zI (f3 (j : Int)))))] ++ va_pl Lp4 (pE P)) := hD
    refine lv_aload_n hx hb dX15_add_112 rfl (lv_at hl 0 rfl) ?_
    refine va_get (D := (dC, dI)) (ci := 20) (v := .ref a3) (C := RX15) (T := TX15) (N := 6) hx hb hts mem_PP_addQ_0 hown hK hP 0 rfl rfl 4 (by decide) (ow (k := 3) rfl) (fun _ h9 => h9) rfl dX15_add_113 ?_
    refine lv_aload_n hx hb dX15_add_116 rfl (lv_at hl 0 rfl) ?_
    refine va_get (D := (dC, dI)) (ci := 20) (v := .int (zI (P.pn xp))) (C := RX15) (T := TX15) (N := 6) hx hb hts mem_PP_addQ_0 hown hK hP 0 rfl rfl 1 (by decide) (ow (k := 0) rfl) (fun _ h9 => h9) rfl dX15_add_117 ?_
    refine lv_iload_n hx hb dX15_add_120 rfl (lv_at hl 3 rfl) ?_
    refine va_zast (i := zI (P.pn xp)) hx hb hK hP hD hS 3 2 rfl rfl (zI_in (a := P.pn xp) (n := n3) (by omega) (by omega) (by omega)) dX15_add_121 (fun H locs hP hD hS => ?_)
    rw [show vp_nar .boolean (zI (b0)) = (zI (b0)) from zI_nar (a := b0) (by omega) (by omega)] at hP hD
    have eQ : upd (fun j : Nat => zI (f3 (j : Int))) (zI (P.pn xp)).toNatClampNeg (zI (b0)) = (fun j : Nat => zI (zup f3 (P.pn xp) (b0) (j : Int))) := zI_st f3 (e := P.pn xp) (v := b0) (by omega) (by omega)
    rw [eQ] at hP hD
    clear eQ
    have ra_3 : ∀ j : Int, zup f3 (P.pn xp) (b0) j = zup f3 (P.pn xp) (b0) j := zup_P (P := fun x9 => x9 = x9) rf3 (show (b0) = (b0) by omega)
    obtain ⟨a_3, ea_3⟩ : ∃ a9 : Int → Int, a9 = zup f3 (P.pn xp) (b0) := ⟨_, rfl⟩
    rw [← ea_3] at hP hD ra_3
    have hP : va_P (dC, dI) vwQ ([(xp, .inr (20, [.int (zI (P.pt xp)), .int (zI (P.pn xp)), .ref a1, .ref a2, .ref a3, .int (zI (P.pg xp))])), (a1, .inl (cI, n1, .inl (fun j : Nat => zI (a_1 (j : Int))))), (a2, .inl (cI, n2, .inl (fun j : Nat => zI (a_2 (j : Int))))), (a3, .inl (cZ, n3, .inl (fun j : Nat => zI (a_3 (j : Int)))))] ++ va_pl Lp4 (pE P)) H := hP
    have hD : va_D A ([(xp, .inr (20, [.int (zI (P.pt xp)), .int (zI (P.pn xp)), .ref a1, .ref a2, .ref a3, .int (zI (P.pg xp))])), (a1, .inl (cI, n1, .inl (fun j : Nat => zI (a_1 (j : Int))))), (a2, .inl (cI, n2, .inl (fun j : Nat => zI (a_2 (j : Int))))), (a3, .inl (cZ, n3, .inl (fun j : Nat => zI (a_3 (j : Int)))))] ++ va_pl Lp4 (pE P)) := hD
    refine lv_aload_n hx hb dX15_add_122 rfl (lv_at hl 0 rfl) ?_
    refine lv_dup hx hb dX15_add_123 rfl ?_
    refine va_get (D := (dC, dI)) (ci := 20) (v := .int (zI (P.pn xp))) (C := RX15) (T := TX15) (N := 6) hx hb hts mem_PP_addQ_0 hown hK hP 0 rfl rfl 1 (by decide) (ow (k := 0) rfl) (fun _ h9 => h9) rfl dX15_add_124 ?_
    refine lv_iconst (v := 1) hx hb dX15_add_127 (by decide) ?_
    refine lv_iadd hx hb dX15_add_128 ?_
    refine lv_topi (fun z ez => ?_)
    obtain rfl : z = zI ((P.pn xp) + 1) := ez.trans (zI_add (P.pn xp) (1))
    refine va_put (D := (dC, dI)) (ci := 20) (v := .int (zI ((P.pn xp) + 1))) (ty := .int) (C := RX15) (T := TX15) (N := 6) hx hb hts mem_PP_addQ_0 tyX15 tyX15_ok nmX15 hown hK hP hD hS 0 rfl rfl 1 (by decide) (ow (k := 0) rfl) (fun _ h9 => h9) rfl (by decide +kernel) rfl rfl (Nat.le_of_ble_eq_true rfl) dX15_add_129 (fun H locs hP hD hS => ?_)
    have hP : va_P (dC, dI) vwQ ([(xp, .inr (20, [.int (zI (P.pt xp)), .int (zI ((P.pn xp) + 1)), .ref a1, .ref a2, .ref a3, .int (zI (P.pg xp))])), (a1, .inl (cI, n1, .inl (fun j : Nat => zI (a_1 (j : Int))))), (a2, .inl (cI, n2, .inl (fun j : Nat => zI (a_2 (j : Int))))), (a3, .inl (cZ, n3, .inl (fun j : Nat => zI (a_3 (j : Int)))))] ++ va_pl Lp4 (pE P)) H := hP
    have hD : va_D A ([(xp, .inr (20, [.int (zI (P.pt xp)), .int (zI ((P.pn xp) + 1)), .ref a1, .ref a2, .ref a3, .int (zI (P.pg xp))])), (a1, .inl (cI, n1, .inl (fun j : Nat => zI (a_1 (j : Int))))), (a2, .inl (cI, n2, .inl (fun j : Nat => zI (a_2 (j : Int))))), (a3, .inl (cZ, n3, .inl (fun j : Nat => zI (a_3 (j : Int)))))] ++ va_pl Lp4 (pE P)) := hD
    obtain ⟨z_4, ez_4⟩ : ∃ z9 : Int, z9 = (P.pn xp) + 1 := ⟨_, rfl⟩
    rw [← ez_4] at hP hD
    have hP : va_P (dC, dI) vwQ ([(xp, .inr (20, [.int (zI (P.pt xp)), .int (zI (z_4)), .ref a1, .ref a2, .ref a3, .int (zI (P.pg xp))])), (a1, .inl (cI, n1, .inl (fun j : Nat => zI (a_1 (j : Int))))), (a2, .inl (cI, n2, .inl (fun j : Nat => zI (a_2 (j : Int))))), (a3, .inl (cZ, n3, .inl (fun j : Nat => zI (a_3 (j : Int)))))] ++ va_pl Lp4 (pE P)) H := hP
    have hD : va_D A ([(xp, .inr (20, [.int (zI (P.pt xp)), .int (zI (z_4)), .ref a1, .ref a2, .ref a3, .int (zI (P.pg xp))])), (a1, .inl (cI, n1, .inl (fun j : Nat => zI (a_1 (j : Int))))), (a2, .inl (cI, n2, .inl (fun j : Nat => zI (a_2 (j : Int))))), (a3, .inl (cZ, n3, .inl (fun j : Nat => zI (a_3 (j : Int)))))] ++ va_pl Lp4 (pE P)) := hD
    subst hQ
    rw [eLp4] at hP hD
    obtain ⟨Pa_5, ePa_5⟩ : ∃ q9 : PO, q9 = P.ri9 a3 a_3 := ⟨_, rfl⟩
    obtain ⟨hP, hD⟩ := pool_in (X := [(xp, .inr (20, [.int (zI (P.pt xp)), .int (zI (z_4)), .ref a1, .ref a2, .ref a3, .int (zI (P.pg xp))])), (a1, .inl (cI, n1, .inl (fun j : Nat => zI (a_1 (j : Int))))), (a2, .inl (cI, n2, .inl (fun j : Nat => zI (a_2 (j : Int)))))]) (P' := Pa_5) (e := numE cZ n3 a_3) hma3 (by have h9 := putnum (P := P) (x := a3) (a := a_3) (by rw [show P.kd a3 = 42 from (by exact hka3.2.1)]; decide); rw [show P.ac a3 = cZ from (by exact hka3.2.2.1), show P.an a3 = n3 from (by exact en3.symm)] at h9; rw [ePa_5]; exact h9) hP hD
    have hP : va_P (dC, dI) vwQ ([(xp, .inr (20, [.int (zI (P.pt xp)), .int (zI (z_4)), .ref a1, .ref a2, .ref a3, .int (zI (P.pg xp))])), (a1, .inl (cI, n1, .inl (fun j : Nat => zI (a_1 (j : Int))))), (a2, .inl (cI, n2, .inl (fun j : Nat => zI (a_2 (j : Int)))))] ++ va_pl Lp3 (pE Pa_5)) H := hP
    have hD : va_D A ([(xp, .inr (20, [.int (zI (P.pt xp)), .int (zI (z_4)), .ref a1, .ref a2, .ref a3, .int (zI (P.pg xp))])), (a1, .inl (cI, n1, .inl (fun j : Nat => zI (a_1 (j : Int))))), (a2, .inl (cI, n2, .inl (fun j : Nat => zI (a_2 (j : Int)))))] ++ va_pl Lp3 (pE Pa_5)) := hD
    rw [eLp3] at hP hD
    obtain ⟨Pa_6, ePa_6⟩ : ∃ q9 : PO, q9 = Pa_5.ri9 a2 a_2 := ⟨_, rfl⟩
    obtain ⟨hP, hD⟩ := pool_in (X := [(xp, .inr (20, [.int (zI (P.pt xp)), .int (zI (z_4)), .ref a1, .ref a2, .ref a3, .int (zI (P.pg xp))])), (a1, .inl (cI, n1, .inl (fun j : Nat => zI (a_1 (j : Int)))))]) (P' := Pa_6) (e := numE cI n2 a_2) hma2 (by have h9 := putnum (P := Pa_5) (x := a2) (a := a_2) (by rw [show Pa_5.kd a2 = 41 from (by rw [ePa_5]; exact hka2.2.1)]; decide); rw [show Pa_5.ac a2 = cI from (by rw [ePa_5]; exact hka2.2.2.1), show Pa_5.an a2 = n2 from (by rw [ePa_5]; exact en2.symm)] at h9; rw [ePa_6]; exact h9) hP hD
    have hP : va_P (dC, dI) vwQ ([(xp, .inr (20, [.int (zI (P.pt xp)), .int (zI (z_4)), .ref a1, .ref a2, .ref a3, .int (zI (P.pg xp))])), (a1, .inl (cI, n1, .inl (fun j : Nat => zI (a_1 (j : Int)))))] ++ va_pl Lp2 (pE Pa_6)) H := hP
    have hD : va_D A ([(xp, .inr (20, [.int (zI (P.pt xp)), .int (zI (z_4)), .ref a1, .ref a2, .ref a3, .int (zI (P.pg xp))])), (a1, .inl (cI, n1, .inl (fun j : Nat => zI (a_1 (j : Int)))))] ++ va_pl Lp2 (pE Pa_6)) := hD
    rw [eLp2] at hP hD
    obtain ⟨Pa_7, ePa_7⟩ : ∃ q9 : PO, q9 = Pa_6.ri9 a1 a_1 := ⟨_, rfl⟩
    obtain ⟨hP, hD⟩ := pool_in (X := [(xp, .inr (20, [.int (zI (P.pt xp)), .int (zI (z_4)), .ref a1, .ref a2, .ref a3, .int (zI (P.pg xp))]))]) (P' := Pa_7) (e := numE cI n1 a_1) hma1 (by have h9 := putnum (P := Pa_6) (x := a1) (a := a_1) (by rw [show Pa_6.kd a1 = 40 from (by rw [ePa_6, ePa_5]; exact hka1.2.1)]; decide); rw [show Pa_6.ac a1 = cI from (by rw [ePa_6, ePa_5]; exact hka1.2.2.1), show Pa_6.an a1 = n1 from (by rw [ePa_6, ePa_5]; exact en1.symm)] at h9; rw [ePa_7]; exact h9) hP hD
    have hP : va_P (dC, dI) vwQ ([(xp, .inr (20, [.int (zI (P.pt xp)), .int (zI (z_4)), .ref a1, .ref a2, .ref a3, .int (zI (P.pg xp))]))] ++ va_pl Lp1 (pE Pa_7)) H := hP
    have hD : va_D A ([(xp, .inr (20, [.int (zI (P.pt xp)), .int (zI (z_4)), .ref a1, .ref a2, .ref a3, .int (zI (P.pg xp))]))] ++ va_pl Lp1 (pE Pa_7)) := hD
    rw [eLp1] at hP hD
    obtain ⟨Px_8, ePx_8⟩ : ∃ q9 : PO, q9 = Pa_7.px9 xp (P.pt xp) (z_4) a1 a2 a3 (P.pg xp) := ⟨_, rfl⟩
    obtain ⟨hP, hD⟩ := pool_in (X := []) (P' := Px_8) (e := phiE (P.pt xp) (z_4) a1 a2 a3 (P.pg xp)) hX_p.1.1 (by rw [ePx_8]; exact pE_px9 _ _ _ _ _ _ _ _) hP hD
    have hP : va_P (dC, dI) vwQ ([] ++ va_pl L (pE Px_8)) H := hP
    have hD : va_D A ([] ++ va_pl L (pE Px_8)) := hD
    have hpx : PXC xp L P L Px_8 := (by rw [ePx_8, ePa_7, ePa_6, ePa_5]; exact ((((PXC.refl xp L P).ri9 hka3.2.2.2 (by rw [hka3.2.1]; decide)).ri9 hka2.2.2.2 (by rw [hka2.2.1]; decide)).ri9 hka1.2.2.2 (by rw [hka1.2.1]; decide)).px9 hX_p.1.2 hX_p.1.1)
    have hat := px9_at Pa_7 xp (P.pt xp) (z_4) a1 a2 a3 (P.pg xp)
    rw [← ePx_8] at hat
    have har := px_arr (g1 := a_1) (g2 := a_2) (g3 := a_3) (t := P.pt xp) (n := z_4) (p := a1) (u := a2) (r := a3) (g := P.pg xp) hka1 hka2 hka3 hX_p.1.2
    rw [← en1, ← en2, ← en3, ← ePa_5, ← ePa_6, ← ePa_7, ← ePx_8] at har
    have hxq : xp ∈ L ∧ Px_8.kd xp = 15 ∧ Px_8.pp xp = a1 ∧ Px_8.pu xp = a2 ∧ Px_8.pr xp = a3 ∧ Px_8.pn xp = z_4 ∧ Px_8.pt xp = P.pt xp ∧ Px_8.pg xp = P.pg xp := ⟨hX_p.1.1, hat.1, hat.2.1, hat.2.2.1, hat.2.2.2.1, hat.2.2.2.2.1, hat.2.2.2.2.2.1, hat.2.2.2.2.2.2.1⟩
    have hA9 : ∀ i : Int, 0 ≤ i → i < P.pn xp → a_1 i = f1 i ∧ a_2 i = f2 i ∧ a_3 i = f3 i := (fun i i0 i1 => ⟨(by rw [ea_1]; exact (zup_ne _ _ (by omega)).trans rfl), (by rw [ea_2]; exact (zup_ne _ _ (by omega)).trans rfl), (by rw [ea_3]; exact (zup_ne _ _ (by omega)).trans rfl)⟩)
    have hB9 : a_1 (P.pn xp) = p0 ∧ a_2 (P.pn xp) = o0 ∧ a_3 (P.pn xp) = b0 := ⟨(by rw [ea_1]; exact zup_eq _ _ _), (by rw [ea_2]; exact zup_eq _ _ _), (by rw [ea_3]; exact zup_eq _ _ _)⟩
    have hw9 : EF p0 o0 b0 := (by unfold EF; exact ⟨by omega, by omega, by omega, hX_o⟩)
    have hpk : PIK L Px_8 cI cZ xp := pik_mk (m := n1) hxq.1 hxq.2.1 hxq.2.2.1 hxq.2.2.2.1 hxq.2.2.2.2.1 har.1.1 (by have q9 := har.2.1.1; rw [show n2 = n1 from (by omega)] at q9; exact q9) (by have q9 := har.2.2.1; rw [show n3 = n1 from (by omega)] at q9; exact q9) har.1.2 har.2.1.2 har.2.2.2 (by have q9 := hxq.2.2.2.2.2.1; omega) (by have q9 := hxq.2.2.2.2.2.2; omega) (fun i i0 i1 => ef_add hef hw9 hA9 hB9 i i0 (by have q9 := hxq.2.2.2.2.2.1; omega))
    have hcz : Px_8.an (Px_8.pp xp) = n1 ∧ P.an (P.pp xp) = n1 := ⟨(by rw [hxq.2.2.1]; exact har.1.1.2.2.2.2), (by rw [en1, ea1])⟩
    refine W_knowS (fun hrm9 => ?_)
    refine W.widen (k := 3) (n := 3000) (Nat.le_of_ble_eq_true rfl) (Nat.le_of_ble_eq_true rfl) ?_
    exact W.vret hx hb hr (fun t ht hW => ⟨⟨(), rfl, trivial, L, Px_8, 0, 0, ⟨⟨(by rw [ht, ← hp0]; exact hrm9), (by omega)⟩, ⟨hpx, hpk, ⟨(by have q9 := hxq.2.2.2.2.2.1; omega), hxq.2.2.2.2.2.2.1, hxq.2.2.2.2.2.2.2, (by omega)⟩, ⟨(fun i i0 i1 => by rw [hxq.2.2.1, hxq.2.2.2.1, hxq.2.2.2.2.1, har.1.2, har.2.1.2, har.2.2.2, ← ea1, ← ea2, ← ea3, ← ef1, ← ef2, ← ef3]; exact hA9 i i0 i1), (by rw [hxq.2.2.1, har.1.2]; exact hB9.1), (by rw [hxq.2.2.2.1, har.2.1.2]; exact hB9.2.1), (by rw [hxq.2.2.2.2.1, har.2.2.2]; exact hB9.2.2)⟩⟩⟩, by rw [ht]; exact hP, va_K.moved hW.alike hK, hD⟩, hS.F ht⟩) hS.2.2 dX15_add_132
  · have yb9 : (P.pn xp : Int) = ((n1 : Int) : Int) := (zI_eq (a := P.pn xp) (b := (n1 : Int)) (by omega) (by omega) (by omega) (by omega)).mp b9
    refine lv_aload_n hx hb dX15_add_12 rfl (lv_at hl 0 rfl) ?_
    refine lv_aload_n hx hb dX15_add_13 rfl (lv_at hl 0 rfl) ?_
    refine va_get (D := (dC, dI)) (ci := 20) (v := .ref a1) (C := RX15) (T := TX15) (N := 6) hx hb hts mem_PP_addQ_0 hown hK hP 0 rfl rfl 2 (by decide) (ow (k := 1) rfl) (fun _ h9 => h9) rfl dX15_add_14 ?_
    refine lv_iconst (v := 2) hx hb dX15_add_17 (by decide) ?_
    refine lv_aload_n hx hb dX15_add_18 rfl (lv_at hl 0 rfl) ?_
    refine va_get (D := (dC, dI)) (ci := 20) (v := .int (zI (P.pn xp))) (C := RX15) (T := TX15) (N := 6) hx hb hts mem_PP_addQ_0 hown hK hP 0 rfl rfl 1 (by decide) (ow (k := 0) rfl) (fun _ h9 => h9) rfl dX15_add_19 ?_
    refine lv_imul hx hb dX15_add_22 ?_
    refine lv_topi (fun z ez => ?_)
    obtain rfl : z = zI (2 * (P.pn xp)) := ez.trans (zI_mul (2) (P.pn xp))
    have hPc := hP.sub (ws' := [(a1, .inl (cI, n1, .inl (fun j : Nat => zI (f1 (j : Int)))))]) [1] rfl
    have hDc := hD.sub (ws' := [(a1, .inl (cI, n1, .inl (fun j : Nat => zI (f1 (j : Int)))))]) [1] (by decide) rfl
    have hKc := hK.sub (tys' := [(cI, .int)]) [1] rfl
    have hFc := va_free (wc := [(a1, .inl (cI, n1, .inl (fun j : Nat => zI (f1 (j : Int)))))]) hD hS hA [1] rfl
    refine va_callr (va_runS (As := [.ref a1, .int (zI (2 * (P.pn xp)))]) (rest := [.ref xp]) ⟨hx, hb, hml, hown, hts⟩ (c_J7_copyOfI l dC dI a1 cI n1 f1 (2 * (P.pn xp)) (by omega) rf1 (by omega) H.size) (va_cwS 2 hts g_PP_addQ_J7_copyOfI rfl rfl rfl (by decide +kernel) ⟨(Nat.le_of_ble_eq_true rfl), (Nat.le_of_ble_eq_true rfl)⟩) ⟨fun a U g mk q => by obtain ⟨q0, q1, qP, qK, qD⟩ := q; exact ⟨q0, q1, qP, va_K.moved (u := U) (U := U.calling g mk a) (Vm.Alike.refl U.vm) qK, qD⟩, fun U hU hW => ⟨rfl, by rw [hU], by rw [hU]; exact hPc, va_K.moved hW.alike hKc, hDc.weaken (fun _ _ _ _ => trivial)⟩⟩ rfl rfl hl.1 rfl (lv_room (Nat.le_of_ble_eq_true rfl)) dX15_add_23 ⟨(Nat.le_trans (show 0 + (1) ≤ 1 by omega) (Nat.le_of_ble_eq_true rfl)), (Nat.le_trans (show 0 + ((2 * (P.pn xp)).toNat) ≤ 1000 by omega) (Nat.le_of_ble_eq_true rfl))⟩) hS (fun q _ h => hFc q h) hFc (fun u q_9 t H1 locs ht hvm hw hB hz1 hk1 hS => ?_)
    obtain ⟨cn_10, nn_11, fn_12, hxt_12, hP1, hK1, hD1⟩ := hB
    rw [ht] at hP1
    have hK1 := va_K.moved hvm.symm hK1
    obtain ⟨hP, hD⟩ := va_joinQ (X := [(xp, .inr (20, [.int (zI (P.pt xp)), .int (zI (P.pn xp)), .ref a1, .ref a2, .ref a3, .int (zI (P.pg xp))])), (a1, .inl (cI, n1, .inl (fun j : Nat => zI (f1 (j : Int))))), (a2, .inl (cI, n2, .inl (fun j : Nat => zI (f2 (j : Int))))), (a3, .inl (cZ, n3, .inl (fun j : Nat => zI (f3 (j : Int)))))]) (cx := [(a1, .inl (cI, n1, .inl (fun j : Nat => zI (f1 (j : Int)))))]) (wr := [(xp, .inr (20, [.int (zI (P.pt xp)), .int (zI (P.pn xp)), .ref a1, .ref a2, .ref a3, .int (zI (P.pg xp))])), (a2, .inl (cI, n2, .inl (fun j : Nat => zI (f2 (j : Int))))), (a3, .inl (cZ, n3, .inl (fun j : Nat => zI (f3 (j : Int)))))]) (w1 := [(a1, .inl (cI, n1, .inl (fun j : Nat => zI (f1 (j : Int))))), (q_9, .inl (cn_10, nn_11, .inl (fun j : Nat => zI (fn_12 (j : Int)))))]) (pl := va_pl Lp4 (pE P)) hP hD [1] [0, 2, 3] rfl rfl (by decide) (by decide) hk1 hFc hP1 hD1
    have hK := (hK.sub (tys' := [(cO, .object "java/lang/Object"), (cI, .int), (cZ, .boolean)]) [0, 1, 2] rfl).app hK1
    generalize H1 = H at hP hS ⊢
    have hP : va_P (dC, dI) vwQ ([(xp, .inr (20, [.int (zI (P.pt xp)), .int (zI (P.pn xp)), .ref a1, .ref a2, .ref a3, .int (zI (P.pg xp))])), (a2, .inl (cI, n2, .inl (fun j : Nat => zI (f2 (j : Int))))), (a3, .inl (cZ, n3, .inl (fun j : Nat => zI (f3 (j : Int))))), (a1, .inl (cI, n1, .inl (fun j : Nat => zI (f1 (j : Int))))), (q_9, .inl (cn_10, nn_11, .inl (fun j : Nat => zI (fn_12 (j : Int)))))] ++ va_pl Lp4 (pE P)) H := hP
    have hD : va_D A ([(xp, .inr (20, [.int (zI (P.pt xp)), .int (zI (P.pn xp)), .ref a1, .ref a2, .ref a3, .int (zI (P.pg xp))])), (a2, .inl (cI, n2, .inl (fun j : Nat => zI (f2 (j : Int))))), (a3, .inl (cZ, n3, .inl (fun j : Nat => zI (f3 (j : Int))))), (a1, .inl (cI, n1, .inl (fun j : Nat => zI (f1 (j : Int))))), (q_9, .inl (cn_10, nn_11, .inl (fun j : Nat => zI (fn_12 (j : Int)))))] ++ va_pl Lp4 (pE P)) := hD
    have hK : va_K (dC, dI) vwQ [(cO, .object "java/lang/Object"), (cI, .int), (cZ, .boolean), (cI, .int), (cn_10, .int)] s := hK
    refine W.widen (k := (0 + (1))) (n := (0 + ((2 * (P.pn xp)).toNat))) (by omega) (by omega) ?_
    have hcp1 := hxt_12
    have rfn_12 : ∀ j : Int, fn_12 j = fn_12 j := (fun _ => rfl)
    refine va_put (D := (dC, dI)) (ci := 20) (v := .ref q_9) (ty := .array .int) (C := RX15) (T := TX15) (N := 6) hx hb hts mem_PP_addQ_0 tyX15 tyX15_ok nmX15 hown hK hP hD hS 0 rfl rfl 2 (by decide) (ow (k := 1) rfl) (fun _ h9 => h9) rfl (by decide +kernel) rfl rfl (by first | exact Nat.le_of_ble_eq_true rfl | exact Nat.le_trans (show (0 + (1)) ≤ 1 from (by omega)) (Nat.le_of_ble_eq_true rfl) | exact Nat.le_trans (show (0 + ((2 * (P.pn xp)).toNat)) ≤ 1000 from (by omega)) (Nat.le_of_ble_eq_true rfl)) dX15_add_26 (fun H locs hP hD hS => ?_)
    have hP : va_P (dC, dI) vwQ ([(xp, .inr (20, [.int (zI (P.pt xp)), .int (zI (P.pn xp)), .ref q_9, .ref a2, .ref a3, .int (zI (P.pg xp))])), (a2, .inl (cI, n2, .inl (fun j : Nat => zI (f2 (j : Int))))), (a3, .inl (cZ, n3, .inl (fun j : Nat => zI (f3 (j : Int))))), (a1, .inl (cI, n1, .inl (fun j : Nat => zI (f1 (j : Int))))), (q_9, .inl (cn_10, nn_11, .inl (fun j : Nat => zI (fn_12 (j : Int)))))] ++ va_pl Lp4 (pE P)) H := hP
    have hD : va_D A ([(xp, .inr (20, [.int (zI (P.pt xp)), .int (zI (P.pn xp)), .ref q_9, .ref a2, .ref a3, .int (zI (P.pg xp))])), (a2, .inl (cI, n2, .inl (fun j : Nat => zI (f2 (j : Int))))), (a3, .inl (cZ, n3, .inl (fun j : Nat => zI (f3 (j : Int))))), (a1, .inl (cI, n1, .inl (fun j : Nat => zI (f1 (j : Int))))), (q_9, .inl (cn_10, nn_11, .inl (fun j : Nat => zI (fn_12 (j : Int)))))] ++ va_pl Lp4 (pE P)) := hD
    refine lv_aload_n hx hb dX15_add_29 rfl (lv_at hl 0 rfl) ?_
    refine lv_aload_n hx hb dX15_add_30 rfl (lv_at hl 0 rfl) ?_
    refine va_get (D := (dC, dI)) (ci := 20) (v := .ref a2) (C := RX15) (T := TX15) (N := 6) hx hb hts mem_PP_addQ_0 hown hK hP 0 rfl rfl 3 (by decide) (ow (k := 2) rfl) (fun _ h9 => h9) rfl dX15_add_31 ?_
    refine lv_iconst (v := 2) hx hb dX15_add_34 (by decide) ?_
    refine lv_aload_n hx hb dX15_add_35 rfl (lv_at hl 0 rfl) ?_
    refine va_get (D := (dC, dI)) (ci := 20) (v := .int (zI (P.pn xp))) (C := RX15) (T := TX15) (N := 6) hx hb hts mem_PP_addQ_0 hown hK hP 0 rfl rfl 1 (by decide) (ow (k := 0) rfl) (fun _ h9 => h9) rfl dX15_add_36 ?_
    refine lv_imul hx hb dX15_add_39 ?_
    refine lv_topi (fun z ez => ?_)
    obtain rfl : z = zI (2 * (P.pn xp)) := ez.trans (zI_mul (2) (P.pn xp))
    have hPc := hP.sub (ws' := [(a2, .inl (cI, n2, .inl (fun j : Nat => zI (f2 (j : Int)))))]) [1] rfl
    have hDc := hD.sub (ws' := [(a2, .inl (cI, n2, .inl (fun j : Nat => zI (f2 (j : Int)))))]) [1] (by decide) rfl
    have hKc := hK.sub (tys' := [(cI, .int)]) [1] rfl
    have hFc := va_free (wc := [(a2, .inl (cI, n2, .inl (fun j : Nat => zI (f2 (j : Int)))))]) hD hS hA [1] rfl
    refine va_callr (va_runS (As := [.ref a2, .int (zI (2 * (P.pn xp)))]) (rest := [.ref xp]) ⟨hx, hb, hml, hown, hts⟩ (c_J7_copyOfI l dC dI a2 cI n2 f2 (2 * (P.pn xp)) (by omega) rf2 (by omega) H.size) (va_cwS 2 hts g_PP_addQ_J7_copyOfI rfl rfl rfl (by decide +kernel) ⟨(Nat.le_of_ble_eq_true rfl), (Nat.le_of_ble_eq_true rfl)⟩) ⟨fun a U g mk q => by obtain ⟨q0, q1, qP, qK, qD⟩ := q; exact ⟨q0, q1, qP, va_K.moved (u := U) (U := U.calling g mk a) (Vm.Alike.refl U.vm) qK, qD⟩, fun U hU hW => ⟨rfl, by rw [hU], by rw [hU]; exact hPc, va_K.moved hW.alike hKc, hDc.weaken (fun _ _ _ _ => trivial)⟩⟩ rfl rfl hl.1 rfl (lv_room (Nat.le_of_ble_eq_true rfl)) dX15_add_40 ⟨(Nat.le_trans (show (0 + (1)) + (1) ≤ 2 by omega) (Nat.le_of_ble_eq_true rfl)), (Nat.le_trans (show (0 + ((2 * (P.pn xp)).toNat)) + ((2 * (P.pn xp)).toNat) ≤ 2000 by omega) (Nat.le_of_ble_eq_true rfl))⟩) hS (fun q _ h => hFc q h) hFc (fun u q_13 t H1 locs ht hvm hw hB hz1 hk1 hS => ?_)
    obtain ⟨cn_14, nn_15, fn_16, hxt_16, hP1, hK1, hD1⟩ := hB
    rw [ht] at hP1
    have hK1 := va_K.moved hvm.symm hK1
    obtain ⟨hP, hD⟩ := va_joinQ (X := [(xp, .inr (20, [.int (zI (P.pt xp)), .int (zI (P.pn xp)), .ref q_9, .ref a2, .ref a3, .int (zI (P.pg xp))])), (a2, .inl (cI, n2, .inl (fun j : Nat => zI (f2 (j : Int))))), (a3, .inl (cZ, n3, .inl (fun j : Nat => zI (f3 (j : Int))))), (a1, .inl (cI, n1, .inl (fun j : Nat => zI (f1 (j : Int))))), (q_9, .inl (cn_10, nn_11, .inl (fun j : Nat => zI (fn_12 (j : Int)))))]) (cx := [(a2, .inl (cI, n2, .inl (fun j : Nat => zI (f2 (j : Int)))))]) (wr := [(xp, .inr (20, [.int (zI (P.pt xp)), .int (zI (P.pn xp)), .ref q_9, .ref a2, .ref a3, .int (zI (P.pg xp))])), (a3, .inl (cZ, n3, .inl (fun j : Nat => zI (f3 (j : Int))))), (a1, .inl (cI, n1, .inl (fun j : Nat => zI (f1 (j : Int))))), (q_9, .inl (cn_10, nn_11, .inl (fun j : Nat => zI (fn_12 (j : Int)))))]) (w1 := [(a2, .inl (cI, n2, .inl (fun j : Nat => zI (f2 (j : Int))))), (q_13, .inl (cn_14, nn_15, .inl (fun j : Nat => zI (fn_16 (j : Int)))))]) (pl := va_pl Lp4 (pE P)) hP hD [1] [0, 2, 3, 4] rfl rfl (by decide) (by decide) hk1 hFc hP1 hD1
    have hK := (hK.sub (tys' := [(cO, .object "java/lang/Object"), (cI, .int), (cZ, .boolean), (cI, .int), (cn_10, .int)]) [0, 1, 2, 3, 4] rfl).app hK1
    generalize H1 = H at hP hS ⊢
    have hP : va_P (dC, dI) vwQ ([(xp, .inr (20, [.int (zI (P.pt xp)), .int (zI (P.pn xp)), .ref q_9, .ref a2, .ref a3, .int (zI (P.pg xp))])), (a3, .inl (cZ, n3, .inl (fun j : Nat => zI (f3 (j : Int))))), (a1, .inl (cI, n1, .inl (fun j : Nat => zI (f1 (j : Int))))), (q_9, .inl (cn_10, nn_11, .inl (fun j : Nat => zI (fn_12 (j : Int))))), (a2, .inl (cI, n2, .inl (fun j : Nat => zI (f2 (j : Int))))), (q_13, .inl (cn_14, nn_15, .inl (fun j : Nat => zI (fn_16 (j : Int)))))] ++ va_pl Lp4 (pE P)) H := hP
    have hD : va_D A ([(xp, .inr (20, [.int (zI (P.pt xp)), .int (zI (P.pn xp)), .ref q_9, .ref a2, .ref a3, .int (zI (P.pg xp))])), (a3, .inl (cZ, n3, .inl (fun j : Nat => zI (f3 (j : Int))))), (a1, .inl (cI, n1, .inl (fun j : Nat => zI (f1 (j : Int))))), (q_9, .inl (cn_10, nn_11, .inl (fun j : Nat => zI (fn_12 (j : Int))))), (a2, .inl (cI, n2, .inl (fun j : Nat => zI (f2 (j : Int))))), (q_13, .inl (cn_14, nn_15, .inl (fun j : Nat => zI (fn_16 (j : Int)))))] ++ va_pl Lp4 (pE P)) := hD
    have hK : va_K (dC, dI) vwQ [(cO, .object "java/lang/Object"), (cI, .int), (cZ, .boolean), (cI, .int), (cn_10, .int), (cI, .int), (cn_14, .int)] s := hK
    refine W.widen (k := ((0 + (1)) + (1))) (n := ((0 + ((2 * (P.pn xp)).toNat)) + ((2 * (P.pn xp)).toNat))) (by omega) (by omega) ?_
    have hcp2 := hxt_16
    have rfn_16 : ∀ j : Int, fn_16 j = fn_16 j := (fun _ => rfl)
    refine va_put (D := (dC, dI)) (ci := 20) (v := .ref q_13) (ty := .array .int) (C := RX15) (T := TX15) (N := 6) hx hb hts mem_PP_addQ_0 tyX15 tyX15_ok nmX15 hown hK hP hD hS 0 rfl rfl 3 (by decide) (ow (k := 2) rfl) (fun _ h9 => h9) rfl (by decide +kernel) rfl rfl (by first | exact Nat.le_of_ble_eq_true rfl | exact Nat.le_trans (show ((0 + (1)) + (1)) ≤ 2 from (by omega)) (Nat.le_of_ble_eq_true rfl) | exact Nat.le_trans (show ((0 + ((2 * (P.pn xp)).toNat)) + ((2 * (P.pn xp)).toNat)) ≤ 2000 from (by omega)) (Nat.le_of_ble_eq_true rfl)) dX15_add_43 (fun H locs hP hD hS => ?_)
    have hP : va_P (dC, dI) vwQ ([(xp, .inr (20, [.int (zI (P.pt xp)), .int (zI (P.pn xp)), .ref q_9, .ref q_13, .ref a3, .int (zI (P.pg xp))])), (a3, .inl (cZ, n3, .inl (fun j : Nat => zI (f3 (j : Int))))), (a1, .inl (cI, n1, .inl (fun j : Nat => zI (f1 (j : Int))))), (q_9, .inl (cn_10, nn_11, .inl (fun j : Nat => zI (fn_12 (j : Int))))), (a2, .inl (cI, n2, .inl (fun j : Nat => zI (f2 (j : Int))))), (q_13, .inl (cn_14, nn_15, .inl (fun j : Nat => zI (fn_16 (j : Int)))))] ++ va_pl Lp4 (pE P)) H := hP
    have hD : va_D A ([(xp, .inr (20, [.int (zI (P.pt xp)), .int (zI (P.pn xp)), .ref q_9, .ref q_13, .ref a3, .int (zI (P.pg xp))])), (a3, .inl (cZ, n3, .inl (fun j : Nat => zI (f3 (j : Int))))), (a1, .inl (cI, n1, .inl (fun j : Nat => zI (f1 (j : Int))))), (q_9, .inl (cn_10, nn_11, .inl (fun j : Nat => zI (fn_12 (j : Int))))), (a2, .inl (cI, n2, .inl (fun j : Nat => zI (f2 (j : Int))))), (q_13, .inl (cn_14, nn_15, .inl (fun j : Nat => zI (fn_16 (j : Int)))))] ++ va_pl Lp4 (pE P)) := hD
    refine lv_iconst (v := 2) hx hb dX15_add_46 (by decide) ?_
    refine lv_aload_n hx hb dX15_add_47 rfl (lv_at hl 0 rfl) ?_
    refine va_get (D := (dC, dI)) (ci := 20) (v := .int (zI (P.pn xp))) (C := RX15) (T := TX15) (N := 6) hx hb hts mem_PP_addQ_0 hown hK hP 0 rfl rfl 1 (by decide) (ow (k := 0) rfl) (fun _ h9 => h9) rfl dX15_add_48 ?_
    refine lv_imul hx hb dX15_add_51 ?_
    refine lv_topi (fun z ez => ?_)
    obtain rfl : z = zI (2 * (P.pn xp)) := ez.trans (zI_mul (2) (P.pn xp))
    obtain ⟨nw_19, enw_19⟩ : ∃ n9 : Nat, (n9 : Int) = 2 * (P.pn xp) := ⟨(2 * (P.pn xp)).toNat, by omega⟩
    refine va_newa (ty := .boolean) (n := zI (2 * (P.pn xp))) (N' := nw_19) (a0 := (nw_19, .inl (fun _ => 0))) hx hb (ow (k := 7) rfl) rfl hK hP hD hS hA (fun _ => rfl) (zI_nn (by omega) (by omega)) (by rw [zI_cl (by omega) (by omega)]; omega) (by show nw_19 * 1 ≤ 536870912; omega) (Nat.le_trans (show ((0 + (1)) + (1)) + 1 ≤ 3 by omega) (by first | exact Nat.le_of_ble_eq_true rfl | exact Nat.le_trans (show ((0 + (1)) + (1)) ≤ 2 from (by omega)) (Nat.le_of_ble_eq_true rfl) | exact Nat.le_trans (show ((0 + ((2 * (P.pn xp)).toNat)) + ((2 * (P.pn xp)).toNat)) ≤ 2000 from (by omega)) (Nat.le_of_ble_eq_true rfl))) (Nat.le_trans (show ((0 + ((2 * (P.pn xp)).toNat)) + ((2 * (P.pn xp)).toNat)) + nw_19 ≤ 3000 by omega) (by first | exact Nat.le_of_ble_eq_true rfl | exact Nat.le_trans (show ((0 + (1)) + (1)) ≤ 2 from (by omega)) (Nat.le_of_ble_eq_true rfl) | exact Nat.le_trans (show ((0 + ((2 * (P.pn xp)).toNat)) + ((2 * (P.pn xp)).toNat)) ≤ 2000 from (by omega)) (Nat.le_of_ble_eq_true rfl))) dX15_add_52 (fun q_17 cA_18 H hK hP hD hS => ?_)
    have hP := pl_Pp (pl_new (X := [(xp, .inr (20, [.int (zI (P.pt xp)), .int (zI (P.pn xp)), .ref q_9, .ref q_13, .ref a3, .int (zI (P.pg xp))])), (a3, .inl (cZ, n3, .inl (fun j : Nat => zI (f3 (j : Int))))), (a1, .inl (cI, n1, .inl (fun j : Nat => zI (f1 (j : Int))))), (q_9, .inl (cn_10, nn_11, .inl (fun j : Nat => zI (fn_12 (j : Int))))), (a2, .inl (cI, n2, .inl (fun j : Nat => zI (f2 (j : Int))))), (q_13, .inl (cn_14, nn_15, .inl (fun j : Nat => zI (fn_16 (j : Int)))))]) (pl := va_pl Lp4 (pE P))) hP
    have hD := pl_Dp (pl_new (X := [(xp, .inr (20, [.int (zI (P.pt xp)), .int (zI (P.pn xp)), .ref q_9, .ref q_13, .ref a3, .int (zI (P.pg xp))])), (a3, .inl (cZ, n3, .inl (fun j : Nat => zI (f3 (j : Int))))), (a1, .inl (cI, n1, .inl (fun j : Nat => zI (f1 (j : Int))))), (q_9, .inl (cn_10, nn_11, .inl (fun j : Nat => zI (fn_12 (j : Int))))), (a2, .inl (cI, n2, .inl (fun j : Nat => zI (f2 (j : Int))))), (q_13, .inl (cn_14, nn_15, .inl (fun j : Nat => zI (fn_16 (j : Int)))))]) (pl := va_pl Lp4 (pE P))) hD
    obtain ⟨az_20, eaz_20⟩ : ∃ f9 : Int → Int, f9 = (fun _ => 0) := ⟨_, rfl⟩
    have hP : va_P (dC, dI) vwQ ([(xp, .inr (20, [.int (zI (P.pt xp)), .int (zI (P.pn xp)), .ref q_9, .ref q_13, .ref a3, .int (zI (P.pg xp))])), (a3, .inl (cZ, n3, .inl (fun j : Nat => zI (f3 (j : Int))))), (a1, .inl (cI, n1, .inl (fun j : Nat => zI (f1 (j : Int))))), (q_9, .inl (cn_10, nn_11, .inl (fun j : Nat => zI (fn_12 (j : Int))))), (a2, .inl (cI, n2, .inl (fun j : Nat => zI (f2 (j : Int))))), (q_13, .inl (cn_14, nn_15, .inl (fun j : Nat => zI (fn_16 (j : Int))))), (q_17, .inl (cA_18, nw_19, .inl (fun _ => 0)))] ++ va_pl Lp4 (pE P)) H := hP
    have hD : va_D A ([(xp, .inr (20, [.int (zI (P.pt xp)), .int (zI (P.pn xp)), .ref q_9, .ref q_13, .ref a3, .int (zI (P.pg xp))])), (a3, .inl (cZ, n3, .inl (fun j : Nat => zI (f3 (j : Int))))), (a1, .inl (cI, n1, .inl (fun j : Nat => zI (f1 (j : Int))))), (q_9, .inl (cn_10, nn_11, .inl (fun j : Nat => zI (fn_12 (j : Int))))), (a2, .inl (cI, n2, .inl (fun j : Nat => zI (f2 (j : Int))))), (q_13, .inl (cn_14, nn_15, .inl (fun j : Nat => zI (fn_16 (j : Int))))), (q_17, .inl (cA_18, nw_19, .inl (fun _ => 0)))] ++ va_pl Lp4 (pE P)) := hD
    rw [show (fun _ : Nat => (0 : Int32)) = (fun j : Nat => zI (az_20 (j : Int))) from (by rw [eaz_20]; rfl)] at hP hD
    have hP : va_P (dC, dI) vwQ ([(xp, .inr (20, [.int (zI (P.pt xp)), .int (zI (P.pn xp)), .ref q_9, .ref q_13, .ref a3, .int (zI (P.pg xp))])), (a3, .inl (cZ, n3, .inl (fun j : Nat => zI (f3 (j : Int))))), (a1, .inl (cI, n1, .inl (fun j : Nat => zI (f1 (j : Int))))), (q_9, .inl (cn_10, nn_11, .inl (fun j : Nat => zI (fn_12 (j : Int))))), (a2, .inl (cI, n2, .inl (fun j : Nat => zI (f2 (j : Int))))), (q_13, .inl (cn_14, nn_15, .inl (fun j : Nat => zI (fn_16 (j : Int))))), (q_17, .inl (cA_18, nw_19, .inl (fun j : Nat => zI (az_20 (j : Int)))))] ++ va_pl Lp4 (pE P)) H := hP
    have hD : va_D A ([(xp, .inr (20, [.int (zI (P.pt xp)), .int (zI (P.pn xp)), .ref q_9, .ref q_13, .ref a3, .int (zI (P.pg xp))])), (a3, .inl (cZ, n3, .inl (fun j : Nat => zI (f3 (j : Int))))), (a1, .inl (cI, n1, .inl (fun j : Nat => zI (f1 (j : Int))))), (q_9, .inl (cn_10, nn_11, .inl (fun j : Nat => zI (fn_12 (j : Int))))), (a2, .inl (cI, n2, .inl (fun j : Nat => zI (f2 (j : Int))))), (q_13, .inl (cn_14, nn_15, .inl (fun j : Nat => zI (fn_16 (j : Int))))), (q_17, .inl (cA_18, nw_19, .inl (fun j : Nat => zI (az_20 (j : Int)))))] ++ va_pl Lp4 (pE P)) := hD
    have raz_20 : ∀ j : Int, 0 ≤ az_20 j ∧ az_20 j ≤ 1 := (fun j => by rw [eaz_20]; show 0 ≤ (0 : Int) ∧ (0 : Int) ≤ 1; omega)
    have hK : va_K (dC, dI) vwQ [(cO, .object "java/lang/Object"), (cI, .int), (cZ, .boolean), (cI, .int), (cn_10, .int), (cI, .int), (cn_14, .int), (cA_18, .boolean)] s := hK
    refine lv_astore (lv' := [(4, .ref q_17), (0, .ref xp), (1, .int (zI (p0))), (2, .int (zI (o0))), (3, .int (zI (b0)))]) hx hb dX15_add_54 hl (by decide) rfl (fun ls hl => ?_)
    refine lv_iconst (v := 0) hx hb dX15_add_56 (by decide) ?_
    refine lv_istore (lv' := [(5, .int 0), (4, .ref q_17), (0, .ref xp), (1, .int (zI (p0))), (2, .int (zI (o0))), (3, .int (zI (b0)))]) hx hb dX15_add_57 hl (by decide) rfl (fun ls hl => ?_)
    have key59 : ∀ n59 : Nat, ∀ (d59_5 : Int) (w59_17 : Int → Int) (ls : Array Slot) (H : Heap) (locs : List Loc), (0 ≤ d59_5 ∧ d59_5 ≤ P.pn xp) → (∀ j : Int, 0 ≤ w59_17 j ∧ w59_17 j ≤ 1) → (∀ j : Int, 0 ≤ j → j < d59_5 → w59_17 j = f3 j) → ((P.pn xp - d59_5 : Int).toNat) < n59 → lv_has ls 6 [(0, .ref xp), (1, .int (zI (p0))), (2, .int (zI (o0))), (3, .int (zI (b0))), (4, .ref q_17), (5, .int (zI (d59_5)))] → va_P (dC, dI) vwQ ([(xp, .inr (20, [.int (zI (P.pt xp)), .int (zI (P.pn xp)), .ref q_9, .ref q_13, .ref a3, .int (zI (P.pg xp))])), (a3, .inl (cZ, n3, .inl (fun j : Nat => zI (f3 (j : Int))))), (a1, .inl (cI, n1, .inl (fun j : Nat => zI (f1 (j : Int))))), (q_9, .inl (cn_10, nn_11, .inl (fun j : Nat => zI (fn_12 (j : Int))))), (a2, .inl (cI, n2, .inl (fun j : Nat => zI (f2 (j : Int))))), (q_13, .inl (cn_14, nn_15, .inl (fun j : Nat => zI (fn_16 (j : Int))))), (q_17, .inl (cA_18, nw_19, .inl (fun j : Nat => zI (w59_17 (j : Int)))))] ++ va_pl Lp4 (pE P)) H → va_D A ([(xp, .inr (20, [.int (zI (P.pt xp)), .int (zI (P.pn xp)), .ref q_9, .ref q_13, .ref a3, .int (zI (P.pg xp))])), (a3, .inl (cZ, n3, .inl (fun j : Nat => zI (f3 (j : Int))))), (a1, .inl (cI, n1, .inl (fun j : Nat => zI (f1 (j : Int))))), (q_9, .inl (cn_10, nn_11, .inl (fun j : Nat => zI (fn_12 (j : Int))))), (a2, .inl (cI, n2, .inl (fun j : Nat => zI (f2 (j : Int))))), (q_13, .inl (cn_14, nn_15, .inl (fun j : Nat => zI (fn_16 (j : Int))))), (q_17, .inl (cA_18, nw_19, .inl (fun j : Nat => zI (w59_17 (j : Int)))))] ++ va_pl Lp4 (pE P)) → va_S A s.heap H locs → W p l e (headSpec v_PP_addQ ({ frames := 2, cells := 3, slots := 3000, locals := 82 })).room s m ([.ref xp, .int (zI (p0)), .int (zI (o0)), .int (zI (b0))] : List Value).toArray below meth c H locs ((0 + (1)) + (1) + 1) (((0 + ((2 * (P.pn xp)).toNat)) + ((2 * (P.pn xp)).toNat)) + nw_19) Q (F0 m 59 ls []) := by
      intro n59
      induction n59 with
      | zero => intro d59_5 w59_17 ls H locs jd59_5 jw59_17 jB hm59; exact absurd hm59 (by omega)
      | succ n59 ih59 =>
        intro d59_5 w59_17 ls H locs jd59_5 jw59_17 jB hm59 hl hP hD hS
        refine lv_iload hx hb dX15_add_59 (lv_at hl 5 rfl) ?_
        refine lv_aload_n hx hb dX15_add_61 rfl (lv_at hl 0 rfl) ?_
        refine va_get (D := (dC, dI)) (ci := 20) (v := .int (zI (P.pn xp))) (C := RX15) (T := TX15) (N := 6) hx hb hts mem_PP_addQ_0 hown hK hP 0 rfl rfl 1 (by decide) (ow (k := 0) rfl) (fun _ h9 => h9) rfl dX15_add_62 ?_
        refine lv_icmp_ge (tgt := 86) hx hb dX15_add_65 (by decide) (fun b65 => ?_) (fun b65 => ?_)
        · have yb65 : (P.pn xp : Int) ≤ (d59_5 : Int) := (zI_le (a := P.pn xp) (b := d59_5) (by omega) (by omega) (by omega) (by omega)).mp b65
          refine lv_aload_n hx hb dX15_add_86 rfl (lv_at hl 0 rfl) ?_
          refine lv_aload hx hb dX15_add_87 (lv_at hl 4 rfl) ?_
          refine va_put (D := (dC, dI)) (ci := 20) (v := .ref q_17) (ty := .array .boolean) (C := RX15) (T := TX15) (N := 6) hx hb hts mem_PP_addQ_0 tyX15 tyX15_ok nmX15 hown hK hP hD hS 0 rfl rfl 4 (by decide) (ow (k := 3) rfl) (fun _ h9 => h9) rfl (by decide +kernel) rfl rfl (by first | exact Nat.le_of_ble_eq_true rfl | exact Nat.le_trans (show ((0 + (1)) + (1) + 1) ≤ 3 from (by omega)) (Nat.le_of_ble_eq_true rfl) | exact Nat.le_trans (show (((0 + ((2 * (P.pn xp)).toNat)) + ((2 * (P.pn xp)).toNat)) + nw_19) ≤ 3000 from (by omega)) (Nat.le_of_ble_eq_true rfl)) dX15_add_89 (fun H locs hP hD hS => ?_)
          have hP : va_P (dC, dI) vwQ ([(xp, .inr (20, [.int (zI (P.pt xp)), .int (zI (P.pn xp)), .ref q_9, .ref q_13, .ref q_17, .int (zI (P.pg xp))])), (a3, .inl (cZ, n3, .inl (fun j : Nat => zI (f3 (j : Int))))), (a1, .inl (cI, n1, .inl (fun j : Nat => zI (f1 (j : Int))))), (q_9, .inl (cn_10, nn_11, .inl (fun j : Nat => zI (fn_12 (j : Int))))), (a2, .inl (cI, n2, .inl (fun j : Nat => zI (f2 (j : Int))))), (q_13, .inl (cn_14, nn_15, .inl (fun j : Nat => zI (fn_16 (j : Int))))), (q_17, .inl (cA_18, nw_19, .inl (fun j : Nat => zI (w59_17 (j : Int)))))] ++ va_pl Lp4 (pE P)) H := hP
          have hD : va_D A ([(xp, .inr (20, [.int (zI (P.pt xp)), .int (zI (P.pn xp)), .ref q_9, .ref q_13, .ref q_17, .int (zI (P.pg xp))])), (a3, .inl (cZ, n3, .inl (fun j : Nat => zI (f3 (j : Int))))), (a1, .inl (cI, n1, .inl (fun j : Nat => zI (f1 (j : Int))))), (q_9, .inl (cn_10, nn_11, .inl (fun j : Nat => zI (fn_12 (j : Int))))), (a2, .inl (cI, n2, .inl (fun j : Nat => zI (f2 (j : Int))))), (q_13, .inl (cn_14, nn_15, .inl (fun j : Nat => zI (fn_16 (j : Int))))), (q_17, .inl (cA_18, nw_19, .inl (fun j : Nat => zI (w59_17 (j : Int)))))] ++ va_pl Lp4 (pE P)) := hD
          refine lv_aload_n hx hb dX15_add_92 rfl (lv_at hl 0 rfl) ?_
          refine va_get (D := (dC, dI)) (ci := 20) (v := .ref q_9) (C := RX15) (T := TX15) (N := 6) hx hb hts mem_PP_addQ_0 hown hK hP 0 rfl rfl 2 (by decide) (ow (k := 1) rfl) (fun _ h9 => h9) rfl dX15_add_93 ?_
          refine lv_aload_n hx hb dX15_add_96 rfl (lv_at hl 0 rfl) ?_
          refine va_get (D := (dC, dI)) (ci := 20) (v := .int (zI (P.pn xp))) (C := RX15) (T := TX15) (N := 6) hx hb hts mem_PP_addQ_0 hown hK hP 0 rfl rfl 1 (by decide) (ow (k := 0) rfl) (fun _ h9 => h9) rfl dX15_add_97 ?_
          refine lv_iload_n hx hb dX15_add_100 rfl (lv_at hl 1 rfl) ?_
          refine va_iast (i := zI (P.pn xp)) hx hb hK hP hD hS 3 4 rfl rfl (zI_in (a := P.pn xp) (n := nn_11) (by omega) (by omega) (by omega)) dX15_add_101 (fun H locs hP hD hS => ?_)
          have eQ : upd (fun j : Nat => zI (fn_12 (j : Int))) (zI (P.pn xp)).toNatClampNeg (zI (p0)) = (fun j : Nat => zI (zup fn_12 (P.pn xp) (p0) (j : Int))) := zI_st fn_12 (e := P.pn xp) (v := p0) (by omega) (by omega)
          rw [eQ] at hP hD
          clear eQ
          have ra_21 : ∀ j : Int, zup fn_12 (P.pn xp) (p0) j = zup fn_12 (P.pn xp) (p0) j := zup_P (P := fun x9 => x9 = x9) rfn_12 (show (p0) = (p0) by omega)
          obtain ⟨a_21, ea_21⟩ : ∃ a9 : Int → Int, a9 = zup fn_12 (P.pn xp) (p0) := ⟨_, rfl⟩
          rw [← ea_21] at hP hD ra_21
          have hP : va_P (dC, dI) vwQ ([(xp, .inr (20, [.int (zI (P.pt xp)), .int (zI (P.pn xp)), .ref q_9, .ref q_13, .ref q_17, .int (zI (P.pg xp))])), (a3, .inl (cZ, n3, .inl (fun j : Nat => zI (f3 (j : Int))))), (a1, .inl (cI, n1, .inl (fun j : Nat => zI (f1 (j : Int))))), (q_9, .inl (cn_10, nn_11, .inl (fun j : Nat => zI (a_21 (j : Int))))), (a2, .inl (cI, n2, .inl (fun j : Nat => zI (f2 (j : Int))))), (q_13, .inl (cn_14, nn_15, .inl (fun j : Nat => zI (fn_16 (j : Int))))), (q_17, .inl (cA_18, nw_19, .inl (fun j : Nat => zI (w59_17 (j : Int)))))] ++ va_pl Lp4 (pE P)) H := hP
          have hD : va_D A ([(xp, .inr (20, [.int (zI (P.pt xp)), .int (zI (P.pn xp)), .ref q_9, .ref q_13, .ref q_17, .int (zI (P.pg xp))])), (a3, .inl (cZ, n3, .inl (fun j : Nat => zI (f3 (j : Int))))), (a1, .inl (cI, n1, .inl (fun j : Nat => zI (f1 (j : Int))))), (q_9, .inl (cn_10, nn_11, .inl (fun j : Nat => zI (a_21 (j : Int))))), (a2, .inl (cI, n2, .inl (fun j : Nat => zI (f2 (j : Int))))), (q_13, .inl (cn_14, nn_15, .inl (fun j : Nat => zI (fn_16 (j : Int))))), (q_17, .inl (cA_18, nw_19, .inl (fun j : Nat => zI (w59_17 (j : Int)))))] ++ va_pl Lp4 (pE P)) := hD
          refine lv_aload_n hx hb dX15_add_102 rfl (lv_at hl 0 rfl) ?_
          refine va_get (D := (dC, dI)) (ci := 20) (v := .ref q_13) (C := RX15) (T := TX15) (N := 6) hx hb hts mem_PP_addQ_0 hown hK hP 0 rfl rfl 3 (by decide) (ow (k := 2) rfl) (fun _ h9 => h9) rfl dX15_add_103 ?_
          refine lv_aload_n hx hb dX15_add_106 rfl (lv_at hl 0 rfl) ?_
          refine va_get (D := (dC, dI)) (ci := 20) (v := .int (zI (P.pn xp))) (C := RX15) (T := TX15) (N := 6) hx hb hts mem_PP_addQ_0 hown hK hP 0 rfl rfl 1 (by decide) (ow (k := 0) rfl) (fun _ h9 => h9) rfl dX15_add_107 ?_
          refine lv_iload_n hx hb dX15_add_110 rfl (lv_at hl 2 rfl) ?_
          refine va_iast (i := zI (P.pn xp)) hx hb hK hP hD hS 5 6 rfl rfl (zI_in (a := P.pn xp) (n := nn_15) (by omega) (by omega) (by omega)) dX15_add_111 (fun H locs hP hD hS => ?_)
          have eQ : upd (fun j : Nat => zI (fn_16 (j : Int))) (zI (P.pn xp)).toNatClampNeg (zI (o0)) = (fun j : Nat => zI (zup fn_16 (P.pn xp) (o0) (j : Int))) := zI_st fn_16 (e := P.pn xp) (v := o0) (by omega) (by omega)
          rw [eQ] at hP hD
          clear eQ
          have ra_22 : ∀ j : Int, zup fn_16 (P.pn xp) (o0) j = zup fn_16 (P.pn xp) (o0) j := zup_P (P := fun x9 => x9 = x9) rfn_16 (show (o0) = (o0) by omega)
          obtain ⟨a_22, ea_22⟩ : ∃ a9 : Int → Int, a9 = zup fn_16 (P.pn xp) (o0) := ⟨_, rfl⟩
          rw [← ea_22] at hP hD ra_22
          have hP : va_P (dC, dI) vwQ ([(xp, .inr (20, [.int (zI (P.pt xp)), .int (zI (P.pn xp)), .ref q_9, .ref q_13, .ref q_17, .int (zI (P.pg xp))])), (a3, .inl (cZ, n3, .inl (fun j : Nat => zI (f3 (j : Int))))), (a1, .inl (cI, n1, .inl (fun j : Nat => zI (f1 (j : Int))))), (q_9, .inl (cn_10, nn_11, .inl (fun j : Nat => zI (a_21 (j : Int))))), (a2, .inl (cI, n2, .inl (fun j : Nat => zI (f2 (j : Int))))), (q_13, .inl (cn_14, nn_15, .inl (fun j : Nat => zI (a_22 (j : Int))))), (q_17, .inl (cA_18, nw_19, .inl (fun j : Nat => zI (w59_17 (j : Int)))))] ++ va_pl Lp4 (pE P)) H := hP
          have hD : va_D A ([(xp, .inr (20, [.int (zI (P.pt xp)), .int (zI (P.pn xp)), .ref q_9, .ref q_13, .ref q_17, .int (zI (P.pg xp))])), (a3, .inl (cZ, n3, .inl (fun j : Nat => zI (f3 (j : Int))))), (a1, .inl (cI, n1, .inl (fun j : Nat => zI (f1 (j : Int))))), (q_9, .inl (cn_10, nn_11, .inl (fun j : Nat => zI (a_21 (j : Int))))), (a2, .inl (cI, n2, .inl (fun j : Nat => zI (f2 (j : Int))))), (q_13, .inl (cn_14, nn_15, .inl (fun j : Nat => zI (a_22 (j : Int))))), (q_17, .inl (cA_18, nw_19, .inl (fun j : Nat => zI (w59_17 (j : Int)))))] ++ va_pl Lp4 (pE P)) := hD
          refine lv_aload_n hx hb dX15_add_112 rfl (lv_at hl 0 rfl) ?_
          refine va_get (D := (dC, dI)) (ci := 20) (v := .ref q_17) (C := RX15) (T := TX15) (N := 6) hx hb hts mem_PP_addQ_0 hown hK hP 0 rfl rfl 4 (by decide) (ow (k := 3) rfl) (fun _ h9 => h9) rfl dX15_add_113 ?_
          refine lv_aload_n hx hb dX15_add_116 rfl (lv_at hl 0 rfl) ?_
          refine va_get (D := (dC, dI)) (ci := 20) (v := .int (zI (P.pn xp))) (C := RX15) (T := TX15) (N := 6) hx hb hts mem_PP_addQ_0 hown hK hP 0 rfl rfl 1 (by decide) (ow (k := 0) rfl) (fun _ h9 => h9) rfl dX15_add_117 ?_
          refine lv_iload_n hx hb dX15_add_120 rfl (lv_at hl 3 rfl) ?_
          refine va_zast (i := zI (P.pn xp)) hx hb hK hP hD hS 6 7 rfl rfl (zI_in (a := P.pn xp) (n := nw_19) (by omega) (by omega) (by omega)) dX15_add_121 (fun H locs hP hD hS => ?_)
          rw [show vp_nar .boolean (zI (b0)) = (zI (b0)) from zI_nar (a := b0) (by omega) (by omega)] at hP hD
          have eQ : upd (fun j : Nat => zI (w59_17 (j : Int))) (zI (P.pn xp)).toNatClampNeg (zI (b0)) = (fun j : Nat => zI (zup w59_17 (P.pn xp) (b0) (j : Int))) := zI_st w59_17 (e := P.pn xp) (v := b0) (by omega) (by omega)
          rw [eQ] at hP hD
          clear eQ
          have ra_23 : ∀ j : Int, 0 ≤ zup w59_17 (P.pn xp) (b0) j ∧ zup w59_17 (P.pn xp) (b0) j ≤ 1 := zup_P (P := fun x9 => 0 ≤ x9 ∧ x9 ≤ 1) jw59_17 (show 0 ≤ (b0) ∧ (b0) ≤ 1 by omega)
          obtain ⟨a_23, ea_23⟩ : ∃ a9 : Int → Int, a9 = zup w59_17 (P.pn xp) (b0) := ⟨_, rfl⟩
          rw [← ea_23] at hP hD ra_23
          have hP : va_P (dC, dI) vwQ ([(xp, .inr (20, [.int (zI (P.pt xp)), .int (zI (P.pn xp)), .ref q_9, .ref q_13, .ref q_17, .int (zI (P.pg xp))])), (a3, .inl (cZ, n3, .inl (fun j : Nat => zI (f3 (j : Int))))), (a1, .inl (cI, n1, .inl (fun j : Nat => zI (f1 (j : Int))))), (q_9, .inl (cn_10, nn_11, .inl (fun j : Nat => zI (a_21 (j : Int))))), (a2, .inl (cI, n2, .inl (fun j : Nat => zI (f2 (j : Int))))), (q_13, .inl (cn_14, nn_15, .inl (fun j : Nat => zI (a_22 (j : Int))))), (q_17, .inl (cA_18, nw_19, .inl (fun j : Nat => zI (a_23 (j : Int)))))] ++ va_pl Lp4 (pE P)) H := hP
          have hD : va_D A ([(xp, .inr (20, [.int (zI (P.pt xp)), .int (zI (P.pn xp)), .ref q_9, .ref q_13, .ref q_17, .int (zI (P.pg xp))])), (a3, .inl (cZ, n3, .inl (fun j : Nat => zI (f3 (j : Int))))), (a1, .inl (cI, n1, .inl (fun j : Nat => zI (f1 (j : Int))))), (q_9, .inl (cn_10, nn_11, .inl (fun j : Nat => zI (a_21 (j : Int))))), (a2, .inl (cI, n2, .inl (fun j : Nat => zI (f2 (j : Int))))), (q_13, .inl (cn_14, nn_15, .inl (fun j : Nat => zI (a_22 (j : Int))))), (q_17, .inl (cA_18, nw_19, .inl (fun j : Nat => zI (a_23 (j : Int)))))] ++ va_pl Lp4 (pE P)) := hD
          refine lv_aload_n hx hb dX15_add_122 rfl (lv_at hl 0 rfl) ?_
          refine lv_dup hx hb dX15_add_123 rfl ?_
          refine va_get (D := (dC, dI)) (ci := 20) (v := .int (zI (P.pn xp))) (C := RX15) (T := TX15) (N := 6) hx hb hts mem_PP_addQ_0 hown hK hP 0 rfl rfl 1 (by decide) (ow (k := 0) rfl) (fun _ h9 => h9) rfl dX15_add_124 ?_
          refine lv_iconst (v := 1) hx hb dX15_add_127 (by decide) ?_
          refine lv_iadd hx hb dX15_add_128 ?_
          refine lv_topi (fun z ez => ?_)
          obtain rfl : z = zI ((P.pn xp) + 1) := ez.trans (zI_add (P.pn xp) (1))
          refine va_put (D := (dC, dI)) (ci := 20) (v := .int (zI ((P.pn xp) + 1))) (ty := .int) (C := RX15) (T := TX15) (N := 6) hx hb hts mem_PP_addQ_0 tyX15 tyX15_ok nmX15 hown hK hP hD hS 0 rfl rfl 1 (by decide) (ow (k := 0) rfl) (fun _ h9 => h9) rfl (by decide +kernel) rfl rfl (by first | exact Nat.le_of_ble_eq_true rfl | exact Nat.le_trans (show ((0 + (1)) + (1) + 1) ≤ 3 from (by omega)) (Nat.le_of_ble_eq_true rfl) | exact Nat.le_trans (show (((0 + ((2 * (P.pn xp)).toNat)) + ((2 * (P.pn xp)).toNat)) + nw_19) ≤ 3000 from (by omega)) (Nat.le_of_ble_eq_true rfl)) dX15_add_129 (fun H locs hP hD hS => ?_)
          have hP : va_P (dC, dI) vwQ ([(xp, .inr (20, [.int (zI (P.pt xp)), .int (zI ((P.pn xp) + 1)), .ref q_9, .ref q_13, .ref q_17, .int (zI (P.pg xp))])), (a3, .inl (cZ, n3, .inl (fun j : Nat => zI (f3 (j : Int))))), (a1, .inl (cI, n1, .inl (fun j : Nat => zI (f1 (j : Int))))), (q_9, .inl (cn_10, nn_11, .inl (fun j : Nat => zI (a_21 (j : Int))))), (a2, .inl (cI, n2, .inl (fun j : Nat => zI (f2 (j : Int))))), (q_13, .inl (cn_14, nn_15, .inl (fun j : Nat => zI (a_22 (j : Int))))), (q_17, .inl (cA_18, nw_19, .inl (fun j : Nat => zI (a_23 (j : Int)))))] ++ va_pl Lp4 (pE P)) H := hP
          have hD : va_D A ([(xp, .inr (20, [.int (zI (P.pt xp)), .int (zI ((P.pn xp) + 1)), .ref q_9, .ref q_13, .ref q_17, .int (zI (P.pg xp))])), (a3, .inl (cZ, n3, .inl (fun j : Nat => zI (f3 (j : Int))))), (a1, .inl (cI, n1, .inl (fun j : Nat => zI (f1 (j : Int))))), (q_9, .inl (cn_10, nn_11, .inl (fun j : Nat => zI (a_21 (j : Int))))), (a2, .inl (cI, n2, .inl (fun j : Nat => zI (f2 (j : Int))))), (q_13, .inl (cn_14, nn_15, .inl (fun j : Nat => zI (a_22 (j : Int))))), (q_17, .inl (cA_18, nw_19, .inl (fun j : Nat => zI (a_23 (j : Int)))))] ++ va_pl Lp4 (pE P)) := hD
          obtain ⟨z_24, ez_24⟩ : ∃ z9 : Int, z9 = (P.pn xp) + 1 := ⟨_, rfl⟩
          rw [← ez_24] at hP hD
          have hP : va_P (dC, dI) vwQ ([(xp, .inr (20, [.int (zI (P.pt xp)), .int (zI (z_24)), .ref q_9, .ref q_13, .ref q_17, .int (zI (P.pg xp))])), (a3, .inl (cZ, n3, .inl (fun j : Nat => zI (f3 (j : Int))))), (a1, .inl (cI, n1, .inl (fun j : Nat => zI (f1 (j : Int))))), (q_9, .inl (cn_10, nn_11, .inl (fun j : Nat => zI (a_21 (j : Int))))), (a2, .inl (cI, n2, .inl (fun j : Nat => zI (f2 (j : Int))))), (q_13, .inl (cn_14, nn_15, .inl (fun j : Nat => zI (a_22 (j : Int))))), (q_17, .inl (cA_18, nw_19, .inl (fun j : Nat => zI (a_23 (j : Int)))))] ++ va_pl Lp4 (pE P)) H := hP
          have hD : va_D A ([(xp, .inr (20, [.int (zI (P.pt xp)), .int (zI (z_24)), .ref q_9, .ref q_13, .ref q_17, .int (zI (P.pg xp))])), (a3, .inl (cZ, n3, .inl (fun j : Nat => zI (f3 (j : Int))))), (a1, .inl (cI, n1, .inl (fun j : Nat => zI (f1 (j : Int))))), (q_9, .inl (cn_10, nn_11, .inl (fun j : Nat => zI (a_21 (j : Int))))), (a2, .inl (cI, n2, .inl (fun j : Nat => zI (f2 (j : Int))))), (q_13, .inl (cn_14, nn_15, .inl (fun j : Nat => zI (a_22 (j : Int))))), (q_17, .inl (cA_18, nw_19, .inl (fun j : Nat => zI (a_23 (j : Int)))))] ++ va_pl Lp4 (pE P)) := hD
          subst hQ
          obtain rfl : cI = cn_10 := cls_eqI hK 1 4 rfl rfl
          have hP : va_P (dC, dI) vwQ ([(xp, .inr (20, [.int (zI (P.pt xp)), .int (zI (z_24)), .ref q_9, .ref q_13, .ref q_17, .int (zI (P.pg xp))])), (a3, .inl (cZ, n3, .inl (fun j : Nat => zI (f3 (j : Int))))), (a1, .inl (cI, n1, .inl (fun j : Nat => zI (f1 (j : Int))))), (q_9, .inl (cI, nn_11, .inl (fun j : Nat => zI (a_21 (j : Int))))), (a2, .inl (cI, n2, .inl (fun j : Nat => zI (f2 (j : Int))))), (q_13, .inl (cn_14, nn_15, .inl (fun j : Nat => zI (a_22 (j : Int))))), (q_17, .inl (cA_18, nw_19, .inl (fun j : Nat => zI (a_23 (j : Int)))))] ++ va_pl Lp4 (pE P)) H := hP
          have hD : va_D A ([(xp, .inr (20, [.int (zI (P.pt xp)), .int (zI (z_24)), .ref q_9, .ref q_13, .ref q_17, .int (zI (P.pg xp))])), (a3, .inl (cZ, n3, .inl (fun j : Nat => zI (f3 (j : Int))))), (a1, .inl (cI, n1, .inl (fun j : Nat => zI (f1 (j : Int))))), (q_9, .inl (cI, nn_11, .inl (fun j : Nat => zI (a_21 (j : Int))))), (a2, .inl (cI, n2, .inl (fun j : Nat => zI (f2 (j : Int))))), (q_13, .inl (cn_14, nn_15, .inl (fun j : Nat => zI (a_22 (j : Int))))), (q_17, .inl (cA_18, nw_19, .inl (fun j : Nat => zI (a_23 (j : Int)))))] ++ va_pl Lp4 (pE P)) := hD
          have hK := hK.sub (tys' := [(cO, .object "java/lang/Object"), (cI, .int), (cZ, .boolean), (cn_14, .int), (cA_18, .boolean)]) [0, 1, 2, 6, 7] rfl
          obtain rfl : cI = cn_14 := cls_eqI hK 1 3 rfl rfl
          have hP : va_P (dC, dI) vwQ ([(xp, .inr (20, [.int (zI (P.pt xp)), .int (zI (z_24)), .ref q_9, .ref q_13, .ref q_17, .int (zI (P.pg xp))])), (a3, .inl (cZ, n3, .inl (fun j : Nat => zI (f3 (j : Int))))), (a1, .inl (cI, n1, .inl (fun j : Nat => zI (f1 (j : Int))))), (q_9, .inl (cI, nn_11, .inl (fun j : Nat => zI (a_21 (j : Int))))), (a2, .inl (cI, n2, .inl (fun j : Nat => zI (f2 (j : Int))))), (q_13, .inl (cI, nn_15, .inl (fun j : Nat => zI (a_22 (j : Int))))), (q_17, .inl (cA_18, nw_19, .inl (fun j : Nat => zI (a_23 (j : Int)))))] ++ va_pl Lp4 (pE P)) H := hP
          have hD : va_D A ([(xp, .inr (20, [.int (zI (P.pt xp)), .int (zI (z_24)), .ref q_9, .ref q_13, .ref q_17, .int (zI (P.pg xp))])), (a3, .inl (cZ, n3, .inl (fun j : Nat => zI (f3 (j : Int))))), (a1, .inl (cI, n1, .inl (fun j : Nat => zI (f1 (j : Int))))), (q_9, .inl (cI, nn_11, .inl (fun j : Nat => zI (a_21 (j : Int))))), (a2, .inl (cI, n2, .inl (fun j : Nat => zI (f2 (j : Int))))), (q_13, .inl (cI, nn_15, .inl (fun j : Nat => zI (a_22 (j : Int))))), (q_17, .inl (cA_18, nw_19, .inl (fun j : Nat => zI (a_23 (j : Int)))))] ++ va_pl Lp4 (pE P)) := hD
          have hK := hK.sub (tys' := [(cO, .object "java/lang/Object"), (cI, .int), (cZ, .boolean), (cA_18, .boolean)]) [0, 1, 2, 4] rfl
          obtain rfl : cZ = cA_18 := cls_eqZ hK 2 3 rfl rfl
          have hP : va_P (dC, dI) vwQ ([(xp, .inr (20, [.int (zI (P.pt xp)), .int (zI (z_24)), .ref q_9, .ref q_13, .ref q_17, .int (zI (P.pg xp))])), (a3, .inl (cZ, n3, .inl (fun j : Nat => zI (f3 (j : Int))))), (a1, .inl (cI, n1, .inl (fun j : Nat => zI (f1 (j : Int))))), (q_9, .inl (cI, nn_11, .inl (fun j : Nat => zI (a_21 (j : Int))))), (a2, .inl (cI, n2, .inl (fun j : Nat => zI (f2 (j : Int))))), (q_13, .inl (cI, nn_15, .inl (fun j : Nat => zI (a_22 (j : Int))))), (q_17, .inl (cZ, nw_19, .inl (fun j : Nat => zI (a_23 (j : Int)))))] ++ va_pl Lp4 (pE P)) H := hP
          have hD : va_D A ([(xp, .inr (20, [.int (zI (P.pt xp)), .int (zI (z_24)), .ref q_9, .ref q_13, .ref q_17, .int (zI (P.pg xp))])), (a3, .inl (cZ, n3, .inl (fun j : Nat => zI (f3 (j : Int))))), (a1, .inl (cI, n1, .inl (fun j : Nat => zI (f1 (j : Int))))), (q_9, .inl (cI, nn_11, .inl (fun j : Nat => zI (a_21 (j : Int))))), (a2, .inl (cI, n2, .inl (fun j : Nat => zI (f2 (j : Int))))), (q_13, .inl (cI, nn_15, .inl (fun j : Nat => zI (a_22 (j : Int))))), (q_17, .inl (cZ, nw_19, .inl (fun j : Nat => zI (a_23 (j : Int)))))] ++ va_pl Lp4 (pE P)) := hD
          have hK := hK.sub (tys' := [(cO, .object "java/lang/Object"), (cI, .int), (cZ, .boolean)]) [0, 1, 2] rfl
          have hP := hP.part (X := [(xp, .inr (20, [.int (zI (P.pt xp)), .int (zI (z_24)), .ref q_9, .ref q_13, .ref q_17, .int (zI (P.pg xp))])), (a3, .inl (cZ, n3, .inl (fun j : Nat => zI (f3 (j : Int))))), (a1, .inl (cI, n1, .inl (fun j : Nat => zI (f1 (j : Int))))), (q_9, .inl (cI, nn_11, .inl (fun j : Nat => zI (a_21 (j : Int))))), (a2, .inl (cI, n2, .inl (fun j : Nat => zI (f2 (j : Int))))), (q_13, .inl (cI, nn_15, .inl (fun j : Nat => zI (a_22 (j : Int))))), (q_17, .inl (cZ, nw_19, .inl (fun j : Nat => zI (a_23 (j : Int)))))]) (cx := [(xp, .inr (20, [.int (zI (P.pt xp)), .int (zI (z_24)), .ref q_9, .ref q_13, .ref q_17, .int (zI (P.pg xp))])), (a1, .inl (cI, n1, .inl (fun j : Nat => zI (f1 (j : Int))))), (q_9, .inl (cI, nn_11, .inl (fun j : Nat => zI (a_21 (j : Int))))), (a2, .inl (cI, n2, .inl (fun j : Nat => zI (f2 (j : Int))))), (q_13, .inl (cI, nn_15, .inl (fun j : Nat => zI (a_22 (j : Int))))), (q_17, .inl (cZ, nw_19, .inl (fun j : Nat => zI (a_23 (j : Int))))), (a3, .inl (cZ, n3, .inl (fun j : Nat => zI (f3 (j : Int)))))]) (pl := va_pl Lp4 (pE P)) [0, 2, 3, 4, 5, 6, 1] rfl
          have hD := hD.part (X := [(xp, .inr (20, [.int (zI (P.pt xp)), .int (zI (z_24)), .ref q_9, .ref q_13, .ref q_17, .int (zI (P.pg xp))])), (a3, .inl (cZ, n3, .inl (fun j : Nat => zI (f3 (j : Int))))), (a1, .inl (cI, n1, .inl (fun j : Nat => zI (f1 (j : Int))))), (q_9, .inl (cI, nn_11, .inl (fun j : Nat => zI (a_21 (j : Int))))), (a2, .inl (cI, n2, .inl (fun j : Nat => zI (f2 (j : Int))))), (q_13, .inl (cI, nn_15, .inl (fun j : Nat => zI (a_22 (j : Int))))), (q_17, .inl (cZ, nw_19, .inl (fun j : Nat => zI (a_23 (j : Int)))))]) (cx := [(xp, .inr (20, [.int (zI (P.pt xp)), .int (zI (z_24)), .ref q_9, .ref q_13, .ref q_17, .int (zI (P.pg xp))])), (a1, .inl (cI, n1, .inl (fun j : Nat => zI (f1 (j : Int))))), (q_9, .inl (cI, nn_11, .inl (fun j : Nat => zI (a_21 (j : Int))))), (a2, .inl (cI, n2, .inl (fun j : Nat => zI (f2 (j : Int))))), (q_13, .inl (cI, nn_15, .inl (fun j : Nat => zI (a_22 (j : Int))))), (q_17, .inl (cZ, nw_19, .inl (fun j : Nat => zI (a_23 (j : Int))))), (a3, .inl (cZ, n3, .inl (fun j : Nat => zI (f3 (j : Int)))))]) (pl := va_pl Lp4 (pE P)) [0, 2, 3, 4, 5, 6, 1] (by decide) rfl
          rw [eLp4] at hP hD
          obtain ⟨Pa_25, ePa_25⟩ : ∃ q9 : PO, q9 = P.ri9 a3 f3 := ⟨_, rfl⟩
          obtain ⟨hP, hD⟩ := pool_in (X := [(xp, .inr (20, [.int (zI (P.pt xp)), .int (zI (z_24)), .ref q_9, .ref q_13, .ref q_17, .int (zI (P.pg xp))])), (a1, .inl (cI, n1, .inl (fun j : Nat => zI (f1 (j : Int))))), (q_9, .inl (cI, nn_11, .inl (fun j : Nat => zI (a_21 (j : Int))))), (a2, .inl (cI, n2, .inl (fun j : Nat => zI (f2 (j : Int))))), (q_13, .inl (cI, nn_15, .inl (fun j : Nat => zI (a_22 (j : Int))))), (q_17, .inl (cZ, nw_19, .inl (fun j : Nat => zI (a_23 (j : Int)))))]) (P' := Pa_25) (e := numE cZ n3 f3) hma3 (by have h9 := putnum (P := P) (x := a3) (a := f3) (by rw [show P.kd a3 = 42 from (by exact hka3.2.1)]; decide); rw [show P.ac a3 = cZ from (by exact hka3.2.2.1), show P.an a3 = n3 from (by exact en3.symm)] at h9; rw [ePa_25]; exact h9) hP hD
          have hP : va_P (dC, dI) vwQ ([(xp, .inr (20, [.int (zI (P.pt xp)), .int (zI (z_24)), .ref q_9, .ref q_13, .ref q_17, .int (zI (P.pg xp))])), (a1, .inl (cI, n1, .inl (fun j : Nat => zI (f1 (j : Int))))), (q_9, .inl (cI, nn_11, .inl (fun j : Nat => zI (a_21 (j : Int))))), (a2, .inl (cI, n2, .inl (fun j : Nat => zI (f2 (j : Int))))), (q_13, .inl (cI, nn_15, .inl (fun j : Nat => zI (a_22 (j : Int))))), (q_17, .inl (cZ, nw_19, .inl (fun j : Nat => zI (a_23 (j : Int)))))] ++ va_pl Lp3 (pE Pa_25)) H := hP
          have hD : va_D A ([(xp, .inr (20, [.int (zI (P.pt xp)), .int (zI (z_24)), .ref q_9, .ref q_13, .ref q_17, .int (zI (P.pg xp))])), (a1, .inl (cI, n1, .inl (fun j : Nat => zI (f1 (j : Int))))), (q_9, .inl (cI, nn_11, .inl (fun j : Nat => zI (a_21 (j : Int))))), (a2, .inl (cI, n2, .inl (fun j : Nat => zI (f2 (j : Int))))), (q_13, .inl (cI, nn_15, .inl (fun j : Nat => zI (a_22 (j : Int))))), (q_17, .inl (cZ, nw_19, .inl (fun j : Nat => zI (a_23 (j : Int)))))] ++ va_pl Lp3 (pE Pa_25)) := hD
          have hP := hP.part (X := [(xp, .inr (20, [.int (zI (P.pt xp)), .int (zI (z_24)), .ref q_9, .ref q_13, .ref q_17, .int (zI (P.pg xp))])), (a1, .inl (cI, n1, .inl (fun j : Nat => zI (f1 (j : Int))))), (q_9, .inl (cI, nn_11, .inl (fun j : Nat => zI (a_21 (j : Int))))), (a2, .inl (cI, n2, .inl (fun j : Nat => zI (f2 (j : Int))))), (q_13, .inl (cI, nn_15, .inl (fun j : Nat => zI (a_22 (j : Int))))), (q_17, .inl (cZ, nw_19, .inl (fun j : Nat => zI (a_23 (j : Int)))))]) (cx := [(xp, .inr (20, [.int (zI (P.pt xp)), .int (zI (z_24)), .ref q_9, .ref q_13, .ref q_17, .int (zI (P.pg xp))])), (a1, .inl (cI, n1, .inl (fun j : Nat => zI (f1 (j : Int))))), (q_9, .inl (cI, nn_11, .inl (fun j : Nat => zI (a_21 (j : Int))))), (q_13, .inl (cI, nn_15, .inl (fun j : Nat => zI (a_22 (j : Int))))), (q_17, .inl (cZ, nw_19, .inl (fun j : Nat => zI (a_23 (j : Int))))), (a2, .inl (cI, n2, .inl (fun j : Nat => zI (f2 (j : Int)))))]) (pl := va_pl Lp3 (pE Pa_25)) [0, 1, 2, 4, 5, 3] rfl
          have hD := hD.part (X := [(xp, .inr (20, [.int (zI (P.pt xp)), .int (zI (z_24)), .ref q_9, .ref q_13, .ref q_17, .int (zI (P.pg xp))])), (a1, .inl (cI, n1, .inl (fun j : Nat => zI (f1 (j : Int))))), (q_9, .inl (cI, nn_11, .inl (fun j : Nat => zI (a_21 (j : Int))))), (a2, .inl (cI, n2, .inl (fun j : Nat => zI (f2 (j : Int))))), (q_13, .inl (cI, nn_15, .inl (fun j : Nat => zI (a_22 (j : Int))))), (q_17, .inl (cZ, nw_19, .inl (fun j : Nat => zI (a_23 (j : Int)))))]) (cx := [(xp, .inr (20, [.int (zI (P.pt xp)), .int (zI (z_24)), .ref q_9, .ref q_13, .ref q_17, .int (zI (P.pg xp))])), (a1, .inl (cI, n1, .inl (fun j : Nat => zI (f1 (j : Int))))), (q_9, .inl (cI, nn_11, .inl (fun j : Nat => zI (a_21 (j : Int))))), (q_13, .inl (cI, nn_15, .inl (fun j : Nat => zI (a_22 (j : Int))))), (q_17, .inl (cZ, nw_19, .inl (fun j : Nat => zI (a_23 (j : Int))))), (a2, .inl (cI, n2, .inl (fun j : Nat => zI (f2 (j : Int)))))]) (pl := va_pl Lp3 (pE Pa_25)) [0, 1, 2, 4, 5, 3] (by decide) rfl
          rw [eLp3] at hP hD
          obtain ⟨Pa_26, ePa_26⟩ : ∃ q9 : PO, q9 = Pa_25.ri9 a2 f2 := ⟨_, rfl⟩
          obtain ⟨hP, hD⟩ := pool_in (X := [(xp, .inr (20, [.int (zI (P.pt xp)), .int (zI (z_24)), .ref q_9, .ref q_13, .ref q_17, .int (zI (P.pg xp))])), (a1, .inl (cI, n1, .inl (fun j : Nat => zI (f1 (j : Int))))), (q_9, .inl (cI, nn_11, .inl (fun j : Nat => zI (a_21 (j : Int))))), (q_13, .inl (cI, nn_15, .inl (fun j : Nat => zI (a_22 (j : Int))))), (q_17, .inl (cZ, nw_19, .inl (fun j : Nat => zI (a_23 (j : Int)))))]) (P' := Pa_26) (e := numE cI n2 f2) hma2 (by have h9 := putnum (P := Pa_25) (x := a2) (a := f2) (by rw [show Pa_25.kd a2 = 41 from (by rw [ePa_25]; exact hka2.2.1)]; decide); rw [show Pa_25.ac a2 = cI from (by rw [ePa_25]; exact hka2.2.2.1), show Pa_25.an a2 = n2 from (by rw [ePa_25]; exact en2.symm)] at h9; rw [ePa_26]; exact h9) hP hD
          have hP : va_P (dC, dI) vwQ ([(xp, .inr (20, [.int (zI (P.pt xp)), .int (zI (z_24)), .ref q_9, .ref q_13, .ref q_17, .int (zI (P.pg xp))])), (a1, .inl (cI, n1, .inl (fun j : Nat => zI (f1 (j : Int))))), (q_9, .inl (cI, nn_11, .inl (fun j : Nat => zI (a_21 (j : Int))))), (q_13, .inl (cI, nn_15, .inl (fun j : Nat => zI (a_22 (j : Int))))), (q_17, .inl (cZ, nw_19, .inl (fun j : Nat => zI (a_23 (j : Int)))))] ++ va_pl Lp2 (pE Pa_26)) H := hP
          have hD : va_D A ([(xp, .inr (20, [.int (zI (P.pt xp)), .int (zI (z_24)), .ref q_9, .ref q_13, .ref q_17, .int (zI (P.pg xp))])), (a1, .inl (cI, n1, .inl (fun j : Nat => zI (f1 (j : Int))))), (q_9, .inl (cI, nn_11, .inl (fun j : Nat => zI (a_21 (j : Int))))), (q_13, .inl (cI, nn_15, .inl (fun j : Nat => zI (a_22 (j : Int))))), (q_17, .inl (cZ, nw_19, .inl (fun j : Nat => zI (a_23 (j : Int)))))] ++ va_pl Lp2 (pE Pa_26)) := hD
          have hP := hP.part (X := [(xp, .inr (20, [.int (zI (P.pt xp)), .int (zI (z_24)), .ref q_9, .ref q_13, .ref q_17, .int (zI (P.pg xp))])), (a1, .inl (cI, n1, .inl (fun j : Nat => zI (f1 (j : Int))))), (q_9, .inl (cI, nn_11, .inl (fun j : Nat => zI (a_21 (j : Int))))), (q_13, .inl (cI, nn_15, .inl (fun j : Nat => zI (a_22 (j : Int))))), (q_17, .inl (cZ, nw_19, .inl (fun j : Nat => zI (a_23 (j : Int)))))]) (cx := [(xp, .inr (20, [.int (zI (P.pt xp)), .int (zI (z_24)), .ref q_9, .ref q_13, .ref q_17, .int (zI (P.pg xp))])), (q_9, .inl (cI, nn_11, .inl (fun j : Nat => zI (a_21 (j : Int))))), (q_13, .inl (cI, nn_15, .inl (fun j : Nat => zI (a_22 (j : Int))))), (q_17, .inl (cZ, nw_19, .inl (fun j : Nat => zI (a_23 (j : Int))))), (a1, .inl (cI, n1, .inl (fun j : Nat => zI (f1 (j : Int)))))]) (pl := va_pl Lp2 (pE Pa_26)) [0, 2, 3, 4, 1] rfl
          have hD := hD.part (X := [(xp, .inr (20, [.int (zI (P.pt xp)), .int (zI (z_24)), .ref q_9, .ref q_13, .ref q_17, .int (zI (P.pg xp))])), (a1, .inl (cI, n1, .inl (fun j : Nat => zI (f1 (j : Int))))), (q_9, .inl (cI, nn_11, .inl (fun j : Nat => zI (a_21 (j : Int))))), (q_13, .inl (cI, nn_15, .inl (fun j : Nat => zI (a_22 (j : Int))))), (q_17, .inl (cZ, nw_19, .inl (fun j : Nat => zI (a_23 (j : Int)))))]) (cx := [(xp, .inr (20, [.int (zI (P.pt xp)), .int (zI (z_24)), .ref q_9, .ref q_13, .ref q_17, .int (zI (P.pg xp))])), (q_9, .inl (cI, nn_11, .inl (fun j : Nat => zI (a_21 (j : Int))))), (q_13, .inl (cI, nn_15, .inl (fun j : Nat => zI (a_22 (j : Int))))), (q_17, .inl (cZ, nw_19, .inl (fun j : Nat => zI (a_23 (j : Int))))), (a1, .inl (cI, n1, .inl (fun j : Nat => zI (f1 (j : Int)))))]) (pl := va_pl Lp2 (pE Pa_26)) [0, 2, 3, 4, 1] (by decide) rfl
          rw [eLp2] at hP hD
          obtain ⟨Pa_27, ePa_27⟩ : ∃ q9 : PO, q9 = Pa_26.ri9 a1 f1 := ⟨_, rfl⟩
          obtain ⟨hP, hD⟩ := pool_in (X := [(xp, .inr (20, [.int (zI (P.pt xp)), .int (zI (z_24)), .ref q_9, .ref q_13, .ref q_17, .int (zI (P.pg xp))])), (q_9, .inl (cI, nn_11, .inl (fun j : Nat => zI (a_21 (j : Int))))), (q_13, .inl (cI, nn_15, .inl (fun j : Nat => zI (a_22 (j : Int))))), (q_17, .inl (cZ, nw_19, .inl (fun j : Nat => zI (a_23 (j : Int)))))]) (P' := Pa_27) (e := numE cI n1 f1) hma1 (by have h9 := putnum (P := Pa_26) (x := a1) (a := f1) (by rw [show Pa_26.kd a1 = 40 from (by rw [ePa_26, ePa_25]; exact hka1.2.1)]; decide); rw [show Pa_26.ac a1 = cI from (by rw [ePa_26, ePa_25]; exact hka1.2.2.1), show Pa_26.an a1 = n1 from (by rw [ePa_26, ePa_25]; exact en1.symm)] at h9; rw [ePa_27]; exact h9) hP hD
          have hP : va_P (dC, dI) vwQ ([(xp, .inr (20, [.int (zI (P.pt xp)), .int (zI (z_24)), .ref q_9, .ref q_13, .ref q_17, .int (zI (P.pg xp))])), (q_9, .inl (cI, nn_11, .inl (fun j : Nat => zI (a_21 (j : Int))))), (q_13, .inl (cI, nn_15, .inl (fun j : Nat => zI (a_22 (j : Int))))), (q_17, .inl (cZ, nw_19, .inl (fun j : Nat => zI (a_23 (j : Int)))))] ++ va_pl Lp1 (pE Pa_27)) H := hP
          have hD : va_D A ([(xp, .inr (20, [.int (zI (P.pt xp)), .int (zI (z_24)), .ref q_9, .ref q_13, .ref q_17, .int (zI (P.pg xp))])), (q_9, .inl (cI, nn_11, .inl (fun j : Nat => zI (a_21 (j : Int))))), (q_13, .inl (cI, nn_15, .inl (fun j : Nat => zI (a_22 (j : Int))))), (q_17, .inl (cZ, nw_19, .inl (fun j : Nat => zI (a_23 (j : Int)))))] ++ va_pl Lp1 (pE Pa_27)) := hD
          have hP := hP.part (X := [(xp, .inr (20, [.int (zI (P.pt xp)), .int (zI (z_24)), .ref q_9, .ref q_13, .ref q_17, .int (zI (P.pg xp))])), (q_9, .inl (cI, nn_11, .inl (fun j : Nat => zI (a_21 (j : Int))))), (q_13, .inl (cI, nn_15, .inl (fun j : Nat => zI (a_22 (j : Int))))), (q_17, .inl (cZ, nw_19, .inl (fun j : Nat => zI (a_23 (j : Int)))))]) (cx := [(q_9, .inl (cI, nn_11, .inl (fun j : Nat => zI (a_21 (j : Int))))), (q_13, .inl (cI, nn_15, .inl (fun j : Nat => zI (a_22 (j : Int))))), (q_17, .inl (cZ, nw_19, .inl (fun j : Nat => zI (a_23 (j : Int))))), (xp, .inr (20, [.int (zI (P.pt xp)), .int (zI (z_24)), .ref q_9, .ref q_13, .ref q_17, .int (zI (P.pg xp))]))]) (pl := va_pl Lp1 (pE Pa_27)) [1, 2, 3, 0] rfl
          have hD := hD.part (X := [(xp, .inr (20, [.int (zI (P.pt xp)), .int (zI (z_24)), .ref q_9, .ref q_13, .ref q_17, .int (zI (P.pg xp))])), (q_9, .inl (cI, nn_11, .inl (fun j : Nat => zI (a_21 (j : Int))))), (q_13, .inl (cI, nn_15, .inl (fun j : Nat => zI (a_22 (j : Int))))), (q_17, .inl (cZ, nw_19, .inl (fun j : Nat => zI (a_23 (j : Int)))))]) (cx := [(q_9, .inl (cI, nn_11, .inl (fun j : Nat => zI (a_21 (j : Int))))), (q_13, .inl (cI, nn_15, .inl (fun j : Nat => zI (a_22 (j : Int))))), (q_17, .inl (cZ, nw_19, .inl (fun j : Nat => zI (a_23 (j : Int))))), (xp, .inr (20, [.int (zI (P.pt xp)), .int (zI (z_24)), .ref q_9, .ref q_13, .ref q_17, .int (zI (P.pg xp))]))]) (pl := va_pl Lp1 (pE Pa_27)) [1, 2, 3, 0] (by decide) rfl
          rw [eLp1] at hP hD
          obtain ⟨Px_28, ePx_28⟩ : ∃ q9 : PO, q9 = Pa_27.px9 xp (P.pt xp) (z_24) q_9 q_13 q_17 (P.pg xp) := ⟨_, rfl⟩
          obtain ⟨hP, hD⟩ := pool_in (X := [(q_9, .inl (cI, nn_11, .inl (fun j : Nat => zI (a_21 (j : Int))))), (q_13, .inl (cI, nn_15, .inl (fun j : Nat => zI (a_22 (j : Int))))), (q_17, .inl (cZ, nw_19, .inl (fun j : Nat => zI (a_23 (j : Int)))))]) (P' := Px_28) (e := phiE (P.pt xp) (z_24) q_9 q_13 q_17 (P.pg xp)) hX_p.1.1 (by rw [ePx_28]; exact pE_px9 _ _ _ _ _ _ _ _) hP hD
          have hP : va_P (dC, dI) vwQ ([(q_9, .inl (cI, nn_11, .inl (fun j : Nat => zI (a_21 (j : Int))))), (q_13, .inl (cI, nn_15, .inl (fun j : Nat => zI (a_22 (j : Int))))), (q_17, .inl (cZ, nw_19, .inl (fun j : Nat => zI (a_23 (j : Int)))))] ++ va_pl L (pE Px_28)) H := hP
          have hD : va_D A ([(q_9, .inl (cI, nn_11, .inl (fun j : Nat => zI (a_21 (j : Int))))), (q_13, .inl (cI, nn_15, .inl (fun j : Nat => zI (a_22 (j : Int))))), (q_17, .inl (cZ, nw_19, .inl (fun j : Nat => zI (a_23 (j : Int)))))] ++ va_pl L (pE Px_28)) := hD
          have hpx : PXC xp L P L Px_28 := (by rw [ePx_28, ePa_27, ePa_26, ePa_25]; exact ((((PXC.refl xp L P).ri9 hka3.2.2.2 (by rw [hka3.2.1]; decide)).ri9 hka2.2.2.2 (by rw [hka2.2.1]; decide)).ri9 hka1.2.2.2 (by rw [hka1.2.1]; decide)).px9 hX_p.1.2 hX_p.1.1)
          have hat := px9_at Pa_27 xp (P.pt xp) (z_24) q_9 q_13 q_17 (P.pg xp)
          rw [← ePx_28] at hat
          have har := px_arr (g1 := f1) (g2 := f2) (g3 := f3) (t := P.pt xp) (n := z_24) (p := q_9) (u := q_13) (r := q_17) (g := P.pg xp) hka1 hka2 hka3 hX_p.1.2
          rw [← en1, ← en2, ← en3, ← ePa_25, ← ePa_26, ← ePa_27, ← ePx_28] at har
          have hxq : xp ∈ L ∧ Px_28.kd xp = 15 ∧ Px_28.pp xp = q_9 ∧ Px_28.pu xp = q_13 ∧ Px_28.pr xp = q_17 ∧ Px_28.pn xp = z_24 ∧ Px_28.pt xp = P.pt xp ∧ Px_28.pg xp = P.pg xp := ⟨hX_p.1.1, hat.1, hat.2.1, hat.2.2.1, hat.2.2.2.1, hat.2.2.2.2.1, hat.2.2.2.2.2.1, hat.2.2.2.2.2.2.1⟩
          have hP := hP.part (X := [(q_9, .inl (cI, nn_11, .inl (fun j : Nat => zI (a_21 (j : Int))))), (q_13, .inl (cI, nn_15, .inl (fun j : Nat => zI (a_22 (j : Int))))), (q_17, .inl (cZ, nw_19, .inl (fun j : Nat => zI (a_23 (j : Int)))))]) (cx := [(q_13, .inl (cI, nn_15, .inl (fun j : Nat => zI (a_22 (j : Int))))), (q_17, .inl (cZ, nw_19, .inl (fun j : Nat => zI (a_23 (j : Int))))), (q_9, .inl (cI, nn_11, .inl (fun j : Nat => zI (a_21 (j : Int)))))]) (pl := va_pl L (pE Px_28)) [1, 2, 0] rfl
          have hD := hD.part (X := [(q_9, .inl (cI, nn_11, .inl (fun j : Nat => zI (a_21 (j : Int))))), (q_13, .inl (cI, nn_15, .inl (fun j : Nat => zI (a_22 (j : Int))))), (q_17, .inl (cZ, nw_19, .inl (fun j : Nat => zI (a_23 (j : Int)))))]) (cx := [(q_13, .inl (cI, nn_15, .inl (fun j : Nat => zI (a_22 (j : Int))))), (q_17, .inl (cZ, nw_19, .inl (fun j : Nat => zI (a_23 (j : Int))))), (q_9, .inl (cI, nn_11, .inl (fun j : Nat => zI (a_21 (j : Int)))))]) (pl := va_pl L (pE Px_28)) [1, 2, 0] (by decide) rfl
          have hqn_31 : q_9 ∉ L := pl_notin (X := [(q_13, .inl (cI, nn_15, .inl (fun j : Nat => zI (a_22 (j : Int))))), (q_17, .inl (cZ, nw_19, .inl (fun j : Nat => zI (a_23 (j : Int)))))]) hD
          obtain ⟨Pm_29, ePm_29⟩ : ∃ Q9 : PO, Q9 = Px_28.mnum q_9 40 xp cI nn_11 a_21 := ⟨_, rfl⟩
          obtain ⟨Lm_30, eLm_30⟩ : ∃ l9 : List Nat, l9 = q_9 :: L := ⟨_, rfl⟩
          obtain ⟨hP, hD⟩ := pool_new (X := [(q_13, .inl (cI, nn_15, .inl (fun j : Nat => zI (a_22 (j : Int))))), (q_17, .inl (cZ, nw_19, .inl (fun j : Nat => zI (a_23 (j : Int)))))]) (P' := Pm_29) (e := numE cI nn_11 a_21) (by rw [ePm_29]; exact pE_mnum _ _ _ _ _ _ _ (by decide)) hP hD
          rw [← eLm_30] at hP hD
          have hex_32 : EXT9 L Px_28 Lm_30 Pm_29 := (by rw [eLm_30, ePm_29]; exact EXT9.one hqn_31)
          have hpx : PXC xp L P Lm_30 Pm_29 := (by rw [eLm_30, ePm_29]; exact hpx.mnum hqn_31 (by decide))
          have hfn := mnum_arf L Px_28 q_9 40 xp cI nn_11 a_21
          rw [← eLm_30, ← ePm_29] at hfn
          have hxq := (show xp ∈ Lm_30 ∧ Pm_29.kd xp = 15 ∧ Pm_29.pp xp = q_9 ∧ Pm_29.pu xp = q_13 ∧ Pm_29.pr xp = q_17 ∧ Pm_29.pn xp = z_24 ∧ Pm_29.pt xp = P.pt xp ∧ Pm_29.pg xp = P.pg xp from (by obtain ⟨m9, s9⟩ := hex_32 xp hxq.1; exact ⟨m9, (s9.2.1 0).trans hxq.2.1, (s9.2.1 1).trans hxq.2.2.1, (s9.2.1 2).trans hxq.2.2.2.1, (s9.2.1 3).trans hxq.2.2.2.2.1, (s9.1 1).trans hxq.2.2.2.2.2.1, (s9.1 0).trans hxq.2.2.2.2.2.2.1, (s9.1 2).trans hxq.2.2.2.2.2.2.2⟩))
          have hP : va_P (dC, dI) vwQ ([(q_13, .inl (cI, nn_15, .inl (fun j : Nat => zI (a_22 (j : Int))))), (q_17, .inl (cZ, nw_19, .inl (fun j : Nat => zI (a_23 (j : Int)))))] ++ va_pl Lm_30 (pE Pm_29)) H := hP
          have hD : va_D A ([(q_13, .inl (cI, nn_15, .inl (fun j : Nat => zI (a_22 (j : Int))))), (q_17, .inl (cZ, nw_19, .inl (fun j : Nat => zI (a_23 (j : Int)))))] ++ va_pl Lm_30 (pE Pm_29)) := hD
          have hfa_33 := hfn.1
          have hfb_34 := hfn.2
          have hP := hP.part (X := [(q_13, .inl (cI, nn_15, .inl (fun j : Nat => zI (a_22 (j : Int))))), (q_17, .inl (cZ, nw_19, .inl (fun j : Nat => zI (a_23 (j : Int)))))]) (cx := [(q_17, .inl (cZ, nw_19, .inl (fun j : Nat => zI (a_23 (j : Int))))), (q_13, .inl (cI, nn_15, .inl (fun j : Nat => zI (a_22 (j : Int)))))]) (pl := va_pl Lm_30 (pE Pm_29)) [1, 0] rfl
          have hD := hD.part (X := [(q_13, .inl (cI, nn_15, .inl (fun j : Nat => zI (a_22 (j : Int))))), (q_17, .inl (cZ, nw_19, .inl (fun j : Nat => zI (a_23 (j : Int)))))]) (cx := [(q_17, .inl (cZ, nw_19, .inl (fun j : Nat => zI (a_23 (j : Int))))), (q_13, .inl (cI, nn_15, .inl (fun j : Nat => zI (a_22 (j : Int)))))]) (pl := va_pl Lm_30 (pE Pm_29)) [1, 0] (by decide) rfl
          have hqn_37 : q_13 ∉ Lm_30 := pl_notin (X := [(q_17, .inl (cZ, nw_19, .inl (fun j : Nat => zI (a_23 (j : Int)))))]) hD
          obtain ⟨Pm_35, ePm_35⟩ : ∃ Q9 : PO, Q9 = Pm_29.mnum q_13 41 xp cI nn_15 a_22 := ⟨_, rfl⟩
          obtain ⟨Lm_36, eLm_36⟩ : ∃ l9 : List Nat, l9 = q_13 :: Lm_30 := ⟨_, rfl⟩
          obtain ⟨hP, hD⟩ := pool_new (X := [(q_17, .inl (cZ, nw_19, .inl (fun j : Nat => zI (a_23 (j : Int)))))]) (P' := Pm_35) (e := numE cI nn_15 a_22) (by rw [ePm_35]; exact pE_mnum _ _ _ _ _ _ _ (by decide)) hP hD
          rw [← eLm_36] at hP hD
          have hex_38 : EXT9 Lm_30 Pm_29 Lm_36 Pm_35 := (by rw [eLm_36, ePm_35]; exact EXT9.one hqn_37)
          have hpx : PXC xp L P Lm_36 Pm_35 := (by rw [eLm_36, ePm_35]; exact hpx.mnum hqn_37 (by decide))
          have hfn := mnum_arf Lm_30 Pm_29 q_13 41 xp cI nn_15 a_22
          rw [← eLm_36, ← ePm_35] at hfn
          have hxq := (show xp ∈ Lm_36 ∧ Pm_35.kd xp = 15 ∧ Pm_35.pp xp = q_9 ∧ Pm_35.pu xp = q_13 ∧ Pm_35.pr xp = q_17 ∧ Pm_35.pn xp = z_24 ∧ Pm_35.pt xp = P.pt xp ∧ Pm_35.pg xp = P.pg xp from (by obtain ⟨m9, s9⟩ := hex_38 xp hxq.1; exact ⟨m9, (s9.2.1 0).trans hxq.2.1, (s9.2.1 1).trans hxq.2.2.1, (s9.2.1 2).trans hxq.2.2.2.1, (s9.2.1 3).trans hxq.2.2.2.2.1, (s9.1 1).trans hxq.2.2.2.2.2.1, (s9.1 0).trans hxq.2.2.2.2.2.2.1, (s9.1 2).trans hxq.2.2.2.2.2.2.2⟩))
          have hP : va_P (dC, dI) vwQ ([(q_17, .inl (cZ, nw_19, .inl (fun j : Nat => zI (a_23 (j : Int)))))] ++ va_pl Lm_36 (pE Pm_35)) H := hP
          have hD : va_D A ([(q_17, .inl (cZ, nw_19, .inl (fun j : Nat => zI (a_23 (j : Int)))))] ++ va_pl Lm_36 (pE Pm_35)) := hD
          have hfa_39 := hex_38.arf hfa_33
          have hfb_40 := (hex_38 q_9 hfa_33.1).2.2.2.2.1.trans hfb_34
          have hfa_41 := hfn.1
          have hfb_42 := hfn.2
          have hqn_45 : q_17 ∉ Lm_36 := pl_notin (X := []) hD
          obtain ⟨Pm_43, ePm_43⟩ : ∃ Q9 : PO, Q9 = Pm_35.mnum q_17 42 xp cZ nw_19 a_23 := ⟨_, rfl⟩
          obtain ⟨Lm_44, eLm_44⟩ : ∃ l9 : List Nat, l9 = q_17 :: Lm_36 := ⟨_, rfl⟩
          obtain ⟨hP, hD⟩ := pool_new (X := []) (P' := Pm_43) (e := numE cZ nw_19 a_23) (by rw [ePm_43]; exact pE_mnum _ _ _ _ _ _ _ (by decide)) hP hD
          rw [← eLm_44] at hP hD
          have hex_46 : EXT9 Lm_36 Pm_35 Lm_44 Pm_43 := (by rw [eLm_44, ePm_43]; exact EXT9.one hqn_45)
          have hpx : PXC xp L P Lm_44 Pm_43 := (by rw [eLm_44, ePm_43]; exact hpx.mnum hqn_45 (by decide))
          have hfn := mnum_arf Lm_36 Pm_35 q_17 42 xp cZ nw_19 a_23
          rw [← eLm_44, ← ePm_43] at hfn
          have hxq := (show xp ∈ Lm_44 ∧ Pm_43.kd xp = 15 ∧ Pm_43.pp xp = q_9 ∧ Pm_43.pu xp = q_13 ∧ Pm_43.pr xp = q_17 ∧ Pm_43.pn xp = z_24 ∧ Pm_43.pt xp = P.pt xp ∧ Pm_43.pg xp = P.pg xp from (by obtain ⟨m9, s9⟩ := hex_46 xp hxq.1; exact ⟨m9, (s9.2.1 0).trans hxq.2.1, (s9.2.1 1).trans hxq.2.2.1, (s9.2.1 2).trans hxq.2.2.2.1, (s9.2.1 3).trans hxq.2.2.2.2.1, (s9.1 1).trans hxq.2.2.2.2.2.1, (s9.1 0).trans hxq.2.2.2.2.2.2.1, (s9.1 2).trans hxq.2.2.2.2.2.2.2⟩))
          have hP : va_P (dC, dI) vwQ ([] ++ va_pl Lm_44 (pE Pm_43)) H := hP
          have hD : va_D A ([] ++ va_pl Lm_44 (pE Pm_43)) := hD
          have hfa_47 := hex_46.arf hfa_39
          have hfb_48 := (hex_46 q_9 hfa_39.1).2.2.2.2.1.trans hfb_40
          have hfa_49 := hex_46.arf hfa_41
          have hfb_50 := (hex_46 q_13 hfa_41.1).2.2.2.2.1.trans hfb_42
          have hfa_51 := hfn.1
          have hfb_52 := hfn.2
          have hA9 : ∀ i : Int, 0 ≤ i → i < P.pn xp → a_21 i = f1 i ∧ a_22 i = f2 i ∧ a_23 i = f3 i := (fun i i0 i1 => ⟨(by rw [ea_21]; exact (zup_ne _ _ (by omega)).trans (hcp1.2 i i0 (by omega))), (by rw [ea_22]; exact (zup_ne _ _ (by omega)).trans (hcp2.2 i i0 (by omega))), (by rw [ea_23]; exact (zup_ne _ _ (by omega)).trans (jB i i0 (by omega)))⟩)
          have hB9 : a_21 (P.pn xp) = p0 ∧ a_22 (P.pn xp) = o0 ∧ a_23 (P.pn xp) = b0 := ⟨(by rw [ea_21]; exact zup_eq _ _ _), (by rw [ea_22]; exact zup_eq _ _ _), (by rw [ea_23]; exact zup_eq _ _ _)⟩
          have hw9 : EF p0 o0 b0 := (by unfold EF; exact ⟨by omega, by omega, by omega, hX_o⟩)
          have hpk : PIK Lm_44 Pm_43 cI cZ xp := pik_mk (m := nn_11) hxq.1 hxq.2.1 hxq.2.2.1 hxq.2.2.2.1 hxq.2.2.2.2.1 hfa_47 (by have q9 := hfa_49; rw [show nn_15 = nn_11 from (by omega)] at q9; exact q9) (by have q9 := hfa_51; rw [show nw_19 = nn_11 from (by omega)] at q9; exact q9) hfb_48 hfb_50 hfb_52 (by have q9 := hxq.2.2.2.2.2.1; omega) (by have q9 := hxq.2.2.2.2.2.2; omega) (fun i i0 i1 => ef_add hef hw9 hA9 hB9 i i0 (by have q9 := hxq.2.2.2.2.2.1; omega))
          have hcz : Pm_43.an (Pm_43.pp xp) = nn_11 ∧ P.an (P.pp xp) = n1 := ⟨(by rw [hxq.2.2.1]; exact hfa_47.2.2.2.2), (by rw [en1, ea1])⟩
          refine W_knowS (fun hrm9 => ?_)
          refine W.widen (k := 3) (n := 3000) (by omega) (by omega) ?_
          exact W.vret hx hb hr (fun t ht hW => ⟨⟨(), rfl, trivial, Lm_44, Pm_43, ((0 + (1)) + (1) + 1), (((0 + ((2 * (P.pn xp)).toNat)) + ((2 * (P.pn xp)).toNat)) + nw_19), ⟨⟨(by rw [ht, ← hp0]; exact hrm9), (by omega)⟩, ⟨hpx, hpk, ⟨(by have q9 := hxq.2.2.2.2.2.1; omega), hxq.2.2.2.2.2.2.1, hxq.2.2.2.2.2.2.2, (by omega)⟩, ⟨(fun i i0 i1 => by rw [hxq.2.2.1, hxq.2.2.2.1, hxq.2.2.2.2.1, hfb_48, hfb_50, hfb_52, ← ea1, ← ea2, ← ea3, ← ef1, ← ef2, ← ef3]; exact hA9 i i0 i1), (by rw [hxq.2.2.1, hfb_48]; exact hB9.1), (by rw [hxq.2.2.2.1, hfb_50]; exact hB9.2.1), (by rw [hxq.2.2.2.2.1, hfb_52]; exact hB9.2.2)⟩⟩⟩, by rw [ht]; exact hP, va_K.moved hW.alike hK, hD⟩, hS.F ht⟩) hS.2.2 dX15_add_132
        · have yb65 : ¬ (P.pn xp : Int) ≤ (d59_5 : Int) := fun q => b65 ((zI_le (a := P.pn xp) (b := d59_5) (by omega) (by omega) (by omega) (by omega)).mpr q)
          refine lv_aload hx hb dX15_add_68 (lv_at hl 4 rfl) ?_
          refine lv_iload hx hb dX15_add_70 (lv_at hl 5 rfl) ?_
          refine lv_aload_n hx hb dX15_add_72 rfl (lv_at hl 0 rfl) ?_
          refine va_get (D := (dC, dI)) (ci := 20) (v := .ref a3) (C := RX15) (T := TX15) (N := 6) hx hb hts mem_PP_addQ_0 hown hK hP 0 rfl rfl 4 (by decide) (ow (k := 3) rfl) (fun _ h9 => h9) rfl dX15_add_73 ?_
          refine lv_iload hx hb dX15_add_76 (lv_at hl 5 rfl) ?_
          refine va_zald hx hb hK hP 1 2 rfl rfl (zI_in (a := d59_5) (n := n3) (by omega) (by omega) (by omega)) dX15_add_78 ?_
          refine lv_topi (fun z ez => ?_)
          obtain rfl : z = zI (f3 (d59_5)) := ez.trans (zI_ld (f3) (by omega) (by omega))
          have k1 := rf3 (d59_5)
          have hf3 := (hef (d59_5) (by omega) (by omega)).2.2.1
          refine va_zast (i := zI (d59_5)) hx hb hK hP hD hS 6 7 rfl rfl (zI_in (a := d59_5) (n := nw_19) (by omega) (by omega) (by omega)) dX15_add_79 (fun H locs hP hD hS => ?_)
          rw [show vp_nar .boolean (zI (f3 (d59_5))) = (zI (f3 (d59_5))) from zI_nar (a := f3 (d59_5)) (by omega) (by omega)] at hP hD
          have eQ : upd (fun j : Nat => zI (w59_17 (j : Int))) (zI (d59_5)).toNatClampNeg (zI (f3 (d59_5))) = (fun j : Nat => zI (zup w59_17 (d59_5) (f3 (d59_5)) (j : Int))) := zI_st w59_17 (e := d59_5) (v := f3 (d59_5)) (by omega) (by omega)
          rw [eQ] at hP hD
          clear eQ
          have ra_53 : ∀ j : Int, 0 ≤ zup w59_17 (d59_5) (f3 (d59_5)) j ∧ zup w59_17 (d59_5) (f3 (d59_5)) j ≤ 1 := zup_P (P := fun x9 => 0 ≤ x9 ∧ x9 ≤ 1) jw59_17 (show 0 ≤ (f3 (d59_5)) ∧ (f3 (d59_5)) ≤ 1 by omega)
          obtain ⟨a_53, ea_53⟩ : ∃ a9 : Int → Int, a9 = zup w59_17 (d59_5) (f3 (d59_5)) := ⟨_, rfl⟩
          rw [← ea_53] at hP hD ra_53
          have hP : va_P (dC, dI) vwQ ([(xp, .inr (20, [.int (zI (P.pt xp)), .int (zI (P.pn xp)), .ref q_9, .ref q_13, .ref a3, .int (zI (P.pg xp))])), (a3, .inl (cZ, n3, .inl (fun j : Nat => zI (f3 (j : Int))))), (a1, .inl (cI, n1, .inl (fun j : Nat => zI (f1 (j : Int))))), (q_9, .inl (cn_10, nn_11, .inl (fun j : Nat => zI (fn_12 (j : Int))))), (a2, .inl (cI, n2, .inl (fun j : Nat => zI (f2 (j : Int))))), (q_13, .inl (cn_14, nn_15, .inl (fun j : Nat => zI (fn_16 (j : Int))))), (q_17, .inl (cA_18, nw_19, .inl (fun j : Nat => zI (a_53 (j : Int)))))] ++ va_pl Lp4 (pE P)) H := hP
          have hD : va_D A ([(xp, .inr (20, [.int (zI (P.pt xp)), .int (zI (P.pn xp)), .ref q_9, .ref q_13, .ref a3, .int (zI (P.pg xp))])), (a3, .inl (cZ, n3, .inl (fun j : Nat => zI (f3 (j : Int))))), (a1, .inl (cI, n1, .inl (fun j : Nat => zI (f1 (j : Int))))), (q_9, .inl (cn_10, nn_11, .inl (fun j : Nat => zI (fn_12 (j : Int))))), (a2, .inl (cI, n2, .inl (fun j : Nat => zI (f2 (j : Int))))), (q_13, .inl (cn_14, nn_15, .inl (fun j : Nat => zI (fn_16 (j : Int))))), (q_17, .inl (cA_18, nw_19, .inl (fun j : Nat => zI (a_53 (j : Int)))))] ++ va_pl Lp4 (pE P)) := hD
          refine lv_iinc (v := zI (d59_5 + 1)) (lv' := [(5, .int (zI (d59_5 + 1))), (0, .ref xp), (1, .int (zI (p0))), (2, .int (zI (o0))), (3, .int (zI (b0))), (4, .ref q_17)]) hx hb dX15_add_80 hl (k := 5) rfl (zI_add (d59_5) (1)) (by decide) rfl (fun ls hl => ?_)
          refine lv_goto (tgt := 59) hx hb dX15_add_83 (by decide) ?_
          exact ih59 (d59_5 + 1) a_53 ls H _ (by omega) ra_53 (fun j j0 j1 => by rw [ea_53]; by_cases e9 : j = d59_5; rw [e9]; exact zup_eq _ _ _; exact (zup_ne _ _ e9).trans (jB j j0 (by omega))) (by omega) (lv_sub hl [1, 2, 3, 4, 5, 0] rfl) hP hD hS
    exact key59 ((P.pn xp - 0 : Int).toNat + 1) 0 az_20 ls H _ (by omega) raz_20 (fun j j0 j1 => by omega) (by omega) (lv_sub hl [2, 3, 4, 5, 1, 0] rfl) hP hD hS
