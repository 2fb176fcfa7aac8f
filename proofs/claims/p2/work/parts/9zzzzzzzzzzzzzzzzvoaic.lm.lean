/-! LMT: the greatest that a Code may have cost; a row, a PHI of the Code taken -/
theorem sumI_cut9 {f : Int → Int} {A B : Int} {m k n : Nat} (a : ∀ i : Int, 0 ≤ i → i < n → i < m → f i ≤ A) (b : ∀ i : Int, (m : Int) ≤ i → i < n → f i ≤ B) (A0 : 0 ≤ A) (B0 : 0 ≤ B) (h : n ≤ m + k) : sumI f n ≤ A * m + B * k := by
  have bk : 0 ≤ B * (k : Int) := Int.mul_nonneg B0 (by omega)
  by_cases c : n ≤ m
  · have q := sumI_cle (f := f) (c := A) n (fun i i0 i1 => a i i0 i1 (by omega))
    have r : A * (n : Int) ≤ A * (m : Int) := Int.mul_le_mul_of_nonneg_left (by omega) A0
    omega
  · obtain ⟨j, rfl⟩ : ∃ j : Nat, n = m + j := ⟨n - m, by omega⟩
    rw [sumI_add]
    have q := sumI_cle (f := f) (c := A) m (fun i i0 i1 => a i i0 (by omega) i1)
    have r := sumI_cle (f := fun k => f ((m : Int) + k)) (c := B) j (fun i i0 i1 => b _ (by omega) (by omega))
    have t : B * (j : Int) ≤ B * (k : Int) := Int.mul_le_mul_of_nonneg_left (by omega) B0
    omega
theorem LVS.l1851 {c : Int} (h : c ≤ 1851) : LVS c ≤ 5541 := by unfold LVS; (repeat' split) <;> omega
theorem LVS.l823 {c : Int} (h : c ≤ 823) : LVS c ≤ 2456 := by unfold LVS; (repeat' split) <;> omega
theorem LVS.l10 {c : Int} (h : c < 10) : LVS c ≤ 0 := by unfold LVS; (repeat' split) <;> omega
theorem LVS.l244 {c : Int} (h : c ≤ 244) : LVS c ≤ 718 := by unfold LVS; (repeat' split) <;> omega
theorem LVS.l2776 {c : Int} (h : c ≤ 2776) : LVS c ≤ 8317 := by unfold LVS; (repeat' split) <;> omega
theorem LVS.lall (c : Int) : LVS c ≤ 18727 := by unfold LVS; (repeat' split) <;> omega
section LMT9C
variable {L L' E : List Nat} {P P' Q Q' : PO} {F : Nat → Prop} {cO cI cZ : ClassId} {ed la lb lr lp x q z : Nat} {n p n' p' s c s' c' t : Int} {w : Nat → Int}
theorem WT9.k21 (nn : ∀ k : Nat, 0 ≤ w k) (h : P.kc z = 21) : WT9 w P z ≤ w 0 := by
  have c := kcl_cases (P.kd z)
  unfold PO.kc at h
  rcases Classical.em (P.kd z = 17) with e | e
  · rw [WT9.row e]; exact Int.le_refl _
  · rw [WT9.no (by omega)]; exact nn 0
theorem WT9.k19 (nn : ∀ k : Nat, 0 ≤ w k) (h : P.kc z = 19) : WT9 w P z ≤ w 3 := by
  have c := kcl_cases (P.kd z)
  unfold PO.kc at h
  rcases Classical.em (P.kd z = 12) with e | e
  · rw [WT9.blk e]; exact Int.le_refl _
  · rw [WT9.no (by omega)]; exact nn 3
theorem WT9.k18 (nn : ∀ k : Nat, 0 ≤ w k) (h : P.kc z = 18) : WT9 w P z ≤ w 4 + w 5 * LVS (P.cap z) := by
  have c := kcl_cases (P.kd z)
  unfold PO.kc at h
  rcases Classical.em (P.kd z = 30) with e | e
  · rw [WT9.list e]; exact Int.le_refl _
  · rw [WT9.no (by omega)]; exact Int.add_nonneg (nn 4) (Int.mul_nonneg (nn 5) (LVS.nn _))
theorem WT9.k20 (nn : ∀ k : Nat, 0 ≤ w k) (h : P.kc z = 20) (a : P.an (P.pp z) ≤ 64) : WT9 w P z ≤ w 1 + w 2 * 63 := by
  have c := kcl_cases (P.kd z)
  unfold PO.kc at h
  rcases Classical.em (P.kd z = 15) with e | e
  · rw [WT9.phi e]
    have q : w 2 * ((P.an (P.pp z) - 1 : Nat) : Int) ≤ w 2 * 63 := Int.mul_le_mul_of_nonneg_left (by omega) (nn 2)
    omega
  · rw [WT9.no (by omega)]; exact Int.add_nonneg (nn 1) (Int.mul_nonneg (nn 2) (by decide))
theorem kc17 (h : P.kd z = 17) : P.kc z = 21 := by unfold PO.kc; rw [h]; rfl
theorem kc15 (h : P.kd z = 15) : P.kc z = 20 := by unfold PO.kc; rw [h]; rfl
theorem kc12 (h : P.kd z = 12) : P.kc z = 19 := by unfold PO.kc; rw [h]; rfl
theorem kc30 (h : P.kd z = 30) : P.kc z = 18 := by unfold PO.kc; rw [h]; rfl
theorem COVC.cov (h : COVC L P la lb lr lp) : COV L P la lb lr lp := fun z m => by
  have q := h z m
  exact ⟨fun e => q.1 (kc17 e), fun e => q.2.1 (kc15 e), fun e => q.2.2.1 (kc12 e), fun e => q.2.2.2 (kc30 e)⟩
theorem wSL.nn (k : Nat) : 0 ≤ wSL k := by unfold wSL; (repeat' split) <;> omega
theorem wCE.nn (k : Nat) : 0 ≤ wCE k := by unfold wCE; (repeat' split) <;> omega
theorem LMT.topS (h : LMT L P la lb lr lp) (nd : L.Nodup) (z1 : 0 ≤ P.lz lb) (z2 : 0 ≤ P.lz lr) (z3 : 0 ≤ P.lz lp) : PSI wSL L P ≤ 1950614 := by
  have q := PSI.cov wSL.nn nd h.1.1.cov
  obtain ⟨⟨a, _⟩, ⟨b1, b2, b3, b4⟩, ⟨c1, c2, _, _⟩, ⟨⟨d1, d2, d3, d4, d5, d6⟩, d7⟩⟩ := h
  have s1 := sumI_cle (f := fun i => WT9 wSL P (P.el lr i)) (c := 7) (P.lz lr).toNat (fun i i0 i1 => WT9.k21 wSL.nn (b2 i i0 (by omega)).2)
  have s2 := sumI_cle (f := fun k => WT9 wSL P (P.be (P.el lb k))) (c := 7) (P.lz lb).toNat (fun i i0 i1 => WT9.k21 wSL.nn (b4 i i0 (by omega)).2.1.2)
  have s3 := sumI_cle (f := fun i => WT9 wSL P (P.el lp i)) (c := 378) (P.lz lp).toNat (fun i i0 i1 => WT9.k20 wSL.nn (b3 i i0 (by omega)).2 (c2 _ (b3 i i0 (by omega)).1 (b3 i i0 (by omega)).2).2.2.2.le)
  have s4 := sumI_cle (f := fun k => WT9 wSL P (P.el lb k)) (c := 5) (P.lz lb).toNat (fun i i0 i1 => WT9.k19 wSL.nn (b4 i i0 (by omega)).1.2)
  have s5 := sumI_cut9 (f := fun k => WT9 wSL P (P.br (P.el lb k))) (A := 18730) (B := 5544) (m := 1) (k := 179) (n := (P.lz lb).toNat) (fun i i0 i1 _ => by have r := WT9.k18 wSL.nn (b4 i i0 (by omega)).2.2.1.2; have v := LVS.lall (P.cap (P.br (P.el lb i))); have e4 : wSL 4 = 3 := rfl; have e5 : wSL 5 = 1 := rfl; rw [e4, e5] at r; show WT9 wSL P (P.br (P.el lb i)) ≤ 18730; omega) (fun i i0 i1 => by have r := WT9.k18 wSL.nn (b4 i (by omega) (by omega)).2.2.1.2; have v := LVS.l1851 ((d7 i (by omega) (by omega)).1 (by omega)); have e4 : wSL 4 = 3 := rfl; have e5 : wSL 5 = 1 := rfl; rw [e4, e5] at r; show WT9 wSL P (P.br (P.el lb i)) ≤ 5544; omega) (by decide) (by decide) (by omega)
  have s6 := sumI_cut9 (f := fun k => WT9 wSL P (P.bp (P.el lb k))) (A := 2459) (B := 3) (m := 60) (k := 120) (n := (P.lz lb).toNat) (fun i i0 i1 _ => by have r := WT9.k18 wSL.nn (b4 i i0 (by omega)).2.2.2.2; have v := LVS.l823 (d7 i i0 (by omega)).2.1; have e4 : wSL 4 = 3 := rfl; have e5 : wSL 5 = 1 := rfl; rw [e4, e5] at r; show WT9 wSL P (P.bp (P.el lb i)) ≤ 2459; omega) (fun i i0 i1 => by have r := WT9.k18 wSL.nn (b4 i (by omega) (by omega)).2.2.2.2; have v := LVS.l10 ((d7 i (by omega) (by omega)).2.2 (by omega)); have e4 : wSL 4 = 3 := rfl; have e5 : wSL 5 = 1 := rfl; rw [e4, e5] at r; show WT9 wSL P (P.bp (P.el lb i)) ≤ 3; omega) (by decide) (by decide) (by omega)
  have r1 := WT9.k18 wSL.nn (b1 la (Or.inl rfl)).2
  have r2 := WT9.k18 wSL.nn (b1 lb (Or.inr (Or.inl rfl))).2
  have r3 := WT9.k18 wSL.nn (b1 lr (Or.inr (Or.inr (Or.inl rfl)))).2
  have r4 := WT9.k18 wSL.nn (b1 lp (Or.inr (Or.inr (Or.inr rfl)))).2
  have e4 : wSL 4 = 3 := rfl
  have e5 : wSL 5 = 1 := rfl
  rw [e4, e5] at r1 r2 r3 r4
  have v1 := LVS.l244 d4
  have v2 := LVS.l244 d5
  have v3 := LVS.lall (P.cap lr)
  have v4 := LVS.l2776 d6
  omega
theorem LMT.topC (h : LMT L P la lb lr lp) (nd : L.Nodup) (z1 : 0 ≤ P.lz lb) (z2 : 0 ≤ P.lz lr) (z3 : 0 ≤ P.lz lp) : PSI wCE L P ≤ 8735704 := by
  have q := PSI.cov wCE.nn nd h.1.1.cov
  obtain ⟨⟨a, _⟩, ⟨b1, b2, b3, b4⟩, ⟨c1, c2, _, _⟩, ⟨⟨d1, d2, d3, d4, d5, d6⟩, d7⟩⟩ := h
  have s1 := sumI_cle (f := fun i => WT9 wCE P (P.el lr i)) (c := 40) (P.lz lr).toNat (fun i i0 i1 => WT9.k21 wCE.nn (b2 i i0 (by omega)).2)
  have s2 := sumI_cle (f := fun k => WT9 wCE P (P.be (P.el lb k))) (c := 40) (P.lz lb).toNat (fun i i0 i1 => WT9.k21 wCE.nn (b4 i i0 (by omega)).2.1.2)
  have s3 := sumI_cle (f := fun i => WT9 wCE P (P.el lp i)) (c := 1960) (P.lz lp).toNat (fun i i0 i1 => WT9.k20 wCE.nn (b3 i i0 (by omega)).2 (c2 _ (b3 i i0 (by omega)).1 (b3 i i0 (by omega)).2).2.2.2.le)
  have s4 := sumI_cle (f := fun k => WT9 wCE P (P.el lb k)) (c := 40) (P.lz lb).toNat (fun i i0 i1 => WT9.k19 wCE.nn (b4 i i0 (by omega)).1.2)
  have s5 := sumI_cut9 (f := fun k => WT9 wCE P (P.br (P.el lb k))) (A := 74948) (B := 22204) (m := 1) (k := 179) (n := (P.lz lb).toNat) (fun i i0 i1 _ => by have r := WT9.k18 wCE.nn (b4 i i0 (by omega)).2.2.1.2; have v := LVS.lall (P.cap (P.br (P.el lb i))); have e4 : wCE 4 = 40 := rfl; have e5 : wCE 5 = 4 := rfl; rw [e4, e5] at r; show WT9 wCE P (P.br (P.el lb i)) ≤ 74948; omega) (fun i i0 i1 => by have r := WT9.k18 wCE.nn (b4 i (by omega) (by omega)).2.2.1.2; have v := LVS.l1851 ((d7 i (by omega) (by omega)).1 (by omega)); have e4 : wCE 4 = 40 := rfl; have e5 : wCE 5 = 4 := rfl; rw [e4, e5] at r; show WT9 wCE P (P.br (P.el lb i)) ≤ 22204; omega) (by decide) (by decide) (by omega)
  have s6 := sumI_cut9 (f := fun k => WT9 wCE P (P.bp (P.el lb k))) (A := 9864) (B := 40) (m := 60) (k := 120) (n := (P.lz lb).toNat) (fun i i0 i1 _ => by have r := WT9.k18 wCE.nn (b4 i i0 (by omega)).2.2.2.2; have v := LVS.l823 (d7 i i0 (by omega)).2.1; have e4 : wCE 4 = 40 := rfl; have e5 : wCE 5 = 4 := rfl; rw [e4, e5] at r; show WT9 wCE P (P.bp (P.el lb i)) ≤ 9864; omega) (fun i i0 i1 => by have r := WT9.k18 wCE.nn (b4 i (by omega) (by omega)).2.2.2.2; have v := LVS.l10 ((d7 i (by omega) (by omega)).2.2 (by omega)); have e4 : wCE 4 = 40 := rfl; have e5 : wCE 5 = 4 := rfl; rw [e4, e5] at r; show WT9 wCE P (P.bp (P.el lb i)) ≤ 40; omega) (by decide) (by decide) (by omega)
  have r1 := WT9.k18 wCE.nn (b1 la (Or.inl rfl)).2
  have r2 := WT9.k18 wCE.nn (b1 lb (Or.inr (Or.inl rfl))).2
  have r3 := WT9.k18 wCE.nn (b1 lr (Or.inr (Or.inr (Or.inl rfl)))).2
  have r4 := WT9.k18 wCE.nn (b1 lp (Or.inr (Or.inr (Or.inr rfl)))).2
  have e4 : wCE 4 = 40 := rfl
  have e5 : wCE 5 = 4 := rfl
  rw [e4, e5] at r1 r2 r3 r4
  have v1 := LVS.l244 d4
  have v2 := LVS.l244 d5
  have v3 := LVS.lall (P.cap lr)
  have v4 := LVS.l2776 d6
  omega
/-- what a Code with its function put down has cost -/
theorem ATW.top (h : ATW L P cO cI cZ ed la lb lr lp n p s c) (l : LMT L P la lb lr lp) (nd : L.Nodup) : s ≤ 1950614 ∧ c ≤ 8735704 := by
  obtain ⟨g, e, _, v⟩ := h
  have l' := l.kin e
  have z := v.2.2.2.1
  have g1 := (v.1.1.lk v.2.1.1).2.2.1
  exact ⟨Int.le_trans v.2.2.2.2.1 (l'.topS nd g1.1 (by omega) (by omega)), Int.le_trans v.2.2.2.2.2 (l'.topC nd g1.1 (by omega) (by omega))⟩
theorem ATT.top (h : ATT L P cO cI cZ ed la lb lr lp n p s c) (l : LMT L P la lb lr lp) (nd : L.Nodup) : s ≤ 1950614 ∧ c ≤ 8735704 := by
  obtain ⟨Q, F, rfl, fc, _, _, v⟩ := h
  have e : pE ((Q.park F).kin (fun z => Q.kd z)) = pE (Q.park F) := by
    have e1 : (Q.park F).kin (fun z => Q.kd z) = Q := by
      unfold PO.park PO.kin PO.kd
      refine Prod.ext rfl (Prod.ext (funext fun f => funext fun z => ?_) rfl)
      show (if f = 0 then Q.2.1 0 z else if f = 0 then _ else Q.2.1 f z) = Q.2.1 f z
      by_cases f0 : f = 0
      · rw [if_pos f0, f0]
      · rw [if_neg f0, if_neg f0]
    rw [e1]; exact (funext (pE_park Q F)).symm
  have e1 : (Q.park F).kin (fun z => Q.kd z) = Q := by
    unfold PO.park PO.kin PO.kd
    refine Prod.ext rfl (Prod.ext (funext fun f => funext fun z => ?_) rfl)
    show (if f = 0 then Q.2.1 0 z else if f = 0 then _ else Q.2.1 f z) = Q.2.1 f z
    by_cases f0 : f = 0
    · rw [if_pos f0, f0]
    · rw [if_neg f0, if_neg f0]
  have l' := l.kin e
  rw [e1] at l'
  have z := v.2.2.2.1
  have g1 := (v.1.1.lk v.2.1.1).2.2.1
  exact ⟨Int.le_trans v.2.2.2.2.1 (l'.topS nd g1.1 (by omega) (by omega)), Int.le_trans v.2.2.2.2.2 (l'.topC nd g1.1 (by omega) (by omega))⟩
end LMT9C
