/-! operands of PHIs in another order: SSA stays SSA -/
def PMX (p u r p' u' r' : Int → Int) (n : Int) : Prop := ∃ s t : Int → Int, (∀ i : Int, 0 ≤ i → i < n → ((0 ≤ s i ∧ s i < n) ∧ t (s i) = i) ∧ p' i = p (s i) ∧ u' i = u (s i) ∧ r' i = r (s i)) ∧ ∀ k : Int, 0 ≤ k → k < n → (0 ≤ t k ∧ t k < n) ∧ s (t k) = k
/-- .. but at j; what stood at t0 is in hand -/
def PMH (p u r p' u' r' : Int → Int) (n j vp vu vr : Int) : Prop := ∃ (s t : Int → Int) (t0 : Int), (∀ i : Int, 0 ≤ i → i < n → i ≠ j → ((0 ≤ s i ∧ s i < n) ∧ s i ≠ t0 ∧ t (s i) = i) ∧ p' i = p (s i) ∧ u' i = u (s i) ∧ r' i = r (s i)) ∧ (∀ k : Int, 0 ≤ k → k < n → k ≠ t0 → ((0 ≤ t k ∧ t k < n) ∧ t k ≠ j) ∧ s (t k) = k) ∧ (0 ≤ t0 ∧ t0 < n) ∧ vp = p t0 ∧ vu = u t0 ∧ vr = r t0
section SRT9
variable {p u r p' u' r' p2 u2 r2 : Int → Int} {n j vp vu vr : Int}
theorem PMX.refl (p u r : Int → Int) (n : Int) : PMX p u r p u r n := ⟨fun i => i, fun i => i, fun _ i0 i1 => ⟨⟨⟨i0, i1⟩, rfl⟩, rfl, rfl, rfl⟩, fun _ k0 k1 => ⟨⟨k0, k1⟩, rfl⟩⟩
theorem PMX.trans (h : PMX p u r p' u' r' n) (k : PMX p' u' r' p2 u2 r2 n) : PMX p u r p2 u2 r2 n := by
  obtain ⟨s, t, h1, h2⟩ := h
  obtain ⟨s2, t2, k1, k2⟩ := k
  refine ⟨fun i => s (s2 i), fun i => t2 (t i), fun i i0 i1 => ?_, fun k k0 k1' => ?_⟩
  · have a := k1 i i0 i1
    have b := h1 (s2 i) a.1.1.1 a.1.1.2
    exact ⟨⟨b.1.1, by show t2 (t (s (s2 i))) = i; rw [b.1.2]; exact a.1.2⟩, a.2.1.trans b.2.1, a.2.2.1.trans b.2.2.1, a.2.2.2.trans b.2.2.2⟩
  · have a := h2 k k0 k1'
    have b := k2 (t k) a.1.1 a.1.2
    exact ⟨b.1, by show s (s2 (t2 (t k))) = k; rw [b.2]; exact a.2⟩
theorem PMX.hole (h : PMX p u r p' u' r' n) (j0 : 0 ≤ j) (j1 : j < n) : PMH p u r p' u' r' n j (p' j) (u' j) (r' j) := by
  obtain ⟨s, t, h1, h2⟩ := h
  have q := h1 j j0 j1
  refine ⟨s, t, s j, fun i i0 i1 ne => ?_, fun k k0 k1 ne => ?_, q.1.1, q.2.1, q.2.2.1, q.2.2.2⟩
  · have a := h1 i i0 i1
    exact ⟨⟨a.1.1, fun e => ne (by rw [← a.1.2, e, q.1.2]), a.1.2⟩, a.2⟩
  · have a := h2 k k0 k1
    exact ⟨⟨a.1, fun e => ne (by rw [← e, a.2])⟩, a.2⟩
theorem PMH.shift (h : PMH p u r p' u' r' n j vp vu vr) (j0 : 0 < j) (j1 : j < n) : PMH p u r (zup p' j (p' (j - 1))) (zup u' j (u' (j - 1))) (zup r' j (r' (j - 1))) n (j - 1) vp vu vr := by
  obtain ⟨s, t, t0, h1, h2, h3⟩ := h
  have q := h1 (j - 1) (by omega) (by omega) (by omega)
  refine ⟨zup s j (s (j - 1)), zup t (s (j - 1)) j, t0, fun i i0 i1 ne => ?_, fun k k0 k1 ne => ?_, h3⟩
  · by_cases e : i = j
    · rw [e, zup_eq, zup_eq, zup_eq, zup_eq, zup_eq]
      exact ⟨⟨q.1.1, q.1.2.1, rfl⟩, q.2⟩
    · have a := h1 i i0 i1 e
      rw [zup_ne _ _ e, zup_ne _ _ e, zup_ne _ _ e, zup_ne _ _ e, zup_ne _ _ (fun w => ne (by rw [← a.1.2.2, w, q.1.2.2]))]
      exact a
  · by_cases e : k = s (j - 1)
    · rw [e, zup_eq, zup_eq]
      exact ⟨⟨⟨by omega, j1⟩, by omega⟩, rfl⟩
    · have a := h2 k k0 k1 ne
      rw [zup_ne _ _ e, zup_ne _ _ a.1.2]
      exact ⟨⟨a.1.1, fun w => e (by rw [← w, a.2])⟩, a.2⟩
theorem PMH.fill (h : PMH p u r p' u' r' n j vp vu vr) (j0 : 0 ≤ j) (j1 : j < n) : PMX p u r (zup p' j vp) (zup u' j vu) (zup r' j vr) n := by
  obtain ⟨s, t, t0, h1, h2, h3, h4⟩ := h
  refine ⟨zup s j t0, zup t t0 j, fun i i0 i1 => ?_, fun k k0 k1 => ?_⟩
  · by_cases e : i = j
    · rw [e, zup_eq, zup_eq, zup_eq, zup_eq, zup_eq]
      exact ⟨⟨h3, rfl⟩, h4⟩
    · have a := h1 i i0 i1 e
      rw [zup_ne _ _ e, zup_ne _ _ e, zup_ne _ _ e, zup_ne _ _ e, zup_ne _ _ a.1.2.1]
      exact ⟨⟨a.1.1, a.1.2.2⟩, a.2⟩
  · by_cases e : k = t0
    · rw [e, zup_eq, zup_eq]
      exact ⟨⟨j0, j1⟩, rfl⟩
    · have a := h2 k k0 k1 e
      rw [zup_ne _ _ e, zup_ne _ _ a.1.2]
      exact ⟨a.1.1, a.2⟩
end SRT9
/-- the operands of PHI x in another order -/
def PRM (P Q : PO) (x : Nat) : Prop := PMX (P.ia (P.pp x)) (P.ia (P.pu x)) (P.ia (P.pr x)) (Q.ia (P.pp x)) (Q.ia (P.pu x)) (Q.ia (P.pr x)) (P.pn x)
/-- all is as it was, but for the order of the operands of PHIs -/
def SRT (L : List Nat) (P Q : PO) : Prop := (Q.1 = P.1 ∧ Q.2.1 = P.2.1 ∧ Q.2.2.1 = P.2.2.1 ∧ Q.2.2.2.2 = P.2.2.2.2) ∧ ∀ x : Nat, x ∈ L → P.kd x = 15 → PRM P Q x
section SRT8
variable {L : List Nat} {P Q R : PO} {cO cI cZ : ClassId} {ed la x : Nat} {w : Nat → Int}
theorem SRT.refl (L : List Nat) (P : PO) : SRT L P P := ⟨⟨rfl, rfl, rfl, rfl⟩, fun _ _ _ => PMX.refl _ _ _ _⟩
theorem SRT.step (h : SRT L P Q) (v : PH1 x Q R) (e : R.1 = Q.1) (g : PRM Q R x) (a : ALP L P cO cI cZ ed la) : SRT L P R := by
  have e1 : R.1 = P.1 := e.trans h.1.1
  have e2 : R.2.1 = P.2.1 := v.1.1.trans h.1.2.1
  refine ⟨⟨e1, e2, v.1.2.1.trans h.1.2.2.1, v.1.2.2.trans h.1.2.2.2⟩, fun y m k => ?_⟩
  have hy := h.2 y m k
  have pp : Q.pp y = P.pp y := by unfold PO.pp; rw [h.1.2.1]
  have pu : Q.pu y = P.pu y := by unfold PO.pu; rw [h.1.2.1]
  have pr : Q.pr y = P.pr y := by unfold PO.pr; rw [h.1.2.1]
  have pn : Q.pn y = P.pn y := by unfold PO.pn; rw [h.1.1]
  have ow : ∀ z : Nat, Q.ow z = P.ow z := fun z => by unfold PO.ow; rw [h.1.2.1]
  by_cases n : y = x
  · subst n
    unfold PRM at g
    rw [pp, pu, pr, pn] at g
    exact PMX.trans hy g
  · have k9 := a.pik m k
    have o1 : R.ia (P.pp y) = Q.ia (P.pp y) := v.2.2 _ (by rw [ow, k9.2.1.2.2.2]; exact n)
    have o2 : R.ia (P.pu y) = Q.ia (P.pu y) := v.2.2 _ (by rw [ow, k9.2.2.1.2.2.2]; exact n)
    have o3 : R.ia (P.pr y) = Q.ia (P.pr y) := v.2.2 _ (by rw [ow, k9.2.2.2.1.2.2.2]; exact n)
    unfold PRM
    rw [o1, o2, o3]
    exact hy
theorem PRM.hpp (h : PRM P Q x) (ep : Q.pp x = P.pp x) (en : Q.pn x = P.pn x) {p : Int} (g : HPP P x p) : HPP Q x p := by
  obtain ⟨s, t, h1, h2⟩ := h
  obtain ⟨k, k0, k1, e⟩ := g
  have a := h2 k k0 k1
  have b := h1 (t k) a.1.1 a.1.2
  exact ⟨t k, a.1.1, by rw [en]; exact a.1.2, by rw [ep, b.2.1, a.2]; exact e⟩
theorem SSP.srt (h : SSP P la) (s : SRT L P Q) (al : ALP L P cO cI cZ ed la) : SSP Q la := by
  obtain ⟨a, b, c, d, e⟩ := P
  obtain ⟨a', b', c', d', e'⟩ := Q
  obtain ⟨⟨e1, e2, e3, e4⟩, r⟩ := s
  have e1 : a' = a := e1
  have e2 : b' = b := e2
  have e3 : c' = c := e3
  have e4 : e' = e := e4
  subst e1 e2 e3 e4
  obtain ⟨h1, h2, h3, h4, ⟨A, h5, h6⟩, h7, h8, h9, h10, h11⟩ := h
  have rr := fun (x : Nat) (b k : Int) (b0 : 0 ≤ b) (b1 : b < _) (k0 : 0 ≤ k) (k1 : k < _) => (r _ (al.kphi (i := b) (j := k) b0 b1 k0 k1).1 (al.kphi (i := b) (j := k) b0 b1 k0 k1).2)
  have key1 : ∀ x y x' y' : Int, x' = x → y' = y → (A y x ∨ SIB (a', b', c', d', e') la x y) → (A y' x' ∨ SIB (a', b', c', d', e') la x' y') := fun x y x' y' ex ey q => by
    subst ex ey
    exact q
  have key2 : ∀ x x' b : Int, x' = x → EDG (a', b', c', d', e') la x b → EDG (a', b', c', d', e') la x' b := fun x x' b ex q => by
    subst ex
    exact q
  refine ⟨h1, ⟨h2.1, h2.2.1, fun p b p0 p1 b0 b1 u v i i0 i1 => (rr 0 b i b0 b1 i0 i1).hpp rfl rfl (h2.2.2 p b p0 p1 b0 b1 u v i i0 i1)⟩, h3, h4, ⟨A, h5, fun b b0 b1 => ⟨fun k k0 k1 i i0 i1 => ?_, (h6 b b0 b1).2⟩⟩, h7, h8, h9, fun b k i b0 b1 k0 k1 i0 i1 => ?_, fun b k i j b0 b1 k0 k1 i0 ij j1 q => ?_⟩
  · obtain ⟨s, t, w1, w2⟩ := rr 0 b k b0 b1 k0 k1
    have g := w1 i i0 i1
    have t9 := (h6 b b0 b1).1 k k0 k1 (s i) g.1.1.1 g.1.1.2
    have g1 := g.2.1
    have g2 := g.2.2.1
    have g3 := g.2.2.2
    rcases t9 with t9 | t9
    · exact Or.inl (g3.trans t9)
    · exact Or.inr (key1 _ _ _ _ g1 g2 t9)
  · obtain ⟨s, t, w1, w2⟩ := rr 0 b k b0 b1 k0 k1
    have g := w1 i i0 i1
    have t9 := h10 b k (s i) b0 b1 k0 k1 g.1.1.1 g.1.1.2
    exact key2 _ _ _ g.2.1 t9
  · obtain ⟨s, t, w1, w2⟩ := rr 0 b k b0 b1 k0 k1
    have gi := w1 i i0 (Int.lt_trans ij j1)
    have gj := w1 j (Int.le_trans i0 (Int.le_of_lt ij)) j1
    have q := (gi.2.1.symm.trans q).trans gj.2.1
    have ne : s i ≠ s j := fun e => by
      have q1 := gi.1.2
      rw [e, gj.1.2] at q1
      omega
    rcases Int.lt_or_gt_of_ne ne with w | w
    · exact h11 b k (s i) (s j) b0 b1 k0 k1 gi.1.1.1 w gj.1.1.2 q
    · exact h11 b k (s j) (s i) b0 b1 k0 k1 gj.1.1.1 w gi.1.1.2 q.symm
end SRT8
