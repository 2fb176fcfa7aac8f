/-! a PHI of a Code's list is taken -/
def CPQ (lp x : Nat) (n t : Int) (L : List Nat) (P : PO) (L' : List Nat) (P' : PO) : Prop := (x ∈ L' ∧ P'.kd x = 15 ∧ x = P'.el lp n) ∧ (n + 1 ≤ P'.lz lp ∧ (P'.lz lp = P.lz lp ∨ (P'.lz lp = P.lz lp + 1 ∧ n = P.lz lp ∧ x ∉ L))) ∧ (P'.pn x = 0 ∧ P'.pt x = t ∧ P'.pg x = 0) ∧ (∀ i : Int, 0 ≤ i → i < P.lz lp → P'.el lp i = P.el lp i) ∧ CHG (fun z => z = x ∨ z = lp ∨ (P.kd z = 31 ∧ P.ow z = lp)) L P L' P'
section ATH9
variable {L L' E : List Nat} {P P' Q Q' : PO} {F : Nat → Prop} {cO cI cZ : ClassId} {ed la lb lr lp x z : Nat} {n p n' p' s c s' c' t : Int} {l j : Nat}
theorem ATB.phi (h : ATB L Q cO cI cZ ed la lb lr lp n p s c) (hed : ed ∉ L) (hed' : ed ∉ L') (k : KEG [lp] L Q L' Q') (g' : GLR L' Q' cO cI cZ ed) (v' : LVA L' Q') (w : CPQ lp x p t L Q L' Q') (t0 : 0 ≤ t ∧ t ≤ 1001) (l0 : 0 < Q.lz la) (p4 : p < 4164) (hs : s' - s ≤ PSI wSL L' Q' - PSI wSL L Q) (hc : c' - c ≤ PSI wCE L' Q' - PSI wCE L Q) : ATB L' Q' cO cI cZ ed la lb lr lp n (p + 1) s' c' ∧ PIK L' Q' cI cZ x ∧ ¬ FNP Q' la x ∧ FNE Q Q' la := by
  have hh := h
  obtain ⟨⟨g, f, v⟩, ⟨c1, c2, c3, ne⟩, ⟨u1, u2⟩, ⟨d1, d2, n0, n9, p0, p9, l1, l2⟩, ps, pc⟩ := h
  have n2 : lp ≠ la := fun e => by have a := c3.2.2.1; have b := f.1.2.2.1; rw [e] at a; omega
  have n3 : lr ≠ lp := fun e => by have a := c2.2.2.1; have b := c3.2.2.1; rw [e] at a; omega
  have w1 := w.2.1.1
  have nx : x ∈ L → ¬ FNP Q la x := fun m => by
    rcases w.2.1.2 with q | q
    · rw [w.1.2.2, w.2.2.2.1 p p0 (by omega)]; exact u2 p (Int.le_refl _) (by omega)
    · exact absurd m q.2.2
  have same : ∀ z : Nat, z ∈ L → FNP Q la z → z ∈ L' ∧ SM9 z Q Q' := fun z m fz => w.2.2.2.2 z m (fun S => by
    rcases S with S | S | S
    · exact nx (by rw [← S]; exact m) (by rw [← S]; exact fz)
    · exact g.fnl hed f.1 c3 n2 (by rw [← S]; exact fz)
    · exact g.fnr hed f.1 c3 n2 m S.1 S.2 fz)
  have gp : LGX L Q Q' lp := ⟨by
    rcases w.2.1.2 with q | q
    · exact Or.inl q
    · exact Or.inr ⟨q.1, by rw [← q.2.1, ← w.1.2.2]; exact q.2.2⟩, w.2.2.2.1⟩
  have pk := g'.2.2.1 x w.1.1 w.1.2.1
  have gr := LGX.kg9 c2 k (by simp; exact n3)
  refine ⟨hh.grow hed hed' k g' v' same gr gp (Int.le_refl _) (by omega) (by rcases gr.1 with q | q <;> omega) w1 (by rcases gr.1 with q | q; omega; exact absurd q.1 (by have q8 := (k.1 lr c2.1 (by rw [c2.2.1]; decide)).2.2.2.1 c2.2.1 c2.2.2.2; have q7 := (q8.2 (by simp; exact n3)).1; omega)) (by rcases w.2.1.2 with q | q <;> omega) hs hc, ?_, fun f9 => ?_, g.fne hed f l0 same⟩
  rotate_left
  · have f8 := g.fns hed f.1 same f9
    by_cases m : x ∈ L
    · exact nx m f8
    · rcases g.fnm f.1 f8 with r | r
      · exact m r
      · exact hed' (by rw [← r]; exact w.1.1)
  obtain ⟨a, b, d, e, m, ⟨m1, m2, m3, m4⟩, _⟩ := pk
  have b1 := w.2.2.1.1
  have b2 := w.2.2.1.2.1
  exact ⟨a, b, d, e, m, ⟨m1, by omega, m3, m4⟩, fun i i0 i1 => by omega⟩
/-- a PHI in hand beside the function -/
theorem ATB.handp (h : ATB L Q cO cI cZ ed la lb lr lp n p s c) (hed : ed ∉ L) (p9 : 0 < p) (r : PIK L Q cI cZ x) (ex : x = Q.el lp (p - 1)) : ALP L (Q.park (fun z => FNP Q la z ∨ FNQ Q x z)) cO cI cZ ed la ∧ ATT L (Q.park (fun z => FNP Q la z ∨ FNQ Q x z)) cO cI cZ ed la lb lr lp n p s c := by
  obtain ⟨⟨g, f, v⟩, ⟨c1, c2, c3, ne⟩, ⟨u1, u2⟩, ⟨d1, d2, n0, n1, p0, p1, l1, l2⟩, ps⟩ := h
  have n2 : lr ≠ la := fun e => by have a := c2.2.2.1; have b := f.1.2.2.1; rw [e] at a; omega
  have n3 : lp ≠ la := fun e => by have a := c3.2.2.1; have b := f.1.2.2.1; rw [e] at a; omega
  have kq : ∀ z : Nat, FNQ Q x z → z = x ∨ 40 ≤ Q.kd z := fun z q => by
    rcases q with q | q | q | q
    · exact Or.inl q
    · exact Or.inr (by rw [q, r.2.1.2.1]; decide)
    · exact Or.inr (by rw [q, r.2.2.1.2.1]; decide)
    · exact Or.inr (by rw [q, r.2.2.2.1.2.1]; decide)
  have kx := r.1.2
  have nl : ∀ l : Nat, Q.kd l = 30 → ¬ FNQ Q x l := fun l k e => by
    rcases kq l e with q | q
    · rw [q] at k; omega
    · omega
  refine ⟨g.handp hed f r, Q, _, rfl, (g.fcl hed f.1).phi r.r, ⟨Or.inl (Or.inl rfl), fun q => q.elim (g.fnl hed f.1 c1 ne) (nl lb c1.2.1), fun q => q.elim (g.fnl hed f.1 c2 n2) (nl lr c2.2.1), fun q => q.elim (g.fnl hed f.1 c3 n3) (nl lp c3.2.1)⟩, ⟨fun k k0 k1 q => q.elim (u1 k k0 k1) (fun q => ?_), fun k k0 k1 q => q.elim (u2 k k0 k1) (fun q => ?_)⟩, ⟨g, f, v⟩, ⟨c1, c2, c3, ne⟩, ⟨u1, u2⟩, ⟨d1, d2, n0, n1, p0, p1, l1, l2⟩, ps⟩
  · have kr := ((g.lk c2).2.2.2.2 k (by omega) k1).2.2
    rcases kq _ q with q | q
    · rw [q] at kr; omega
    · omega
  · have kp := ((g.lk c3).2.2.2.2 k (by omega) k1).2.2
    rcases kq _ q with q | q
    · rw [ex] at q; exact d2 (p - 1) k (by omega) (by omega) k1 q.symm
    · omega
end ATH9
