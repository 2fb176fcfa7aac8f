/-! where PHIs of a register are wanted: what lives in the frontier of what sets it, closed -/
def FSD (lv : Int → Int → Int) (r n : Int) (fl : Int → Int) : Prop := ∀ x : Int, 0 ≤ x → x < n → fl x ≠ 0 → lv x r ≠ 0 ∧ x ≠ 0
def FCD (P : PO) (la : Nat) (lv : Int → Int → Int) (r n : Int) (st fl : Int → Int) (d : Int) : Prop := ∀ x : Int, 0 ≤ x → x < d → lv x r ≠ 0 → HFR P la st fl n x → fl x ≠ 0
section FCL9
variable {L L' : List Nat} {P Q R : PO} {cO cI cZ : ClassId} {ed la : Nat} {a b d n o p q r x : Int} {lv : Int → Int → Int} {st fl : Int → Int}
theorem FRO.ne0 (f : FRO P la a x) (al : ALP L P cO cI cZ ed la) (l0 : 0 < P.lz la) (en : ENE P la) : x ≠ 0 := fun e => by
  obtain ⟨p, d, w⟩ := f.2.2
  have rg := d.2.1.rng al.1.1 (by omega)
  rw [e] at w
  exact en.1 p rg.1 rg.2 w
theorem FSD.first (h : ∀ x : Int, 0 ≤ x → x < n → fl x = 0) : FSD lv r n fl := fun x x0 x1 q => absurd (h x x0 x1) q
theorem FSD.put (h : FSD lv r n fl) (l : lv x r ≠ 0) (z : x ≠ 0) : FSD lv r n (zup fl x 1) := fun y y0 y1 q => by
  by_cases e : y = x
  · rw [e]; exact ⟨l, z⟩
  · rw [zup_ne _ _ e] at q; exact h y y0 y1 q
theorem HFR.ne0 (h : HFR P la st fl n x) (al : ALP L P cO cI cZ ed la) (l0 : 0 < P.lz la) (en : ENE P la) : x ≠ 0 := by
  obtain ⟨a, _, _, _, f⟩ := h
  exact f.ne0 al l0 en
theorem FCD.first (P : PO) (la : Nat) (lv : Int → Int → Int) (r n : Int) (st fl : Int → Int) : FCD P la lv r n st fl 0 := fun x a b => by omega
theorem FCD.next (h : FCD P la lv r n st fl d) (q : fl d ≠ 0 ∨ lv d r = 0 ∨ ¬ HFR P la st fl n d) : FCD P la lv r n st fl (d + 1) := fun x x0 x1 l f => by
  by_cases e : x = d
  · rw [e] at l f ⊢
    rcases q with q | q | q
    · exact q
    · exact absurd q l
    · exact absurd f q
  · exact h x x0 (by omega) l f
theorem FCD.to {d' : Int} (h : FCD P la lv r n st fl d) (e : d = d') : FCD P la lv r n st fl d' := by rw [← e]; exact h
/-- a register is done: its PHIs stand just where they are wanted -/
theorem PHA.close (h : PHA Q R la lv o) (c : FCD Q la lv o (Q.lz la) st fl (Q.lz la)) (s : ∀ b : Int, 0 ≤ b → b < Q.lz la → (st b ≠ 0 ↔ SRW Q la b (Q.lz (Q.br (Q.el la b))) o)) (f : ∀ b : Int, 0 ≤ b → b < Q.lz la → (SPH R la b o ↔ fl b ≠ 0)) (aq : ALP L Q cO cI cZ ed la) (l0 : 0 < Q.lz la) : PHA Q R la lv (o + 1) := h.next (fun p q p0 p1 sb fr l => by
  have g := FRO.rng9 fr aq l0
  refine (f q g.1 g.2).mpr (c q g.1 g.2 l ⟨p, p0, p1, ?_, fr⟩)
  rcases sb with sb | sb
  · exact Or.inr ((f p p0 p1).mp sb)
  · have t := (h.1.srw p0 p1).mp sb
    exact Or.inl ((s p p0 p1).mpr t.all))
end FCL9
