/-- the end of block b is as it was, or an IF that has become a JUMP to one of its goals -/
def FDI (ek g1 g2 ek' g1' g2' : Int → Int) (b : Int) : Prop := (ek' = ek ∧ g1' = g1 ∧ g2' = g2) ∨ (ek b = 1 ∧ ek' = zup ek b 0 ∧ ((g1' = zup g1 b (g2 b) ∧ g2' = g2) ∨ (g1' = g1 ∧ g2' = zup g2 b (g1 b))))
theorem FDI.hgp {ek g1 g2 ek' g1' g2' : Int → Int} {b B : Int} (h : FDI ek g1 g2 ek' g1' g2' b) (g : HGP ek g1 g2 B) : HGP ek' g1' g2' B := fun x x0 x1 x2 => by
  rcases h with ⟨a, c, d⟩ | ⟨e, a, w⟩
  · rw [a] at x2; rw [c, d]; exact g x x0 x1 x2
  · by_cases q : x = b
    · have k := g x x0 x1 (by rw [q, e]; decide)
      rcases w with ⟨c, d⟩ | ⟨c, d⟩
      · rw [c, d, q, zup_eq]; rw [q] at k; exact ⟨k.2, k.2⟩
      · rw [c, d, q, zup_eq]; rw [q] at k; exact ⟨k.1, k.1⟩
    · rw [a, zup_ne _ _ q] at x2
      have k := g x x0 x1 x2
      rcases w with ⟨c, d⟩ | ⟨c, d⟩
      · rw [c, d, zup_ne _ _ q]; exact k
      · rw [c, d, zup_ne _ _ q]; exact k
