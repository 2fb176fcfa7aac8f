/-- a function that can be run, shown and looked at, in any of its forms -/
def CGD (B R P na : Int) (rs op tg ek g1 g2 ps pr fs pt as : Int → Int) : Prop := (1 ≤ B) ∧ MS B R rs ∧ MS B P fs ∧ HUI op tg R ∧ HGP ek g1 g2 B ∧ PL ek g1 g2 B ps pr ∧ (∀ i : Int, 0 ≤ i → i < P → 0 ≤ pt i) ∧ (∀ b i : Int, 0 ≤ b → b < B → fs b ≤ i → i < fs (b + 1) → as i + (ps (b + 1) - ps b) ≤ na)
theorem MS.top {B N : Int} {f : Int → Int} (h : MS B N f) : ∀ b : Int, 0 ≤ b → b ≤ B → f b ≤ N := fun b a c => by have := h.le' a c (Int.le_refl _); have := h.e; omega
theorem MS.zero {B : Int} {f : Int → Int} (h : MS B 0 f) : ∀ b : Int, 0 ≤ b → b ≤ B → f b = 0 := fun b a c => by
  have := h.le' a c (Int.le_refl _); have := h.e; have := h.le' (Int.le_refl 0) a c; have := h.z; omega
theorem CGD.plain {B R na : Int} {rs op tg ek g1 g2 ps pr fs pt as : Int → Int} (b : 1 ≤ B) (m : MS B R rs) (f : MS B 0 fs) (u : HUI op tg R) (g : HGP ek g1 g2 B) (l : PL ek g1 g2 B ps pr) : CGD B R 0 na rs op tg ek g1 g2 ps pr fs pt as :=
  ⟨b, m, f, u, g, l, fun i a c => by omega, fun x i a c d e => by have := f.zero x a (by omega); have := f.zero (x + 1) (by omega) (by omega); omega⟩
