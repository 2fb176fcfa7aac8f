/-- who stands behind whom, of the blocks before n -/
def FJN (B n : Int) (ek ps pr ld fo : Int → Int) : Prop := (∀ p : Int, 0 ≤ p → p < B → fo p = -1 ∨ ((0 < fo p ∧ fo p < n) ∧ ¬ fo p = p ∧ ek p = 0 ∧ ps (fo p + 1) - ps (fo p) = 1 ∧ pr (ps (fo p)) = p ∧ ld (fo p) = 0)) ∧ (∀ x : Int, 0 ≤ x → x < B → ld x = 1 ∨ (ld x = 0 ∧ 0 < x ∧ x < n))
theorem FJN.init {B n : Int} {ek ps pr ld fo : Int → Int} (a : ∀ x : Int, 0 ≤ x → x < B → ld x = 1) (b : ∀ x : Int, 0 ≤ x → x < B → fo x = -1) : FJN B n ek ps pr ld fo := ⟨fun p c d => Or.inl (b p c d), fun x c d => Or.inl (a x c d)⟩
theorem FJN.skip {B n : Int} {ek ps pr ld fo : Int → Int} (h : FJN B n ek ps pr ld fo) : FJN B (n + 1) ek ps pr ld fo := ⟨fun p c d => by
  rcases h.1 p c d with q | q
  · exact Or.inl q
  · exact Or.inr ⟨⟨q.1.1, by omega⟩, q.2⟩, fun x c d => by
  have := h.2 x c d; omega⟩
theorem FJN.set {B n p : Int} {ek ps pr ld fo : Int → Int} (h : FJN B n ek ps pr ld fo) (n0 : 0 < n) (e : pr (ps n) = p) (ne : ¬ p = n) (k : ek p = 0) (o : ps (n + 1) - ps n = 1) : FJN B (n + 1) ek ps pr (zup ld n 0) (zup fo p n) := ⟨fun q c d => by
  by_cases w : q = p
  · rw [w, zup_eq]; exact Or.inr ⟨⟨n0, by omega⟩, fun z => ne z.symm, k, o, e, zup_eq _ _ _⟩
  · rw [zup_ne _ _ w]
    rcases h.1 q c d with r | r
    · exact Or.inl r
    · refine Or.inr ⟨⟨r.1.1, by omega⟩, r.2.1, r.2.2.1, r.2.2.2.1, r.2.2.2.2.1, ?_⟩
      rw [zup_ne _ _ (by omega)]; exact r.2.2.2.2.2, fun x c d => by
  by_cases w : x = n
  · rw [w, zup_eq]; exact Or.inr ⟨rfl, n0, by omega⟩
  · rw [zup_ne _ _ w]; have := h.2 x c d; omega⟩
