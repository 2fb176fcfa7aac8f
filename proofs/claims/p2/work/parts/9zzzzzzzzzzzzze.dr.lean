theorem DR1.to {P Q : PO} {la : Nat} {st a : Int → Int} {n m z n' z' : Int} (h : DR1 P Q la st a n m z) (en : n = n') (ez : z = z') : DR1 P Q la st a n' m z' := by rw [← en, ← ez]; exact h
theorem LSN.le {P Q : PO} {a : Int → Int} {x : Nat} {d : Int} (h : LSN P Q a x d) : Q.pn x ≤ P.pn x := by
  obtain ⟨m, ⟨_, q⟩, _⟩ := h
  exact q
