/-! one move more -/
section MVA9
variable {to rg of to' rg' of' : Int → Int} {n t : Int}
theorem MVT.add (h : MVT to rg of n t) (e1 : ∀ j : Int, 0 ≤ j → j < n → to' j = to j) (e2 : ∀ j : Int, 0 ≤ j → j < n → rg' j = rg j) (e3 : ∀ j : Int, 0 ≤ j → j < n → of' j = of j) (a : to' n ≠ t) (b : OPQ (rg' n) (of' n)) : MVT to' rg' of' (n + 1) t := fun j j0 j1 => by
  by_cases q : j = n
  · rw [q]; exact ⟨a, b⟩
  · have w := h j j0 (by omega)
    rw [e1 j j0 (by omega), e2 j j0 (by omega), e3 j j0 (by omega)]; exact w
theorem MVT.zero (to rg of : Int → Int) (t : Int) : MVT to rg of 0 t := fun j j0 j1 => by omega
end MVA9
