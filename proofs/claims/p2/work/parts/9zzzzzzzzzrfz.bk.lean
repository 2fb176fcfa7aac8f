theorem ROK9.n7 {P : PO} {q : Nat} (h : ROK9 P q) : (0 ≤ P.ro q ∧ P.ro q ≤ 40) ∧ (0 ≤ P.rt q ∧ P.rt q ≤ 1001) ∧ (-2147483648 ≤ P.ra q ∧ P.ra q ≤ 2147483647) ∧ (-2147483648 ≤ P.rb q ∧ P.rb q ≤ 2147483647) ∧ (0 ≤ P.rA q ∧ P.rA q ≤ 1) ∧ (0 ≤ P.rB q ∧ P.rB q ≤ 1) ∧ (0 ≤ P.rg q ∧ P.rg q ≤ 1) := ⟨h.1, h.2.1, h.2.2.1, h.2.2.2.1, h.2.2.2.2.1, h.2.2.2.2.2.1, h.2.2.2.2.2.2.1⟩
theorem ROK9.ub {P : PO} {q : Nat} {o r x : Int} (h : ROK9 P q) (a : o = P.ro q) (b : r = P.rB q) (c : x = P.rb q) : rUsB o r = 0 ∨ (0 ≤ x ∧ x ≤ 1001) := by rw [a, b, c]; exact h.2.2.2.2.2.2.2.2
theorem OPQ.to {r r' x x' : Int} (h : OPQ r x) (a : r' = r) (b : x' = x) : OPQ r' x' := by rw [a, b]; exact h
theorem uaZ {o r x : Int} (h : r = 0) : rUsA o r = 0 ∨ (0 ≤ x ∧ x ≤ 1001) := rUA9 (Or.inr (Or.inr (Or.inl h)))
theorem ubZ {o r x : Int} (h : r = 0) : rUsB o r = 0 ∨ (0 ≤ x ∧ x ≤ 1001) := rUB9 (Or.inr (Or.inr (Or.inl h)))
theorem ubG {o r x : Int} (h : 20 ≤ o) : rUsB o r = 0 ∨ (0 ≤ x ∧ x ≤ 1001) := rUB9 (Or.inr (Or.inl h))
theorem CPG.to {c c' c0 z z' : Int} (h : CPG c c0 z) (e : c' = c) (f : z' = z) : CPG c' c0 z' := by rw [e, f]; exact h
