theorem ROK9.of {P : PO} {q : Nat} (a : 0 ≤ P.ro q ∧ P.ro q ≤ 40) (b : 0 ≤ P.rt q ∧ P.rt q ≤ 1001) (c : -2147483648 ≤ P.ra q ∧ P.ra q ≤ 2147483647) (d : -2147483648 ≤ P.rb q ∧ P.rb q ≤ 2147483647) (e : 0 ≤ P.rA q ∧ P.rA q ≤ 1) (f : 0 ≤ P.rB q ∧ P.rB q ≤ 1) (g : 0 ≤ P.rg q ∧ P.rg q ≤ 1) (h : rUsA (P.ro q) (P.rA q) = 0 ∨ (0 ≤ P.ra q ∧ P.ra q ≤ 1001)) (k : rUsB (P.ro q) (P.rB q) = 0 ∨ (0 ≤ P.rb q ∧ P.rb q ≤ 1001)) : ROK9 P q := ⟨a, b, c, d, e, f, g, h, k⟩
/-- what a row asks of its first operand, by the numbers alone -/
theorem rUA9 {o r x : Int} (h : o = 20 ∨ o = 30 ∨ r = 0 ∨ (0 ≤ x ∧ x ≤ 1001)) : rUsA o r = 0 ∨ (0 ≤ x ∧ x ≤ 1001) := by
  have := rUsA_spec o r; omega
theorem rUB9 {o r x : Int} (h : o ≤ 0 ∨ 20 ≤ o ∨ r = 0 ∨ (0 ≤ x ∧ x ≤ 1001)) : rUsB o r = 0 ∨ (0 ≤ x ∧ x ≤ 1001) := by
  have := rUsB_spec o r; omega
