/-- what stands for a register is a register or a number -/
def RPL (rp br b : Int → Int) : Prop := ∀ x : Int, 0 ≤ x → x ≤ 1001 → ¬ rp x = 0 → ¬ br x = 0 → 0 ≤ b x ∧ b x ≤ 1001
theorem RPL.put {rp br b : Int → Int} {r x g : Int} (h : RPL rp br b) (c : g = 0 ∨ (0 ≤ x ∧ x ≤ 1001)) : RPL (zup rp r 1) (zup br r g) (zup b r x) := fun y y0 y1 a d => by
  by_cases e : y = r
  · rw [e, zup_eq] at d ⊢; omega
  · rw [zup_ne _ _ e] at a d ⊢; exact h y y0 y1 a d
theorem RPL.none {rp br b : Int → Int} (h : ∀ x : Int, 0 ≤ x → x ≤ 1001 → rp x = 0) : RPL rp br b := fun x a c d => absurd (h x a c) d
