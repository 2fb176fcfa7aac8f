/-- a list has got one more, or none -/
def LG9 (a b n : Int) : Prop := a = b ∨ (a = b + 1 ∧ n = b)
theorem LG9.le {a b n : Int} (h : LG9 a b n) : b ≤ a ∧ a ≤ b + 1 := by have : a = b ∨ (a = b + 1 ∧ n = b) := h; omega
theorem LG9.to {a a' b n : Int} (h : LG9 a b n) (e : a' = a) : LG9 a' b n := by rw [e]; exact h
