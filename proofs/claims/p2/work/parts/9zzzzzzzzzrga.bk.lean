def GRW (a b c : Int) : Prop := a ≤ b ∨ a ≤ 2 * c
theorem GRW.le {a b c c0 : Int} (h : GRW a b c) (x : b ≤ 2 * c0 + 16) (y : c0 ≤ c) : a ≤ 2 * c + 16 := by rcases h with h | h <;> omega
