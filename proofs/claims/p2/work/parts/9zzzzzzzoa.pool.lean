theorem zI_allR (v : Int32) : ∃ a : Int, v = zI a ∧ (-2147483648 ≤ a ∧ a ≤ 2147483647) := ⟨v.toInt, (Int32.ofInt_toInt v).symm, by have := xI_rng v; omega⟩
theorem mul_in {p m b : Int} (p0 : 0 ≤ p) (pm : p < m) (b0 : 0 ≤ b) (bm : b < m) (m3 : m ≤ 300) : 0 ≤ p * m ∧ p * m + b < m * m ∧ p * m ≤ 90000 ∧ m * m ≤ 90000 := by
  have h0 : 0 ≤ p * m := Int.mul_nonneg p0 (by omega)
  have h1 : (p + 1) * m ≤ m * m := Int.mul_le_mul_of_nonneg_right (by omega) (by omega)
  have h2 : (p + 1) * m = p * m + m := by rw [Int.add_mul, Int.one_mul]
  have h3 : m * m ≤ 300 * m := Int.mul_le_mul_of_nonneg_right m3 (by omega)
  omega
/-- what stands on a stack is below n -/
def STK (a : Int → Int) (t n : Int) : Prop := ∀ j : Int, 0 ≤ j → j < t → 0 ≤ a j ∧ a j < n
theorem STK.push {a : Int → Int} {t n v : Int} (h : STK a t n) (v0 : 0 ≤ v) (v1 : v < n) : STK (zup a t v) (t + 1) n := fun j j0 j1 => by
  unfold zup
  split
  · exact ⟨v0, v1⟩
  · exact h j j0 (by omega)
theorem STK.pop {a : Int → Int} {t u n : Int} (h : STK a t n) (e : u ≤ t) : STK a u n := fun j j0 j1 => h j j0 (by omega)
