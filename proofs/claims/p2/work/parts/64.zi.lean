theorem zI_div {a : Int} (k : Nat) {y : Int32} (h0 : 0 ≤ a) (h1 : a < 2147483648) (hy : y.toInt = (k : Int)) (hk : 0 < k) : zI a / y = zI (a / (k : Int)) := by
  have q0 : 0 ≤ a / (k : Int) := Int.ediv_nonneg h0 (by omega)
  have q1 : a / (k : Int) ≤ a := Int.ediv_le_self _ h0
  apply Int32.toInt_inj.mp
  rw [Int32.toInt_div, zI_toInt (by omega) h1, hy, zI_toInt (by omega) (by omega), Int.tdiv_eq_ediv_of_nonneg h0]
  exact Int.bmod_eq_of_le (by omega) (by omega)
theorem zI_rem {a : Int} (k : Nat) {y : Int32} (h0 : 0 ≤ a) (h1 : a < 2147483648) (hy : y.toInt = (k : Int)) (hk : 0 < k) : zI a % y = zI (a % (k : Int)) := by
  have q0 : 0 ≤ a % (k : Int) := Int.emod_nonneg _ (by omega)
  have q1 : a % (k : Int) ≤ a := by
    have e := Int.emod_add_mul_ediv a (k : Int)
    have q2 : 0 ≤ (k : Int) * (a / (k : Int)) := Int.mul_nonneg (by omega) (Int.ediv_nonneg h0 (by omega))
    omega
  apply Int32.toInt_inj.mp
  rw [Int32.toInt_mod, zI_toInt (by omega) h1, hy, zI_toInt (by omega) (by omega), Int.tmod_eq_emod_of_nonneg h0]
/-- p's place among the preds of b, or none -/
def PXI (ps pr : Int → Int) (b p z : Int) : Prop := (z < 0 ∧ ∀ k : Int, ps b ≤ k → k < ps (b + 1) → ¬ pr k = p) ∨ (0 ≤ z ∧ ps b + z < ps (b + 1) ∧ pr (ps b + z) = p)
theorem PXI.some {ps pr : Int → Int} {b p z : Int} (h : PXI ps pr b p z) (h0 : 0 ≤ z) : ps b + z < ps (b + 1) ∧ pr (ps b + z) = p := by
  rcases h with q | q
  · omega
  · exact q.2
