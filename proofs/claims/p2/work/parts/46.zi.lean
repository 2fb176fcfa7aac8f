theorem zI_nar {a : Int} (h0 : 0 ≤ a) (h1 : a ≤ 1) : vp_nar .boolean (zI a) = zI a := by
  rcases (show a = 0 ∨ a = 1 by omega) with rfl | rfl <;> decide
def isRe (p : Int → Int) (b : Int) : Int := if p b < 0 then 0 else 1
theorem isRe_spec (p : Int → Int) (b : Int) : (isRe p b = 1 ∧ 0 ≤ p b) ∨ (isRe p b = 0 ∧ p b < 0) := by
  unfold isRe; split
  all_goals omega
