/-- what a row of the reference does -/
def rSets (o : Int) : Int := if o ≤ 20 then 1 else 0
def rUsA (o r : Int) : Int := if ¬ o = 20 ∧ ¬ o = 30 ∧ ¬ r = 0 then 1 else 0
def rUsB (o r : Int) : Int := if 0 < o ∧ o < 20 ∧ ¬ r = 0 then 1 else 0
def rStop (o r b : Int) : Int := if (o = 4 ∨ o = 5) ∧ (¬ r = 0 ∨ b = 0) then 1 else 0
def rWays (o f s : Int) : Int := if o = 32 then 0 else if o = 30 ∨ f = s then 1 else 2
def rWay (f s k : Int) : Int := if k = 0 then f else s
theorem rSets_spec (o : Int) : (rSets o = 1 ∧ o ≤ 20) ∨ (rSets o = 0 ∧ 20 < o) := by unfold rSets; split <;> omega
theorem rUsA_spec (o r : Int) : (rUsA o r = 1 ∧ ¬ o = 20 ∧ ¬ o = 30 ∧ ¬ r = 0) ∨ (rUsA o r = 0 ∧ (o = 20 ∨ o = 30 ∨ r = 0)) := by unfold rUsA; split <;> omega
theorem rUsB_spec (o r : Int) : (rUsB o r = 1 ∧ 0 < o ∧ o < 20 ∧ ¬ r = 0) ∨ (rUsB o r = 0 ∧ (o ≤ 0 ∨ 20 ≤ o ∨ r = 0)) := by unfold rUsB; split <;> omega
theorem rStop_spec (o r b : Int) : (rStop o r b = 1 ∧ (o = 4 ∨ o = 5) ∧ (¬ r = 0 ∨ b = 0)) ∨ (rStop o r b = 0 ∧ ((¬ o = 4 ∧ ¬ o = 5) ∨ (r = 0 ∧ ¬ b = 0))) := by unfold rStop; split <;> omega
theorem rWays_spec (o f s : Int) : (rWays o f s = 0 ∧ o = 32) ∨ (rWays o f s = 1 ∧ ¬ o = 32 ∧ (o = 30 ∨ f = s)) ∨ (rWays o f s = 2 ∧ ¬ o = 32 ∧ ¬ o = 30 ∧ ¬ f = s) := by unfold rWays; (repeat' split) <;> omega
theorem rWay_spec (f s k : Int) : (k = 0 ∧ rWay f s k = f) ∨ (¬ k = 0 ∧ rWay f s k = s) := by unfold rWay; split <;> omega
theorem zI_fitb {a : Int} (h0 : 0 ≤ a) (h1 : a ≤ 1) : fits .boolean (.int (zI a)) = true := by
  rcases (show a = 0 ∨ a = 1 by omega) with rfl | rfl <;> decide
