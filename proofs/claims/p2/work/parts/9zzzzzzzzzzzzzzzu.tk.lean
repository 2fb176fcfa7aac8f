/-! what a sign of a text has cost, by its kind (0 end, 1 word, 2 register, 3 block, 4 number, 5 symbol, 6 bad) and its letters -/
def TKV (k d : Int) : Int := if k = 5 then 80 else if k = 1 then 60 + 10 * d else if k = 6 then 80 + 10 * d else 0
def TKW (k d : Int) : Int := if k = 5 then 12 else if k = 1 then 12 + d else if k = 6 then 12 + d else 0
def TKQ (k p a : Int) : Prop := p ≤ a ∧ (k = 2 → p + 2 ≤ a) ∧ (k = 3 → p + 2 ≤ a) ∧ (1 ≤ k → p + 1 ≤ a)
def IS9 (z k : Int) : Prop := z ≠ 0 → k = 5 ∨ k = 1
section TKV9
variable {k p a d x : Int}
theorem TKV.spec (k d : Int) : (k = 5 ∧ TKV k d = 80 ∧ TKW k d = 12) ∨ (k = 1 ∧ TKV k d = 60 + 10 * d ∧ TKW k d = 12 + d) ∨ (k = 6 ∧ TKV k d = 80 + 10 * d ∧ TKW k d = 12 + d) ∨ (k ≠ 5 ∧ k ≠ 1 ∧ k ≠ 6 ∧ TKV k d = 0 ∧ TKW k d = 0) := by
  unfold TKV TKW
  by_cases e5 : k = 5
  · rw [if_pos e5, if_pos e5]; exact Or.inl ⟨e5, rfl, rfl⟩
  · rw [if_neg e5, if_neg e5]
    by_cases e1 : k = 1
    · rw [if_pos e1, if_pos e1]; exact Or.inr (Or.inl ⟨e1, rfl, rfl⟩)
    · rw [if_neg e1, if_neg e1]
      by_cases e6 : k = 6
      · rw [if_pos e6, if_pos e6]; exact Or.inr (Or.inr (Or.inl ⟨e6, rfl, rfl⟩))
      · rw [if_neg e6, if_neg e6]; exact Or.inr (Or.inr (Or.inr ⟨e5, e1, e6, rfl, rfl⟩))
theorem TKV.nn (h : 0 ≤ d) : 0 ≤ TKV k d ∧ 0 ≤ TKW k d ∧ TKV k d ≤ 80 + 10 * d ∧ TKW k d ≤ 12 + d := by
  have s := TKV.spec k d
  omega
theorem TKV.z {y : Int} (h : x ≤ 0) (g : y ≤ 0) (q : 0 ≤ d) : x ≤ TKV k d ∧ y ≤ TKW k d := by
  have s := TKV.nn (k := k) q
  omega
theorem TKV.w {y : Int} (e : k = 1 ∨ k = 6) (h : x ≤ 60 + 10 * d) (g : y ≤ 12 + d) : x ≤ TKV k d ∧ y ≤ TKW k d := by
  have s := TKV.spec k d
  omega
theorem TKV.s {y : Int} (e : k = 5 ∨ k = 6) (q : 0 ≤ d) (h : x ≤ 80) (g : y ≤ 12) : x ≤ TKV k d ∧ y ≤ TKW k d := by
  have s := TKV.spec k d
  omega
/-- a register, a block: eighty letters' worth is left -/
theorem TKQ.reg (h : TKQ k p a) (e : k = 2 ∨ k = 3) : TKV k (a - p) + 80 ≤ 40 * (a - p) ∧ TKW k (a - p) + 16 ≤ 8 * (a - p) := by
  have s := TKV.spec k (a - p)
  have t := h.2.1
  have u := h.2.2.1
  omega
theorem TKQ.opd (h : TKQ k p a) (e : k = 2 ∨ k = 4) : TKV k (a - p) + 40 ≤ 40 * (a - p) ∧ TKW k (a - p) + 8 ≤ 8 * (a - p) := by
  have s := TKV.spec k (a - p)
  have t := h.2.2.2
  omega
theorem TKQ.is (h : TKQ k p a) (e : k = 5 ∨ k = 1) : TKV k (a - p) ≤ 40 * (a - p) + 40 ∧ TKW k (a - p) ≤ 8 * (a - p) + 5 := by
  have s := TKV.spec k (a - p)
  have t := h.2.2.2
  omega
theorem TKQ.of (h : p ≤ a) (e : k = 2 ∨ k = 3 → p + 2 ≤ a) (g : 1 ≤ k → p + 1 ≤ a) : TKQ k p a := ⟨h, fun q => e (Or.inl q), fun q => e (Or.inr q), g⟩
end TKV9
