/-! how long a list's row may become -/
section LVG9
variable {L L' : List Nat} {P Q : PO} {x q : Nat} {c c0 c' z z' : Int}
/-- a list's row has become longer only because as much was put into it -/
def LVG (c c0 z : Int) : Prop := c = c0 ∨ LVS c ≤ 10 * z
/-- one has been put -/
def LV2 (c' c z' : Int) : Prop := c' = c ∨ LVS c' ≤ 10 * z'
theorem LVG.refl (c z : Int) : LVG c c z := Or.inl rfl
theorem LVG.d (h : LVG c c0 z) (z0 : 0 ≤ z) : LVS c - LVS c0 ≤ 10 * z := by
  have a := LVS.nn c0
  rcases h with h | h
  · rw [h]; omega
  · omega
theorem LVG.step (h : LVG c c0 z) (g : LV2 c' c z') (l : z ≤ z') : LVG c' c0 z' := by
  rcases g with g | g
  · rw [g]
    rcases h with h | h
    · exact Or.inl h
    · exact Or.inr (by omega)
  · exact Or.inr g
theorem LVG.to (h : LVG c c0 z) (a : c' = c) (b : z' = z) : LVG c' c0 z' := by rw [a, b]; exact h
theorem LVG.at9 {c0' : Int} (h : LVG c c0 z) (a : c' = c) (e : c0' = c0) (b : z' = z) : LVG c' c0' z' := by rw [a, b, e]; exact h
theorem LVG.trans9 {c2 z2 : Int} (h : LVG c c0 z) (k : LVG c2 c z2) (l : z ≤ z2) : LVG c2 c0 z2 := h.step k l
theorem LVG.key (h : LVC c) (k : c ≤ 4164) : LVS (c + c / 2) ≤ 10 * (c + 1) := by
  unfold LVC at h
  rcases h with h | h | h | h | h | h | h | h | h | h | h | h | h | h | h | h | h | h <;> subst h <;> first | omega | decide
theorem LVG.put (r : GL1 x q L P L' Q) (h : LVC (P.cap x)) (z0 : 0 ≤ P.lz x) (zb : P.lz x ≤ 4164) (g : P.fl x = 1 → (Q.an (Q.le x) = P.an (P.le x) ∧ P.lz x ≠ P.an (P.le x)) ∨ (P.lz x = P.an (P.le x) ∧ (Q.an (Q.le x) : Int) = P.an (P.le x) + (P.an (P.le x) : Int) / 2)) (n : P.fl x ≠ 1 → Q.an (Q.le x) = 10) : LV2 (Q.cap x) (P.cap x) (P.lz x + 1) := by
  have cq := (Q.cap_spec x).1 (show Q.fl x = 1 from r.1.2.2.2.2.2.2.2.2)
  by_cases f : P.fl x = 1
  · have cp := (P.cap_spec x).1 f
    rcases g f with v | v
    · exact Or.inl (by rw [cq, cp, v.1])
    · refine Or.inr ?_
      have k := LVG.key h (by omega)
      rw [cq, v.2, ← cp]
      have e : P.lz x = P.cap x := by omega
      rw [e]; exact k
  · refine Or.inr ?_
    rw [cq, n f]
    have e : LVS ((10 : Nat) : Int) = 10 := by decide
    omega
end LVG9
