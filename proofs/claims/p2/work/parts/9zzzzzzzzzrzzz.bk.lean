def HID (p : Prop) : Prop := p
theorem HID.mk {p : Prop} (h : p) : HID p := h
theorem HID.out {p : Prop} (h : HID p) : p := h
theorem mem12 {a b c y : Nat} (h : y ∈ [a, b]) : y ∈ [a, b, c] := by
  simp at h ⊢
  omega
theorem mem3 {a b c y : Nat} (h : y ∈ [c]) : y ∈ [a, b, c] := by
  simp at h ⊢
  exact Or.inr (Or.inr h)
