/-- a PHI has an operand for the PRED p -/
def HPP (P : PO) (x : Nat) (p : Int) : Prop := ∃ k : Int, 0 ≤ k ∧ k < P.pn x ∧ P.ia (P.pp x) k = p
/-- a block can be entered from f: each of its PHIs has an operand for f -/
def ENT (P : PO) (la : Nat) (b f : Int) : Prop := (P.lz (P.bp (P.el la b)) = 0 ∨ (0 ≤ f ∧ f ≤ 299)) ∧ P.lz (P.bp (P.el la b)) ≤ 1900 ∧ ∀ i : Int, 0 ≤ i → i < P.lz (P.bp (P.el la b)) → HPP P (P.el (P.bp (P.el la b)) i) f
theorem ENT.at {P : PO} {la x : Nat} {b f : Int} (h : ENT P la b f) (e : x = P.el la b) : (P.lz (P.bp x) = 0 ∨ (0 ≤ f ∧ f ≤ 299)) ∧ P.lz (P.bp x) ≤ 1900 ∧ ∀ i : Int, 0 ≤ i → i < P.lz (P.bp x) → HPP P (P.el (P.bp x) i) f := by rw [e]; exact h
/-- each PHI of a function is complete: an operand for each PRED; none in the first block -/
def CMP (P : PO) (la : Nat) : Prop := P.lz (P.bp (P.el la 0)) = 0 ∧ (∀ b : Int, 0 ≤ b → b < P.lz la → P.lz (P.bp (P.el la b)) ≤ 1900 ∧ (30 ≤ P.ro (P.be (P.el la b)) ∧ P.ro (P.be (P.el la b)) ≤ 32)) ∧ ∀ p b : Int, 0 ≤ p → p < P.lz la → 0 ≤ b → b < P.lz la → P.ro (P.be (P.el la p)) ≠ 32 → (P.bf (P.el la p) = b ∨ (P.ro (P.be (P.el la p)) ≠ 30 ∧ P.bs (P.el la p) = b)) → ∀ i : Int, 0 ≤ i → i < P.lz (P.bp (P.el la b)) → HPP P (P.el (P.bp (P.el la b)) i) p
theorem CMP.zero {P : PO} {la : Nat} (h : CMP P la) (f : Int) : ENT P la 0 f := ⟨Or.inl h.1, by have := h.1; omega, fun i i0 i1 => by have := h.1; omega⟩
theorem CMP.go {P : PO} {la x e : Nat} {p b : Int} (h : CMP P la) (ex : x = P.el la p) (ee : P.be x = e) (p0 : 0 ≤ p) (p1 : p < P.lz la) (pm : p ≤ 299) (b0 : 0 ≤ b) (b1 : b < P.lz la) (r : P.ro e ≠ 32) (w : P.bf x = b ∨ (P.ro e ≠ 30 ∧ P.bs x = b)) : ENT P la b p := by
  subst ee; subst ex
  exact ⟨Or.inr ⟨p0, pm⟩, (h.2.1 b b0 b1).1, h.2.2 p b p0 p1 b0 b1 r w⟩
