/-! what stands before a row; why a PHI goes -/
/-- the row a stands before place j of block x, or in a block that dominates it -/
def LKX (P : PO) (la : Nat) (x j : Int) (a : Nat) : Prop := ∃ d k : Int, 0 ≤ d ∧ d < P.lz la ∧ 0 ≤ k ∧ k < P.lz (P.br (P.el la d)) ∧ a = P.el (P.br (P.el la d)) k ∧ ((d = x ∧ k < j) ∨ (DOM P la d x ∧ d ≠ x))
def DMX (P : PO) (la : Nat) (d x : Int) : Prop := 0 ≤ d → DOM P la d x
def IDZ (P : PO) (la : Nat) (idm : Int → Int) : Prop := idm 0 = -1 ∧ ∀ b : Int, 0 < b → b < P.lz la → RCH P la (-1) b → DOM P la (idm b) b
theorem DMX.up {P : PO} {la : Nat} {idm : Int → Int} {d x : Int} (h : DMX P la d x) (z : IDZ P la idm) (d0 : 0 ≤ d) (d1 : d < P.lz la) : DMX P la (idm d) x := fun q => by
  have w := h d0
  by_cases e : d = 0
  · rw [e, z.1] at q; omega
  · exact (z.2 d (by omega) d1 w.1).trans w
/-- the first d operands of a PHI are itself or (o >= 0) the o-th -/
def OTH (P : PO) (x : Nat) (o d : Int) : Prop := (o < 0 → ∀ i : Int, 0 ≤ i → i < d → P.ia (P.pr x) i ≠ 0 ∧ P.ia (P.pu x) i = P.pt x) ∧ (0 ≤ o → o < d ∧ ∀ i : Int, 0 ≤ i → i < d → (P.ia (P.pr x) i ≠ 0 ∧ P.ia (P.pu x) i = P.pt x) ∨ (P.ia (P.pr x) i = P.ia (P.pr x) o ∧ P.ia (P.pu x) i = P.ia (P.pu x) o))
section OTH9
variable {P : PO} {x : Nat} {o d : Int}
theorem OTH.first (P : PO) (x : Nat) : OTH P x (-1) 0 := ⟨fun _ i i0 i1 => by omega, fun q => by omega⟩
theorem OTH.self (h : OTH P x o d) (a : P.ia (P.pr x) d ≠ 0) (b : P.ia (P.pu x) d = P.pt x) : OTH P x o (d + 1) := ⟨fun q i i0 i1 => by
  by_cases e : i = d
  · rw [e]; exact ⟨a, b⟩
  · exact h.1 q i i0 (by omega), fun q => ⟨by have := (h.2 q).1; omega, fun i i0 i1 => by
  by_cases e : i = d
  · rw [e]; exact Or.inl ⟨a, b⟩
  · exact (h.2 q).2 i i0 (by omega)⟩⟩
theorem OTH.new (h : OTH P x o d) (q : o < 0) (d0 : 0 ≤ d) : OTH P x d (d + 1) := ⟨fun q => by omega, fun _ => ⟨by omega, fun i i0 i1 => by
  by_cases e : i = d
  · rw [e]; exact Or.inr ⟨rfl, rfl⟩
  · exact Or.inl (h.1 q i i0 (by omega))⟩⟩
theorem OTH.same (h : OTH P x o d) (q : 0 ≤ o) (a : P.ia (P.pr x) d = P.ia (P.pr x) o) (b : P.ia (P.pu x) d = P.ia (P.pu x) o) : OTH P x o (d + 1) := ⟨fun w => by omega, fun q => ⟨by have := (h.2 q).1; omega, fun i i0 i1 => by
  by_cases e : i = d
  · rw [e]; exact Or.inr ⟨a, b⟩
  · exact (h.2 q).2 i i0 (by omega)⟩⟩
theorem OTH.all (h : OTH P x o d) (q : 0 ≤ o) (n : P.pn x ≤ d) (g : P.ia (P.pr x) o ≠ 0) : ∀ i : Int, 0 ≤ i → i < P.pn x → P.ia (P.pr x) i ≠ 0 ∧ (P.ia (P.pu x) i = P.pt x ∨ P.ia (P.pu x) i = P.ia (P.pu x) o) := fun i i0 i1 => by
  rcases (h.2 q).2 i i0 (by omega) with w | w
  · exact ⟨w.1, Or.inl w.2⟩
  · exact ⟨by rw [w.1]; exact g, Or.inr w.2⟩
end OTH9
/-- the j-th PHI of block y has been replaced: by what, and why; its flag is set, nothing else has changed -/
def EQPX (z : Int) (P Q : PO) (y : Nat) (j : Int) (rp br bb rp' br' bb' : Int → Int) : Prop := (z = 0 → Q = P ∧ rp' = rp ∧ br' = br ∧ bb' = bb) ∧ (z ≠ 0 → ∃ v g : Int, (Q = P.rw9 2 (P.el (P.bp y) j) 1 ∧ rp' = zup rp (P.pt (P.el (P.bp y) j)) 1 ∧ br' = zup br (P.pt (P.el (P.bp y) j)) g ∧ bb' = zup bb (P.pt (P.el (P.bp y) j)) v) ∧ (g ≠ 0 → (∃ i : Int, 0 ≤ i ∧ i < j ∧ P.pt (P.el (P.bp y) i) = v) ∨ ∀ i : Int, 0 ≤ i → i < P.pn (P.el (P.bp y) j) → P.ia (P.pr (P.el (P.bp y) j)) i ≠ 0 ∧ (P.ia (P.pu (P.el (P.bp y) j)) i = P.pt (P.el (P.bp y) j) ∨ P.ia (P.pu (P.el (P.bp y) j)) i = v)))
