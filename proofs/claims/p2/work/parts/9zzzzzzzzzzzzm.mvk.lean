/-! what a loop sets is marked -/
def MYX (z : Int) (P : PO) (ins : Int → Int) (x : Nat) : Prop := z ≠ 0 → MAY P ins x
def INI (P : PO) (la : Nat) (t ins : Int → Int) (d j k : Int) : Prop := ∀ b : Int, 0 ≤ b → b < P.lz la → t b ≠ 0 → (b < d → ∀ r : Int, SIB P la b r → ins r ≠ 0) ∧ (b = d → (∀ i : Int, 0 ≤ i → i < j → i < P.lz (P.bp (P.el la b)) → ins (P.pt (P.el (P.bp (P.el la b)) i)) ≠ 0) ∧ ∀ i : Int, 0 ≤ i → i < k → i < P.lz (P.br (P.el la b)) → rSets (P.ro (P.el (P.br (P.el la b)) i)) ≠ 0 → ins (P.rt (P.el (P.br (P.el la b)) i)) ≠ 0)
section MVK7
variable {P : PO} {la x y l : Nat} {t ins : Int → Int} {d j k : Int}
theorem INI.first (P : PO) (la : Nat) (t ins : Int → Int) : INI P la t ins 0 0 0 := fun b b0 b1 _ => ⟨fun q => by omega, fun _ => ⟨fun i i0 i1 => by omega, fun i i0 i1 => by omega⟩⟩
theorem INI.up (h : INI P la t ins d j k) (r : Int) : INI P la t (zup ins r 1) d j k := fun b b0 b1 tb => ⟨fun q r s => zupne ((h b b0 b1 tb).1 q r s), fun q => ⟨fun i i0 i1 i2 => zupne (((h b b0 b1 tb).2 q).1 i i0 i1 i2), fun i i0 i1 i2 s => zupne (((h b b0 b1 tb).2 q).2 i i0 i1 i2 s)⟩⟩
theorem INI.phi (h : INI P la t ins d j 0) (ey : y = P.el la d) (el : P.bp y = l) (ex : x = P.el l j) : INI P la t (zup ins (P.pt x) 1) d (j + 1) 0 := fun b b0 b1 tb => ⟨((h.up (P.pt x)) b b0 b1 tb).1, fun q => ⟨fun i i0 i1 i2 => by
  by_cases s : i = j
  · rw [q, s, ← ey, el, ← ex, zup_eq]; decide
  · exact (((h.up (P.pt x)) b b0 b1 tb).2 q).1 i i0 (by omega) i2, fun i i0 i1 => by omega⟩⟩
theorem INI.row (h : INI P la t ins d j k) (ey : y = P.el la d) (el : P.br y = l) (ex : x = P.el l k) : INI P la t (zup ins (P.rt x) 1) d j (k + 1) := fun b b0 b1 tb => ⟨((h.up (P.rt x)) b b0 b1 tb).1, fun q => ⟨(((h.up (P.rt x)) b b0 b1 tb).2 q).1, fun i i0 i1 i2 o => by
  by_cases s : i = k
  · rw [q, s, ← ey, el, ← ex, zup_eq]; decide
  · exact (((h.up (P.rt x)) b b0 b1 tb).2 q).2 i i0 (by omega) i2 o⟩⟩
theorem INI.skip (h : INI P la t ins d j k) (ey : y = P.el la d) (el : P.br y = l) (ex : x = P.el l k) (z : rSets (P.ro x) = 0) : INI P la t ins d j (k + 1) := fun b b0 b1 tb => ⟨(h b b0 b1 tb).1, fun q => ⟨((h b b0 b1 tb).2 q).1, fun i i0 i1 i2 o => by
  by_cases s : i = k
  · rw [q, s, ← ey, el, ← ex] at o; exact absurd z o
  · exact ((h b b0 b1 tb).2 q).2 i i0 (by omega) i2 o⟩⟩
theorem INI.next (h : INI P la t ins d j k) (ey : y = P.el la d) (q : t d = 0 ∨ (P.lz (P.bp y) ≤ j ∧ P.lz (P.br y) ≤ k)) : INI P la t ins (d + 1) 0 0 := fun b b0 b1 tb => ⟨fun s r w => by
  by_cases e : b = d
  · rcases q with q | q
    · rw [e] at tb; exact absurd q tb
    · have v := (h b b0 b1 tb).2 e
      have ey2 : P.el la b = y := by rw [e, ← ey]
      rcases w with ⟨i, i0, i1, u⟩ | ⟨i, i0, _, i1, o, u⟩
      · rw [← u]; exact v.1 i i0 (by rw [ey2] at i1; omega) i1
      · rw [← u]; exact v.2 i i0 (by rw [ey2] at i1; omega) i1 o
  · exact (h b b0 b1 tb).1 (by omega) r w, fun _ => ⟨fun i i0 i1 => by omega, fun i i0 i1 => by omega⟩⟩
theorem INI.done (h : INI P la t ins d j k) (q : P.lz la ≤ d) : INL P la t ins := fun b b0 b1 tb r s => (h b b0 b1 tb).1 (by omega) r s
end MVK7
