/-! what Flow's rows have cost, told by their lengths; a pool with the same objects -/
def TGS (a b : Nat) : Int := if b = a then 0 else 8 * (b : Int) + 1 + (b : Int) * (b : Int) + 1002 * ((b : Int) - a)
def TGZ (a b : Nat) : Int := if b = a then 0 else 8 + (b : Int) + ((b : Int) - a)
def TGD (a b : Nat) : Prop := b = a ∨ (a < b ∧ (2 * a ≤ b ∨ b = 300) ∧ b ≤ 300)
theorem TGR.tgs {a b : Nat} {kc ks : Int} (h : TGR a b (8 + (b : Int) + ((b : Int) - a)) (8 * (b : Int) + 1 + (b : Int) * (b : Int) + 1002 * ((b : Int) - a)) kc ks) : ks ≤ TGS a b ∧ kc ≤ TGZ a b ∧ TGD a b := by
  unfold TGR at h
  unfold TGS TGZ TGD
  rcases h with h | h
  · rw [if_pos h.1, if_pos h.1]
    exact ⟨by omega, by omega, Or.inl h.1⟩
  · rw [if_neg (by omega), if_neg (by omega)]
    exact ⟨h.2.2.2.2, h.2.2.2.1, Or.inr ⟨h.1, h.2.1, h.2.2.1⟩⟩
section TGS9
variable {L L' : List Nat} {P Q : PO} {w : Nat → Int}
theorem PSI.mem (n1 : L.Nodup) (n2 : L'.Nodup) (m : ∀ z : Nat, z ∈ L' ↔ z ∈ L) (e : Q.2.1 = P.2.1) : PSI w L' Q = PSI w L P := by
  rw [PSI.same (w := w) (L := L') e]
  exact (sumL_eq L L' n1 n2 (fun z q => Or.inr ⟨(m z).mpr q, rfl⟩) (fun z q => Or.inr ⟨(m z).mp q, rfl⟩)).symm
theorem LVA.mem (v : LVA L P) (m : ∀ z : Nat, z ∈ L' ↔ z ∈ L) (e : Q.2.1 = P.2.1) : LVA L' Q := fun z q k => LVA.same v e z ((m z).mp q) k
end TGS9
