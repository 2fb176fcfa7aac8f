/-! a PHI loses an operand: told exactly -/
/-- of a row f what stands from k on has come one place nearer, up to place d -/
def SHF (f g : Int → Int) (k d : Int) : Prop := ∀ i : Int, (i < k → g i = f i) ∧ (k ≤ i → i < d → g i = f (i + 1)) ∧ (k ≤ i → d ≤ i → g i = f i)
theorem SHF.first (f : Int → Int) (k : Int) : SHF f f k k := fun i => ⟨fun _ => rfl, fun a b => by omega, fun _ _ => rfl⟩
theorem SHF.step {f g : Int → Int} {k d v : Int} (h : SHF f g k d) (kd : k ≤ d) (e : v = g (d + 1)) : SHF f (zup g d v) k (d + 1) := fun i => by
  by_cases q : i = d
  · rw [q, zup_eq, e, (h (d + 1)).2.2 (by omega) (by omega)]
    exact ⟨fun a => by omega, fun _ _ => rfl, fun _ a => by omega⟩
  · rw [zup_ne _ _ q]
    exact ⟨(h i).1, fun a b => (h i).2.1 a (by omega), fun a b => (h i).2.2 a (by omega)⟩
/-- the k-th operand of x went -/
def PDX (P Q : PO) (x : Nat) (k : Int) : Prop := Q.pn x = P.pn x - 1 ∧ SHF (P.ia (P.pp x)) (Q.ia (P.pp x)) k (P.pn x - 1) ∧ SHF (P.ia (P.pu x)) (Q.ia (P.pu x)) k (P.pn x - 1) ∧ SHF (P.ia (P.pr x)) (Q.ia (P.pr x)) k (P.pn x - 1)
