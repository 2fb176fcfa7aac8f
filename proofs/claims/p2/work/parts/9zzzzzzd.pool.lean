/-- y put in at i, behind z others in all -/
def INSF (f g : Nat → Option Nat) (i z : Int) (y : Nat) : Prop := (∀ j : Nat, (j : Int) < i → g j = f j) ∧ g i.toNat = some y ∧ ∀ j : Nat, i ≤ j → (j : Int) < z → g (j + 1) = f j
theorem INSF.of {f g : Nat → Option Nat} {i z : Int} {y : Nat} (i0 : 0 ≤ i) (iz : i ≤ z) (h : ∀ j : Nat, (j : Int) < z → g j = f j) : INSF f (va_up (va_cpy g g i.toNat (i + 1).toNat (z - i).toNat) i.toNat (some y)) i z y := by
  refine ⟨fun j a => ?_, va_up_self _ _ _, fun j a b => ?_⟩
  · rw [va_up_ne _ _ (by omega)]
    unfold va_cpy
    rw [if_neg (by omega)]
    exact h j (by omega)
  · rw [va_up_ne _ _ (by omega)]
    unfold va_cpy
    rw [if_pos (by omega), show i.toNat + (j + 1 - (i + 1).toNat) = j by omega]
    exact h j b
