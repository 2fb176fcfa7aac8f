theorem up_at {f : Nat → Option Nat} {z : Int} {y : Nat} : va_up f z.toNat (some y) z.toNat = some y := va_up_self _ _ _
theorem up_lt {f g : Nat → Option Nat} {z : Int} {y : Nat} (h : ∀ j : Nat, (j : Int) < z → g j = f j) : ∀ j : Nat, (j : Int) < z → va_up g z.toNat (some y) j = f j := fun j hj => by
  rw [va_up_ne _ _ (by omega)]; exact h j hj
