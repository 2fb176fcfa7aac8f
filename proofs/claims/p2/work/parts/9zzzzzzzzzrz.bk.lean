theorem rmT {a : Nat} {x y : Int} (h : 0 ≤ x) (k : (a : Int) + x ≤ y) : a + x.toNat ≤ y.toNat := by omega
theorem rmW {a : Nat} {y : Int} (k : (a : Int) ≤ y) : a ≤ y.toNat := by omega
