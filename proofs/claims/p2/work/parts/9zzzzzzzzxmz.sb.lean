theorem ops_at {e : Int} (h0 : 0 ≤ e) (h1 : e ≤ 32) (h : chF opsF e = 32) : SPF e ≤ 13 := by
  have k : ∀ k : Fin 33, chF opsF (k.val : Int) = 32 → SPF (k.val : Int) ≤ 13 := by decide +kernel
  have := k ⟨e.toNat, by omega⟩
  rw [show (((⟨e.toNat, by omega⟩ : Fin 33).val : Nat) : Int) = e by show ((e.toNat : Nat) : Int) = e; omega] at this
  exact this h
