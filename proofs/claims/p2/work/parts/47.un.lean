/-- how many of the first n are 0 -/
def un (a : Int → Int) : Nat → Int
  | 0 => 0
  | n + 1 => un a n + (if a n = 0 then 1 else 0)
theorem un_rng (a : Int → Int) (n : Nat) : 0 ≤ un a n ∧ un a n ≤ n := by
  induction n with
  | zero => exact ⟨Int.le_refl _, Int.le_refl _⟩
  | succ n ih =>
    show 0 ≤ un a n + _ ∧ un a n + _ ≤ _
    split <;> omega
theorem un_off (a : Int → Int) {k v : Int} (n : Nat) (h : k < 0 ∨ n ≤ k) : un (zup a k v) n = un a n := by
  induction n with
  | zero => rfl
  | succ n ih =>
    show un (zup a k v) n + (if zup a k v n = 0 then 1 else 0) = un a n + _
    rw [ih (by omega)]
    have e : zup a k v n = a n := by
      unfold zup
      exact if_neg (by omega)
    rw [e]
theorem un_set (a : Int → Int) {k v : Int} (n : Nat) (h0 : 0 ≤ k) (h1 : k < n) : (a k = 0 → ¬ v = 0 → un (zup a k v) n = un a n - 1) ∧ (a k = 0 → v = 0 → un (zup a k v) n = un a n) ∧ (¬ a k = 0 → v = 0 → un (zup a k v) n = un a n + 1) ∧ (¬ a k = 0 → ¬ v = 0 → un (zup a k v) n = un a n) := by
  induction n with
  | zero => omega
  | succ n ih =>
    have e1 : un (zup a k v) (n + 1) = un (zup a k v) n + (if zup a k v n = 0 then 1 else 0) := rfl
    have e2 : un a (n + 1) = un a n + (if a n = 0 then 1 else 0) := rfl
    by_cases hk : k = n
    · rw [un_off a n (Or.inr (by omega))] at e1
      have e3 : zup a k v n = v := by unfold zup; rw [if_pos hk.symm]
      rw [e3] at e1
      rw [← hk] at e2
      refine ⟨fun p q => ?_, fun p q => ?_, fun p q => ?_, fun p q => ?_⟩
      · rw [if_neg q] at e1; rw [if_pos p] at e2; omega
      · rw [if_pos q] at e1; rw [if_pos p] at e2; omega
      · rw [if_pos q] at e1; rw [if_neg p] at e2; omega
      · rw [if_neg q] at e1; rw [if_neg p] at e2; omega
    · have h := ih (by omega)
      have e3 : zup a k v n = a n := by unfold zup; rw [if_neg (fun q => hk q.symm)]
      rw [e3] at e1
      refine ⟨fun p q => ?_, fun p q => ?_, fun p q => ?_, fun p q => ?_⟩
      · have := h.1 p q; omega
      · have := h.2.1 p q; omega
      · have := h.2.2.1 p q; omega
      · have := h.2.2.2 p q; omega
