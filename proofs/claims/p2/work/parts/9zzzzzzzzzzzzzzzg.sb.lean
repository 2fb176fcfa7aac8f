/-! a StringBuilder's row grows by 2 c + 2 alone: what it can come to -/
/-- from a on, doubled as long as it is below b, never more than m -/
def SBC (a b m : Int) : Prop := ∃ S : Int → Prop, S a ∧ ∀ c : Int, S c → S (2 * c + 2) ∧ (c < b → 2 * c + 2 ≤ m)
theorem SBC.now {a b m : Int} (h : SBC a b m) : a < b → 2 * a + 2 ≤ m := by
  obtain ⟨S, s, g⟩ := h
  exact (g a s).2
theorem SBC.next {a b m : Int} (h : SBC a b m) : SBC (2 * a + 2) b m := by
  obtain ⟨S, s, g⟩ := h
  exact ⟨S, (g a s).1, g⟩
theorem SBC.step {a b m c : Int} (h : SBC a b m) (e : c = a ∨ c = 2 * a + 2) : SBC c b m := by
  rcases e with e | e
  · rw [e]; exact h
  · rw [e]; exact h.next
theorem SBC.top : SBC 16 589822 589822 := ⟨fun c => c = 16 ∨ c = 34 ∨ c = 70 ∨ c = 142 ∨ c = 286 ∨ c = 574 ∨ c = 1150 ∨ c = 2302 ∨ c = 4606 ∨ c = 9214 ∨ c = 18430 ∨ c = 36862 ∨ c = 73726 ∨ c = 147454 ∨ c = 294910 ∨ 589822 ≤ c, Or.inl rfl, fun c h => ⟨by
  show 2 * c + 2 = 16 ∨ _
  omega, by omega⟩⟩
/-- a small number has at most three letters -/
def SM3 (x d : Int) : Prop := 0 ≤ x → x < 1000 → d ≤ 3
theorem p10_3 {k : Int} (h : 3 ≤ k) (g : k ≤ 10) : 1000 ≤ P10 k := by
  have t : k = 3 ∨ k = 4 ∨ k = 5 ∨ k = 6 ∨ k = 7 ∨ k = 8 ∨ k = 9 ∨ k = 10 := by omega
  rcases t with e | e | e | e | e | e | e | e <;> (subst e; decide)
