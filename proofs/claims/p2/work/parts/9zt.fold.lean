/-- targets of PHIs, those from lo to n perhaps gone -/
def PGB (p a : Int → Int) (lo n : Int) : Prop := ∀ i : Int, p i = a i ∨ (p i = -1 ∧ lo ≤ i ∧ i < n)
theorem PGB.refl (a : Int → Int) (lo n : Int) : PGB a a lo n := fun _ => Or.inl rfl
theorem PGB.skip {p a : Int → Int} {lo n : Int} (h : PGB p a lo n) : PGB p a lo (n + 1) := fun i => by
  rcases h i with q | q
  · exact Or.inl q
  · exact Or.inr ⟨q.1, q.2.1, by omega⟩
theorem PGB.set {p a : Int → Int} {lo n : Int} (h : PGB p a lo n) (l : lo ≤ n) : PGB (zup p n (-1)) a lo (n + 1) := fun i => by
  by_cases c : i = n
  · rw [c, zup_eq]; exact Or.inr ⟨rfl, l, by omega⟩
  · rw [zup_ne _ _ c]; exact h.skip i
/-- rows, some of those that set a register gone -/
def OGN (o a t : Int → Int) : Prop := ∀ i : Int, o i = a i ∨ (o i = -1 ∧ 0 ≤ t i)
theorem OGN.refl (a t : Int → Int) : OGN a a t := fun _ => Or.inl rfl
theorem OGN.set {o a t : Int → Int} {n : Int} (h : OGN o a t) (l : 0 ≤ t n) : OGN (zup o n (-1)) a t := fun i => by
  by_cases c : i = n
  · rw [c, zup_eq]; exact Or.inr ⟨rfl, l⟩
  · rw [zup_ne _ _ c]; exact h i
theorem OGN.hui {o a t : Int → Int} {R : Int} (h : OGN o a t) (u : HUI a t R) : HUI o t R := fun i b c d => by
  rcases h i with q | q
  · rw [q] at d; exact u i b c d
  · exact q.2
