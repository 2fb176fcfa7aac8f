/-! a PHI loses the operands of blocks that lead there no more -/
/-- of PHI x what K lets stay has stayed, as far as it has been looked at: from the end down to behind d -/
def LSP (P Q : PO) (K : Int → Prop) (x : Nat) (d : Int) : Prop := ∃ m : Int → Int, (d < Q.pn x ∧ Q.pn x ≤ P.pn x) ∧ (∀ i : Int, i ≤ d → m i = i) ∧ (∀ i : Int, 0 ≤ i → i < Q.pn x → (0 ≤ m i ∧ m i < P.pn x) ∧ (Q.ia (P.pp x) i = P.ia (P.pp x) (m i) ∧ Q.ia (P.pu x) i = P.ia (P.pu x) (m i) ∧ Q.ia (P.pr x) i = P.ia (P.pr x) (m i)) ∧ (d < i → K (P.ia (P.pp x) (m i)))) ∧ (∀ i j : Int, 0 ≤ i → i < j → j < Q.pn x → m i < m j) ∧ ∀ i : Int, d < i → i < P.pn x → K (P.ia (P.pp x) i) → ∃ k : Int, 0 ≤ k ∧ k < Q.pn x ∧ m k = i
section LSE9
variable {P Q Q' : PO} {K : Int → Prop} {x : Nat} {d : Int}
theorem LSP.first (P : PO) (K : Int → Prop) (x : Nat) (e : d = P.pn x - 1) : LSP P P K x d := ⟨fun i => i, ⟨by omega, by omega⟩, fun _ _ => rfl, fun i i0 i1 => ⟨⟨i0, i1⟩, ⟨rfl, rfl, rfl⟩, fun q => by omega⟩, fun i j _ q _ => q, fun i a b _ => by omega⟩
theorem LSP.here (h : LSP P Q K x d) (d0 : 0 ≤ d) : Q.ia (P.pp x) d = P.ia (P.pp x) d := by
  obtain ⟨m, ⟨a, _⟩, b, c, _⟩ := h
  have q := (c d d0 a).2.1.1
  rw [b d (by omega)] at q; exact q
theorem LSP.keep (h : LSP P Q K x d) (d0 : 0 ≤ d) (k : K (P.ia (P.pp x) d)) : LSP P Q K x (d - 1) := by
  obtain ⟨m, a, b, c, o, s⟩ := h
  refine ⟨m, ⟨by omega, a.2⟩, fun i q => b i (by omega), fun i i0 i1 => ⟨(c i i0 i1).1, (c i i0 i1).2.1, fun q => ?_⟩, o, fun i i0 i1 q => ?_⟩
  · by_cases e : i = d
    · rw [e, b d (by omega)]; exact k
    · exact (c i i0 i1).2.2 (by omega)
  · by_cases e : i = d
    · exact ⟨d, d0, a.1, by rw [e]; exact b d (by omega)⟩
    · exact s i (by omega) i1 q
theorem LSP.drop (h : LSP P Q K x d) (d0 : 0 ≤ d) (w : PDX Q Q' x d) (e1 : Q.pp x = P.pp x) (e2 : Q.pu x = P.pu x) (e3 : Q.pr x = P.pr x) (n : ¬ K (P.ia (P.pp x) d)) : LSP P Q' K x (d - 1) := by
  obtain ⟨m, a, b, c, o, s⟩ := h
  obtain ⟨w0, w1, w2, w3⟩ := w
  rw [e1] at w1; rw [e2] at w2; rw [e3] at w3
  have lo : ∀ i : Int, i < d → (fun i : Int => if i < d then m i else m (i + 1)) i = m i := fun i q => if_pos q
  have hi : ∀ i : Int, d ≤ i → (fun i : Int => if i < d then m i else m (i + 1)) i = m (i + 1) := fun i q => if_neg (by omega)
  refine ⟨fun i => if i < d then m i else m (i + 1), ⟨by omega, by omega⟩, fun i q => ?_, fun i i0 i1 => ?_, fun i j i0 ij j1 => ?_, fun i i0 i1 q => ?_⟩
  · rw [lo i (by omega)]; exact b i (by omega)
  · by_cases q : i < d
    · have t := c i i0 (by omega)
      rw [lo i q, (w1 i).1 q, (w2 i).1 q, (w3 i).1 q]
      exact ⟨t.1, t.2.1, fun u => by omega⟩
    · have t := c (i + 1) (by omega) (by omega)
      rw [hi i (by omega), (w1 i).2.1 (by omega) (by omega), (w2 i).2.1 (by omega) (by omega), (w3 i).2.1 (by omega) (by omega)]
      exact ⟨t.1, t.2.1, fun _ => t.2.2 (by omega)⟩
  · by_cases q : i < d
    · rw [lo i q]
      by_cases r : j < d
      · rw [lo j r]; exact o i j i0 ij (by omega)
      · rw [hi j (by omega)]; exact o i (j + 1) i0 (by omega) (by omega)
    · rw [hi i (by omega), hi j (by omega)]; exact o (i + 1) (j + 1) (by omega) (by omega) (by omega)
  · by_cases e : i = d
    · exact absurd (by rw [← e]; exact q) n
    · obtain ⟨k, k0, k1, ek⟩ := s i (by omega) i1 q
      have kd : d < k := by
        rcases Int.lt_or_le d k with u | u
        · exact u
        · have := b k u; omega
      exact ⟨k - 1, by omega, by omega, by rw [hi (k - 1) (by omega), show k - 1 + 1 = k from by omega]; exact ek⟩
theorem LSP.same (h : LSP P Q K x d) (e0 : Q'.pn x = Q.pn x) (e1 : Q'.ia (P.pp x) = Q.ia (P.pp x)) (e2 : Q'.ia (P.pu x) = Q.ia (P.pu x)) (e3 : Q'.ia (P.pr x) = Q.ia (P.pr x)) : LSP P Q' K x d := by
  unfold LSP; rw [e0, e1, e2, e3]; exact h
theorem LSP.hpp {p : Int} (h : LSP P Q K x (-1)) (e1 : Q.pp x = P.pp x) (q : HPP P x p) (k : K p) : HPP Q x p := by
  obtain ⟨i, i0, i1, e⟩ := q
  obtain ⟨m, _, _, c, _, s⟩ := h
  obtain ⟨j, j0, j1, ej⟩ := s i (by omega) i1 (by rw [e]; exact k)
  exact ⟨j, j0, j1, by rw [e1, (c j j0 j1).2.1.1, ej]; exact e⟩
theorem LSP.only {i : Int} (h : LSP P Q K x (-1)) (e1 : Q.pp x = P.pp x) (i0 : 0 ≤ i) (i1 : i < Q.pn x) : K (Q.ia (Q.pp x) i) := by
  obtain ⟨m, _, _, c, _, _⟩ := h
  rw [e1, (c i i0 i1).2.1.1]; exact (c i i0 i1).2.2 (by omega)
end LSE9
