/-! drop: numbers of the blocks that stay -/
def NMB (st a s : Int → Int) (n m : Int) : Prop := (0 ≤ m ∧ m ≤ n) ∧ (∀ k : Int, 0 ≤ k → k < n → (st k ≠ 0 → (0 ≤ a k ∧ a k < m) ∧ s (a k) = k) ∧ (st k = 0 → a k = -1)) ∧ (∀ i : Int, 0 ≤ i → i < m → (i ≤ s i ∧ s i < n) ∧ st (s i) ≠ 0 ∧ a (s i) = i) ∧ ∀ i j : Int, 0 ≤ i → i < j → j < m → s i < s j
theorem NMB.first (st a s : Int → Int) : NMB st a s 0 0 := ⟨⟨by omega, by omega⟩, fun k _ _ => by omega, fun i _ _ => by omega, fun i j _ _ _ => by omega⟩
section NMB9
variable {st a s : Int → Int} {n m k : Int}
theorem NMB.skip (h : NMB st a s n m) (q : st n = 0) : NMB st (zup a n (-1)) s (n + 1) m := by
  obtain ⟨h1, h2, h3, h4⟩ := h
  refine ⟨⟨h1.1, by omega⟩, fun k k0 k1 => ?_, fun i i0 i1 => ?_, h4⟩
  · by_cases e : k = n
    · rw [e, zup_eq]; exact ⟨fun t => absurd q t, fun _ => rfl⟩
    · rw [zup_ne _ _ e]; exact h2 k k0 (by omega)
  · have t := h3 i i0 i1
    refine ⟨⟨t.1.1, by omega⟩, t.2.1, ?_⟩
    rw [zup_ne _ _ (show ¬ s i = n by omega)]; exact t.2.2
theorem NMB.put (h : NMB st a s n m) (n0 : 0 ≤ n) (q : st n ≠ 0) : NMB st (zup a n m) (zup s m n) (n + 1) (m + 1) := by
  obtain ⟨h1, h2, h3, h4⟩ := h
  refine ⟨⟨by omega, by omega⟩, fun k k0 k1 => ?_, fun i i0 i1 => ?_, fun i j i0 ij j1 => ?_⟩
  · by_cases e : k = n
    · rw [e, zup_eq, zup_eq]; exact ⟨fun _ => ⟨⟨h1.1, by omega⟩, rfl⟩, fun t => absurd t q⟩
    · rw [zup_ne _ _ e]
      have t := h2 k k0 (by omega)
      refine ⟨fun w => ?_, t.2⟩
      have u := t.1 w
      rw [zup_ne _ _ (show ¬ a k = m by omega)]; exact ⟨⟨u.1.1, by omega⟩, u.2⟩
  · by_cases e : i = m
    · rw [e, zup_eq, zup_eq]; exact ⟨⟨h1.2, by omega⟩, q, rfl⟩
    · rw [zup_ne _ _ e]
      have t := h3 i i0 (by omega)
      rw [zup_ne _ _ (show ¬ s i = n by omega)]; exact ⟨⟨t.1.1, by omega⟩, t.2⟩
  · rw [zup_ne _ _ (show ¬ i = m by omega)]
    have t := h3 i i0 (by omega)
    by_cases e : j = m
    · rw [e, zup_eq]; exact t.1.2
    · rw [zup_ne _ _ e]; exact h4 i j i0 ij (by omega)
end NMB9
/-- n blocks have been looked at, m of them stay and stand in front -/
def DR1 (P Q : PO) (la : Nat) (st a : Int → Int) (n m z : Int) : Prop := LS1 la P Q ∧ Q.lz la = z ∧ ∃ s : Int → Int, NMB st a s n m ∧ (∀ i : Int, 0 ≤ i → i < m → Q.el la i = P.el la (s i)) ∧ ∀ i : Int, n ≤ i → i < z → Q.el la i = P.el la i
section DR19
variable {P Q Q' : PO} {la x y : Nat} {st a : Int → Int} {n m z i : Int}
theorem DR1.first (P : PO) (la : Nat) (st a : Int → Int) : DR1 P P la st a 0 0 (P.lz la) := ⟨LS1.refl9 _ _, rfl, fun i => i, NMB.first _ _ _, fun i _ _ => by omega, fun _ _ _ => rfl⟩
theorem DR1.skip (h : DR1 P Q la st a n m z) (q : st n = 0) : DR1 P Q la st (zup a n (-1)) (n + 1) m z := by
  obtain ⟨w, e, s, h1, h2, h3⟩ := h
  exact ⟨w, e, s, h1.skip q, h2, fun i i0 i1 => h3 i (by omega) i1⟩
theorem DR1.rng (h : DR1 P Q la st a n m z) : 0 ≤ m ∧ m ≤ n := by
  obtain ⟨_, _, s, h1, _⟩ := h
  exact h1.1
theorem DR1.put (h : DR1 P Q la st a n m z) (n0 : 0 ≤ n) (nz : n < z) (q : st n ≠ 0) (w : LS1 la Q Q') (up : Q'.oa (Q.le la) = va_up (Q.oa (Q.le la)) m.toNat (some y)) (ey : y = Q.el la n) (z1 : Q'.lz la = Q.lz la) : DR1 P Q' la st (zup a n m) (n + 1) (m + 1) z := by
  have r := h.rng
  obtain ⟨v, e, s, h1, h2, h3⟩ := h
  refine ⟨v.trans9 w, z1.trans e, zup s m n, h1.put n0 q, fun i i0 i1 => ?_, fun i i0 i1 => ?_⟩
  · rw [set_el w up r.1 i0]
    by_cases t : i = m
    · rw [if_pos t, t, zup_eq, ey]; exact h3 n (Int.le_refl _) nz
    · rw [if_neg t, zup_ne _ _ t]; exact h2 i i0 (by omega)
  · rw [set_el w up r.1 (by omega), if_neg (by omega)]; exact h3 i (by omega) i1
/-- the last one is taken away -/
theorem DR1.cut (h : DR1 P Q la st a n m z) (nz : z ≤ n) (mz : m < z) (w : LS1 la Q Q') (r : RMV (Q.oa (Q.le la)) (Q'.oa (Q.le la)) i (Q.lz la)) (ei : i = z - 1) (z1 : Q'.lz la = Q.lz la - 1) : DR1 P Q' la st a n m (z - 1) := by
  obtain ⟨v, e, s, h1, h2, h3⟩ := h
  refine ⟨v.trans9 w, by omega, s, h1, fun i i0 i1 => ?_, fun i i0 i1 => by omega⟩
  rw [rmv_el9 w r i i0 (by omega), if_pos (by omega)]; exact h2 i i0 i1
end DR19
/-- of PHI x, from the end down to behind d: what came from blocks that stay has stayed, with their new numbers -/
def LSN (P Q : PO) (a : Int → Int) (x : Nat) (d : Int) : Prop := ∃ m : Int → Int, (d < Q.pn x ∧ Q.pn x ≤ P.pn x) ∧ (∀ i : Int, i ≤ d → m i = i) ∧ (∀ i : Int, 0 ≤ i → i < Q.pn x → (0 ≤ m i ∧ m i < P.pn x) ∧ (Q.ia (P.pu x) i = P.ia (P.pu x) (m i) ∧ Q.ia (P.pr x) i = P.ia (P.pr x) (m i)) ∧ (i ≤ d → Q.ia (P.pp x) i = P.ia (P.pp x) (m i)) ∧ (d < i → 0 ≤ a (P.ia (P.pp x) (m i)) ∧ Q.ia (P.pp x) i = a (P.ia (P.pp x) (m i)))) ∧ (∀ i j : Int, 0 ≤ i → i < j → j < Q.pn x → m i < m j) ∧ ∀ i : Int, d < i → i < P.pn x → 0 ≤ a (P.ia (P.pp x) i) → ∃ k : Int, 0 ≤ k ∧ k < Q.pn x ∧ m k = i
section LSN9
variable {P Q Q' : PO} {a : Int → Int} {x : Nat} {d : Int}
theorem LSN.first (P : PO) (a : Int → Int) (x : Nat) (e : d = P.pn x - 1) : LSN P P a x d := ⟨fun i => i, ⟨by omega, by omega⟩, fun _ _ => rfl, fun i i0 i1 => ⟨⟨i0, i1⟩, ⟨rfl, rfl⟩, fun _ => rfl, fun q => by omega⟩, fun i j _ q _ => q, fun i a b _ => by omega⟩
theorem LSN.to {d' : Int} (h : LSN P Q a x d) (e : d = d') : LSN P Q a x d' := by rw [← e]; exact h
theorem LSN.here (h : LSN P Q a x d) (d0 : 0 ≤ d) : Q.ia (P.pp x) d = P.ia (P.pp x) d := by
  obtain ⟨m, ⟨w, _⟩, b, c, _⟩ := h
  have q := (c d d0 w).2.2.1 (Int.le_refl _)
  rw [b d (Int.le_refl _)] at q; exact q
theorem LSN.put (h : LSN P Q a x d) (d0 : 0 ≤ d) (k : 0 ≤ a (P.ia (P.pp x) d)) (e0 : Q'.pn x = Q.pn x) (e1 : Q'.ia (P.pp x) = zup (Q.ia (P.pp x)) d (a (P.ia (P.pp x) d))) (e2 : Q'.ia (P.pu x) = Q.ia (P.pu x)) (e3 : Q'.ia (P.pr x) = Q.ia (P.pr x)) : LSN P Q' a x (d - 1) := by
  obtain ⟨m, w, b, c, o, s⟩ := h
  refine ⟨m, ⟨by omega, by omega⟩, fun i q => b i (by omega), fun i i0 i1 => ?_, fun i j i0 ij j1 => o i j i0 ij (by omega), fun i i0 i1 q => ?_⟩
  · have t := c i i0 (by omega)
    rw [e1, e2, e3]
    refine ⟨t.1, t.2.1, fun q => ?_, fun q => ?_⟩
    · rw [zup_ne _ _ (show ¬ i = d by omega)]; exact t.2.2.1 (by omega)
    · by_cases e : i = d
      · rw [e, b d (Int.le_refl _), zup_eq]; exact ⟨k, rfl⟩
      · rw [zup_ne _ _ e]; exact t.2.2.2 (by omega)
  · by_cases e : i = d
    · exact ⟨d, d0, by omega, by rw [e]; exact b d (Int.le_refl _)⟩
    · rw [e0]; exact s i (by omega) i1 q
theorem LSN.drop (h : LSN P Q a x d) (d0 : 0 ≤ d) (w : PDX Q Q' x d) (e1 : Q.pp x = P.pp x) (e2 : Q.pu x = P.pu x) (e3 : Q.pr x = P.pr x) (n : ¬ 0 ≤ a (P.ia (P.pp x) d)) : LSN P Q' a x (d - 1) := by
  obtain ⟨m, v, b, c, o, s⟩ := h
  obtain ⟨w0, w1, w2, w3⟩ := w
  rw [e1] at w1; rw [e2] at w2; rw [e3] at w3
  have lo : ∀ i : Int, i < d → (fun i : Int => if i < d then m i else m (i + 1)) i = m i := fun i q => if_pos q
  have hi : ∀ i : Int, d ≤ i → (fun i : Int => if i < d then m i else m (i + 1)) i = m (i + 1) := fun i q => if_neg (by omega)
  refine ⟨fun i => if i < d then m i else m (i + 1), ⟨by omega, by omega⟩, fun i q => ?_, fun i i0 i1 => ?_, fun i j i0 ij j1 => ?_, fun i i0 i1 q => ?_⟩
  · rw [lo i (by omega)]; exact b i (by omega)
  · by_cases q : i < d
    · have t := c i i0 (by omega)
      rw [lo i q, (w1 i).1 q, (w2 i).1 q, (w3 i).1 q]
      exact ⟨t.1, t.2.1, fun _ => t.2.2.1 (by omega), fun u => by omega⟩
    · have t := c (i + 1) (by omega) (by omega)
      rw [hi i (by omega), (w1 i).2.1 (by omega) (by omega), (w2 i).2.1 (by omega) (by omega), (w3 i).2.1 (by omega) (by omega)]
      exact ⟨t.1, t.2.1, fun u => by omega, fun _ => t.2.2.2 (by omega)⟩
  · by_cases q : i < d
    · rw [lo i q]
      by_cases r : j < d
      · rw [lo j r]; exact o i j i0 ij (by omega)
      · rw [hi j (by omega)]; exact o i (j + 1) i0 (by omega) (by omega)
    · rw [hi i (by omega), hi j (by omega)]; exact o (i + 1) (j + 1) (by omega) (by omega) (by omega)
  · by_cases e : i = d
    · exact absurd (by rw [← e]; exact q) n
    · obtain ⟨k, k0, k1, ek⟩ := s i (by omega) i1 q
      have kd : d < k := by
        rcases Int.lt_or_le d k with u | u
        · exact u
        · have := b k u; omega
      exact ⟨k - 1, by omega, by omega, by rw [hi (k - 1) (by omega), show k - 1 + 1 = k from by omega]; exact ek⟩
theorem LSN.same (h : LSN P Q a x d) (e0 : Q'.pn x = Q.pn x) (e1 : Q'.ia (P.pp x) = Q.ia (P.pp x)) (e2 : Q'.ia (P.pu x) = Q.ia (P.pu x)) (e3 : Q'.ia (P.pr x) = Q.ia (P.pr x)) : LSN P Q' a x d := by
  unfold LSN; rw [e0, e1, e2, e3]; exact h
end LSN9
