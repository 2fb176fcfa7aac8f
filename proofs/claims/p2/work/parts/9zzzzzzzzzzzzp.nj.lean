/-! numbers that are given are apart -/
def NJV (P : PO) (la : Nat) (g ord : Int → Int) (d b j k n : Int) : Prop := ∃ S : Int → Prop, ((∀ r : Int, S r → 0 ≤ g r ∧ g r < n) ∧ ∀ r s : Int, S r → S s → g r = g s → r = s) ∧ (∀ e : Int, 0 ≤ e → e < d → ∀ r : Int, SIB P la (ord e) r → S r) ∧ (∀ i : Int, 0 ≤ i → i < j → i < P.lz (P.bp (P.el la b)) → S (P.pt (P.el (P.bp (P.el la b)) i))) ∧ ∀ i : Int, 0 ≤ i → i < k → i < P.lz (P.br (P.el la b)) → rSets (P.ro (P.el (P.br (P.el la b)) i)) ≠ 0 → S (P.rt (P.el (P.br (P.el la b)) i))
section NJV9
variable {P : PO} {la x : Nat} {g ord : Int → Int} {d b c j k n t o : Int}
theorem NJV.first (P : PO) (la : Nat) (g ord : Int → Int) (b : Int) : NJV P la g ord 0 b 0 0 0 := ⟨fun _ => False, ⟨fun _ h => h.elim, fun _ _ h => h.elim⟩, fun e e0 e1 => by omega, fun i i0 i1 => by omega, fun i i0 i1 => by omega⟩
theorem NJV.blk (h : NJV P la g ord d b 0 0 n) (c : Int) : NJV P la g ord d c 0 0 n := by
  obtain ⟨S, h1, h2, _, _⟩ := h
  exact ⟨S, h1, h2, fun i i0 i1 => by omega, fun i i0 i1 => by omega⟩
theorem njv_up {S : Int → Prop} (h : (∀ r : Int, S r → 0 ≤ g r ∧ g r < n) ∧ ∀ r s : Int, S r → S s → g r = g s → r = s) (n0 : 0 ≤ n) : (∀ r : Int, (S r ∨ r = t) → 0 ≤ zup g t n r ∧ zup g t n r < n + 1) ∧ ∀ r s : Int, (S r ∨ r = t) → (S s ∨ s = t) → zup g t n r = zup g t n s → r = s := by
  have a : ∀ r : Int, (S r ∨ r = t) → r ≠ t → S r := fun r q ne => q.resolve_right ne
  refine ⟨fun r q => ?_, fun r s q w e => ?_⟩
  · by_cases u : r = t
    · rw [u, zup_eq]; omega
    · rw [zup_ne _ _ u]; have := h.1 r (a r q u); omega
  · by_cases u : r = t
    · by_cases v : s = t
      · rw [u, v]
      · rw [u, zup_eq, zup_ne _ _ v] at e
        have := h.1 s (a s w v); omega
    · by_cases v : s = t
      · rw [v, zup_eq, zup_ne _ _ u] at e
        have := h.1 r (a r q u); omega
      · rw [zup_ne _ _ u, zup_ne _ _ v] at e
        exact h.2 r s (a r q u) (a s w v) e
theorem NJV.phi (h : NJV P la g ord d b j 0 n) (n0 : 0 ≤ n) (ex : x = P.el (P.bp (P.el la b)) j) : NJV P la (zup g (P.pt x) n) ord d b (j + 1) 0 (n + 1) := by
  obtain ⟨S, h1, h2, h3, h4⟩ := h
  refine ⟨fun r => S r ∨ r = P.pt x, njv_up h1 n0, fun e e0 e1 r s => Or.inl (h2 e e0 e1 r s), fun i i0 i1 i2 => ?_, fun i i0 i1 => by omega⟩
  by_cases u : i = j
  · refine Or.inr ?_
    rw [u, ex]
  · exact Or.inl (h3 i i0 (by omega) i2)
theorem NJV.row (h : NJV P la g ord d b j k n) (n0 : 0 ≤ n) (ex : x = P.el (P.br (P.el la b)) k) : NJV P la (zup g (P.rt x) n) ord d b j (k + 1) (n + 1) := by
  obtain ⟨S, h1, h2, h3, h4⟩ := h
  refine ⟨fun r => S r ∨ r = P.rt x, njv_up h1 n0, fun e e0 e1 r s => Or.inl (h2 e e0 e1 r s), fun i i0 i1 i2 => Or.inl (h3 i i0 i1 i2), fun i i0 i1 i2 o => ?_⟩
  by_cases u : i = k
  · refine Or.inr ?_
    rw [u, ex]
  · exact Or.inl (h4 i i0 (by omega) i2 o)
theorem NJV.skip (h : NJV P la g ord d b j k n) (ex : x = P.el (P.br (P.el la b)) k) (z : rSets (P.ro x) = 0) : NJV P la g ord d b j (k + 1) n := by
  obtain ⟨S, h1, h2, h3, h4⟩ := h
  refine ⟨S, h1, h2, h3, fun i i0 i1 i2 o => ?_⟩
  by_cases u : i = k
  · rw [u, ← ex] at o; exact absurd z o
  · exact h4 i i0 (by omega) i2 o
theorem NJV.next (h : NJV P la g ord d (ord d) j k n) (z1 : P.lz (P.bp (P.el la (ord d))) ≤ j) (z2 : P.lz (P.br (P.el la (ord d))) ≤ k) (c : Int) : NJV P la g ord (d + 1) c 0 0 n := by
  obtain ⟨S, h1, h2, h3, h4⟩ := h
  refine ⟨S, h1, fun e e0 e1 r s => ?_, fun i i0 i1 => by omega, fun i i0 i1 => by omega⟩
  by_cases u : e = d
  · rw [u] at s
    rcases s with ⟨i, i0, i1, q⟩ | ⟨i, i0, _, i1, w, q⟩
    · rw [← q]; exact h3 i i0 (by omega) i1
    · rw [← q]; exact h4 i i0 (by omega) i1 w
  · exact h2 e e0 (by omega) r s
theorem NJV.inj (h : NJV P la g ord d b j k n) (q : o ≤ d) (al : ∀ b : Int, 0 ≤ b → b < P.lz la → ∃ j : Int, 0 ≤ j ∧ j < o ∧ ord j = b) : ∀ r s : Int, SETR P la r → SETR P la s → g r = g s → r = s := by
  obtain ⟨S, h1, h2, _, _⟩ := h
  have a : ∀ r : Int, SETR P la r → S r := fun r w => by
    rcases w with ⟨b, k, b0, b1, k0, k1, e⟩ | ⟨b, k, b0, b1, k0, k1, o, e⟩
    · obtain ⟨j, j0, j1, ej⟩ := al b b0 b1
      exact h2 j j0 (by omega) r (by rw [ej]; exact Or.inl ⟨k, k0, k1, e⟩)
    · obtain ⟨j, j0, j1, ej⟩ := al b b0 b1
      exact h2 j j0 (by omega) r (by rw [ej]; exact Or.inr ⟨k, k0, k1, k1, o, e⟩)
  exact fun r s u v => h1.2 r s (a r u) (a s v)
end NJV9
