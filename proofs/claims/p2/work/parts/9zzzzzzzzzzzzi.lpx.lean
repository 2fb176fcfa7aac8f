/-! loops, told exactly -/
def LTC (P : PO) (la : Nat) (h n : Int) : Prop := ∃ b : Int, 0 ≤ b ∧ b < n ∧ EDG P la b h ∧ DOM P la h b
/-- the blocks t are the loop of h: all of them behind h, and whatever leads into it leads to h -/
def LPX (P : PO) (la : Nat) (t : Int → Int) (h n : Int) : Prop := (t h ≠ 0 ∧ LTC P la h n) ∧ (∀ b : Int, 0 ≤ b → b < n → t b ≠ 0 → DOM P la h b) ∧ ∀ b : Int, 0 ≤ b → b < n → t b ≠ 0 → b ≠ h → ∀ p : Int, 0 ≤ p → p < n → RCH P la (-1) p → EDG P la p b → t p ≠ 0
def LPS (P : PO) (la : Nat) (h : Int) (t k : Int → Int) (m n : Int) : Prop := (∀ b : Int, 0 ≤ b → b < n → t b ≠ 0 → DOM P la h b) ∧ ∀ i : Int, 0 ≤ i → i < m → 0 ≤ k i ∧ k i < n ∧ k i ≠ h ∧ t (k i) ≠ 0
def LPA (P : PO) (la : Nat) (h : Int) (t k : Int → Int) (m n : Int) : Prop := LPS P la h t k m n ∧ (∀ b : Int, 0 ≤ b → b < n → t b ≠ 0 → b ≠ h → ∃ i : Int, 0 ≤ i ∧ i < m ∧ k i = b) ∧ (0 < m ∨ t h ≠ 0 → LTC P la h n)
def LPB (P : PO) (la : Nat) (h : Int) (t k : Int → Int) (m n : Int) : Prop := LPS P la h t k m n ∧ (∀ b : Int, 0 ≤ b → b < n → t b ≠ 0 → b ≠ h → (∃ i : Int, 0 ≤ i ∧ i < m ∧ k i = b) ∨ ∀ p : Int, 0 ≤ p → p < n → RCH P la (-1) p → EDG P la p b → t p ≠ 0) ∧ t h ≠ 0 ∧ LTC P la h n
def LPC (P : PO) (la : Nat) (h : Int) (t k : Int → Int) (m n c d : Int) : Prop := LPS P la h t k m n ∧ (∀ b : Int, 0 ≤ b → b < n → t b ≠ 0 → b ≠ h → (∃ i : Int, 0 ≤ i ∧ i < m ∧ k i = b) ∨ (∀ p : Int, 0 ≤ p → p < n → RCH P la (-1) p → EDG P la p b → t p ≠ 0) ∨ (b = c ∧ ∀ p : Int, 0 ≤ p → p < d → RCH P la (-1) p → EDG P la p b → t p ≠ 0)) ∧ (t h ≠ 0 ∧ LTC P la h n) ∧ DOM P la h c ∧ c ≠ h
section LPX9
variable {P : PO} {la : Nat} {h m n b c d p : Int} {t k : Int → Int}
theorem zupne {f : Int → Int} {i r : Int} (q : f r ≠ 0) : zup f i 1 r ≠ 0 := by
  by_cases w : r = i
  · rw [w, zup_eq]; decide
  · rw [zup_ne _ _ w]; exact q
theorem DOM.pred (w : DOM P la h b) (ne : b ≠ h) (r : RCH P la (-1) p) (e : EDG P la p b) : DOM P la h p := ⟨w.1, r, fun q => w.2.2 (q.step e ne)⟩
theorem LPA.first (z : ∀ b : Int, 0 ≤ b → b < n → t b = 0) (h0 : 0 ≤ h) (h1 : h < n) : LPA P la h t k 0 n := ⟨⟨fun b b0 b1 q => absurd (z b b0 b1) q, fun i i0 i1 => by omega⟩, fun b b0 b1 q => absurd (z b b0 b1) q, fun q => by
  rcases q with q | q
  · omega
  · exact absurd (z h h0 h1) q⟩
theorem LPA.mark (w : LPA P la h t k m n) (b0 : 0 ≤ b) (b1 : b < n) (dm : DOM P la h b) (e : EDG P la b h) (q : b = h) : LPA P la h (zup t b 1) k m n := by
  obtain ⟨⟨w1, w2⟩, w3, w4⟩ := w
  refine ⟨⟨fun a a0 a1 s => ?_, fun i i0 i1 => ⟨(w2 i i0 i1).1, (w2 i i0 i1).2.1, (w2 i i0 i1).2.2.1, zupne (w2 i i0 i1).2.2.2⟩⟩, fun a a0 a1 s ne => ?_, fun _ => ⟨b, b0, b1, e, dm⟩⟩
  · by_cases u : a = b
    · rw [u]; exact dm
    · rw [zup_ne _ _ u] at s; exact w1 a a0 a1 s
  · rw [zup_ne _ _ (by omega)] at s; exact w3 a a0 a1 s ne
theorem LPA.push (w : LPA P la h t k m n) (m0 : 0 ≤ m) (b0 : 0 ≤ b) (b1 : b < n) (dm : DOM P la h b) (e : EDG P la b h) (q : b ≠ h) : LPA P la h (zup t b 1) (zup k m b) (m + 1) n := by
  obtain ⟨⟨w1, w2⟩, w3, w4⟩ := w
  refine ⟨⟨fun a a0 a1 s => ?_, fun i i0 i1 => ?_⟩, fun a a0 a1 s ne => ?_, fun _ => ⟨b, b0, b1, e, dm⟩⟩
  · by_cases u : a = b
    · rw [u]; exact dm
    · rw [zup_ne _ _ u] at s; exact w1 a a0 a1 s
  · by_cases u : i = m
    · rw [u, zup_eq]; exact ⟨b0, b1, q, by rw [zup_eq]; decide⟩
    · rw [zup_ne _ _ u]
      have v := w2 i i0 (by omega)
      exact ⟨v.1, v.2.1, v.2.2.1, zupne v.2.2.2⟩
  · by_cases u : a = b
    · exact ⟨m, m0, by omega, by rw [zup_eq, u]⟩
    · rw [zup_ne _ _ u] at s
      obtain ⟨i, i0, i1, i2⟩ := w3 a a0 a1 s ne
      exact ⟨i, i0, by omega, by rw [zup_ne _ _ (by omega)]; exact i2⟩
theorem LPA.to (w : LPA P la h t k m n) (q : 0 < m ∨ t h ≠ 0) : LPB P la h (zup t h 1) k m n := by
  obtain ⟨⟨w1, w2⟩, w3, w4⟩ := w
  have l := w4 q
  have l2 := l
  obtain ⟨c, _, _, _, dm⟩ := l2
  refine ⟨⟨fun a a0 a1 s => ?_, fun i i0 i1 => ⟨(w2 i i0 i1).1, (w2 i i0 i1).2.1, (w2 i i0 i1).2.2.1, zupne (w2 i i0 i1).2.2.2⟩⟩, fun a a0 a1 s ne => ?_, by rw [zup_eq]; decide, l⟩
  · by_cases u : a = h
    · rw [u]; exact DOM.refl dm.1
    · rw [zup_ne _ _ u] at s; exact w1 a a0 a1 s
  · rw [zup_ne _ _ ne] at s; exact Or.inl (w3 a a0 a1 s ne)
theorem LPB.pop (w : LPB P la h t k m n) (m1 : 0 < m) (q : d = m - 1) : LPC P la h t k d n (k d) 0 := by
  subst q
  obtain ⟨⟨w1, w2⟩, w3, w4⟩ := w
  have v := w2 (m - 1) (by omega) (by omega)
  refine ⟨⟨w1, fun i i0 i1 => w2 i i0 (by omega)⟩, fun a a0 a1 s ne => ?_, w4, w1 _ v.1 v.2.1 v.2.2.2, v.2.2.1⟩
  rcases w3 a a0 a1 s ne with ⟨i, i0, i1, i2⟩ | u
  · by_cases e : i = m - 1
    · exact Or.inr (Or.inr ⟨by rw [← i2, e], fun p p0 p1 => by omega⟩)
    · exact Or.inl ⟨i, i0, by omega, i2⟩
  · exact Or.inr (Or.inl u)
theorem LPC.skip (w : LPC P la h t k m n c d) (q : t d ≠ 0 ∨ ¬ RCH P la (-1) d ∨ ¬ EDG P la d c) : LPC P la h t k m n c (d + 1) := by
  obtain ⟨w1, w3, w4⟩ := w
  refine ⟨w1, fun a a0 a1 s ne => ?_, w4⟩
  rcases w3 a a0 a1 s ne with u | u | ⟨u, v⟩
  · exact Or.inl u
  · exact Or.inr (Or.inl u)
  · refine Or.inr (Or.inr ⟨u, fun p p0 p1 r e => ?_⟩)
    by_cases x : p = d
    · rw [x] at r e ⊢
      rcases q with q | q | q
      · exact q
      · exact absurd r q
      · rw [u] at e; exact absurd e q
    · exact v p p0 (by omega) r e
theorem LPC.put (w : LPC P la h t k m n c d) (m0 : 0 ≤ m) (d0 : 0 ≤ d) (d1 : d < n) (z : t d = 0) (r : RCH P la (-1) d) (e : EDG P la d c) : LPC P la h (zup t d 1) (zup k m d) (m + 1) n c (d + 1) := by
  obtain ⟨⟨w1, w2⟩, w3, w4, w5, w6⟩ := w
  have nh : d ≠ h := fun q => by rw [q] at z; exact w4.1 z
  have dm := w5.pred w6 r e
  refine ⟨⟨fun a a0 a1 s => ?_, fun i i0 i1 => ?_⟩, fun a a0 a1 s ne => ?_, ⟨zupne w4.1, w4.2⟩, w5, w6⟩
  · by_cases u : a = d
    · rw [u]; exact dm
    · rw [zup_ne _ _ u] at s; exact w1 a a0 a1 s
  · by_cases u : i = m
    · rw [u, zup_eq]; exact ⟨d0, d1, nh, by rw [zup_eq]; decide⟩
    · rw [zup_ne _ _ u]
      have v := w2 i i0 (by omega)
      exact ⟨v.1, v.2.1, v.2.2.1, zupne v.2.2.2⟩
  · by_cases u : a = d
    · exact Or.inl ⟨m, m0, by omega, by rw [zup_eq, u]⟩
    · rw [zup_ne _ _ u] at s
      rcases w3 a a0 a1 s ne with ⟨i, i0, i1, i2⟩ | v | ⟨v, y⟩
      · exact Or.inl ⟨i, i0, by omega, by rw [zup_ne _ _ (by omega)]; exact i2⟩
      · exact Or.inr (Or.inl (fun p p0 p1 r e => zupne (v p p0 p1 r e)))
      · refine Or.inr (Or.inr ⟨v, fun p p0 p1 r e => ?_⟩)
        by_cases x : p = d
        · rw [x, zup_eq]; decide
        · exact zupne (y p p0 (by omega) r e)
theorem LPC.done (w : LPC P la h t k m n c d) (q : n ≤ d) : LPB P la h t k m n := by
  obtain ⟨w1, w3, w4, w5⟩ := w
  refine ⟨w1, fun a a0 a1 s ne => ?_, w4⟩
  rcases w3 a a0 a1 s ne with u | u | ⟨u, v⟩
  · exact Or.inl u
  · exact Or.inr u
  · exact Or.inr (fun p p0 p1 r e => v p p0 (by omega) r e)
theorem LPB.lpx (w : LPB P la h t k m n) (q : m ≤ 0) : LPX P la t h n := ⟨w.2.2, w.1.1, fun b b0 b1 s ne => by
  rcases w.2.1 b b0 b1 s ne with ⟨i, i0, i1, _⟩ | u
  · omega
  · exact u⟩
/-- the first block is in no loop -/
theorem LPX.zero {L : List Nat} {cO : ClassId} (w : LPX P la t h n) (cd : CDK L P cO la) (e : ENE P la) (z : n = P.lz la) (n1 : 0 < n) : t 0 = 0 := Classical.byContradiction fun q => by
  obtain ⟨⟨w0, b, b0, b1, eb, db⟩, w1, w2⟩ := w
  have dm := w1 0 (by omega) n1 q
  by_cases u : h = 0
  · rw [u] at eb
    exact e.1 b b0 (by omega) eb
  · exact dm.2.2 (RCH.zero u)
end LPX9
