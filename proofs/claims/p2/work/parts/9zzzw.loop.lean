/-- who comes before a block that h dominates is dominated by h -/
theorem DM.pred {ek g1 g2 : Int → Int} {h p b : Int} (d : DM ek g1 g2 h b) (n : ¬ b = h) (e : ED ek g1 g2 p b) : DM ek g1 g2 h p := fun k r => d (k + 1) (RA.back r e n)
/-- marks of a loop: who is marked is the head, waits on the stack, is being looked at, or has all PREDs marked -/
def FLB (ek g1 g2 : Int → Int) (B : Int) (ps pr iL st : Int → Int) (h dp o i : Int) : Prop := (∀ x : Int, 0 ≤ x → x < B → iL x = 1 → x = h ∨ (∃ j : Int, 0 ≤ j ∧ j < dp ∧ st j = x) ∨ (x = o ∧ ∀ k : Int, ps x ≤ k → k < i → iL (pr k) = 1) ∨ (∀ k : Int, ps x ≤ k → k < ps (x + 1) → iL (pr k) = 1)) ∧ (∀ x : Int, 0 ≤ x → x < B → iL x = 1 → DM ek g1 g2 h x) ∧ (∀ j : Int, 0 ≤ j → j < dp → (0 ≤ st j ∧ st j < B) ∧ iL (st j) = 1 ∧ ¬ st j = h)
theorem FLB.pop {ek g1 g2 ps pr iL st : Int → Int} {B h dp i : Int} (f : FLB ek g1 g2 B ps pr iL st h dp (-1) i) (d0 : 0 < dp) : FLB ek g1 g2 B ps pr iL st h (dp - 1) (st (dp - 1)) (ps (st (dp - 1))) := ⟨fun x x0 x1 e => by
  rcases f.1 x x0 x1 e with q | ⟨j, j0, j1, j2⟩ | q | q
  · exact Or.inl q
  · by_cases c : j = dp - 1
    · rw [← c, j2]; exact Or.inr (Or.inr (Or.inl ⟨rfl, fun k a b => by omega⟩))
    · exact Or.inr (Or.inl ⟨j, j0, by omega, j2⟩)
  · omega
  · exact Or.inr (Or.inr (Or.inr q)), f.2.1, fun j a b => f.2.2 j a (by omega)⟩
theorem FLB.skip {ek g1 g2 ps pr iL st : Int → Int} {B h dp o i : Int} (f : FLB ek g1 g2 B ps pr iL st h dp o i) (e : iL (pr i) = 1) : FLB ek g1 g2 B ps pr iL st h dp o (i + 1) := ⟨fun x x0 x1 w => by
  rcases f.1 x x0 x1 w with q | q | q | q
  · exact Or.inl q
  · exact Or.inr (Or.inl q)
  · exact Or.inr (Or.inr (Or.inl ⟨q.1, fun k a b => by
      by_cases c : k = i
      · rw [c]; exact e
      · exact q.2 k a (by omega)⟩))
  · exact Or.inr (Or.inr (Or.inr q)), f.2⟩
theorem FLB.push {ek g1 g2 ps pr iL st : Int → Int} {B h dp o i p : Int} (f : FLB ek g1 g2 B ps pr iL st h dp o i) (ep : pr i = p) (p0 : 0 ≤ p) (p1 : p < B) (n : ¬ iL p = 1) (ih : iL h = 1) (d0 : 0 ≤ dp) (dm : DM ek g1 g2 h p) : FLB ek g1 g2 B ps pr (zup iL p 1) (zup st dp p) h (dp + 1) o (i + 1) := by
  have up : ∀ x : Int, iL x = 1 → zup iL p 1 x = 1 := fun x z => by unfold zup; split; rfl; exact z
  refine ⟨fun x x0 x1 w => ?_, fun x x0 x1 w => ?_, fun j a b => ?_⟩
  · by_cases c : x = p
    · rw [c]; exact Or.inr (Or.inl ⟨dp, d0, by omega, zup_eq _ _ _⟩)
    · rw [zup_ne _ _ c] at w
      rcases f.1 x x0 x1 w with q | ⟨j, j0, j1, j2⟩ | q | q
      · exact Or.inl q
      · exact Or.inr (Or.inl ⟨j, j0, by omega, by rw [zup_ne _ _ (by omega)]; exact j2⟩)
      · exact Or.inr (Or.inr (Or.inl ⟨q.1, fun k a b => by
          by_cases z : k = i
          · rw [z, ep, zup_eq]
          · exact up _ (q.2 k a (by omega))⟩))
      · exact Or.inr (Or.inr (Or.inr (fun k a b => up _ (q k a b))))
  · by_cases c : x = p
    · rw [c]; exact dm
    · rw [zup_ne _ _ c] at w; exact f.2.1 x x0 x1 w
  · by_cases c : j = dp
    · rw [c, zup_eq, zup_eq]; exact ⟨⟨p0, p1⟩, rfl, fun z => n (by rw [z]; exact ih)⟩
    · rw [zup_ne _ _ c]
      have q := f.2.2 j a (by omega)
      exact ⟨q.1, up _ q.2.1, q.2.2⟩
theorem FLB.close {ek g1 g2 ps pr iL st : Int → Int} {B h dp o i : Int} (f : FLB ek g1 g2 B ps pr iL st h dp o i) (e : ps (o + 1) ≤ i) (i' : Int) : FLB ek g1 g2 B ps pr iL st h dp (-1) i' := ⟨fun x x0 x1 w => by
  rcases f.1 x x0 x1 w with q | q | q | q
  · exact Or.inl q
  · exact Or.inr (Or.inl q)
  · exact Or.inr (Or.inr (Or.inr (fun k a b => q.2 k a (by rw [q.1] at b; omega))))
  · exact Or.inr (Or.inr (Or.inr q)), f.2⟩
/-- the marks are a loop -/
def LPM (ek g1 g2 : Int → Int) (B : Int) (ps pr iL : Int → Int) (h : Int) : Prop := (∀ x k : Int, 0 ≤ x → x < B → iL x = 1 → ¬ x = h → ps x ≤ k → k < ps (x + 1) → iL (pr k) = 1) ∧ (∀ x : Int, 0 ≤ x → x < B → iL x = 1 → DM ek g1 g2 h x)
theorem FLB.done {ek g1 g2 ps pr iL st : Int → Int} {B h dp i : Int} (f : FLB ek g1 g2 B ps pr iL st h dp (-1) i) (d : dp ≤ 0) : LPM ek g1 g2 B ps pr iL h := ⟨fun x k x0 x1 w n a b => by
  rcases f.1 x x0 x1 w with q | ⟨j, j0, j1, _⟩ | q | q
  · exact absurd q n
  · omega
  · omega
  · exact q k a b, f.2.1⟩
theorem LPM.loop {ek g1 g2 ps pr iL : Int → Int} {B h d : Int} (l : LPM ek g1 g2 B ps pr iL h) (L : PL ek g1 g2 B ps pr) (h0 : 0 < h) (h1 : h < B) (ih : iL h = 1) (o : OPO ps pr iL h (ps (h + 1)) d) (d0 : 0 ≤ d) : LOOP ek g1 g2 B iL h d := by
  refine ⟨ih, fun z => ?_, fun x p x0 x1 p0 p1 w n e => ?_, fun p p0 p1 e => ?_, (o.2 d0).1, ?_⟩
  · exact l.2 0 (by omega) (by omega) z 0 (RA.start 0 (by omega))
  · obtain ⟨k, k0, k1, k2⟩ := L.edge p0 p1 e
    rw [← k2]; exact l.1 x k x0 x1 w n k0 k1
  · obtain ⟨k, k0, k1, k2⟩ := L.edge p0 p1 e
    rw [← k2]; exact o.1 k k0 k1
  · obtain ⟨_, j, j0, j1, j2⟩ := o.2 d0
    have := (L.out h j (by omega) h1 j0 j1).2
    rw [j2] at this; exact this
theorem FLB.any {ek g1 g2 ps pr iL st : Int → Int} {B h dp i : Int} (f : FLB ek g1 g2 B ps pr iL st h dp (-1) i) (i' : Int) : FLB ek g1 g2 B ps pr iL st h dp (-1) i' := ⟨fun x x0 x1 w => by
  rcases f.1 x x0 x1 w with q | q | q | q
  · exact Or.inl q
  · exact Or.inr (Or.inl q)
  · omega
  · exact Or.inr (Or.inr (Or.inr q)), f.2⟩
theorem FLB.init {ek g1 g2 : Int → Int} {B : Int} {ps pr iL st : Int → Int} {h i : Int} (z : ∀ x : Int, 0 ≤ x → x < B → iL x = 0) : FLB ek g1 g2 B ps pr iL st h 0 (-1) i := ⟨fun x a b w => by have := z x a b; omega, fun x a b w => by have := z x a b; omega, fun j a b => by omega⟩
theorem FLB.head {ek g1 g2 ps pr iL st : Int → Int} {B h dp i : Int} (f : FLB ek g1 g2 B ps pr iL st h dp (-1) i) : FLB ek g1 g2 B ps pr (zup iL h 1) st h dp (-1) i := by
  have up : ∀ x : Int, iL x = 1 → zup iL h 1 x = 1 := fun x z => by unfold zup; split; rfl; exact z
  refine ⟨fun x x0 x1 w => ?_, fun x x0 x1 w => ?_, fun j a b => ?_⟩
  · by_cases c : x = h
    · exact Or.inl c
    · rw [zup_ne _ _ c] at w
      rcases f.1 x x0 x1 w with q | q | q | q
      · exact Or.inl q
      · exact Or.inr (Or.inl q)
      · omega
      · exact Or.inr (Or.inr (Or.inr (fun k a b => up _ (q k a b))))
  · by_cases c : x = h
    · rw [c]; exact DM.refl
    · rw [zup_ne _ _ c] at w; exact f.2.1 x x0 x1 w
  · have q := f.2.2 j a b
    exact ⟨q.1, up _ q.2.1, q.2.2⟩
theorem LPM.none {ek g1 g2 ps pr iL : Int → Int} {B h : Int} (z : ∀ x : Int, 0 ≤ x → x < B → iL x = 0) : LPM ek g1 g2 B ps pr iL h := ⟨fun x k x0 x1 w => by have := z x x0 x1; omega, fun x x0 x1 w => by have := z x x0 x1; omega⟩
