/-! what dominates what -/
section DOM9
variable {P : PO} {la : Nat} {a b c d u x n : Int}
/-- a stands on every way to b -/
def DOM (P : PO) (la : Nat) (a b : Int) : Prop := RCH P la (-1) a ∧ RCH P la (-1) b ∧ ¬ RCH P la a b
theorem RCH.not (u : Int) : ¬ RCH P la u u := fun h => h (fun b => b ≠ u) (fun w e => w e.symm) (fun _ _ _ _ ne => ne) rfl
theorem RCH.any (h : RCH P la u b) : RCH P la (-1) b ∨ ¬ ∀ p q : Int, EDG P la p q → q ≠ -1 := by
  by_cases w : ∀ p q : Int, EDG P la p q → q ≠ -1
  · exact Or.inl (h _ (fun _ => RCH.zero (by decide)) (fun p q s e _ => s.step e (w p q e)))
  · exact Or.inr w
theorem DOM.refl (h : RCH P la (-1) a) : DOM P la a a := ⟨h, h, RCH.not a⟩
/-- a way to c that doesn't pass x, where a stands on every way to c: it passes a -/
theorem RCH.via (h : RCH P la x c) (k : ¬ RCH P la a c) : RCH P la x a := by
  by_cases w : RCH P la x a
  · exact w
  · exfalso
    have key := h (fun b => RCH P la x b ∧ RCH P la a b) (fun z => ⟨RCH.zero z, by
      by_cases q : a = 0
      · rw [q] at w; exact absurd (RCH.zero z) w
      · exact RCH.zero q⟩) (fun p q s e ne => ⟨s.1.step e ne, by
      by_cases z : q = a
      · rw [z] at e ne; exact absurd (s.1.step e ne) w
      · exact s.2.step e z⟩)
    exact k key.2
theorem DOM.trans (h : DOM P la x a) (k : DOM P la a c) : DOM P la x c := ⟨h.1, k.2.1, fun q => h.2.2 (q.via k.2.2)⟩
theorem DOM.anti (h : DOM P la a b) (k : DOM P la b a) : a = b := Classical.byContradiction fun ne => by
  have key := h.1 (fun c => (∀ S : Int → Prop, (a ≠ 0 → b ≠ 0 → S 0) → (∀ p q : Int, S p → EDG P la p q → q ≠ a → q ≠ b → S q) → S c)) (fun _ => fun S z _ => z (fun w => by
      apply k.2.2; rw [w]; exact RCH.zero (fun e => ne (w.trans e.symm))) (fun w => by
      apply h.2.2; rw [w]; exact RCH.zero (fun e => ne (e.trans w.symm)))) (fun p q s e _ => fun S z st => by
      have ra : RCH P la a p := s (fun y => RCH P la a y) (fun w _ => RCH.zero w) (fun y y' r e1 n1 _ => r.step e1 n1)
      have rb : RCH P la b p := s (fun y => RCH P la b y) (fun _ w => RCH.zero w) (fun y y' r e1 _ n2 => r.step e1 n2)
      refine st p q (s S z st) e (fun w => ?_) (fun w => ?_)
      · apply k.2.2; rw [w] at e; exact rb.step e ne
      · apply h.2.2; rw [w] at e; exact ra.step e (fun y => ne y.symm))
  exact key (fun y => y ≠ a) (fun w _ => fun e => w e.symm) (fun _ _ _ _ n1 _ => n1) rfl
/-- of two that dominate the same one dominates the other -/
theorem DOM.line (h : DOM P la a b) (k : DOM P la d b) : DOM P la a d ∨ DOM P la d a := by
  by_cases w1 : RCH P la a d
  · by_cases w2 : RCH P la d a
    · exfalso
      by_cases ad : a = d
      · rw [ad] at w1; exact RCH.not d w1
      · have key := h.2.1 (fun c => RCH P la a c ∨ RCH P la d c) (fun _ => by
          by_cases q : a = 0
          · exact Or.inr (RCH.zero (fun e => ad (q.trans e.symm)))
          · exact Or.inl (RCH.zero q)) (fun p q s e _ => by
          rcases s with s | s
          · by_cases z : q = a
            · rw [z]; exact Or.inr w2
            · exact Or.inl (s.step e z)
          · by_cases z : q = d
            · rw [z]; exact Or.inl w1
            · exact Or.inr (s.step e z))
        exact key.elim h.2.2 k.2.2
    · exact Or.inr ⟨k.1, h.1, w2⟩
  · exact Or.inl ⟨h.1, k.1, w1⟩
/-- x is in the frontier of a -/
def FRO (P : PO) (la : Nat) (a x : Int) : Prop := RCH P la (-1) a ∧ ¬ (a ≠ x ∧ DOM P la a x) ∧ ∃ p : Int, DOM P la a p ∧ EDG P la p x
/-- where a register lives it has been set by a block that dominates, or a PHI stands there -/
theorem naming {LIV PHI SET : Int → Prop} (ok : ∀ p q : Int, EDG P la p q → q ≠ -1)
    (hz : LIV 0 → SET 0) (hp : ∀ b : Int, PHI b → SET b) (hl : ∀ p q : Int, RCH P la (-1) p → EDG P la p q → LIV q → SET p ∨ LIV p) (hf : ∀ p q : Int, SET p → FRO P la p q → LIV q → PHI q) (h : RCH P la (-1) b) : LIV b → PHI b ∨ (b = 0 ∧ SET 0) ∨ ∃ d : Int, SET d ∧ DOM P la d b ∧ d ≠ b := by
  have key := h (fun c => RCH P la (-1) c ∧ (LIV c → PHI c ∨ (c = 0 ∧ SET 0) ∨ ∃ d : Int, SET d ∧ DOM P la d c ∧ d ≠ c)) (fun _ => ⟨RCH.zero (by decide), fun w => Or.inr (Or.inl ⟨rfl, hz w⟩)⟩) (fun p q s e ne => by
    have rq : RCH P la (-1) q := s.1.step e ne
    refine ⟨rq, fun w => ?_⟩
    have dd : ∃ d : Int, SET d ∧ DOM P la d p := by
      rcases hl p q s.1 e w with k | k
      · exact ⟨p, k, DOM.refl s.1⟩
      · rcases s.2 k with k | ⟨k1, k2⟩ | ⟨d, k1, k2, _⟩
        · exact ⟨p, hp p k, DOM.refl s.1⟩
        · exact ⟨p, by rw [k1]; exact k2, DOM.refl s.1⟩
        · exact ⟨d, k1, k2⟩
    obtain ⟨d, d1, d2⟩ := dd
    by_cases z : d ≠ q ∧ DOM P la d q
    · exact Or.inr (Or.inr ⟨d, d1, z.2, z.1⟩)
    · exact Or.inl (hf d q d1 ⟨d2.1, z, p, d2, e⟩ w))
  exact key.2
/-- the parent in the tree of dominators: the nearest -/
def IDM (P : PO) (la : Nat) (a b : Int) : Prop := DOM P la a b ∧ a ≠ b ∧ ∀ c : Int, DOM P la c b → c ≠ b → ¬ (DOM P la a c ∧ a ≠ c)
theorem IDM.above (h : IDM P la a b) (k : DOM P la d b) (ne : d ≠ b) : DOM P la d a := by
  rcases h.1.line k with w | w
  · by_cases z : a = d
    · rw [z]; exact DOM.refl k.1
    · exact absurd ⟨w, z⟩ (h.2.2 d k ne)
  · exact w
end DOM9
