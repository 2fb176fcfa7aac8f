/-- starts of blocks, those between lo and hi moved by d -/
def RSU (a w : Int → Int) (lo hi d : Int) : Prop := ∀ q : Int, w q = if lo < q ∧ q < hi then a q + d else a q
theorem RSU.init (a : Int → Int) {lo hi d : Int} (l : hi ≤ lo + 1) : RSU a a lo hi d := fun q => by rw [if_neg (by omega)]
theorem RSU.at {a w : Int → Int} {lo hi d : Int} (h : RSU a w lo hi d) : w hi = a hi := by rw [h hi, if_neg (by omega)]
theorem RSU.set {a w : Int → Int} {lo hi d v : Int} (h : RSU a w lo hi d) (l : lo < hi) (e : v = w hi + d) : RSU a (zup w hi v) lo (hi + 1) d := fun q => by
  by_cases c : q = hi
  · rw [c, zup_eq, if_pos (by omega), e, h.at]
  · rw [zup_ne _ _ c, h q]
    by_cases x : lo < q ∧ q < hi
    · rw [if_pos x, if_pos (by omega)]
    · rw [if_neg x, if_neg (by omega)]
theorem MS.mvUp {B R lo hi b : Int} {a w : Int → Int} (h : MS B R a) (r : RSU a w lo hi 1) (l : 0 ≤ lo) (e : hi = b + 1) (b0 : 0 ≤ b) (b1 : b < B) (k : a b < a (b + 1)) : MS B R w := by
  have B0 := h.b0
  refine ⟨B0, ?_, fun x x0 x1 => ?_, ?_⟩
  · rw [r 0, if_neg (by omega)]; exact h.z
  · have m := h.mo x x0 x1
    rw [r x, r (x + 1)]
    by_cases c : x = b
    · rw [c, if_neg (show ¬ (lo < b + 1 ∧ b + 1 < hi) by omega)]; split <;> omega
    · by_cases y : lo < x ∧ x < hi
      · rw [if_pos y, if_pos (by omega)]; omega
      · rw [if_neg y]; split <;> omega
  · rw [r B, if_neg (by omega)]; exact h.e
theorem MS.mvDn {B R lo hi : Int} {a w : Int → Int} (h : MS B R a) (r : RSU a w lo hi (-1)) (l : 0 ≤ lo) (e : hi ≤ B) (b1 : lo < B) (k : a lo < a (lo + 1)) : MS B R w := by
  have B0 := h.b0
  refine ⟨B0, ?_, fun x x0 x1 => ?_, ?_⟩
  · rw [r 0, if_neg (by omega)]; exact h.z
  · have m := h.mo x x0 x1
    rw [r x, r (x + 1)]
    by_cases c : x = lo
    · rw [c, if_neg (show ¬ (lo < lo ∧ lo < hi) by omega)]; split <;> omega
    · by_cases y : lo < x + 1 ∧ x + 1 < hi
      · rw [if_pos y, if_pos (by omega)]; omega
      · rw [if_neg y]; split <;> omega
  · rw [r B, if_neg (by omega)]; exact h.e
theorem HUI.mv {o t : Int → Int} {R sp dp n p i : Int} (h : HUI o t R) (a : 0 ≤ sp) (b : sp + n ≤ R) (i0 : 0 ≤ i) (i1 : i < R) : HUI (zup (cpF o o sp dp n) p (o i)) (zup (cpF t t sp dp n) p (t i)) R := fun j c d e => by
  by_cases q : j = p
  · rw [q, zup_eq] at e; rw [q, zup_eq]; exact h i i0 i1 e
  · rw [zup_ne _ _ q] at e; rw [zup_ne _ _ q]
    unfold cpF at e ⊢
    by_cases w : dp ≤ j ∧ j < dp + n
    · rw [if_pos w] at e ⊢; exact h _ (by omega) (by omega) e
    · rw [if_neg w] at e ⊢; exact h j c d e
/-- a row that can be moved stands in block fb -/
def LSE (i fb B : Int) (rs op : Int → Int) : Prop := 0 ≤ i → (0 ≤ fb ∧ fb < B) ∧ (rs fb ≤ i ∧ i < rs (fb + 1)) ∧ ¬ op i = 2
theorem CGD.moved {B R P na : Int} {rs op tg ek g1 g2 ps pr fs pt as rs' op' tg' : Int → Int} (h : CGD B R P na rs op tg ek g1 g2 ps pr fs pt as) (m : MS B R rs') (u : HUI op' tg' R) : CGD B R P na rs' op' tg' ek g1 g2 ps pr fs pt as :=
  ⟨h.1, m, h.2.2.1, u, h.2.2.2.2⟩
