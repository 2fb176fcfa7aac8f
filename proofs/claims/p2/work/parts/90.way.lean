/-- what the flags of a ROW say -/
def RFL (v l r t : Int) : Prop := (v % 2 = 1 → 4294967296 ≤ l ∧ l < 1099511627776) ∧ (v / 2 % 2 = 1 → 4294967296 ≤ r ∧ r < 1099511627776) ∧ (4 ≤ v → 0 ≤ t)
def FLt (v t : Int) : Prop := 4 ≤ v → 0 ≤ t
def FLl (v l : Int) : Prop := v % 2 = 1 → 4294967296 ≤ l ∧ l < 1099511627776
theorem zI_and1 {a : Int} (h0 : 0 ≤ a) (h1 : a ≤ 7) : zI a &&& 1 = zI (a % 2) := by
  rcases (show a = 0 ∨ a = 1 ∨ a = 2 ∨ a = 3 ∨ a = 4 ∨ a = 5 ∨ a = 6 ∨ a = 7 by omega) with rfl | rfl | rfl | rfl | rfl | rfl | rfl | rfl <;> decide
theorem zI_and2 {a : Int} (h0 : 0 ≤ a) (h1 : a ≤ 7) : zI a &&& 2 = zI (a / 2 % 2 * 2) := by
  rcases (show a = 0 ∨ a = 1 ∨ a = 2 ∨ a = 3 ∨ a = 4 ∨ a = 5 ∨ a = 6 ∨ a = 7 by omega) with rfl | rfl | rfl | rfl | rfl | rfl | rfl | rfl <;> decide
theorem zI_and4 {a : Int} (h0 : 0 ≤ a) (h1 : a ≤ 7) : zI a &&& 4 = zI (a / 4 % 2 * 4) := by
  rcases (show a = 0 ∨ a = 1 ∨ a = 2 ∨ a = 3 ∨ a = 4 ∨ a = 5 ∨ a = 6 ∨ a = 7 by omega) with rfl | rfl | rfl | rfl | rfl | rfl | rfl | rfl <;> decide
theorem zI_or1 {a : Int} (h : a = 0 ∨ a = 4) : zI a ||| 1 = zI (a + 1) := by
  rcases h with rfl | rfl <;> decide
theorem zI_or2 {a : Int} (h : a = 0 ∨ a = 4 ∨ a = 1 ∨ a = 5) : zI a ||| 2 = zI (a + 2) := by
  rcases h with rfl | rfl | rfl | rfl <;> decide
/-- who has a colour keeps one -/
def CGS (c c' : Int → Int) : Prop := ∀ j : Int, 0 ≤ c j → 0 ≤ c' j
theorem CGS.refl (c : Int → Int) : CGS c c := fun _ h => h
theorem CGS.trans {a b c : Int → Int} (h1 : CGS a b) (h2 : CGS b c) : CGS a c := fun j h => h2 j (h1 j h)
theorem CGS.set (c : Int → Int) {r v : Int} (v0 : 0 ≤ v) : CGS c (zup c r v) := by
  intro j h
  unfold zup; split
  · exact v0
  · exact h
/-- all that block b sets has a colour -/
def BDC (rs fs tg pt c : Int → Int) (b : Int) : Prop := (∀ i : Int, fs b ≤ i → i < fs (b + 1) → 0 ≤ c (pt i)) ∧ (∀ i : Int, rs b ≤ i → i < rs (b + 1) → 0 ≤ tg i → 0 ≤ c (tg i))
theorem BDC.up {rs fs tg pt c c' : Int → Int} {b : Int} (h : BDC rs fs tg pt c b) (g : CGS c c') : BDC rs fs tg pt c' b := ⟨fun i a b => g _ (h.1 i a b), fun i a b t => g _ (h.2 i a b t)⟩
theorem BDC.all {B R P rd : Int} {rs fs tg pt c po id pl od : Int → Int} (mr : MS B R rs) (mf : MS B P fs) (o : OD B po id pl od rd) (all : ∀ b : Int, 0 ≤ b → b < B → 0 ≤ pl b) (h : ∀ n : Int, 0 ≤ n → n < rd → BDC rs fs tg pt c (od n)) : (∀ i : Int, 0 ≤ i → i < R → 0 ≤ tg i → 0 ≤ c (tg i)) ∧ (∀ i : Int, 0 ≤ i → i < P → 0 ≤ c (pt i)) := by
  have w : ∀ x : Int, 0 ≤ x → x < B → BDC rs fs tg pt c x := by
    intro x a b
    have p := all x a b
    have q := o.plc x a b p
    have r := h (pl x) p q.1
    rw [q.2.1] at r; exact r
  refine ⟨fun i a b t => ?_, fun i a b => ?_⟩
  · obtain ⟨x, x0, x1, x2, x3⟩ := mr.at i a b
    exact (w x x0 x1).2 i x2 x3 t
  · obtain ⟨x, x0, x1, x2, x3⟩ := mf.at i a b
    exact (w x x0 x1).1 i x2 x3
/-- targets up to n have their colours, the others are as they were -/
def RCO (t w : Int → Int) (n : Int) : Prop := ∀ i : Int, (0 ≤ i → i < n → 0 ≤ t i → 0 ≤ w i) ∧ (n ≤ i → w i = t i)
theorem RCO.init (t : Int → Int) : RCO t t 0 := fun i => ⟨fun a b => by omega, fun _ => rfl⟩
theorem RCO.skip {t w : Int → Int} {n : Int} (h : RCO t w n) (s : w n < 0) : RCO t w (n + 1) := by
  intro i
  refine ⟨fun a b c => ?_, fun a => (h i).2 (by omega)⟩
  by_cases e : i = n
  · have := (h i).2 (by omega); rw [e] at this c; omega
  · exact (h i).1 a (by omega) c
theorem RCO.set {t w : Int → Int} {n v : Int} (h : RCO t w n) (v0 : 0 ≤ v) : RCO t (zup w n v) (n + 1) := by
  intro i
  refine ⟨fun a b c => ?_, fun a => ?_⟩
  · unfold zup; split
    · exact v0
    · exact (h i).1 a (by omega) c
  · rw [zup_ne _ _ (by omega)]; exact (h i).2 (by omega)
