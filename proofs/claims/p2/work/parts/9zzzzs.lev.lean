/-- what a colour or a new number makes of an operand -/
def RNV (x z : Int) : Prop := z = x ∨ (isg x ∧ 4294967295 ≤ z ∧ z ≤ 4294968319)
theorem RNE.put {a w : Int → Int} {k v : Int} (h : RNE a w) (r : RNV (w k) v) : RNE a (zup w k v) := fun i => by
  by_cases e : i = k
  · rw [e, zup_eq]
    rcases r with q | q
    · rw [q]; exact h k
    · rcases h k with z | z
      · rw [z] at q; exact Or.inr q
      · exact Or.inr ⟨z.1, q.2⟩
  · rw [zup_ne _ _ e]; exact h i
theorem ARF.renamed {B : Int} {fs ps pr as ar ar' : Int → Int} (v : ARF B fs ps pr as ar) (e : RNE ar ar') : ARF B fs ps pr as ar' := fun q x p x0 x1 sl => by
  have w := v q x p x0 x1 sl
  rcases e q with z | z
  · rw [z]; exact w
  · omega
/-- moves that wait have an operand -/
def MVN (mf : Int → Int) (n : Int) : Prop := ∀ i : Int, 0 ≤ i → i < n → ¬ mf i = 1099511627776
theorem MVN.zero (mf : Int → Int) : MVN mf 0 := fun i a b => by omega
theorem MVN.add {mf : Int → Int} {n x : Int} (h : MVN mf n) (c : ¬ x = 1099511627776) : MVN (zup mf n x) (n + 1) := fun i a b => by
  by_cases e : i = n
  · rw [e, zup_eq]; exact c
  · rw [zup_ne _ _ e]; exact h i a (by omega)
theorem MVN.set {mf : Int → Int} {n k x : Int} (h : MVN mf n) (c : ¬ x = 1099511627776) : MVN (zup mf k x) n := fun i a b => by
  by_cases e : i = k
  · rw [e, zup_eq]; exact c
  · rw [zup_ne _ _ e]; exact h i a b
theorem ENF.zero (ek eu g1 g2 : Int → Int) : ENF ek eu g1 g2 0 := fun i a b => by omega
theorem ENF.close {ek eu g1 g2 : Int → Int} {B k x u v : Int} (h : ENF ek eu g1 g2 B) (c : EOK k x u v) (g : k = 2 ∨ (1 ≤ u ∧ 1 ≤ v)) : ENF (zup ek B k) (zup eu B x) (zup g1 B u) (zup g2 B v) (B + 1) := fun i a b => by
  by_cases e : i = B
  · rw [e, zup_eq, zup_eq, zup_eq, zup_eq]; exact ⟨c.1, c.2, fun n => by omega⟩
  · rw [zup_ne _ _ e, zup_ne _ _ e, zup_ne _ _ e, zup_ne _ _ e]; exact h i a (by omega)
theorem ENF.set1 {ek eu g1 g2 : Int → Int} {B p v : Int} (h : ENF ek eu g1 g2 B) (n : ¬ ek p = 0) (g : 1 ≤ v) : ENF ek eu (zup g1 p v) g2 B := fun i a b => by
  by_cases e : i = p
  · rw [e, zup_eq]; rw [e] at a b; exact ⟨fun z => absurd z n, (h p a b).2.1, fun z => ⟨g, ((h p a b).2.2 z).2⟩⟩
  · rw [zup_ne _ _ e]; exact h i a b
theorem ENF.set2 {ek eu g1 g2 : Int → Int} {B p v : Int} (h : ENF ek eu g1 g2 B) (n : ¬ ek p = 0) (g : 1 ≤ v) : ENF ek eu g1 (zup g2 p v) B := fun i a b => by
  by_cases e : i = p
  · rw [e, zup_eq]; rw [e] at a b; exact ⟨fun z => absurd z n, (h p a b).2.1, fun z => ⟨((h p a b).2.2 z).1, g⟩⟩
  · rw [zup_ne _ _ e]; exact h i a b
theorem gc2 {ek eu g1 g2 : Int → Int} {B b : Int} (h : ENF ek eu g1 g2 B) (b0 : 0 ≤ b) (b1 : b < B) (c : gcF ek g1 g2 b = 2) : ¬ ek b = 0 := fun e => by
  have q := (h b b0 b1).1 e
  unfold gcF at c
  rw [if_neg (by omega), if_pos q] at c
  omega
theorem PL.ge1 {ek eu g1 g2 ps pr : Int → Int} {B b k : Int} (L : PL ek g1 g2 B ps pr) (h : ENF ek eu g1 g2 B) (b0 : 0 ≤ b) (b1 : b < B) (k0 : ps b ≤ k) (k1 : k < ps (b + 1)) : 1 ≤ b := by
  obtain ⟨⟨p0, p1⟩, i, i0, i1, i2⟩ := L.out b k b0 b1 k0 k1
  have := gl_ge1 h.ge1 p0 p1 i0 i1
  omega
