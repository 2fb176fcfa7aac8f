/-- a row that a text can have -/
def ROK (o x y : Int) : Prop := 0 ≤ o ∧ (o = 1 → ¬ isg x ∧ ¬ isg y) ∧ (o = 0 → ¬ x = 1099511627776)
theorem RWF.zero (op lf rt : Int → Int) : RWF op lf rt 0 := fun i a b => by omega
theorem RWF.add {op lf rt : Int → Int} {R o x y : Int} (h : RWF op lf rt R) (k : ROK o x y) : RWF (zup op R o) (zup lf R x) (zup rt R y) (R + 1) := fun i a b => by
  by_cases e : i = R
  · rw [e, zup_eq, zup_eq, zup_eq]; exact k
  · rw [zup_ne _ _ e, zup_ne _ _ e, zup_ne _ _ e]; exact h i a (by omega)
/-- JUMPs go to one block, IFs have an operand -/
def EN0 (ek eu g1 g2 : Int → Int) (B : Int) : Prop := ∀ b : Int, 0 ≤ b → b < B → (ek b = 0 → g1 b = g2 b) ∧ (ek b = 1 → ¬ eu b = 1099511627776)
def EOK (k x u v : Int) : Prop := (k = 0 → u = v) ∧ (k = 1 → ¬ x = 1099511627776)
theorem EN0.zero (ek eu g1 g2 : Int → Int) : EN0 ek eu g1 g2 0 := fun i a b => by omega
theorem EN0.close {ek eu g1 g2 : Int → Int} {B k x u v : Int} (h : EN0 ek eu g1 g2 B) (c : EOK k x u v) : EN0 (zup ek B k) (zup eu B x) (zup g1 B u) (zup g2 B v) (B + 1) := fun i a b => by
  by_cases e : i = B
  · rw [e, zup_eq, zup_eq, zup_eq, zup_eq]; exact c
  · rw [zup_ne _ _ e, zup_ne _ _ e, zup_ne _ _ e, zup_ne _ _ e]; exact h i a (by omega)
/-- what is kept of a text that has broken no rule: operands -/
def RDE (bp st od ro B R : Int) (ek eu g1 g2 op lf rt : Int → Int) : Prop := bp < 0 → EN0 ek eu g1 g2 B ∧ RWF op lf rt R ∧ (st = 5 ∨ st = 6 ∨ st = 10 ∨ st = 11 → ¬ od = 1099511627776) ∧ (st = 6 → 3 ≤ ro)
theorem RDE.init (bp od ro : Int) (ek eu g1 g2 op lf rt : Int → Int) : RDE bp 0 od ro 0 0 ek eu g1 g2 op lf rt := fun _ => ⟨EN0.zero _ _ _ _, RWF.zero _ _ _, fun z => by omega, fun z => by omega⟩
theorem RDE.go {bp st od ro B R bp' st' od' ro' R' : Int} {ek eu g1 g2 op lf rt op' lf' rt' : Int → Int} (h : RDE bp st od ro B R ek eu g1 g2 op lf rt) (e : bp' < 0 → bp < 0 ∧ RWF op' lf' rt' R') (s : bp' < 0 → (st' = 5 ∨ st' = 6 ∨ st' = 10 ∨ st' = 11 → ¬ od' = 1099511627776) ∧ (st' = 6 → 3 ≤ ro')) : RDE bp' st' od' ro' B R' ek eu g1 g2 op' lf' rt' := fun q => by
  obtain ⟨q1, q2⟩ := e q
  exact ⟨(h q1).1, q2, s q⟩
theorem RDE.fin {bp st od ro B R B' k x u v od' ro' : Int} {ek eu g1 g2 op lf rt ek' eu' g1' g2' : Int → Int} (h : RDE bp st od ro B R ek eu g1 g2 op lf rt) (c : bp < 0 → EOK k x u v) (e : bp < 0 → B' = B + 1 ∧ ek' = zup ek B k ∧ g1' = zup g1 B u ∧ g2' = zup g2 B v ∧ eu' = zup eu B x) : RDE bp 0 od' ro' B' R ek' eu' g1' g2' op lf rt := fun q => by
  obtain ⟨e1, e2, e3, e4, e5⟩ := e q
  rw [e1, e2, e3, e4, e5]
  exact ⟨(h q).1.close (c q), (h q).2.1, fun z => by omega, fun z => by omega⟩
theorem EN0.enf {ek eu g1 g2 : Int → Int} {B : Int} (h : EN0 ek eu g1 g2 B) (g : ∀ b : Int, 0 ≤ b → b < B → ¬ ek b = 2 → 1 ≤ g1 b ∧ 1 ≤ g2 b) : ENF ek eu g1 g2 B := fun b a c => ⟨(h b a c).1, (h b a c).2, g b a c⟩
/-- goals have been looked at: none is the first block -/
theorem RDI.hg1 {bp bc fg B R : Int} {rs fs ek g1 g2 op tg lb gp : Int → Int} (h : RDI bp 0 bc fg B R rs fs ek g1 g2 op tg lb gp) (q : bp < 0) (c : ∀ x : Int, 0 ≤ x → x < 60 → 0 ≤ gp x → ¬ x = 0 ∧ (¬ lb x = 0 ∨ x < bc)) : ∀ b : Int, 0 ≤ b → b < B → ¬ ek b = 2 → 1 ≤ g1 b ∧ 1 ≤ g2 b := by
  obtain ⟨h1, h2, h3, h4, h5, h6, h7, h8⟩ := h q
  intro b b0 b1 k
  have m := h1.2.2.2.2.2 b b0 b1 k
  have p := h7 b b0 b1 k
  have w1 := (c _ m.1.1 m.1.2 p.1).1
  have w2 := (c _ m.2.1 m.2.2 p.2).1
  omega
