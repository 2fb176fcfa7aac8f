theorem RDI.fin2 {bp st bc fg fg' B R B' k u v : Int} {rs fs ek g1 g2 op tg lb gp gp' rs' fs' ek' g1' g2' : Int → Int} (h : RDI bp st bc fg B R rs fs ek g1 g2 op tg lb gp) (s : ¬ st = 0) (g : GPU gp gp') (kc : bp < 0 → k = 2 ∨ (0 ≤ gp' u ∧ 0 ≤ gp' v)) (e : bp < 0 → BLD B' R rs' fs' ek' g1' g2' 60 ∧ B' = B + 1 ∧ rs' B' = R ∧ ek' = zup ek B k ∧ g1' = zup g1 B u ∧ g2' = zup g2 B v) : RDI bp 0 bc fg' B' R rs' fs' ek' g1' g2' op tg lb gp' := fun q => RDI.fin h s g (kc q) e q
theorem RDI.bld {bp st bc fg B R : Int} {rs fs ek g1 g2 op tg lb gp : Int → Int} (h : RDI bp st bc fg B R rs fs ek g1 g2 op tg lb gp) (s : ¬ st = 0) : bp < 0 → BLD B R rs fs ek g1 g2 60 ∧ B < 60 := fun q => by
  obtain ⟨h1, h2, h3, h4, h5, h6, h7, h8⟩ := h q
  have := h5 s
  exact ⟨h1, by omega⟩
/-- goals have been looked at: they are blocks -/
theorem RDI.hg {bp bc fg B R : Int} {rs fs ek g1 g2 op tg lb gp : Int → Int} (h : RDI bp 0 bc fg B R rs fs ek g1 g2 op tg lb gp) (q : bp < 0) (r1 : ∀ x : Int, 0 ≤ lb x ∧ lb x ≤ 1) (c : ∀ x : Int, 0 ≤ x → x < 60 → 0 ≤ gp x → ¬ x = 0 ∧ (¬ lb x = 0 ∨ x < bc)) : ∀ b : Int, 0 ≤ b → b < B → ¬ ek b = 2 → (0 ≤ g1 b ∧ g1 b < B) ∧ (0 ≤ g2 b ∧ g2 b < B) := by
  obtain ⟨h1, h2, h3, h4, h5, h6, h7, h8⟩ := h q
  have e := h4 rfl
  intro b b0 b1 k
  have m := h1.2.2.2.2.2 b b0 b1 k
  have p := h7 b b0 b1 k
  have w : ∀ x : Int, 0 ≤ x → x < 60 → 0 ≤ gp x → x < B := by
    intro x a a1 y
    rcases (c x a a1 y).2 with z | z
    · have := h6 x a a1 (by have := r1 x; omega); omega
    · omega
  exact ⟨⟨m.1.1, w _ m.1.1 m.1.2 p.1⟩, ⟨m.2.1, w _ m.2.1 m.2.2 p.2⟩⟩
