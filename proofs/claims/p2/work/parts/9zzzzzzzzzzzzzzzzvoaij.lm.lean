/-! places for blocks and for the ways of IFs that may still be split: by loops (two lead to the goal) or by toPlain (the goal has PHIs, though one leads there) -/
section TOX9
variable {L L' : List Nat} {P Q R : PO} {cO cI cZ : ClassId} {ed la : Nat} {b c d n p q y : Int}
/-- an IF leads from p to c, and another block does so too, or c has PHIs -/
def IFX (P : PO) (la : Nat) (p c : Int) : Prop := (0 ≤ p ∧ p < P.lz la) ∧ P.ro (P.be (P.el la p)) = 31 ∧ EDG P la p c ∧ (MPR P la c ∨ 0 < P.lz (P.bp (P.el la c)))
/-- blocks, and such ways, have places of their own among 180 -/
def TOX (P : PO) (la : Nat) : Prop := ∃ (e : Int → Int) (g : Int → Int → Int), (∀ b : Int, 0 ≤ b → b < P.lz la → 0 ≤ e b ∧ e b < 180) ∧ (∀ p c : Int, IFX P la p c → 0 ≤ g p c ∧ g p c < 180) ∧ (∀ b c : Int, 0 ≤ b → b < c → c < P.lz la → e b ≠ e c) ∧ (∀ p c q d : Int, IFX P la p c → IFX P la q d → g p c = g q d → p = q ∧ c = d) ∧ ∀ b p c : Int, 0 ≤ b → b < P.lz la → IFX P la p c → e b ≠ g p c
theorem IFW.ifx (w : IFW P la p c) : IFX P la p c := ⟨w.1, w.2.1, w.2.2.1, Or.inl w.2.2.2⟩
theorem TOX.tok (k : TOX P la) : TOK P la := by
  obtain ⟨e, g, k1, k2, k3, k4, k5⟩ := k
  exact ⟨e, g, k1, fun p c w => k2 p c w.ifx, k3, fun p c q d w v => k4 p c q d w.ifx v.ifx, fun b p c b0 b1 w => k5 b p c b0 b1 w.ifx⟩
theorem TOX.len (k : TOX P la) : P.lz la ≤ 180 := k.tok.len
/-- whatever way it came about: places for fewer ways -/
theorem TOX.of (k : TOX P la) (z : Q.lz la = P.lz la) (f : ∀ p c : Int, IFX Q la p c → IFX P la p c) : TOX Q la := by
  obtain ⟨e, g, k1, k2, k3, k4, k5⟩ := k
  exact ⟨e, g, fun b b0 b1 => k1 b b0 (by omega), fun p c w => k2 p c (f p c w), fun b c b0 bc c1 => k3 b c b0 bc (by omega), fun p c q d w v => k4 p c q d (f p c w) (f q d v), fun b p c b0 b1 w => k5 b p c b0 (by omega) (f p c w)⟩
/-- ways that two lead to are all that count where no block has PHIs -/
theorem TOK.tox (k : TOK P la) (f : ∀ p c : Int, IFX P la p c → MPR P la c) : TOX P la := by
  obtain ⟨e, g, k1, k2, k3, k4, k5⟩ := k
  have t : ∀ p c : Int, IFX P la p c → IFW P la p c := fun p c w => ⟨w.1, w.2.1, w.2.2.1, f p c w⟩
  exact ⟨e, g, k1, fun p c w => k2 p c (t p c w), k3, fun p c q d w v => k4 p c q d (t p c w) (t q d v), fun b p c b0 b1 w => k5 b p c b0 b1 (t p c w)⟩
/-- PHIs come where two blocks lead to -/
theorem TOX.phs (k : TOX P la) (a : ALP L P cO cI cZ ed la) (e : EDY P Q la) (o : ∀ b : Int, 0 ≤ b → b < P.lz la → Q.ro (Q.be (Q.el la b)) = 31 → P.ro (P.be (P.el la b)) = 31) (f : ∀ c : Int, 0 ≤ c → c < P.lz la → 0 < Q.lz (Q.bp (Q.el la c)) → MPR P la c) : TOX Q la := k.of e.1 (fun p c w => by
  have z := e.1
  have p1 : p < P.lz la := by have t := w.1.2; omega
  refine ⟨⟨w.1.1, p1⟩, o p w.1.1 p1 w.2.1, (e.2 p w.1.1 p1 c).mp w.2.2.1, Or.inl ?_⟩
  rcases w.2.2.2 with m | m
  · obtain ⟨a, b, ha, hb, ne, e1, e2⟩ := m
    have a1 : a < P.lz la := by have t := ha.2; omega
    have b1 : b < P.lz la := by have t := hb.2; omega
    exact ⟨a, b, ⟨ha.1, a1⟩, ⟨hb.1, b1⟩, ne, (e.2 a ha.1 a1 c).mp e1, (e.2 b hb.1 b1 c).mp e2⟩
  · have rc := EDG.rng a w.1.1 p1 ((e.2 p w.1.1 p1 c).mp w.2.2.1)
    exact f c rc.1 rc.2 m)
theorem TOX.wyr (k : TOX P la) (h : WYR P Q la) (aq : ALP L Q cO cI cZ ed la) : TOX Q la := by
  obtain ⟨e, g, k1, k2, k3, k4, k5⟩ := k
  obtain ⟨s, t, h1, h2, h3, h4, h5⟩ := h
  have rg : ∀ p c : Int, IFX Q la p c → 0 ≤ c ∧ c < Q.lz la := fun p c w => EDG.rng aq w.1.1 w.1.2 w.2.2.1
  have up : ∀ p c : Int, IFX Q la p c → IFX P la (t p) (s c) := fun p c w => ⟨(h1 p w.1.1 w.1.2).2, h4 p w.1.1 w.1.2 w.2.1, h3 p c w.1.1 w.1.2 w.2.2.1, by
    rcases w.2.2.2 with m | m
    · exact Or.inl (m.wyr h2 h1 h3)
    · have r := rg p c w
      have z := h5 c r.1 r.2
      exact Or.inr (by omega)⟩
  have ne : ∀ b c : Int, 0 ≤ b → b < Q.lz la → 0 ≤ c → c < Q.lz la → b ≠ c → s b ≠ s c ∧ t b ≠ t c := fun b c b0 b1 c0 c1 y => by
    rcases Int.lt_trichotomy b c with z | z | z
    · exact h2 b c b0 z c1
    · exact absurd z y
    · have w := h2 c b c0 z b1
      exact ⟨fun v => w.1 v.symm, fun v => w.2 v.symm⟩
  refine ⟨fun b => e (s b), fun p c => g (t p) (s c), fun b b0 b1 => ?_, fun p c w => k2 _ _ (up p c w), fun b c b0 bc c1 => ?_, fun p c q d w v y => ?_, fun b p c b0 b1 w => ?_⟩
  · have y := (h1 b b0 b1).1
    exact k1 (s b) (by omega) y.2
  · have yb := (h1 b b0 (by omega)).1
    have yc := (h1 c (by omega) c1).1
    have n := (h2 b c b0 bc c1).1
    rcases Int.lt_trichotomy (s b) (s c) with z | z | z
    · exact k3 _ _ (by omega) z yc.2
    · exact absurd z n
    · exact fun v => k3 _ _ (by omega) z yb.2 v.symm
  · have u := k4 _ _ _ _ (up p c w) (up q d v) y
    have rc := rg p c w
    have rd := rg q d v
    refine ⟨Classical.byContradiction fun z => ?_, Classical.byContradiction fun z => ?_⟩
    · exact (ne p q w.1.1 w.1.2 v.1.1 v.1.2 z).2 u.1
    · exact (ne c d rc.1 rc.2 rd.1 rd.2 z).1 u.2
  · have y := (h1 b b0 b1).1
    exact k5 (s b) (t p) (s c) (by omega) y.2 (up p c w)
theorem SPW.ifx (h : SPW P Q la y b) (a : ALP L P cO cI cZ ed la) (w : IFX Q la p c) : IFX P la p c ∧ ¬ (p = y ∧ c = b) := by
  obtain ⟨⟨p0, p1⟩, o, e, m⟩ := w
  have z := h.1
  have pn : p ≠ P.lz la := fun v => by rw [v] at o; exact h.2.2.2.2.2.1 o
  have cn : c ≠ P.lz la := by
    rcases m with m | m
    · exact (h.mpr a m).1
    · intro v
      have u := h.2.2.2.2.2.2.2
      rw [v] at m
      omega
  have u := h.back p0 p1 cn e
  have eu : spt (P.lz la) y p = p := by unfold spt; rw [if_neg pn]
  rw [eu] at u
  have rc := EDG.rng a u.1.1 u.1.2 u.2.1
  refine ⟨⟨u.1, h.2.2.2.2.1 p p0 u.1.2 o, u.2.1, ?_⟩, u.2.2.1⟩
  rcases m with m | m
  · exact Or.inl (h.mpr a m).2
  · have v := h.2.2.2.2.2.2.1 c rc.1 rc.2
    exact Or.inr (by omega)
theorem TOX.spw (k : TOX P la) (h : SPW P Q la y b) (m : MPR P la b ∨ 0 < P.lz (P.bp (P.el la b))) (a : ALP L P cO cI cZ ed la) : TOX Q la := by
  obtain ⟨e, g, k1, k2, k3, k4, k5⟩ := k
  have z := h.1
  have yb : IFX P la y b := ⟨z.2.1, z.2.2.2.1, z.2.2.2.2, m⟩
  refine ⟨fun c => if c = P.lz la then g y b else e c, g, fun c c0 c1 => ?_, fun p c w => k2 p c (h.ifx a w).1, fun c d c0 cd d1 => ?_, fun p c q d w v u => k4 p c q d (h.ifx a w).1 (h.ifx a v).1 u, fun c p d c0 c1 w => ?_⟩
  · show 0 ≤ (if c = P.lz la then g y b else e c) ∧ (if c = P.lz la then g y b else e c) < 180
    by_cases w : c = P.lz la
    · rw [if_pos w]; exact k2 y b yb
    · rw [if_neg w]; exact k1 c c0 (by omega)
  · show (if c = P.lz la then g y b else e c) ≠ (if d = P.lz la then g y b else e d)
    rw [if_neg (show ¬ c = P.lz la from by omega)]
    by_cases w : d = P.lz la
    · rw [if_pos w]; exact k5 c y b c0 (by omega) yb
    · rw [if_neg w]; exact k3 c d c0 cd (by omega)
  · show (if c = P.lz la then g y b else e c) ≠ g p d
    have v := h.ifx a w
    by_cases u : c = P.lz la
    · rw [if_pos u]
      intro t
      have q := k4 y b p d yb v.1 t
      exact v.2 ⟨q.1.symm, q.2.symm⟩
    · rw [if_neg u]; exact k5 c p d c0 (by omega) v.1
end TOX9
