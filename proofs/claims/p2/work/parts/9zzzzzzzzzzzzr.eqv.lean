/-! registers that are replaced: SSA stays SSA -/
/-- from x one comes to y by what stands instead -/
def CHQ (rp br bb : Int → Int) (x y : Int) : Prop := ∀ S : Int → Prop, S x → (∀ u : Int, S u → rp u ≠ 0 → br u ≠ 0 → S (bb u)) → S y
/-- why v may be replaced by the register that stands instead -/
def RSN (P : PO) (la : Nat) (rp br bb : Int → Int) (v : Int) : Prop := (∃ b j : Int, 0 ≤ b ∧ b < P.lz la ∧ 0 ≤ j ∧ j < P.lz (P.br (P.el la b)) ∧ rSets (P.ro (P.el (P.br (P.el la b)) j)) ≠ 0 ∧ P.rt (P.el (P.br (P.el la b)) j) = v ∧ rUsA (P.ro (P.el (P.br (P.el la b)) j)) (P.rA (P.el (P.br (P.el la b)) j)) ≠ 0 ∧ CHQ rp br bb (P.ra (P.el (P.br (P.el la b)) j)) (bb v)) ∨ (∃ b j d k : Int, 0 ≤ b ∧ b < P.lz la ∧ 0 ≤ j ∧ j < P.lz (P.br (P.el la b)) ∧ rSets (P.ro (P.el (P.br (P.el la b)) j)) ≠ 0 ∧ P.rt (P.el (P.br (P.el la b)) j) = v ∧ (0 ≤ d ∧ d < P.lz la ∧ 0 ≤ k ∧ k < P.lz (P.br (P.el la d))) ∧ rSets (P.ro (P.el (P.br (P.el la d)) k)) ≠ 0 ∧ P.rt (P.el (P.br (P.el la d)) k) = bb v ∧ ((d = b ∧ k < j) ∨ (DOM P la d b ∧ d ≠ b))) ∨ (∃ b j i : Int, 0 ≤ b ∧ b < P.lz la ∧ 0 ≤ j ∧ j < P.lz (P.bp (P.el la b)) ∧ P.pt (P.el (P.bp (P.el la b)) j) = v ∧ 0 ≤ i ∧ i < j ∧ P.pt (P.el (P.bp (P.el la b)) i) = bb v) ∨ ∃ b j : Int, 0 ≤ b ∧ b < P.lz la ∧ 0 ≤ j ∧ j < P.lz (P.bp (P.el la b)) ∧ P.pt (P.el (P.bp (P.el la b)) j) = v ∧ ∀ i : Int, 0 ≤ i → i < P.pn (P.el (P.bp (P.el la b)) j) → P.ia (P.pr (P.el (P.bp (P.el la b)) j)) i ≠ 0 ∧ (P.ia (P.pu (P.el (P.bp (P.el la b)) j)) i = v ∨ P.ia (P.pu (P.el (P.bp (P.el la b)) j)) i = bb v)
def RPS (P : PO) (la : Nat) (rp br bb : Int → Int) : Prop := ∀ v : Int, 0 ≤ v → v ≤ 1001 → rp v ≠ 0 → br v ≠ 0 → RSN P la rp br bb v
/-- registers that are set are numbers up to 1001 -/
def SRG (P : PO) (la : Nat) : Prop := ∀ v : Int, SETR P la v → 0 ≤ v ∧ v ≤ 1001
/-- the structure, and what is set, are as they were -/
def STQ (L : List Nat) (P Q : PO) : Prop := (Q.2.1 = P.2.1 ∧ Q.2.2.1 = P.2.2.1 ∧ ∀ l : Nat, P.kd l = 30 → Q.lz l = P.lz l) ∧ (∀ z : Nat, z ∈ L → P.kd z = 17 → Q.ro z = P.ro z ∧ Q.rt z = P.rt z) ∧ (∀ z : Nat, z ∈ L → P.kd z = 15 → Q.pt z = P.pt z ∧ Q.pn z = P.pn z ∧ Q.ia (P.pp z) = P.ia (P.pp z)) ∧ ∀ z : Nat, z ∈ L → P.kd z = 12 → Q.bf z = P.bf z ∧ Q.bs z = P.bs z
/-- what is used now came from what was used, by what stands instead -/
def OPR9 (L : List Nat) (P Q : PO) (rp br bb : Int → Int) : Prop := (∀ z : Nat, z ∈ L → P.kd z = 17 → (Q.rA z ≠ 0 → P.rA z ≠ 0 ∧ CHQ rp br bb (P.ra z) (Q.ra z)) ∧ (Q.rB z ≠ 0 → P.rB z ≠ 0 ∧ CHQ rp br bb (P.rb z) (Q.rb z))) ∧ ∀ z : Nat, z ∈ L → P.kd z = 15 → ∀ i : Int, 0 ≤ i → i < P.pn z → Q.ia (P.pr z) i ≠ 0 → P.ia (P.pr z) i ≠ 0 ∧ CHQ rp br bb (P.ia (P.pu z) i) (Q.ia (P.pu z) i)
section EQV9
variable {L : List Nat} {P Q : PO} {cO cI cZ : ClassId} {ed x la : Nat} {A : Int → Int → Prop} {rp br bb rp' br' bb' : Int → Int} {b c d j k p r u v w y z : Int}
theorem CHQ.refl (rp br bb : Int → Int) (x : Int) : CHQ rp br bb x x := fun _ h _ => h
theorem CHQ.trans (h : CHQ rp br bb u v) (g : CHQ rp br bb v w) : CHQ rp br bb u w := fun S s c => g S (h S s c) c
theorem CHQ.step (h : CHQ rp br bb u v) (a : rp v ≠ 0) (e : br v ≠ 0) : CHQ rp br bb u (bb v) := fun S s c => c v (h S s c) a e
theorem CHQ.cases (h : CHQ rp br bb u v) : u = v ∨ (rp u ≠ 0 ∧ br u ≠ 0 ∧ CHQ rp br bb (bb u) v) := by
  refine h (fun y => u = y ∨ (rp u ≠ 0 ∧ br u ≠ 0 ∧ CHQ rp br bb (bb u) y)) (Or.inl rfl) (fun y s a e => ?_)
  rcases s with s | s
  · rw [← s] at a e ⊢
    exact Or.inr ⟨a, e, CHQ.refl _ _ _ _⟩
  · exact Or.inr ⟨s.1, s.2.1, s.2.2.step a e⟩
def GRW9 (rp br bb rp' br' bb' : Int → Int) : Prop := ∀ u : Int, rp u ≠ 0 → rp' u ≠ 0 ∧ br' u = br u ∧ bb' u = bb u
theorem CHQ.mono (h : CHQ rp br bb u v) (g : GRW9 rp br bb rp' br' bb') : CHQ rp' br' bb' u v := fun S s c => h S s (fun y q a e => by
  obtain ⟨g1, g2, g3⟩ := g y a
  rw [← g3]; exact c y q g1 (by rw [g2]; exact e))
theorem RSN.mono (h : RSN P la rp br bb v) (g : GRW9 rp br bb rp' br' bb') (e : bb' v = bb v) : RSN P la rp' br' bb' v := by
  rcases h with ⟨b, j, h1, h2, h3, h4, h5, h6, h7, h8⟩ | h | h | h
  · exact Or.inl ⟨b, j, h1, h2, h3, h4, h5, h6, h7, by rw [e]; exact h8.mono g⟩
  · refine Or.inr (Or.inl ?_); rw [e]; exact h
  · refine Or.inr (Or.inr (Or.inl ?_)); rw [e]; exact h
  · refine Or.inr (Or.inr (Or.inr ?_)); rw [e]; exact h
theorem EDG.way (e : EDG P la p b) : P.ro (P.be (P.el la p)) ≠ 32 ∧ (P.bf (P.el la p) = b ∨ (P.ro (P.be (P.el la p)) ≠ 30 ∧ P.bs (P.el la p) = b)) := by
  obtain ⟨k, k0, k1, k2⟩ := e
  have s := rWays_spec (P.ro (P.be (P.el la p))) (P.bf (P.el la p)) (P.bs (P.el la p))
  have t := rWay_spec (P.bf (P.el la p)) (P.bs (P.el la p)) k
  constructor
  · omega
  · by_cases q : k = 0
    · exact Or.inl (by omega)
    · exact Or.inr ⟨by omega, by omega⟩
/-- a witness of what stands instead: v has been set where b begins, or where a block stands before it, or b has a PHI of it -/
def CVB (P : PO) (la : Nat) (A : Int → Int → Prop) (rp br bb : Int → Int) (v b : Int) : Prop := A v b ∨ (∃ d : Int, 0 ≤ d ∧ d < P.lz la ∧ SIB P la d v ∧ DOM P la d b ∧ d ≠ b) ∨ ∃ j t : Int, 0 ≤ j ∧ j < P.lz (P.bp (P.el la b)) ∧ P.pt (P.el (P.bp (P.el la b)) j) = t ∧ rp t ≠ 0 ∧ br t ≠ 0 ∧ bb t = v ∧ ∀ i : Int, 0 ≤ i → i < P.pn (P.el (P.bp (P.el la b)) j) → P.ia (P.pr (P.el (P.bp (P.el la b)) j)) i ≠ 0 ∧ (P.ia (P.pu (P.el (P.bp (P.el la b)) j)) i = t ∨ P.ia (P.pu (P.el (P.bp (P.el la b)) j)) i = v)
def BWB (P : PO) (la : Nat) (A : Int → Int → Prop) (rp br bb : Int → Int) (w b : Int) : Prop := ∃ v : Int, CHQ rp br bb v w ∧ CVB P la A rp br bb v b
theorem ALP.srg (a : ALP L P cO cI cZ ed la) : SRG P la := fun v s => by
  rcases s with ⟨b, k, b0, b1, k0, k1, e⟩ | ⟨b, k, b0, b1, k0, k1, o, e⟩
  · have kx := a.kphi b0 b1 k0 k1
    have q := (a.pik kx.1 kx.2).2.2.2.2.2.1
    omega
  · have kx := a.krow b0 b1 k0 k1
    have q := (a.rok kx.1 kx.2).2.1
    omega
theorem eqv_phi (vr : SRG P la) (sg : SNG P la) (rs : RPS P la rp br bb) (b0 : 0 ≤ b) (b1 : b < P.lz la) : ∀ (m : Nat) (j v w : Int), 0 ≤ j → j ≤ m → j < P.lz (P.bp (P.el la b)) → P.pt (P.el (P.bp (P.el la b)) j) = v → CHQ rp br bb v w → BWB P la A rp br bb w b ∨ SPH P la b w := by
  intro m
  induction m with
  | zero =>
    intro j v w j0 jm j1 e h
    rcases h.cases with q | ⟨a, f, g⟩
    · exact Or.inr ⟨j, j0, j1, by rw [e, q]⟩
    · have hs := vr v (Or.inl ⟨b, j, b0, b1, j0, j1, e⟩)
      rcases rs v hs.1 hs.2 a f with ⟨b', j', h1, h2, h3, h4, h5, h6, _⟩ | ⟨b', j', d, k, h1, h2, h3, h4, h5, h6, _⟩ | ⟨b', j', i, h1, h2, h3, h4, h5, h6, h7, h8⟩ | ⟨b', j', h1, h2, h3, h4, h5, h6⟩
      · exact absurd (e.trans h6.symm) (sg.2.2 b b' j j' b0 b1 h1 h2 j0 j1 h3 h4 h5)
      · exact absurd (e.trans h6.symm) (sg.2.2 b b' j j' b0 b1 h1 h2 j0 j1 h3 h4 h5)
      · have q := sg.1 b b' j j' b0 b1 h1 h2 j0 j1 h3 h4 (e.trans h5.symm)
        omega
      · have q := sg.1 b b' j j' b0 b1 h1 h2 j0 j1 h3 h4 (e.trans h5.symm)
        rw [← q.1, ← q.2] at h6
        exact Or.inl ⟨bb v, g, Or.inr (Or.inr ⟨j, v, j0, j1, e, a, f, rfl, h6⟩)⟩
  | succ m ih =>
    intro j v w j0 jm j1 e h
    rcases h.cases with q | ⟨a, f, g⟩
    · exact Or.inr ⟨j, j0, j1, by rw [e, q]⟩
    · have hs := vr v (Or.inl ⟨b, j, b0, b1, j0, j1, e⟩)
      rcases rs v hs.1 hs.2 a f with ⟨b', j', h1, h2, h3, h4, h5, h6, _⟩ | ⟨b', j', d, k, h1, h2, h3, h4, h5, h6, _⟩ | ⟨b', j', i, h1, h2, h3, h4, h5, h6, h7, h8⟩ | ⟨b', j', h1, h2, h3, h4, h5, h6⟩
      · exact absurd (e.trans h6.symm) (sg.2.2 b b' j j' b0 b1 h1 h2 j0 j1 h3 h4 h5)
      · exact absurd (e.trans h6.symm) (sg.2.2 b b' j j' b0 b1 h1 h2 j0 j1 h3 h4 h5)
      · have q := sg.1 b b' j j' b0 b1 h1 h2 j0 j1 h3 h4 (e.trans h5.symm)
        rw [← q.1] at h8
        exact ih i (bb v) w h6 (by omega) (by omega) h8 g
      · have q := sg.1 b b' j j' b0 b1 h1 h2 j0 j1 h3 h4 (e.trans h5.symm)
        rw [← q.1, ← q.2] at h6
        exact Or.inl ⟨bb v, g, Or.inr (Or.inr ⟨j, v, j0, j1, e, a, f, rfl, h6⟩)⟩
theorem SPH.eqv (s : SPH P la b v) (vr : SRG P la) (sg : SNG P la) (rs : RPS P la rp br bb) (b0 : 0 ≤ b) (b1 : b < P.lz la) (h : CHQ rp br bb v w) : BWB P la A rp br bb w b ∨ SPH P la b w := by
  obtain ⟨j, j0, j1, e⟩ := s
  exact eqv_phi vr sg rs b0 b1 j.toNat j v w j0 (by omega) j1 e h
theorem eqv_row (vr : SRG P la) (sg : SNG P la) (rs : RPS P la rp br bb) (uu : AVU P la A) (b0 : 0 ≤ b) (b1 : b < P.lz la) : ∀ (m : Nat) (j v w : Int), 0 ≤ j → j < m → j < P.lz (P.br (P.el la b)) → rSets (P.ro (P.el (P.br (P.el la b)) j)) ≠ 0 → P.rt (P.el (P.br (P.el la b)) j) = v → CHQ rp br bb v w → BWB P la A rp br bb w b ∨ SPH P la b w ∨ SRW P la b (j + 1) w := by
  intro m
  induction m with
  | zero => intro j v w j0 jm; omega
  | succ m ih =>
    intro j v w j0 jm j1 o e h
    rcases h.cases with q | ⟨a, f, g⟩
    · exact Or.inr (Or.inr ⟨j, j0, by omega, j1, o, by rw [e, q]⟩)
    · have hs := vr v (Or.inr ⟨b, j, b0, b1, j0, j1, o, e⟩)
      rcases rs v hs.1 hs.2 a f with ⟨b', j', h1, h2, h3, h4, h5, h6, h7, h8⟩ | ⟨b', j', d, k, h1, h2, h3, h4, h5, h6, h7, h8, h9, h10⟩ | ⟨b', j', i, h1, h2, h3, h4, h5, h6, _⟩ | ⟨b', j', h1, h2, h3, h4, h5, _⟩
      · have q := sg.2.1 b b' j j' b0 b1 h1 h2 j0 j1 h3 h4 o h5 (e.trans h6.symm)
        rw [← q.1, ← q.2] at h7 h8
        have ow := h8.trans g
        rcases ((uu b b0 b1).2.1 j j0 j1).1.resolve_left h7 with s | s | ⟨k, k0, kj, k1, o2, e2⟩
        · exact Or.inl ⟨_, ow, Or.inl s⟩
        · rcases s.eqv (A := A) vr sg rs b0 b1 ow with t | t
          · exact Or.inl t
          · exact Or.inr (Or.inl t)
        · rcases ih k _ w k0 (by omega) k1 o2 e2 ow with t | t | t
          · exact Or.inl t
          · exact Or.inr (Or.inl t)
          · exact Or.inr (Or.inr (t.mono (by omega)))
      · have q := sg.2.1 b b' j j' b0 b1 h1 h2 j0 j1 h3 h4 o h5 (e.trans h6.symm)
        rcases h10 with t | t
        · rw [t.1, ← q.1] at h8 h9 h7
          rcases ih k (bb v) w h7.2.2.1 (by omega) h7.2.2.2 h8 h9 g with s | s | s
          · exact Or.inl s
          · exact Or.inr (Or.inl s)
          · exact Or.inr (Or.inr (s.mono (by omega)))
        · rw [← q.1] at t
          exact Or.inl ⟨bb v, g, Or.inr (Or.inl ⟨d, h7.1, h7.2.1, Or.inr ⟨k, h7.2.2.1, h7.2.2.2, h7.2.2.2, h8, h9⟩, t.1, t.2⟩)⟩
      · exact absurd (h5.trans e.symm) (sg.2.2 b' b j' j h1 h2 b0 b1 h3 h4 j0 j1 o)
      · exact absurd (h5.trans e.symm) (sg.2.2 b' b j' j h1 h2 b0 b1 h3 h4 j0 j1 o)
theorem SRW.eqv (s : SRW P la b d v) (vr : SRG P la) (sg : SNG P la) (rs : RPS P la rp br bb) (uu : AVU P la A) (b0 : 0 ≤ b) (b1 : b < P.lz la) (h : CHQ rp br bb v w) : BWB P la A rp br bb w b ∨ SPH P la b w ∨ SRW P la b d w := by
  obtain ⟨j, j0, jd, j1, o, e⟩ := s
  rcases eqv_row vr sg rs uu b0 b1 (j + 1).toNat j v w j0 (by omega) j1 o e h with t | t | t
  · exact Or.inl t
  · exact Or.inr (Or.inl t)
  · exact Or.inr (Or.inr (t.mono (by omega)))
theorem SIB.eqv (s : SIB P la b v) (vr : SRG P la) (sg : SNG P la) (rs : RPS P la rp br bb) (uu : AVU P la A) (b0 : 0 ≤ b) (b1 : b < P.lz la) (h : CHQ rp br bb v w) : BWB P la A rp br bb w b ∨ SIB P la b w := by
  rcases s with s | s
  · rcases s.eqv (A := A) vr sg rs b0 b1 h with t | t
    · exact Or.inl t
    · exact Or.inr (Or.inl t)
  · rcases s.eqv vr sg rs uu b0 b1 h with t | t | t
    · exact Or.inl t
    · exact Or.inr (Or.inl t)
    · exact Or.inr (Or.inr t)
/-- what stands instead has been set wherever a way leads -/
theorem BWB.pred (h : BWB P la A rp br bb w b) (ww : AVW P la A) (uu : AVU P la A) (vr : SRG P la) (sg : SNG P la) (rs : RPS P la rp br bb) (cm : CMP P la) (n : ALR P la) (p0 : 0 ≤ p) (p1 : p < P.lz la) (b0 : 0 ≤ b) (b1 : b < P.lz la) (e : EDG P la p b) : BWB P la A rp br bb w p ∨ SIB P la p w := by
  obtain ⟨v, hv, c⟩ := h
  rcases c with c | ⟨d, d0, d1, s, dm, ne⟩ | ⟨j, t, j0, j1, et, a, f, eb, al⟩
  · rcases ww.2 v p b p0 p1 e c with s | s
    · exact Or.inl ⟨v, hv, Or.inl s⟩
    · exact s.eqv vr sg rs uu p0 p1 hv
  · by_cases q : p = d
    · rw [← q] at s
      exact s.eqv vr sg rs uu p0 p1 hv
    · exact Or.inl ⟨v, hv, Or.inr (Or.inl ⟨d, d0, d1, s, dm.pred (fun q => ne q.symm) (n p p0 p1) e, fun q2 => q q2.symm⟩)⟩
  · have wy := e.way
    obtain ⟨i, i0, i1, i2⟩ := cm.2.2 p b p0 p1 b0 b1 wy.1 wy.2 j j0 j1
    have q := al i i0 i1
    have ut := ((uu b b0 b1).1 j j0 j1 i i0 i1).resolve_left q.1
    rw [i2] at ut
    have tw : CHQ rp br bb t w := ((CHQ.refl rp br bb t).step a f).trans (by rw [eb]; exact hv)
    rcases q.2 with q | q
    · rw [q] at ut
      rcases ut with s | s
      · exact Or.inl ⟨t, tw, Or.inl s⟩
      · exact s.eqv vr sg rs uu p0 p1 tw
    · rw [q] at ut
      rcases ut with s | s
      · exact Or.inl ⟨v, hv, Or.inl s⟩
      · exact s.eqv vr sg rs uu p0 p1 hv
theorem BWB.zero (h : BWB P la A rp br bb w 0) (ww : AVW P la A) (cm : CMP P la) : False := by
  obtain ⟨v, hv, c⟩ := h
  rcases c with c | ⟨d, d0, d1, s, dm, ne⟩ | ⟨j, t, j0, j1, _⟩
  · exact ww.1 v c
  · exact dm.2.2 (RCH.zero ne)
  · have := cm.1
    omega
/-! the same structure -/
theorem STQ.el (s : STQ L P Q) (l : Nat) (k : Int) : Q.el l k = P.el l k := by unfold PO.el PO.oa PO.le; rw [s.1.1, s.1.2.1]
theorem STQ.bp (s : STQ L P Q) (x : Nat) : Q.bp x = P.bp x := by unfold PO.bp; rw [s.1.1]
theorem STQ.brq (s : STQ L P Q) (x : Nat) : Q.br x = P.br x := by unfold PO.br; rw [s.1.1]
theorem STQ.be (s : STQ L P Q) (x : Nat) : Q.be x = P.be x := by unfold PO.be; rw [s.1.1]
theorem STQ.pp (s : STQ L P Q) (x : Nat) : Q.pp x = P.pp x := by unfold PO.pp; rw [s.1.1]
theorem STQ.pu (s : STQ L P Q) (x : Nat) : Q.pu x = P.pu x := by unfold PO.pu; rw [s.1.1]
theorem STQ.pr (s : STQ L P Q) (x : Nat) : Q.pr x = P.pr x := by unfold PO.pr; rw [s.1.1]
theorem STQ.lzp (s : STQ L P Q) (a : ALP L P cO cI cZ ed la) (b0 : 0 ≤ b) (b1 : b < P.lz la) : Q.lz (Q.bp (Q.el la b)) = P.lz (P.bp (P.el la b)) := by rw [s.el, s.bp]; exact s.1.2.2 _ (a.inb ⟨b, b0, b1, rfl⟩).2.2.1.2.1
theorem STQ.lzr (s : STQ L P Q) (a : ALP L P cO cI cZ ed la) (b0 : 0 ≤ b) (b1 : b < P.lz la) : Q.lz (Q.br (Q.el la b)) = P.lz (P.br (P.el la b)) := by rw [s.el, s.brq]; exact s.1.2.2 _ (a.inb ⟨b, b0, b1, rfl⟩).2.1.2.1
theorem STQ.lza (s : STQ L P Q) (a : ALP L P cO cI cZ ed la) : Q.lz la = P.lz la := s.1.2.2 _ a.lok.2.1
theorem STQ.phi (s : STQ L P Q) (a : ALP L P cO cI cZ ed la) (b0 : 0 ≤ b) (b1 : b < P.lz la) (k0 : 0 ≤ k) (k1 : k < P.lz (P.bp (P.el la b))) : Q.el (Q.bp (Q.el la b)) k = P.el (P.bp (P.el la b)) k ∧ Q.pt (P.el (P.bp (P.el la b)) k) = P.pt (P.el (P.bp (P.el la b)) k) ∧ Q.pn (P.el (P.bp (P.el la b)) k) = P.pn (P.el (P.bp (P.el la b)) k) ∧ Q.ia (P.pp (P.el (P.bp (P.el la b)) k)) = P.ia (P.pp (P.el (P.bp (P.el la b)) k)) := by
  have kx := a.kphi b0 b1 k0 k1
  exact ⟨by rw [s.el la, s.bp, s.el], s.2.2.1 _ kx.1 kx.2⟩
theorem STQ.row (s : STQ L P Q) (a : ALP L P cO cI cZ ed la) (b0 : 0 ≤ b) (b1 : b < P.lz la) (k0 : 0 ≤ k) (k1 : k < P.lz (P.br (P.el la b))) : Q.el (Q.br (Q.el la b)) k = P.el (P.br (P.el la b)) k ∧ Q.ro (P.el (P.br (P.el la b)) k) = P.ro (P.el (P.br (P.el la b)) k) ∧ Q.rt (P.el (P.br (P.el la b)) k) = P.rt (P.el (P.br (P.el la b)) k) := by
  have kx := a.krow b0 b1 k0 k1
  exact ⟨by rw [s.el la, s.brq, s.el], s.2.1 _ kx.1 kx.2⟩
theorem STQ.sph (s : STQ L P Q) (a : ALP L P cO cI cZ ed la) (b0 : 0 ≤ b) (b1 : b < P.lz la) (h : SPH P la b r) : SPH Q la b r := by
  obtain ⟨k, k0, k1, e⟩ := h
  have q := s.phi a b0 b1 k0 k1
  exact ⟨k, k0, by rw [s.lzp a b0 b1]; exact k1, by rw [q.1, q.2.1]; exact e⟩
theorem STQ.srw (s : STQ L P Q) (a : ALP L P cO cI cZ ed la) (b0 : 0 ≤ b) (b1 : b < P.lz la) (h : SRW P la b j r) : SRW Q la b j r := by
  obtain ⟨k, k0, kj, k1, o, e⟩ := h
  have q := s.row a b0 b1 k0 k1
  exact ⟨k, k0, kj, by rw [s.lzr a b0 b1]; exact k1, by rw [q.1, q.2.1]; exact o, by rw [q.1, q.2.2]; exact e⟩
theorem STQ.sib (s : STQ L P Q) (a : ALP L P cO cI cZ ed la) (b0 : 0 ≤ b) (b1 : b < P.lz la) (h : SIB P la b r) : SIB Q la b r := by
  rcases h with h | h
  · exact Or.inl (s.sph a b0 b1 h)
  · refine Or.inr ?_
    rw [s.lzr a b0 b1]; exact s.srw a b0 b1 h
theorem STQ.edy (s : STQ L P Q) (a : ALP L P cO cI cZ ed la) : EDY P Q la := ⟨s.lza a, fun b b0 b1 c => by
  have bk := (a.inb ⟨b, b0, b1, rfl⟩).1
  have e := a.kend b0 b1
  have f := s.2.2.2 _ bk.1 bk.2
  have o := (s.2.1 _ e.1 e.2.1).1
  unfold EDG
  rw [s.el, s.be, o, f.1, f.2]⟩
theorem AVL.eqv (h : AVL P la) (s : STQ L P Q) (o : OPR9 L P Q rp br bb) (rs : RPS P la rp br bb) (sg : SNG P la) (cm : CMP P la) (n : ALR P la) (a : ALP L P cO cI cZ ed la) : AVL Q la := by
  obtain ⟨A, ww, uu⟩ := h
  have z := s.lza a
  have vr := a.srg
  have ed9 := s.edy a
  refine ⟨BWB P la A rp br bb, ⟨fun w q => q.zero ww cm, fun w p b p0 p1 e q => ?_⟩, fun b b0 b1 => ?_⟩
  · rw [z] at p1
    have e' := (ed9.2 p p0 p1 b).mp e
    have rg := EDG.rng a p0 p1 e'
    exact (q.pred ww uu vr sg rs cm n p0 p1 rg.1 rg.2 e').imp id (fun t => s.sib a p0 p1 t)
  · rw [z] at b1
    obtain ⟨u1, u2, u3⟩ := uu b b0 b1
    have av : ∀ (d v w : Int), AVT P la A b d v → CHQ rp br bb v w → AVT Q la (BWB P la A rp br bb) b d w := fun d v w q hc => by
      rcases q with q | q | q
      · exact Or.inl ⟨v, hc, Or.inl q⟩
      · rcases q.eqv (A := A) vr sg rs b0 b1 hc with t | t
        · exact Or.inl t
        · exact Or.inr (Or.inl (s.sph a b0 b1 t))
      · rcases q.eqv vr sg rs uu b0 b1 hc with t | t | t
        · exact Or.inl t
        · exact Or.inr (Or.inl (s.sph a b0 b1 t))
        · exact Or.inr (Or.inr (s.srw a b0 b1 t))
    have ur : ∀ (d : Int) (x : Nat), x ∈ L → P.kd x = 17 → URA P la A b d x → URA Q la (BWB P la A rp br bb) b d x := fun d x mx kx q => by
      have o1 := o.1 x mx kx
      have f := (s.2.1 x mx kx).1
      unfold URA
      rw [f]
      have ua := rUsA_spec (P.ro x) (Q.rA x)
      have ua' := rUsA_spec (P.ro x) (P.rA x)
      have ub := rUsB_spec (P.ro x) (Q.rB x)
      have ub' := rUsB_spec (P.ro x) (P.rB x)
      constructor
      · by_cases t : rUsA (P.ro x) (Q.rA x) = 0
        · exact Or.inl t
        · have y := o1.1 (by omega)
          exact Or.inr (av d _ _ (q.1.resolve_left (by have := y.1; omega)) y.2)
      · by_cases t : rUsB (P.ro x) (Q.rB x) = 0
        · exact Or.inl t
        · have y := o1.2 (by omega)
          exact Or.inr (av d _ _ (q.2.resolve_left (by have := y.1; omega)) y.2)
    rw [s.lzp a b0 b1, s.lzr a b0 b1]
    refine ⟨fun k k0 k1 i i0 i1 => ?_, fun k k0 k1 => ?_, ?_⟩
    · have q := s.phi a b0 b1 k0 k1
      have kx := a.kphi b0 b1 k0 k1
      have ee := (a.pik kx.1 kx.2).2.2.2.2.2.2
      rw [q.1] at i1 ⊢
      rw [q.2.2.1] at i1
      rw [s.pr, s.pu, s.pp, q.2.2.2]
      by_cases t : Q.ia (P.pr (P.el (P.bp (P.el la b)) k)) i = 0
      · exact Or.inl t
      · have y := o.2 _ kx.1 kx.2 i i0 i1 t
        have pb := a.2.2.1 _ ⟨b, b0, b1, rfl⟩ k k0 k1 i i0 i1
        have p0 := (ee i i0 i1).1.1
        refine Or.inr ?_
        rcases (u1 k k0 k1 i i0 i1).resolve_left y.1 with x | x
        · exact Or.inl ⟨_, y.2, Or.inl x⟩
        · exact (x.eqv vr sg rs uu p0 pb y.2).imp id (fun t => s.sib a p0 pb t)
    · have q := s.row a b0 b1 k0 k1
      have kx := a.krow b0 b1 k0 k1
      rw [q.1]
      exact ur k _ kx.1 kx.2 (u2 k k0 k1)
    · have kx := a.kend b0 b1
      rw [show Q.be (Q.el la b) = P.be (P.el la b) from by rw [s.el, s.be]]
      exact ur _ _ kx.1 kx.2.1 u3
end EQV9
