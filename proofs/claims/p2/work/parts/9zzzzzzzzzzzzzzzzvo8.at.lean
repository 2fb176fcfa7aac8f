/-! PHIs of one register, block by block, and their operands -/
section PHJ9
variable {L L' : List Nat} {Q R R' : PO} {cO cI cZ : ClassId} {ed la x : Nat} {b c d i j k n o p q r y : Int} {lv : Int → Int → Int} {fl : Int → Int}
/-- one PHI more, at the end of block b's list; it is of register o, and no PHI of it stood there -/
theorem PHA.add9 (h : PHA Q R la lv o) (ar : ALP L R cO cI cZ ed la) (aq : ALP L' Q cO cI cZ ed la) (l0 : 0 < Q.lz la) {L2 : List Nat} (ob : OBS L R L2 R') (ul : UNT R R' la) (un : ∀ c : Int, 0 ≤ c → c < Q.lz la → UNT R R' (Q.br (Q.el la c)) ∧ (c ≠ b → UNT R R' (Q.bp (Q.el la c)))) (b0 : 0 < b) (b1 : b < Q.lz la) (z : R'.lz (Q.bp (Q.el la b)) = R.lz (Q.bp (Q.el la b)) + 1) (old : ∀ k : Int, 0 ≤ k → k < R.lz (Q.bp (Q.el la b)) → R'.el (Q.bp (Q.el la b)) k = R.el (Q.bp (Q.el la b)) k) (new : R'.el (Q.bp (Q.el la b)) (R.lz (Q.bp (Q.el la b))) = x) (mx : x ∈ L) (kx : R.kd x = 15) (fr : ∀ c k : Int, 0 ≤ c → c < Q.lz la → 0 ≤ k → k < R.lz (Q.bp (Q.el la c)) → R.el (Q.bp (Q.el la c)) k ≠ x) (pq : PHQ Q R la lv b x) (et : R.pt x = o) (nf : R.lz (Q.bp (Q.el la b)) < 1900) : PHA Q R' la lv o ∧ ∀ c r : Int, 0 ≤ c → c < Q.lz la → (SPH R' la c r ↔ SPH R la c r ∨ (c = b ∧ r = o)) := by
  obtain ⟨s, ⟨h1, h2⟩, ⟨h3, h4⟩, h5⟩ := h
  have zr := s.1
  have nn : ∀ c : Int, 0 ≤ c → c < Q.lz la → 0 ≤ R.lz (Q.bp (Q.el la c)) := fun c c0 c1 => by
    have w := s.2 c c0 c1
    have q := (ar.inb ⟨c, c0, by rw [zr]; exact c1, rfl⟩).2.2.1.2.2.1.1
    rw [w.1, w.2.1.1] at q
    exact q
  have sm : ∀ y : Nat, y ∈ L → R.kd y ≠ 30 → R.kd y ≠ 31 → SM9 y R R' := fun y m a c => (ob y m a c).2
  have bk : ∀ c : Int, 0 ≤ c → c < Q.lz la → Q.el la c ∈ L ∧ R.kd (Q.el la c) = 12 ∧ Q.be (Q.el la c) ∈ L ∧ R.kd (Q.be (Q.el la c)) = 17 := fun c c0 c1 => by
    have w := s.2 c c0 c1
    have ib := ar.inb ⟨c, c0, by rw [zr]; exact c1, rfl⟩
    have ke := ar.kend (i := c) c0 (by rw [zr]; exact c1)
    rw [w.1] at ib
    rw [w.1, w.2.1.2.2.1] at ke
    exact ⟨ib.1.1, ib.1.2, ke.1, ke.2.1⟩
  have rw9 : ∀ c k : Int, 0 ≤ c → c < Q.lz la → 0 ≤ k → k < Q.lz (Q.br (Q.el la c)) → Q.el (Q.br (Q.el la c)) k ∈ L ∧ R.kd (Q.el (Q.br (Q.el la c)) k) = 17 := fun c k c0 c1 k0 k1 => by
    have w := s.2 c c0 c1
    have kr := ar.krow (i := c) (j := k) c0 (by rw [zr]; exact c1) k0 (by rw [w.1, w.2.1.2.1, w.2.2.1.1]; exact k1)
    rw [w.1, w.2.1.2.1, (w.2.2.1.2 k k0 k1).1] at kr
    exact kr
  have ph9 : ∀ c k : Int, 0 ≤ c → c < Q.lz la → 0 ≤ k → k < R.lz (Q.bp (Q.el la c)) → R.el (Q.bp (Q.el la c)) k ∈ L ∧ R.kd (R.el (Q.bp (Q.el la c)) k) = 15 := fun c k c0 c1 k0 k1 => by
    have w := s.2 c c0 c1
    have kr := ar.kphi (i := c) (j := k) c0 (by rw [zr]; exact c1) k0 (by rw [w.1, w.2.1.1]; exact k1)
    rw [w.1, w.2.1.1] at kr
    exact kr
  have pv : ∀ y : Nat, y ∈ L → R.kd y = 15 → PVE R R' y := fun y m k => by
    have g := sm y m (by rw [k]; decide) (by rw [k]; decide)
    have pk := ar.pik m k
    have ga := sm _ pk.2.1.1 (by rw [pk.2.1.2.1]; decide) (by rw [pk.2.1.2.1]; decide)
    have gb := sm _ pk.2.2.1.1 (by rw [pk.2.2.1.2.1]; decide) (by rw [pk.2.2.1.2.1]; decide)
    have gc := sm _ pk.2.2.2.1.1 (by rw [pk.2.2.2.1.2.1]; decide) (by rw [pk.2.2.2.1.2.1]; decide)
    exact ⟨g.1, ⟨g.2.1 1, g.2.1 2, g.2.1 3⟩, ga.2.2.2.1, gb.2.2.2.1, gc.2.2.2.1⟩
  have S' : PHS Q R' la := by
    refine ⟨ul.1.trans zr, fun c c0 c1 => ?_⟩
    have w := s.2 c c0 c1
    have k := bk c c0 c1
    have g := sm _ k.1 (by rw [k.2.1]; decide) (by rw [k.2.1]; decide)
    have ge := sm _ k.2.2.1 (by rw [k.2.2.2]; decide) (by rw [k.2.2.2]; decide)
    have u := (un c c0 c1).1
    refine ⟨(ul.2 c c0 (by rw [zr]; exact c1)).trans w.1, ⟨(g.2.1 1).trans w.2.1.1, (g.2.1 2).trans w.2.1.2.1, (g.2.1 3).trans w.2.1.2.2.1, (g.1 0).trans w.2.1.2.2.2.1, (g.1 1).trans w.2.1.2.2.2.2⟩, ⟨u.1.trans w.2.2.1.1, fun k k0 k1 => ?_⟩, fun f => (ge.1 f).trans (w.2.2.2 f)⟩
    have t := w.2.2.1.2 k k0 k1
    have m := rw9 c k c0 c1 k0 k1
    have gr := sm _ m.1 (by rw [m.2]; decide) (by rw [m.2]; decide)
    exact ⟨(u.2 k k0 (by rw [w.2.2.1.1]; exact k1)).trans t.1, fun f => (gr.1 f).trans (t.2 f)⟩
  have gt : ∀ c k : Int, 0 ≤ c → c < Q.lz la → 0 ≤ k → k < R'.lz (Q.bp (Q.el la c)) → (k < R.lz (Q.bp (Q.el la c)) ∧ R'.el (Q.bp (Q.el la c)) k = R.el (Q.bp (Q.el la c)) k) ∨ (c = b ∧ k = R.lz (Q.bp (Q.el la b)) ∧ R'.el (Q.bp (Q.el la c)) k = x) := fun c k c0 c1 k0 k1 => by
    by_cases e : c = b
    · subst e
      rw [z] at k1
      by_cases t : k = R.lz (Q.bp (Q.el la c))
      · exact Or.inr ⟨rfl, t, by rw [t]; exact new⟩
      · exact Or.inl ⟨by omega, old k k0 (by omega)⟩
    · have u := (un c c0 c1).2 e
      rw [u.1] at k1
      exact Or.inl ⟨k1, u.2 k k0 k1⟩
  have le : ∀ c : Int, 0 ≤ c → c < Q.lz la → R.lz (Q.bp (Q.el la c)) ≤ R'.lz (Q.bp (Q.el la c)) := fun c c0 c1 => by
    by_cases e : c = b
    · subst e; omega
    · rw [((un c c0 c1).2 e).1]; exact Int.le_refl _
  have keep : ∀ c k : Int, 0 ≤ c → c < Q.lz la → 0 ≤ k → k < R.lz (Q.bp (Q.el la c)) → R'.el (Q.bp (Q.el la c)) k = R.el (Q.bp (Q.el la c)) k := fun c k c0 c1 k0 k1 => by
    by_cases e : c = b
    · subst e; exact old k k0 k1
    · exact ((un c c0 c1).2 e).2 k k0 k1
  have sph : ∀ c r : Int, 0 ≤ c → c < Q.lz la → (SPH R' la c r ↔ SPH R la c r ∨ (c = b ∧ r = o)) := fun c r c0 c1 => by
    have w := s.2 c c0 c1
    have w' := S'.2 c c0 c1
    unfold SPH
    rw [w.1, w.2.1.1, w'.1, w'.2.1.1]
    constructor
    · rintro ⟨k, k0, k1, e⟩
      rcases gt c k c0 c1 k0 k1 with ⟨t, u⟩ | ⟨t, u, v⟩
      · have m := ph9 c k c0 c1 k0 t
        rw [u, show R'.pt (R.el (Q.bp (Q.el la c)) k) = R.pt (R.el (Q.bp (Q.el la c)) k) from (pv _ m.1 m.2).1 0] at e
        exact Or.inl ⟨k, k0, t, e⟩
      · rw [v, show R'.pt x = R.pt x from (pv x mx kx).1 0, et] at e
        exact Or.inr ⟨t, e.symm⟩
    · rintro (⟨k, k0, k1, e⟩ | ⟨e, e2⟩)
      · have m := ph9 c k c0 c1 k0 k1
        refine ⟨k, k0, Int.lt_of_lt_of_le k1 (le c c0 c1), ?_⟩
        rw [keep c k c0 c1 k0 k1, show R'.pt (R.el (Q.bp (Q.el la c)) k) = R.pt (R.el (Q.bp (Q.el la c)) k) from (pv _ m.1 m.2).1 0]
        exact e
      · subst e; subst e2
        exact ⟨_, nn c c0 c1, by omega, by rw [new, show R'.pt x = R.pt x from (pv x mx kx).1 0]; exact et⟩
  refine ⟨⟨S', ⟨fun c k c0 c1 k0 k1 => ?_, fun c d j k c0 c1 d0 d1 j0 j1 k0 k1 e => ?_⟩, ⟨?_, fun c c0 c1 => ?_⟩, fun r p q r0 r1 p0 p1 sb f l => ?_⟩, sph⟩
  · rcases gt c k c0 c1 k0 k1 with ⟨t, u⟩ | ⟨t, u, v⟩
    · have m := ph9 c k c0 c1 k0 t
      rw [u]
      exact (h1 c k c0 c1 k0 t).pve (pv _ m.1 m.2)
    · rw [v, t]; exact pq.pve (pv x mx kx)
  · rcases gt c j c0 c1 j0 j1 with ⟨t, u⟩ | ⟨t, u, v⟩
    · rcases gt d k d0 d1 k0 k1 with ⟨t2, u2⟩ | ⟨t2, u2, v2⟩
      · rw [u, u2] at e
        exact h2 c d j k c0 c1 d0 d1 j0 t k0 t2 e
      · rw [u, v2] at e
        exact absurd e (fr c j c0 c1 j0 t)
    · rcases gt d k d0 d1 k0 k1 with ⟨t2, u2⟩ | ⟨t2, u2, v2⟩
      · rw [v, u2] at e
        exact absurd e.symm (fr d k d0 d1 k0 t2)
      · exact ⟨t.trans t2.symm, u.trans u2.symm⟩
  · rw [((un 0 (Int.le_refl 0) l0).2 (by omega)).1]; exact h3
  · by_cases e : c = b
    · subst e; omega
    · rw [((un c c0 c1).2 e).1]; exact h4 c c0 c1
  · have g := FRO.rng9 f aq l0
    have sb2 : SIB R la p r := by
      rcases sb with sb | sb
      · rcases (sph p r p0 p1).mp sb with t | t
        · exact Or.inl t
        · omega
      · exact Or.inr (((s.srw p0 p1).mpr ((S'.srw p0 p1).mp sb)).all)
    exact (sph q r g.1 g.2).mpr (Or.inl (h5 r p q r0 r1 p0 p1 sb2 f l))
/-- no register from o on has a PHI yet, and no block has more than o -/
def NOP9 (Q R : PO) (la : Nat) (o : Int) : Prop := (∀ c r : Int, 0 ≤ c → c < Q.lz la → o ≤ r → ¬ SPH R la c r) ∧ ∀ c : Int, 0 ≤ c → c < Q.lz la → R.lz (Q.bp (Q.el la c)) ≤ o
/-- register o: blocks in front of y have theirs -/
def PHJ (Q R : PO) (la : Nat) (o : Int) (fl : Int → Int) (y : Int) : Prop := (∀ c r : Int, 0 ≤ c → c < Q.lz la → o < r → ¬ SPH R la c r) ∧ (∀ c : Int, 0 ≤ c → c < Q.lz la → (SPH R la c o ↔ (c < y ∧ fl c ≠ 0))) ∧ ∀ c : Int, 0 ≤ c → c < Q.lz la → (c < y → R.lz (Q.bp (Q.el la c)) ≤ o + 1) ∧ (y ≤ c → R.lz (Q.bp (Q.el la c)) ≤ o)
theorem NOP9.first (hq : PLF Q la) : NOP9 Q Q la 0 := ⟨fun c r c0 c1 _ ⟨k, k0, k1, _⟩ => by rw [(hq.1.2 c c0 c1).1] at k1; omega, fun c c0 c1 => by rw [(hq.1.2 c c0 c1).1]; decide⟩
theorem NOP9.phj (h : NOP9 Q R la o) (fl : Int → Int) : PHJ Q R la o fl 0 := ⟨fun c r c0 c1 q => h.1 c r c0 c1 (by omega), fun c c0 c1 => ⟨fun s => absurd s (h.1 c o c0 c1 (Int.le_refl _)), fun s => by omega⟩, fun c c0 c1 => ⟨fun q => by omega, fun _ => h.2 c c0 c1⟩⟩
theorem PHJ.skip (h : PHJ Q R la o fl y) (z : fl y = 0) : PHJ Q R la o fl (y + 1) := ⟨h.1, fun c c0 c1 => (h.2.1 c c0 c1).trans ⟨fun s => ⟨by omega, s.2⟩, fun s => ⟨by by_cases e : c = y; rw [e] at s; exact absurd z s.2; omega, s.2⟩⟩, fun c c0 c1 => ⟨fun q => by
  by_cases e : c = y
  · have := (h.2.2 c c0 c1).2 (by omega); omega
  · exact (h.2.2 c c0 c1).1 (by omega), fun q => (h.2.2 c c0 c1).2 (by omega)⟩⟩
theorem PHJ.put (h : PHJ Q R la o fl y) (z : fl y ≠ 0) (s : ∀ c r : Int, 0 ≤ c → c < Q.lz la → (SPH R' la c r ↔ SPH R la c r ∨ (c = y ∧ r = o))) (n1 : R'.lz (Q.bp (Q.el la y)) = R.lz (Q.bp (Q.el la y)) + 1) (n2 : ∀ c : Int, 0 ≤ c → c < Q.lz la → c ≠ y → R'.lz (Q.bp (Q.el la c)) = R.lz (Q.bp (Q.el la c))) : PHJ Q R' la o fl (y + 1) := ⟨fun c r c0 c1 q w => by
  rcases (s c r c0 c1).mp w with w | w
  · exact h.1 c r c0 c1 q w
  · omega, fun c c0 c1 => (s c o c0 c1).trans ⟨fun w => by
  rcases w with w | w
  · have v := (h.2.1 c c0 c1).mp w; exact ⟨by omega, v.2⟩
  · rw [w.1]; exact ⟨by omega, z⟩, fun w => by
  by_cases e : c = y
  · exact Or.inr ⟨e, rfl⟩
  · exact Or.inl ((h.2.1 c c0 c1).mpr ⟨by omega, w.2⟩)⟩, fun c c0 c1 => by
  have u := h.2.2 c c0 c1
  by_cases e : c = y
  · have v := u.2 (by omega)
    rw [e] at v ⊢
    exact ⟨fun _ => by omega, fun _ => by omega⟩
  · rw [n2 c c0 c1 e]; exact ⟨fun q => u.1 (by omega), fun q => u.2 (by omega)⟩⟩
theorem PHJ.nop (h : PHJ Q R la o fl y) (e : Q.lz la ≤ y) : NOP9 Q R la (o + 1) := ⟨fun c r c0 c1 q => h.1 c r c0 c1 (by omega), fun c c0 c1 => (h.2.2 c c0 c1).1 (by omega)⟩
theorem PHJ.at (h : PHJ Q R la o fl y) (e : Q.lz la ≤ y) (c0 : 0 ≤ c) (c1 : c < Q.lz la) : SPH R la c o ↔ fl c ≠ 0 := (h.2.1 c c0 c1).trans ⟨fun w => w.2, fun w => ⟨by omega, w⟩⟩
theorem NOP9.skip (h : NOP9 Q R la o) : NOP9 Q R la (o + 1) := ⟨fun c r c0 c1 q => h.1 c r c0 c1 (by omega), fun c c0 c1 => by have := h.2 c c0 c1; omega⟩
theorem SPH.fn9 (f : FNE R R' la) (b0 : 0 ≤ b) (b1 : b < R.lz la) : SPH R' la b r ↔ SPH R la b r := by
  obtain ⟨e, ⟨a1, _⟩, ⟨p1, p2⟩, _⟩ := f.2 b b0 b1
  unfold SPH
  rw [e, a1, p1]
  constructor
  · rintro ⟨k, k0, k1, w⟩
    have u := p2 k k0 k1
    rw [u.1, show R'.pt (R.el (R.bp (R.el la b)) k) = R.pt (R.el (R.bp (R.el la b)) k) from u.2.1 0] at w
    exact ⟨k, k0, k1, w⟩
  · rintro ⟨k, k0, k1, w⟩
    have u := p2 k k0 k1
    exact ⟨k, k0, k1, by rw [u.1, show R'.pt (R.el (R.bp (R.el la b)) k) = R.pt (R.el (R.bp (R.el la b)) k) from u.2.1 0]; exact w⟩
theorem PHS.lzp (s : PHS Q R la) (f : FNE R R' la) (c0 : 0 ≤ c) (c1 : c < Q.lz la) : R'.lz (Q.bp (Q.el la c)) = R.lz (Q.bp (Q.el la c)) := by
  have w := s.2 c c0 c1
  have u := f.2 c c0 (by rw [s.1]; exact c1)
  have v := u.2.2.1.1
  rw [w.1, w.2.1.1] at v
  exact v
theorem PHJ.fne (h : PHJ Q R la o fl y) (s : PHS Q R la) (f : FNE R R' la) : PHJ Q R' la o fl y := ⟨fun c r c0 c1 q w => h.1 c r c0 c1 q ((SPH.fn9 f c0 (by rw [s.1]; exact c1)).mp w), fun c c0 c1 => (SPH.fn9 f c0 (by rw [s.1]; exact c1)).trans (h.2.1 c c0 c1), fun c c0 c1 => by rw [s.lzp f c0 c1]; exact h.2.2 c c0 c1⟩
/-- operands of a new PHI: of the first d blocks, those that lead to b -/
def PHW (Q R : PO) (la : Nat) (o b : Int) (x : Nat) (d : Int) : Prop := (R.pt x = o ∧ R.pg x = 0) ∧ (∀ i : Int, 0 ≤ i → i < R.pn x → R.ia (R.pr x) i ≠ 0 ∧ R.ia (R.pu x) i = o ∧ (0 ≤ R.ia (R.pp x) i ∧ R.ia (R.pp x) i < d) ∧ EDG Q la (R.ia (R.pp x) i) b) ∧ (∀ p : Int, 0 ≤ p → p < d → EDG Q la p b → HPP R x p) ∧ (∀ i j : Int, 0 ≤ i → i < j → j < R.pn x → R.ia (R.pp x) i < R.ia (R.pp x) j) ∧ 0 ≤ R.pn x ∧ R.pn x ≤ d
theorem PHW.first (n : R.pn x = 0) (t : R.pt x = o) (g : R.pg x = 0) : PHW Q R la o b x 0 := ⟨⟨t, g⟩, fun i i0 i1 => by omega, fun p p0 p1 => by omega, fun i j i0 ij j1 => by omega, by omega, by omega⟩
theorem PHW.skip (h : PHW Q R la o b x d) (e : ¬ EDG Q la d b) : PHW Q R la o b x (d + 1) := ⟨h.1, fun i i0 i1 => by
  have w := h.2.1 i i0 i1
  exact ⟨w.1, w.2.1, ⟨w.2.2.1.1, by omega⟩, w.2.2.2⟩, fun p p0 p1 w => by
  by_cases q : p = d
  · rw [q] at w; exact absurd w e
  · exact h.2.2.1 p p0 (by omega) w, h.2.2.2.1, h.2.2.2.2.1, by have := h.2.2.2.2.2; omega⟩
theorem PHW.put (h : PHW Q R la o b x d) (e : EDG Q la d b) (d0 : 0 ≤ d) (a : PAE R R' x d o 1) (n : R'.pn x = R.pn x + 1) (t : R'.pt x = R.pt x) (g : R'.pg x = R.pg x) : PHW Q R' la o b x (d + 1) := by
  obtain ⟨⟨h1, h2⟩, h3, h4, h5, h6, h7⟩ := h
  obtain ⟨a1, a2, a3, a4⟩ := a
  refine ⟨⟨t.trans h1, g.trans h2⟩, fun i i0 i1 => ?_, fun p p0 p1 w => ?_, fun i j i0 ij j1 => ?_, by omega, by omega⟩
  · by_cases q : i = R.pn x
    · rw [q, a2, a3, a4]; exact ⟨by decide, rfl, ⟨d0, by omega⟩, e⟩
    · have u := a1 i i0 (by omega)
      have w := h3 i i0 (by omega)
      rw [u.1, u.2.1, u.2.2]; exact ⟨w.1, w.2.1, ⟨w.2.2.1.1, by omega⟩, w.2.2.2⟩
  · by_cases q : p = d
    · exact ⟨R.pn x, h6, by omega, by rw [a2, q]⟩
    · obtain ⟨k, k0, k1, k2⟩ := h4 p p0 (by omega) w
      exact ⟨k, k0, by omega, by rw [(a1 k k0 k1).1]; exact k2⟩
  · have ui := a1 i i0 (by omega)
    rw [ui.1]
    by_cases q : j = R.pn x
    · rw [q, a2]; exact (h3 i i0 (by omega)).2.2.1.2
    · rw [(a1 j (by omega) (by omega)).1]; exact h5 i j i0 ij (by omega)
theorem PHW.phq (h : PHW Q R la o b x d) (n : Q.lz la ≤ d) (o0 : 0 ≤ o) (o1 : o ≤ 1001) (l : lv b o ≠ 0) : PHQ Q R la lv b x := ⟨⟨by rw [h.1.1]; exact o0, by rw [h.1.1]; exact o1, by rw [h.1.1]; exact l, h.1.2⟩, fun i i0 i1 => by
  have w := h.2.1 i i0 i1
  exact ⟨w.1, by rw [h.1.1]; exact w.2.1, w.2.2.2⟩, fun p p0 p1 e => h.2.2.1 p p0 (by omega) e, fun i j i0 ij j1 => by have := h.2.2.2.1 i j i0 ij j1; omega⟩
theorem PHW.prb (h : PHW Q R la o b x d) (n : d ≤ R.lz la) : PRB R x (R.lz la) := fun i i0 i1 => by have w := (h.2.1 i i0 i1).2.2.1.2; omega
end PHJ9
