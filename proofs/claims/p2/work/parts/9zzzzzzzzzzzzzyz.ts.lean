/-! PHIs come, register by register -/
section PHA8
variable {L L' : List Nat} {Q R R' : PO} {cO cI cZ : ClassId} {ed la x : Nat} {b c i j k n o p q r : Int} {lv : Int → Int → Int}
theorem PHS.refl (Q : PO) (la : Nat) : PHS Q Q la := ⟨rfl, fun _ _ _ => ⟨rfl, ⟨rfl, rfl, rfl, rfl, rfl⟩, ⟨rfl, fun _ _ _ => ⟨rfl, fun _ => rfl⟩⟩, fun _ => rfl⟩⟩
theorem PHA.first (hq : PLF Q la) : PHA Q Q la lv 0 := ⟨PHS.refl Q la, ⟨fun b k b0 b1 k0 k1 => by rw [(hq.1.2 b b0 b1).1] at k1; omega, fun b c j k b0 b1 c0 c1 j0 j1 => by rw [(hq.1.2 b b0 b1).1] at j1; omega⟩, ⟨(hq.1.2 0 (Int.le_refl 0) hq.1.1).1, fun b b0 b1 => by rw [(hq.1.2 b b0 b1).1]; decide⟩, fun r p q r0 r1 => by omega⟩
theorem PHA.next (h : PHA Q R la lv o) (c : ∀ p q : Int, 0 ≤ p → p < Q.lz la → SIB R la p o → FRO Q la p q → lv q o ≠ 0 → SPH R la q o) : PHA Q R la lv (o + 1) := ⟨h.1, h.2.1, h.2.2.1, fun r p q r0 r1 p0 p1 s f l => by
  by_cases e : r = o
  · rw [e] at s l ⊢; exact c p q p0 p1 s f l
  · exact h.2.2.2 r p q r0 (by omega) p0 p1 s f l⟩
/-- an operand for each of these, of these registers: what a PHI has when it goes into its list -/
theorem PHS.fne (h : PHS Q R la) (v : FNE R R' la) : PHS Q R' la := ⟨v.1.trans h.1, fun b b0 b1 => by
  have w := h.2 b b0 b1
  obtain ⟨e, g⟩ := v.2 b b0 (by rw [h.1]; exact b1)
  rw [w.1] at e g
  refine ⟨e, ⟨g.1.1.trans w.2.1.1, g.1.2.1.trans w.2.1.2.1, g.1.2.2.1.trans w.2.1.2.2.1, g.1.2.2.2.1.trans w.2.1.2.2.2.1, g.1.2.2.2.2.trans w.2.1.2.2.2.2⟩, ⟨?_, fun k k0 k1 => ?_⟩, fun f => ?_⟩
  · have t := g.2.2.1.1
    rw [w.2.1.2.1] at t
    exact t.trans w.2.2.1.1
  · have t := g.2.2.1.2 k k0 (by rw [w.2.1.2.1, w.2.2.1.1]; exact k1)
    have u := w.2.2.1.2 k k0 k1
    rw [w.2.1.2.1, u.1] at t
    exact ⟨t.1, fun f => (t.2 f).trans (u.2 f)⟩
  · have t := g.2.2.2 f
    rw [w.2.1.2.2.1] at t
    exact t.trans (w.2.2.2 f)⟩
theorem PHQ.pve (h : PHQ Q R la lv b x) (v : PVE R R' x) : PHQ Q R' la lv b x := by
  have et : R'.pt x = R.pt x := v.1 0
  have en : R'.pn x = R.pn x := v.1 1
  have eg : R'.pg x = R.pg x := v.1 2
  unfold PHQ HPP
  rw [et, en, eg, v.2.1.1, v.2.1.2.1, v.2.1.2.2, v.2.2.1, v.2.2.2.1, v.2.2.2.2]
  exact h
theorem FRO.rng9 (f : FRO Q la p q) (aq : ALP L Q cO cI cZ ed la) (l0 : 0 < Q.lz la) : 0 ≤ q ∧ q < Q.lz la := by
  obtain ⟨p9, d9, e9⟩ := f.2.2
  have rg := d9.2.1.rng aq.1.1 (by omega)
  exact EDG.rng aq rg.1 rg.2 e9
theorem PHA.fne (h : PHA Q R la lv o) (v : FNE R R' la) (aq : ALP L Q cO cI cZ ed la) (l0 : 0 < Q.lz la) : PHA Q R' la lv o := by
  obtain ⟨s, ⟨h1, h2⟩, ⟨h3, h4⟩, h5⟩ := h
  have key : ∀ b : Int, 0 ≤ b → b < Q.lz la → R'.lz (Q.bp (Q.el la b)) = R.lz (Q.bp (Q.el la b)) ∧ ∀ k : Int, 0 ≤ k → k < R.lz (Q.bp (Q.el la b)) → R'.el (Q.bp (Q.el la b)) k = R.el (Q.bp (Q.el la b)) k ∧ PVE R R' (R.el (Q.bp (Q.el la b)) k) := fun b b0 b1 => by
    have w := s.2 b b0 b1
    obtain ⟨_, g⟩ := v.2 b b0 (by rw [s.1]; exact b1)
    rw [w.1] at g
    have t := g.2.1
    rw [w.2.1.1] at t
    exact t
  have sib : ∀ p r : Int, 0 ≤ p → p < Q.lz la → SIB R' la p r → SIB R la p r := fun p r p0 p1 q => by
    have w := s.2 p p0 p1
    have w' := (s.fne v).2 p p0 p1
    rcases q with ⟨k, k0, k1, e⟩ | q
    · rw [w'.1, w'.2.1.1, (key p p0 p1).1] at k1
      have t := (key p p0 p1).2 k k0 k1
      rw [w'.1, w'.2.1.1, t.1, show R'.pt (R.el (Q.bp (Q.el la p)) k) = R.pt (R.el (Q.bp (Q.el la p)) k) from t.2.1 0] at e
      exact Or.inl ⟨k, k0, by rw [w.1, w.2.1.1]; exact k1, by rw [w.1, w.2.1.1]; exact e⟩
    · have q2 := ((s.fne v).srw p0 p1).mp q
      exact Or.inr (((s.srw p0 p1).mpr q2).all)
  refine ⟨s.fne v, ⟨fun b k b0 b1 k0 k1 => ?_, fun b c j k b0 b1 c0 c1 j0 j1 k0 k1 e => ?_⟩, ⟨?_, fun b b0 b1 => ?_⟩, fun r p q r0 r1 p0 p1 sb f l => by
    have g := FRO.rng9 f aq l0
    exact (h5 r p q r0 r1 p0 p1 (sib p r p0 p1 sb) f l).fne v g.1 (by rw [s.1]; exact g.2)⟩
  · rw [(key b b0 b1).1] at k1
    have t := (key b b0 b1).2 k k0 k1
    rw [t.1]
    exact (h1 b k b0 b1 k0 k1).pve t.2
  · rw [(key b b0 b1).1] at j1
    rw [(key c c0 c1).1] at k1
    rw [((key b b0 b1).2 j j0 j1).1, ((key c c0 c1).2 k k0 k1).1] at e
    exact h2 b c j k b0 b1 c0 c1 j0 j1 k0 k1 e
  · rw [(key 0 (Int.le_refl 0) l0).1]; exact h3
  · rw [(key b b0 b1).1]; exact h4 b b0 b1
/-- one PHI more, at the end of block b's list; it is of register o, and no PHI of it stood there -/
theorem PHA.add (h : PHA Q R la lv o) (ar : ALP L R cO cI cZ ed la) (aq : ALP L' Q cO cI cZ ed la) (l0 : 0 < Q.lz la) {L2 : List Nat} (ob : OBS L R L2 R') (ul : UNT R R' la) (un : ∀ c : Int, 0 ≤ c → c < Q.lz la → UNT R R' (Q.br (Q.el la c)) ∧ (c ≠ b → UNT R R' (Q.bp (Q.el la c)))) (b0 : 0 < b) (b1 : b < Q.lz la) (z : R'.lz (Q.bp (Q.el la b)) = R.lz (Q.bp (Q.el la b)) + 1) (old : ∀ k : Int, 0 ≤ k → k < R.lz (Q.bp (Q.el la b)) → R'.el (Q.bp (Q.el la b)) k = R.el (Q.bp (Q.el la b)) k) (new : R'.el (Q.bp (Q.el la b)) (R.lz (Q.bp (Q.el la b))) = x) (mx : x ∈ L) (kx : R.kd x = 15) (fr : ∀ c k : Int, 0 ≤ c → c < Q.lz la → 0 ≤ k → k < R.lz (Q.bp (Q.el la c)) → R.el (Q.bp (Q.el la c)) k ≠ x) (pq : PHQ Q R la lv b x) (et : R.pt x = o) (nf : R.lz (Q.bp (Q.el la b)) < 1900) : PHA Q R' la lv o ∧ SPH R' la b o ∧ ∀ c : Int, 0 ≤ c → c < Q.lz la → (SPH R' la c o ↔ SPH R la c o ∨ c = b) := by
  obtain ⟨s, ⟨h1, h2⟩, ⟨h3, h4⟩, h5⟩ := h
  have zr := s.1
  have nn : ∀ c : Int, 0 ≤ c → c < Q.lz la → 0 ≤ R.lz (Q.bp (Q.el la c)) := fun c c0 c1 => by
    have w := s.2 c c0 c1
    have q := (ar.inb ⟨c, c0, by rw [zr]; exact c1, rfl⟩).2.2.1.2.2.1.1
    rw [w.1, w.2.1.1] at q
    exact q
  have sm : ∀ y : Nat, y ∈ L → R.kd y ≠ 30 → R.kd y ≠ 31 → SM9 y R R' := fun y m a c => (ob y m a c).2
  have bk : ∀ c : Int, 0 ≤ c → c < Q.lz la → Q.el la c ∈ L ∧ R.kd (Q.el la c) = 12 ∧ Q.be (Q.el la c) ∈ L ∧ R.kd (Q.be (Q.el la c)) = 17 := fun c c0 c1 => by
    have w := s.2 c c0 c1
    have ib := ar.inb ⟨c, c0, by rw [zr]; exact c1, rfl⟩
    have ke := ar.kend (i := c) c0 (by rw [zr]; exact c1)
    rw [w.1] at ib
    rw [w.1, w.2.1.2.2.1] at ke
    exact ⟨ib.1.1, ib.1.2, ke.1, ke.2.1⟩
  have rw9 : ∀ c k : Int, 0 ≤ c → c < Q.lz la → 0 ≤ k → k < Q.lz (Q.br (Q.el la c)) → Q.el (Q.br (Q.el la c)) k ∈ L ∧ R.kd (Q.el (Q.br (Q.el la c)) k) = 17 := fun c k c0 c1 k0 k1 => by
    have w := s.2 c c0 c1
    have kr := ar.krow (i := c) (j := k) c0 (by rw [zr]; exact c1) k0 (by rw [w.1, w.2.1.2.1, w.2.2.1.1]; exact k1)
    rw [w.1, w.2.1.2.1, (w.2.2.1.2 k k0 k1).1] at kr
    exact kr
  have ph9 : ∀ c k : Int, 0 ≤ c → c < Q.lz la → 0 ≤ k → k < R.lz (Q.bp (Q.el la c)) → R.el (Q.bp (Q.el la c)) k ∈ L ∧ R.kd (R.el (Q.bp (Q.el la c)) k) = 15 := fun c k c0 c1 k0 k1 => by
    have w := s.2 c c0 c1
    have kr := ar.kphi (i := c) (j := k) c0 (by rw [zr]; exact c1) k0 (by rw [w.1, w.2.1.1]; exact k1)
    rw [w.1, w.2.1.1] at kr
    exact kr
  have pv : ∀ y : Nat, y ∈ L → R.kd y = 15 → PVE R R' y := fun y m k => by
    have g := sm y m (by rw [k]; decide) (by rw [k]; decide)
    have pk := ar.pik m k
    have ga := sm _ pk.2.1.1 (by rw [pk.2.1.2.1]; decide) (by rw [pk.2.1.2.1]; decide)
    have gb := sm _ pk.2.2.1.1 (by rw [pk.2.2.1.2.1]; decide) (by rw [pk.2.2.1.2.1]; decide)
    have gc := sm _ pk.2.2.2.1.1 (by rw [pk.2.2.2.1.2.1]; decide) (by rw [pk.2.2.2.1.2.1]; decide)
    exact ⟨g.1, ⟨g.2.1 1, g.2.1 2, g.2.1 3⟩, ga.2.2.2.1, gb.2.2.2.1, gc.2.2.2.1⟩
  have S' : PHS Q R' la := by
    refine ⟨ul.1.trans zr, fun c c0 c1 => ?_⟩
    have w := s.2 c c0 c1
    have k := bk c c0 c1
    have g := sm _ k.1 (by rw [k.2.1]; decide) (by rw [k.2.1]; decide)
    have ge := sm _ k.2.2.1 (by rw [k.2.2.2]; decide) (by rw [k.2.2.2]; decide)
    have u := (un c c0 c1).1
    refine ⟨(ul.2 c c0 (by rw [zr]; exact c1)).trans w.1, ⟨(g.2.1 1).trans w.2.1.1, (g.2.1 2).trans w.2.1.2.1, (g.2.1 3).trans w.2.1.2.2.1, (g.1 0).trans w.2.1.2.2.2.1, (g.1 1).trans w.2.1.2.2.2.2⟩, ⟨u.1.trans w.2.2.1.1, fun k k0 k1 => ?_⟩, fun f => (ge.1 f).trans (w.2.2.2 f)⟩
    have t := w.2.2.1.2 k k0 k1
    have m := rw9 c k c0 c1 k0 k1
    have gr := sm _ m.1 (by rw [m.2]; decide) (by rw [m.2]; decide)
    exact ⟨(u.2 k k0 (by rw [w.2.2.1.1]; exact k1)).trans t.1, fun f => (gr.1 f).trans (t.2 f)⟩
  have gt : ∀ c k : Int, 0 ≤ c → c < Q.lz la → 0 ≤ k → k < R'.lz (Q.bp (Q.el la c)) → (k < R.lz (Q.bp (Q.el la c)) ∧ R'.el (Q.bp (Q.el la c)) k = R.el (Q.bp (Q.el la c)) k) ∨ (c = b ∧ k = R.lz (Q.bp (Q.el la b)) ∧ R'.el (Q.bp (Q.el la c)) k = x) := fun c k c0 c1 k0 k1 => by
    by_cases e : c = b
    · subst e
      rw [z] at k1
      by_cases t : k = R.lz (Q.bp (Q.el la c))
      · exact Or.inr ⟨rfl, t, by rw [t]; exact new⟩
      · exact Or.inl ⟨by omega, old k k0 (by omega)⟩
    · have u := (un c c0 c1).2 e
      rw [u.1] at k1
      exact Or.inl ⟨k1, u.2 k k0 k1⟩
  have le : ∀ c : Int, 0 ≤ c → c < Q.lz la → R.lz (Q.bp (Q.el la c)) ≤ R'.lz (Q.bp (Q.el la c)) := fun c c0 c1 => by
    by_cases e : c = b
    · subst e; omega
    · rw [((un c c0 c1).2 e).1]; exact Int.le_refl _
  have keep : ∀ c k : Int, 0 ≤ c → c < Q.lz la → 0 ≤ k → k < R.lz (Q.bp (Q.el la c)) → R'.el (Q.bp (Q.el la c)) k = R.el (Q.bp (Q.el la c)) k := fun c k c0 c1 k0 k1 => by
    by_cases e : c = b
    · subst e; exact old k k0 k1
    · exact ((un c c0 c1).2 e).2 k k0 k1
  have sph : ∀ c r : Int, 0 ≤ c → c < Q.lz la → (SPH R' la c r ↔ SPH R la c r ∨ (c = b ∧ r = o)) := fun c r c0 c1 => by
    have w := s.2 c c0 c1
    have w' := S'.2 c c0 c1
    unfold SPH
    rw [w.1, w.2.1.1, w'.1, w'.2.1.1]
    constructor
    · rintro ⟨k, k0, k1, e⟩
      rcases gt c k c0 c1 k0 k1 with ⟨t, u⟩ | ⟨t, u, v⟩
      · have m := ph9 c k c0 c1 k0 t
        rw [u, show R'.pt (R.el (Q.bp (Q.el la c)) k) = R.pt (R.el (Q.bp (Q.el la c)) k) from (pv _ m.1 m.2).1 0] at e
        exact Or.inl ⟨k, k0, t, e⟩
      · rw [v, show R'.pt x = R.pt x from (pv x mx kx).1 0, et] at e
        exact Or.inr ⟨t, e.symm⟩
    · rintro (⟨k, k0, k1, e⟩ | ⟨e, e2⟩)
      · have m := ph9 c k c0 c1 k0 k1
        refine ⟨k, k0, Int.lt_of_lt_of_le k1 (le c c0 c1), ?_⟩
        rw [keep c k c0 c1 k0 k1, show R'.pt (R.el (Q.bp (Q.el la c)) k) = R.pt (R.el (Q.bp (Q.el la c)) k) from (pv _ m.1 m.2).1 0]
        exact e
      · subst e; subst e2
        exact ⟨_, nn c c0 c1, by omega, by rw [new, show R'.pt x = R.pt x from (pv x mx kx).1 0]; exact et⟩
  refine ⟨⟨S', ⟨fun c k c0 c1 k0 k1 => ?_, fun c d j k c0 c1 d0 d1 j0 j1 k0 k1 e => ?_⟩, ⟨?_, fun c c0 c1 => ?_⟩, fun r p q r0 r1 p0 p1 sb f l => ?_⟩, (sph b o (by omega) b1).mpr (Or.inr ⟨rfl, rfl⟩), fun c c0 c1 => (sph c o c0 c1).trans ⟨fun t => t.imp id (fun u => u.1), fun t => t.imp id (fun u => ⟨u, rfl⟩)⟩⟩
  · rcases gt c k c0 c1 k0 k1 with ⟨t, u⟩ | ⟨t, u, v⟩
    · have m := ph9 c k c0 c1 k0 t
      rw [u]
      exact (h1 c k c0 c1 k0 t).pve (pv _ m.1 m.2)
    · rw [v, t]; exact pq.pve (pv x mx kx)
  · rcases gt c j c0 c1 j0 j1 with ⟨t, u⟩ | ⟨t, u, v⟩
    · rcases gt d k d0 d1 k0 k1 with ⟨t2, u2⟩ | ⟨t2, u2, v2⟩
      · rw [u, u2] at e
        exact h2 c d j k c0 c1 d0 d1 j0 t k0 t2 e
      · rw [u, v2] at e
        exact absurd e (fr c j c0 c1 j0 t)
    · rcases gt d k d0 d1 k0 k1 with ⟨t2, u2⟩ | ⟨t2, u2, v2⟩
      · rw [v, u2] at e
        exact absurd e.symm (fr d k d0 d1 k0 t2)
      · exact ⟨t.trans t2.symm, u.trans u2.symm⟩
  · rw [((un 0 (Int.le_refl 0) l0).2 (by omega)).1]; exact h3
  · by_cases e : c = b
    · subst e; omega
    · rw [((un c c0 c1).2 e).1]; exact h4 c c0 c1
  · have g := FRO.rng9 f aq l0
    have sb2 : SIB R la p r := by
      rcases sb with sb | sb
      · rcases (sph p r p0 p1).mp sb with t | t
        · exact Or.inl t
        · omega
      · exact Or.inr (((s.srw p0 p1).mpr ((S'.srw p0 p1).mp sb)).all)
    exact (sph q r g.1 g.2).mpr (Or.inl (h5 r p q r0 r1 p0 p1 sb2 f l))
end PHA8
