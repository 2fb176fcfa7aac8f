/-! names: the function behind it is in SSA form -/
/-- the witness: what a dominator sets -/
def NWA (P : PO) (la : Nat) (ord : Int → Int) (o v b : Int) : Prop := ∃ e : Int, 0 ≤ e ∧ e < o ∧ ord e ≠ b ∧ DOM P la (ord e) b ∧ NIA P la ord e v
/-- a function that is as it was but for names -/
def NFN (P Q : PO) (la : Nat) (ord : Int → Int) (o : Int) (lt : Int → Int → Int) : Prop := (Q.2.1 = P.2.1 ∧ Q.2.2.1 = P.2.2.1) ∧ (∀ z : Nat, P.kd z ≠ 17 → P.kd z ≠ 15 → ∀ f : Nat, Q.1 f z = P.1 f z) ∧ (∀ a : Nat, P.kd a = 40 ∨ P.kd a = 42 → Q.ia a = P.ia a) ∧ (∀ i q : Int, 0 ≤ i → i < o → 0 ≤ q → q < P.lz (P.bp (P.el la (ord i))) → (Q.pn (P.el (P.bp (P.el la (ord i))) q) = P.pn (P.el (P.bp (P.el la (ord i))) q) ∧ Q.pg (P.el (P.bp (P.el la (ord i))) q) = P.pg (P.el (P.bp (P.el la (ord i))) q)) ∧ Q.pt (P.el (P.bp (P.el la (ord i))) q) = NSM P la ord i + q ∧ ∀ t : Int, 0 ≤ t → t < P.pn (P.el (P.bp (P.el la (ord i))) q) → Q.ia (P.pu (P.el (P.bp (P.el la (ord i))) q)) t = lt (P.ia (P.pp (P.el (P.bp (P.el la (ord i))) q)) t) (P.ia (P.pu (P.el (P.bp (P.el la (ord i))) q)) t)) ∧ (∀ i q : Int, 0 ≤ i → i < o → 0 ≤ q → q < P.lz (P.br (P.el la (ord i))) → SMR P Q (P.el (P.br (P.el la (ord i))) q) ∧ NRW P Q la ord o i q (P.el (P.br (P.el la (ord i))) q)) ∧ ∀ i : Int, 0 ≤ i → i < o → SMR P Q (P.be (P.el la (ord i))) ∧ NRW P Q la ord o i (P.lz (P.br (P.el la (ord i)))) (P.be (P.el la (ord i)))
section NMD6
variable {L : List Nat} {P Q Q2 Q' : PO} {cO cI cZ : ClassId} {ed la x y : Nat} {ord idm : Int → Int} {b c d e i j k n o p q r v : Int} {lt : Int → Int → Int}
theorem NXR.nfn (h : NXR P Q la ord o o 0 0) (h2 : NPO Q Q2 la lt (P.lz la) 0 0) (a : ALP L P cO cI cZ ed la) (g : ODR idm ord o (P.lz la)) : NFN P Q2 la ord o lt := by
  obtain ⟨s, hp, hr, he⟩ := h
  obtain ⟨⟨n1, n2, n3, _⟩, na, np⟩ := h2
  have N : ∀ (f z : Nat), Q2.1 f z = Q.1 f z := fun f z => by rw [n1]
  refine ⟨⟨n2.trans s.1.1, n3.trans s.1.2⟩, fun z z1 z2 f => (N f z).trans (s.2.1 z z1 z2 f), fun z kz => ?_, fun i q i0 i1 q0 q1 => ?_, fun i q i0 i1 q0 q1 => ?_, fun i i0 i1 => ?_⟩
  · exact (na z (by rw [s.kd]; omega)).trans (s.2.2.1 z (by omega))
  · have u := hp i q i0 i1 q0 q1
    have gi := g.2.1 i i0 i1
    have kx := a.kphi gi.1 gi.2 q0 q1
    have pk := a.pik kx.1 kx.2
    have ib := a.inb ⟨ord i, gi.1, gi.2, rfl⟩
    refine ⟨⟨(N 1 _).trans (u.1 1 (by decide)), (N 2 _).trans (u.1 2 (by decide))⟩, (N 0 _).trans (u.2.1 (Or.inl i1)), fun t t0 t1 => ?_⟩
    have ex : Q.el (Q.bp (Q.el la (ord i))) q = P.el (P.bp (P.el la (ord i))) q := by rw [s.el, s.bp, s.el]
    have eu : Q.pu (P.el (P.bp (P.el la (ord i))) q) = P.pu (P.el (P.bp (P.el la (ord i))) q) := congrArg (fun q9 : Nat → Nat → Nat => q9 2 _) s.1.1
    have ep : Q.pp (P.el (P.bp (P.el la (ord i))) q) = P.pp (P.el (P.bp (P.el la (ord i))) q) := congrArg (fun q9 : Nat → Nat → Nat => q9 1 _) s.1.1
    have en : Q.pn (P.el (P.bp (P.el la (ord i))) q) = P.pn (P.el (P.bp (P.el la (ord i))) q) := u.1 1 (by decide)
    have zl := s.lz la a.lok.2.1
    have w := np (ord i) q t gi.1 (by rw [zl]; exact gi.2) q0 (by rw [s.el, s.bp, s.lz _ ib.2.2.1.2.1]; exact q1) t0 (by rw [ex, en]; exact t1)
    rw [ex, eu, ep] at w
    have iu : Q.ia (P.pu (P.el (P.bp (P.el la (ord i))) q)) = P.ia (P.pu (P.el (P.bp (P.el la (ord i))) q)) := s.2.2.1 _ (by rw [pk.2.2.1.2.1]; decide)
    have ip : Q.ia (P.pp (P.el (P.bp (P.el la (ord i))) q)) = P.ia (P.pp (P.el (P.bp (P.el la (ord i))) q)) := s.2.2.1 _ (by rw [pk.2.1.2.1]; decide)
    rw [iu, ip] at w
    exact w.1 (Or.inl gi.2)
  · have u := hr i q i0 i1 q0 q1
    exact ⟨u.1.of (fun f => N f _), (u.2.1 (Or.inl i1)).of (fun f => N f _)⟩
  · have u := he i i0 i1
    exact ⟨u.1.of (fun f => N f _), (u.2.1 i1).of (fun f => N f _)⟩
theorem NFN.el (h : NFN P Q la ord o lt) (l : Nat) (i : Int) : Q.el l i = P.el l i := by unfold PO.el PO.oa PO.le; rw [h.1.1, h.1.2]
theorem NFN.bp (h : NFN P Q la ord o lt) (z : Nat) : Q.bp z = P.bp z := congrArg (fun q : Nat → Nat → Nat => q 1 z) h.1.1
theorem NFN.br (h : NFN P Q la ord o lt) (z : Nat) : Q.br z = P.br z := congrArg (fun q : Nat → Nat → Nat => q 2 z) h.1.1
theorem NFN.be (h : NFN P Q la ord o lt) (z : Nat) : Q.be z = P.be z := congrArg (fun q : Nat → Nat → Nat => q 3 z) h.1.1
theorem NFN.pp (h : NFN P Q la ord o lt) (z : Nat) : Q.pp z = P.pp z := congrArg (fun q : Nat → Nat → Nat => q 1 z) h.1.1
theorem NFN.pu (h : NFN P Q la ord o lt) (z : Nat) : Q.pu z = P.pu z := congrArg (fun q : Nat → Nat → Nat => q 2 z) h.1.1
theorem NFN.pr (h : NFN P Q la ord o lt) (z : Nat) : Q.pr z = P.pr z := congrArg (fun q : Nat → Nat → Nat => q 3 z) h.1.1
theorem NFN.lz (h : NFN P Q la ord o lt) (l : Nat) (k : P.kd l = 30) : Q.lz l = P.lz l := h.2.1 l (by omega) (by omega) 0
/-- blocks: their lists, their ends, their ways -/
theorem NFN.blk (h : NFN P Q la ord o lt) (a : ALP L P cO cI cZ ed la) (b0 : 0 ≤ b) (b1 : b < P.lz la) : Q.lz (Q.bp (Q.el la b)) = P.lz (P.bp (P.el la b)) ∧ Q.lz (Q.br (Q.el la b)) = P.lz (P.br (P.el la b)) ∧ Q.bf (Q.el la b) = P.bf (P.el la b) ∧ Q.bs (Q.el la b) = P.bs (P.el la b) := by
  have ib := a.inb ⟨b, b0, b1, rfl⟩
  rw [h.el, h.bp, h.br]
  exact ⟨h.lz _ ib.2.2.1.2.1, h.lz _ ib.2.1.2.1, h.2.1 _ (by rw [ib.1.2]; decide) (by rw [ib.1.2]; decide) 0, h.2.1 _ (by rw [ib.1.2]; decide) (by rw [ib.1.2]; decide) 1⟩
theorem NFN.edy (h : NFN P Q la ord o lt) (a : ALP L P cO cI cZ ed la) (al : ∀ b : Int, 0 ≤ b → b < P.lz la → ∃ i : Int, 0 ≤ i ∧ i < o ∧ ord i = b) : EDY P Q la := ⟨h.lz la a.lok.2.1, fun b b0 b1 c => by
  have w := h.blk a b0 b1
  obtain ⟨i, i0, i1, ei⟩ := al b b0 b1
  have u := (h.2.2.2.2.2 i i0 i1).1.1
  rw [ei] at u
  unfold EDG
  rw [w.2.2.1, w.2.2.2, h.be, h.el, u]⟩
/-- a name is set in its block -/
theorem NFN.sets (h : NFN P Q la ord o lt) (a : ALP L P cO cI cZ ed la) (g : ODR idm ord o (P.lz la)) (i0 : 0 ≤ i) (i1 : i < o) (w : NIB P la ord i j r v) : SPH Q la (ord i) v ∨ SRW Q la (ord i) r v := by
  have gi := g.2.1 i i0 i1
  have bk := h.blk a gi.1 gi.2
  rcases w with ⟨q, q0, _, q1, e⟩ | ⟨q, q0, q1, q2, s, e⟩
  · have u := h.2.2.2.1 i q i0 i1 q0 q1
    exact Or.inl ⟨q, q0, by rw [bk.1]; exact q1, by rw [h.el, h.bp, h.el, u.2.1, e]⟩
  · have u := h.2.2.2.2.1 i q i0 i1 q0 q2
    refine Or.inr ⟨q, q0, q1, by rw [bk.2.1]; exact q2, ?_, ?_⟩
    · rw [h.el, h.br, h.el, u.1.1]; exact s
    · rw [h.el, h.br, h.el, u.2.2.2.2 s, e]
theorem NFN.nav (h : NFN P Q la ord o lt) (a : ALP L P cO cI cZ ed la) (g : ODR idm ord o (P.lz la)) (i0 : 0 ≤ i) (i1 : i < o) (w : NAV P la ord o i j r v) : AVT Q la (NWA P la ord o) (ord i) r v := by
  rcases w with ⟨e, e0, e1, ne, dm, w⟩ | w
  · exact Or.inl ⟨e, e0, e1, fun t => ne (ODR.inj g e0 e1 i0 i1 t), dm, w⟩
  · exact Or.inr (h.sets a g i0 i1 w)
theorem NFN.ura (h : NFN P Q la ord o lt) (a : ALP L P cO cI cZ ed la) (g : ODR idm ord o (P.lz la)) (i0 : 0 ≤ i) (i1 : i < o) (s : SMR P Q x) (w : NRW P Q la ord o i q x) : URA Q la (NWA P la ord o) (ord i) q x := by
  unfold URA
  rw [s.1, s.2.1, s.2.2.1]
  refine ⟨?_, ?_⟩
  · by_cases t : rUsA (P.ro x) (P.rA x) = 0
    · exact Or.inl t
    · exact Or.inr (h.nav a g i0 i1 (w.1.2 t))
  · by_cases t : rUsB (P.ro x) (P.rB x) = 0
    · exact Or.inl t
    · exact Or.inr (h.nav a g i0 i1 (w.2.1.2 t))
theorem NFN.avl (h : NFN P Q la ord o lt) (a : ALP L P cO cI cZ ed la) (g : ODR idm ord o (P.lz la)) (al : ∀ b : Int, 0 ≤ b → b < P.lz la → ∃ i : Int, 0 ≤ i ∧ i < o ∧ ord i = b) (ar : ALR P la) (av : AVU P la (DA9 P la)) (tl : NLT P la ord o o lt) : AVL Q la := by
  have ed := h.edy a al
  refine ⟨NWA P la ord o, ⟨fun v w => ?_, fun v p b p0 p1 e w => ?_⟩, fun b b0 b1 => ?_⟩
  · obtain ⟨e, _, _, ne, dm, _⟩ := w
    exact dm.2.2 (RCH.zero ne)
  · rw [ed.1] at p1
    obtain ⟨e9, e0, e1, ne, dm, w⟩ := w
    have dp := dm.back ne (ar p p0 p1) ((ed.2 p p0 p1 b).mp e)
    by_cases t : ord e9 = p
    · rw [← t]
      refine Or.inr ((h.sets a g e0 e1 w).imp id (fun q => q.all))
    · exact Or.inl ⟨e9, e0, e1, t, dp, w⟩
  · rw [ed.1] at b1
    obtain ⟨i, i0, i1, ei⟩ := al b b0 b1
    have bk := h.blk a b0 b1
    have ub := av b b0 b1
    refine ⟨fun k k0 k1 => ?_, fun j j0 j1 => ?_, ?_⟩
    · rw [bk.1] at k1
      have kx := a.kphi b0 b1 k0 k1
      have pk := a.pik kx.1 kx.2
      have u := h.2.2.2.1 i k i0 i1 k0 (by rw [ei]; exact k1)
      rw [ei] at u
      intro t t0 t1
      rw [h.el, h.bp, h.el] at t1 ⊢
      rw [u.1.1] at t1
      rw [h.pr, h.pu, h.pp, h.2.2.1 _ (Or.inl pk.2.1.2.1), h.2.2.1 _ (Or.inr pk.2.2.2.1.2.1), u.2.2 t t0 t1]
      by_cases z : P.ia (P.pr (P.el (P.bp (P.el la b)) k)) t = 0
      · exact Or.inl z
      · refine Or.inr ?_
        have rg := pk.2.2.2.2.2.2 t t0 t1
        have pb := a.2.2.1 _ ⟨b, b0, b1, rfl⟩ k k0 k1 t t0 t1
        obtain ⟨f, f0, f1, ef⟩ := al _ rg.1.1 pb
        have op := rg.2.2.2.resolve_left z
        have us := (ub.1 k k0 k1 t t0 t1).resolve_left z
        have nw := tl f f0 f1 _ op.1 op.2
        rw [ef] at nw
        have hs : NHS P la ord f (P.lz (P.bp (P.el la (ord f)))) (P.lz (P.br (P.el la (ord f)))) (P.ia (P.pu (P.el (P.bp (P.el la b)) k)) t) := by
          rcases us with us | us
          · rw [← ef] at us; exact Or.inl us
          · rw [← ef] at us; exact NHS.sib us
        rw [ef] at hs
        have nn := nw.2.2 hs
        rcases nw.2.1 nn with ⟨e9, e0, e1, ne, dm, w⟩ | w
        · rw [ef] at dm
          exact Or.inl ⟨e9, e0, e1, fun t9 => ne (ODR.inj g e0 e1 f0 f1 (t9.trans ef.symm)), dm, w⟩
        · rw [← ef] at w ⊢
          exact Or.inr ((h.sets a g f0 f1 w).imp id (fun q => q.all))
    · rw [bk.2.1] at j1
      have u := h.2.2.2.2.1 i j i0 i1 j0 (by rw [ei]; exact j1)
      have w := h.ura a g i0 i1 u.1 u.2
      rw [ei] at w
      rw [h.el, h.br, h.el]
      exact w
    · have u := h.2.2.2.2.2 i i0 i1
      have w := h.ura a g i0 i1 u.1 u.2
      rw [ei] at w
      rw [bk.2.1, h.be, h.el]
      exact w
theorem NFN.sng (h : NFN P Q la ord o lt) (a : ALP L P cO cI cZ ed la) (g : ODR idm ord o (P.lz la)) (al : ∀ b : Int, 0 ≤ b → b < P.lz la → ∃ i : Int, 0 ≤ i ∧ i < o ∧ ord i = b) : SNG Q la := by
  have zl := h.lz la a.lok.2.1
  have np : ∀ i q : Int, 0 ≤ i → i < o → 0 ≤ q → q < P.lz (P.bp (P.el la (ord i))) → Q.pt (P.el (P.bp (P.el la (ord i))) q) = NSM P la ord i + q ∧ NIB P la ord i (q + 1) 0 (Q.pt (P.el (P.bp (P.el la (ord i))) q)) := fun i q i0 i1 q0 q1 => by
    have u := (h.2.2.2.1 i q i0 i1 q0 q1).2.1
    exact ⟨u, Or.inl ⟨q, q0, by omega, q1, u⟩⟩
  have nr : ∀ i q : Int, 0 ≤ i → i < o → 0 ≤ q → q < P.lz (P.br (P.el la (ord i))) → rSets (Q.ro (P.el (P.br (P.el la (ord i))) q)) ≠ 0 → rSets (P.ro (P.el (P.br (P.el la (ord i))) q)) ≠ 0 ∧ Q.rt (P.el (P.br (P.el la (ord i))) q) = NSM P la ord i + P.lz (P.bp (P.el la (ord i))) + CSR P (P.el la (ord i)) q ∧ NIB P la ord i 0 (q + 1) (Q.rt (P.el (P.br (P.el la (ord i))) q)) := fun i q i0 i1 q0 q1 s => by
    have u := h.2.2.2.2.1 i q i0 i1 q0 q1
    rw [u.1.1] at s
    have w := u.2.2.2.2 s
    exact ⟨s, w, Or.inr ⟨q, q0, by omega, q1, s, w⟩⟩
  refine ⟨fun b c j k b0 b1 c0 c1 j0 j1 k0 k1 e => ?_, fun b c j k b0 b1 c0 c1 j0 j1 k0 k1 s1 s2 e => ?_, fun b c j k b0 b1 c0 c1 j0 j1 k0 k1 s2 e => ?_⟩
  · rw [zl] at b1 c1
    obtain ⟨i, i0, i1, ei⟩ := al b b0 b1
    obtain ⟨f, f0, f1, ef⟩ := al c c0 c1
    subst ei; subst ef
    rw [(h.blk a b0 b1).1] at j1
    rw [(h.blk a c0 c1).1] at k1
    rw [h.el, h.bp, h.el, h.el, h.bp, h.el] at e
    have u1 := np i j i0 i1 j0 j1
    have u2 := np f k f0 f1 k0 k1
    rw [← e] at u2
    have t := NIB.blk a g i0 i1 f0 f1 u1.2 u2.2
    subst t
    exact ⟨rfl, by omega⟩
  · rw [zl] at b1 c1
    obtain ⟨i, i0, i1, ei⟩ := al b b0 b1
    obtain ⟨f, f0, f1, ef⟩ := al c c0 c1
    subst ei; subst ef
    rw [(h.blk a b0 b1).2.1] at j1
    rw [(h.blk a c0 c1).2.1] at k1
    rw [h.el, h.br, h.el] at s1 s2
    rw [h.el, h.br, h.el, h.el, h.br, h.el] at e
    have u1 := nr i j i0 i1 j0 j1 s1
    have u2 := nr f k f0 f1 k0 k1 s2
    rw [← e] at u2
    have t := NIB.blk a g i0 i1 f0 f1 u1.2.2 u2.2.2
    subst t
    exact ⟨rfl, CSR.inj j0 k0 u1.1 u2.1 (by omega)⟩
  · rw [zl] at b1 c1
    obtain ⟨i, i0, i1, ei⟩ := al b b0 b1
    obtain ⟨f, f0, f1, ef⟩ := al c c0 c1
    subst ei; subst ef
    rw [(h.blk a b0 b1).1] at j1
    rw [(h.blk a c0 c1).2.1] at k1
    rw [h.el, h.br, h.el] at s2
    rw [h.el, h.bp, h.el, h.el, h.br, h.el] at e
    have u1 := np i j i0 i1 j0 j1
    have u2 := nr f k f0 f1 k0 k1 s2
    rw [← e] at u2
    have t := NIB.blk a g i0 i1 f0 f1 u1.2 u2.2.2
    subst t
    have m := CSR.mono9 (P := P) (y := P.el la (ord i)) (i := 0) (j := k) (by omega) k0
    rw [CSR.zero] at m
    omega
theorem NFN.ssp (h : NFN P Q la ord o lt) (a : ALP L P cO cI cZ ed la) (g : ODR idm ord o (P.lz la)) (al : ∀ b : Int, 0 ≤ b → b < P.lz la → ∃ i : Int, 0 ≤ i ∧ i < o ∧ ord i = b) (l0 : 0 < P.lz la) (cm : CMP P la) (nd : NDR P la) (ar : ALR P la) (av : AVU P la (DA9 P la)) (ns : NST P la ≤ 1000) (en : ENE P la) (ope : OPE9 P la) (opd : OPD P la) (tl : NLT P la ord o o lt) : SSP Q la := by
  have ed := h.edy a al
  have zl := ed.1
  have bk := fun (b : Int) (b0 : 0 ≤ b) (b1 : b < P.lz la) => h.blk a b0 b1
  have ro : ∀ b : Int, 0 ≤ b → b < P.lz la → Q.ro (Q.be (Q.el la b)) = P.ro (P.be (P.el la b)) := fun b b0 b1 => by
    obtain ⟨i, i0, i1, ei⟩ := al b b0 b1
    have u := (h.2.2.2.2.2 i i0 i1).1.1
    rw [ei] at u
    rw [h.be, h.el, u]
  have ph : ∀ b k : Int, 0 ≤ b → b < P.lz la → 0 ≤ k → k < P.lz (P.bp (P.el la b)) → Q.pn (P.el (P.bp (P.el la b)) k) = P.pn (P.el (P.bp (P.el la b)) k) ∧ Q.ia (P.pp (P.el (P.bp (P.el la b)) k)) = P.ia (P.pp (P.el (P.bp (P.el la b)) k)) := fun b k b0 b1 k0 k1 => by
    obtain ⟨i, i0, i1, ei⟩ := al b b0 b1
    have u := (h.2.2.2.1 i k i0 i1 k0 (by rw [ei]; exact k1)).1.1
    rw [ei] at u
    have kx := a.kphi b0 b1 k0 k1
    exact ⟨u, h.2.2.1 _ (Or.inl (a.pik kx.1 kx.2).2.1.2.1)⟩
  refine ⟨by omega, ⟨?_, fun b b0 b1 => ?_, fun p b p0 p1 b0 b1 r1 w i i0 i1 => ?_⟩, ⟨fun b c j k b0 b1 c0 c1 j0 j1 k0 k1 e => ?_, fun b c j k b0 b1 c0 c1 j0 j1 k0 k1 e => ?_, fun b c b0 b1 c0 c1 e => ?_⟩, fun b b0 b1 => ed.rch a l0 (ar b b0 (by omega)), h.avl a g al ar av tl, h.sng a g al, ?_, ⟨fun p p0 p1 e => ?_, fun b b0 b1 => ?_⟩, fun b k i b0 b1 k0 k1 i0 i1 => ?_, fun b k i j b0 b1 k0 k1 i0 ij j1 => ?_⟩
  · rw [(bk 0 (by omega) l0).1]; exact cm.1
  · rw [zl] at b1
    rw [(bk b b0 b1).1, ro b b0 b1]; exact cm.2.1 b b0 b1
  · rw [zl] at p1 b1
    rw [ro p p0 p1] at r1 w
    rw [(bk p p0 p1).2.2.1, (bk p p0 p1).2.2.2] at w
    rw [(bk b b0 b1).1] at i1
    obtain ⟨t, t0, t1, te⟩ := cm.2.2 p b p0 p1 b0 b1 r1 w i i0 i1
    have u := ph b i b0 b1 i0 i1
    rw [h.el, h.bp, h.el]
    exact ⟨t, t0, by rw [u.1]; exact t1, by rw [h.pp, u.2]; exact te⟩
  · rw [zl] at b1 c1
    rw [(bk b b0 b1).2.1] at j1
    rw [(bk c c0 c1).2.1] at k1
    rw [h.el, h.br, h.el, h.el, h.br, h.el] at e
    exact nd.1 b c j k b0 b1 c0 c1 j0 j1 k0 k1 e
  · rw [zl] at b1 c1
    rw [(bk b b0 b1).1] at j1
    rw [(bk c c0 c1).1] at k1
    rw [h.el, h.bp, h.el, h.el, h.bp, h.el] at e
    exact nd.2.1 b c j k b0 b1 c0 c1 j0 j1 k0 k1 e
  · rw [zl] at b1 c1
    rw [h.be, h.el, h.be, h.el] at e
    exact nd.2.2 b c b0 b1 c0 c1 e
  · have e : NST Q la = NST P la := by
      unfold NST
      rw [zl]
      refine sumI_eq (fun b b0 b1 => ?_)
      have b2 : b < P.lz la := by omega
      have w := bk b b0 b2
      unfold WSB CSR
      rw [w.1, w.2.1]
      congr 1
      refine sumI_eq (fun k k0 k1 => ?_)
      obtain ⟨i, i0, i1, ei⟩ := al b b0 b2
      have u := (h.2.2.2.2.1 i k i0 i1 k0 (by rw [ei]; omega)).1.1
      rw [ei] at u
      rw [h.el, h.br, h.el, u]
    omega
  · rw [zl] at p1
    exact en.1 p p0 p1 ((ed.2 p p0 p1 0).mp e)
  · rw [zl] at b1
    rw [ro b b0 b1, (bk b b0 b1).2.2.1, (bk b b0 b1).2.2.2]
    exact en.2 b b0 b1
  · rw [zl] at b1
    rw [(bk b b0 b1).1] at k1
    have u := ph b k b0 b1 k0 k1
    rw [h.el, h.bp, h.el] at i1 ⊢
    rw [u.1] at i1
    rw [h.pp, u.2]
    have kx := a.kphi b0 b1 k0 k1
    have rg := (a.pik kx.1 kx.2).2.2.2.2.2.2 i i0 i1
    have pb := a.2.2.1 _ ⟨b, b0, b1, rfl⟩ k k0 k1 i i0 i1
    exact (ed.2 _ rg.1.1 pb b).mpr (ope b k i b0 b1 k0 k1 i0 i1)
  · rw [zl] at b1
    rw [(bk b b0 b1).1] at k1
    have u := ph b k b0 b1 k0 k1
    rw [h.el, h.bp, h.el] at j1 ⊢
    rw [u.1] at j1
    rw [h.pp, u.2]
    exact opd b k i j b0 b1 k0 k1 i0 ij j1
theorem NFN.gn0 (h : NFN P Q la ord o lt) (a : ALP L P cO cI cZ ed la) (al : ∀ b : Int, 0 ≤ b → b < P.lz la → ∃ i : Int, 0 ≤ i ∧ i < o ∧ ord i = b) (g0 : GN0 P la) : GN0 Q la := fun b b0 b1 => by
  rw [h.lz la a.lok.2.1] at b1
  have w := h.blk a b0 b1
  have u := g0 b b0 b1
  obtain ⟨i, i0, i1, ei⟩ := al b b0 b1
  refine ⟨fun k k0 k1 => ?_, fun k k0 k1 => ?_⟩
  · rw [w.1] at k1
    have q := (h.2.2.2.1 i k i0 i1 k0 (by rw [ei]; exact k1)).1.2
    rw [ei] at q
    rw [h.el, h.bp, h.el, q]; exact u.1 k k0 k1
  · rw [w.2.1] at k1
    have q := (h.2.2.2.2.1 i k i0 i1 k0 (by rw [ei]; exact k1)).1.2.2.2
    rw [ei] at q
    rw [h.el, h.br, h.el, q]; exact u.2 k k0 k1
end NMD6
