/-! names: what the walk needs -/
def NID (P : PO) (la : Nat) (idm : Int → Int) : Prop := ∀ b : Int, 0 < b → b < P.lz la → IDM P la (idm b) b ∧ 0 ≤ idm b ∧ idm b < P.lz la
def NAL (ord : Int → Int) (o n : Int) : Prop := ∀ b : Int, 0 ≤ b → b < n → ∃ i : Int, 0 ≤ i ∧ i < o ∧ ord i = b
/-- a function that wants names -/
def NFP (P : PO) (la : Nat) : Prop := (0 < P.lz la ∧ CMP P la ∧ NDR P la ∧ ALR P la) ∧ (AVU P la (DA9 P la) ∧ NST P la ≤ 1000) ∧ (ENE P la ∧ OPE9 P la ∧ OPD P la) ∧ GN0 P la
def PRG (P : PO) (la : Nat) : Prop := ∀ b k i : Int, 0 ≤ b → b < P.lz la → 0 ≤ k → k < P.lz (P.bp (P.el la b)) → 0 ≤ i → i < P.pn (P.el (P.bp (P.el la b)) k) → P.ia (P.pr (P.el (P.bp (P.el la b)) k)) i ≠ 0
/-- the row of a block while it is filled by that of its nearest dominator -/
def NCP (f g : Int → Int) (z d : Int) : Prop := ∀ x : Int, 0 ≤ x → x < d → (z = 0 → f x = -1) ∧ (z ≠ 0 → f x = g x)
section NMD5
variable {L : List Nat} {P Q Q2 Q' : PO} {cO cI cZ : ClassId} {ed la x y : Nat} {ord idm : Int → Int} {b c d e i j k n o p q r v : Int} {now : Int → Int} {lt : Int → Int → Int} {fd : Nat → Option Nat}
theorem NCP.first (f g : Int → Int) (z : Int) : NCP f g z 0 := fun x a b => by omega
theorem NCP.put (h : NCP (Q.ia y) (LVT Q fd (idm b)) b d) (t : TDI fd n) (ey : fd b.toNat = some y) (b0 : 0 ≤ b) (b1 : b < n) (all : ∀ i : Int, 0 ≤ i → i < n → ∃ z : Nat, fd i.toNat = some z) (ib : b ≠ 0 → 0 ≤ idm b ∧ idm b < n ∧ idm b ≠ b) (d0 : 0 ≤ d) (hP : Q' = Q.ri9 y (zup (Q.ia y) d v)) (v0 : b = 0 → v = -1) (v1 : b ≠ 0 → v = LVT Q fd (idm b) d) : NCP (Q'.ia y) (LVT Q' fd (idm b)) b (d + 1) := fun x x0 x1 => by
  have e : Q'.ia y = zup (Q.ia y) d v := by rw [hP]; exact ri9_at _ _ _
  have g : b ≠ 0 → ∀ r : Int, LVT Q' fd (idm b) r = LVT Q fd (idm b) r := fun z r => LVT.put t ey b0 b1 (ib z).1 (ib z).2.1 all hP (fun w => (ib z).2.2 w.1)
  rw [e]
  by_cases q : x = d
  · rw [q, zup_eq]
    exact ⟨v0, fun z => (v1 z).trans (g z d).symm⟩
  · rw [zup_ne _ _ q]
    have w := h x x0 (by omega)
    exact ⟨w.1, fun z => (w.2 z).trans (g z x).symm⟩
theorem NCP.to {f g : Int → Int} {z d d' : Int} (h : NCP f g z d) (e : d = d') : NCP f g z d' := by rw [← e]; exact h
theorem NLT.put (h : NLT P la ord o k (LVT Q fd)) (t : TDI fd n) (g : ODR idm ord o (P.lz la)) (k0 : 0 ≤ k) (ko : k < o) (ey : fd (ord k).toNat = some y) (n1 : P.lz la ≤ n) (all : ∀ i : Int, 0 ≤ i → i < n → ∃ z : Nat, fd i.toNat = some z) (hP : Q' = Q.ri9 y (zup (Q.ia y) e v)) : NLT P la ord o k (LVT Q' fd) := h.eq (fun i x i0 i1 x0 x1 => by
  have gk := g.2.1 k k0 ko
  have gi := g.2.1 i i0 (by omega)
  exact LVT.put t ey gk.1 (by omega) gi.1 (by omega) all hP (fun w => g.2.2.1 i k i0 i1 ko w.1))
theorem LVT.rw1 (w : RW1 x Q Q') (b r : Int) : LVT Q' fd b r = LVT Q fd b r := by unfold LVT PO.ia; rw [w.1]
theorem NLT.rw1 (h : NLT P la ord o k (LVT Q fd)) (w : RW1 x Q Q') : NLT P la ord o k (LVT Q' fd) := h.eq (fun i x _ _ _ _ => LVT.rw1 w _ _)
theorem RW1.ia9 (w : RW1 x Q Q') (y : Nat) : Q'.ia y = Q.ia y := by unfold PO.ia; rw [w.1]
theorem NOW9.rw1 (h : NOW9 P la ord o k j r (Q.ia y)) (w : RW1 x Q Q') : NOW9 P la ord o k j r (Q'.ia y) := by rw [w.ia9]; exact h
theorem NOW9.start (h : NLT P la ord o k lt) (g : ODR idm ord o (P.lz la)) (m : NID P la idm) (k0 : 0 ≤ k) (ko : k < o) (c : NCP now (lt (idm (ord k))) (ord k) 1002) : NOW9 P la ord o k 0 0 now := by
  by_cases z : ord k = 0
  · exact NOW9.zero z (fun x x0 x1 => (c x x0 (by omega)).1 z)
  · have nk : k ≠ 0 := fun t => z (by rw [t]; exact g.1.2.2)
    obtain ⟨p0, e, e0, e1, ee⟩ := g.2.2.2.1 k (by omega) ko
    have gk := g.2.1 k k0 ko
    exact NOW9.idom h e0 e1 ko (by rw [ee]; exact (m (ord k) p0 gk.2).1) (fun x x0 x1 => by rw [ee]; exact (c x x0 (by omega)).2 z)
theorem NXR.phi0 (h : NXR P Q la ord o k j r) (k0 : 0 ≤ k) (ko : k < o) (j0 : 0 ≤ j) (j1 : j < P.lz (P.bp (P.el la (ord k)))) (ex : x = P.el (P.bp (P.el la (ord k))) j) : Q.pt x = P.pt x ∧ Q.pn x = P.pn x ∧ Q.pg x = P.pg x := by
  have u := h.2.1 k j k0 ko j0 j1
  rw [ex]
  exact ⟨u.2.2 (by omega), u.1 1 (by decide), u.1 2 (by decide)⟩
theorem NXR.row0 (h : NXR P Q la ord o k j r) (k0 : 0 ≤ k) (ko : k < o) (r0 : 0 ≤ r) (r1 : r < P.lz (P.br (P.el la (ord k)))) (ex : x = P.el (P.br (P.el la (ord k))) r) : (Q.ro x = P.ro x ∧ Q.rA x = P.rA x ∧ Q.rB x = P.rB x) ∧ Q.rt x = P.rt x ∧ Q.ra x = P.ra x ∧ Q.rb x = P.rb x := by
  have u := (h.2.2.1 k r k0 ko r0 r1).2.2 (by omega)
  rw [ex]
  exact ⟨⟨u 0, u 4, u 5⟩, u 1, u 2, u 3⟩
theorem NXR.end0 (h : NXR P Q la ord o k j r) (k0 : 0 ≤ k) (ko : k < o) (ex : x = P.be (P.el la (ord k))) : (Q.ro x = P.ro x ∧ Q.rA x = P.rA x ∧ Q.rB x = P.rB x) ∧ Q.rt x = P.rt x ∧ Q.ra x = P.ra x ∧ Q.rb x = P.rb x := by
  have u := (h.2.2.2 k k0 ko).2.2 (by omega)
  rw [ex]
  exact ⟨⟨u 0, u 4, u 5⟩, u 1, u 2, u 3⟩
theorem NXR.to {j' r' : Int} (h : NXR P Q la ord o k j r) (e1 : j = j') (e2 : r = r') : NXR P Q la ord o k j' r' := by rw [← e1, ← e2]; exact h
theorem NSM.phi (a : ALP L P cO cI cZ ed la) (g : ODR idm ord o (P.lz la)) (k0 : 0 ≤ k) (ko : k < o) (j0 : 0 ≤ j) (j1 : j < P.lz (P.bp (P.el la (ord k)))) : 0 ≤ NSM P la ord k + j ∧ NSM P la ord k + j < NST P la := NAV.rng a g k0 ko (j := j + 1) (r := 0) (Or.inr (Or.inl ⟨j, j0, by omega, j1, rfl⟩))
theorem NSM.row (a : ALP L P cO cI cZ ed la) (g : ODR idm ord o (P.lz la)) (k0 : 0 ≤ k) (ko : k < o) (r0 : 0 ≤ r) (r1 : r < P.lz (P.br (P.el la (ord k)))) (s : rSets (P.ro (P.el (P.br (P.el la (ord k))) r)) ≠ 0) : 0 ≤ NSM P la ord k + P.lz (P.bp (P.el la (ord k))) + CSR P (P.el la (ord k)) r ∧ NSM P la ord k + P.lz (P.bp (P.el la (ord k))) + CSR P (P.el la (ord k)) r < NST P la := NAV.rng a g k0 ko (j := 0) (r := r + 1) (Or.inr (Or.inr ⟨r, r0, by omega, r1, s, rfl⟩))
theorem NSM.full (a : ALP L P cO cI cZ ed la) (g : ODR idm ord o (P.lz la)) (k0 : 0 ≤ k) (ko : k < o) : NSM P la ord (k + 1) = NSM P la ord k + P.lz (P.bp (P.el la (ord k))) + CSR P (P.el la (ord k)) (P.lz (P.br (P.el la (ord k)))) ∧ 0 ≤ NSM P la ord (k + 1) ∧ NSM P la ord (k + 1) ≤ NST P la := by
  have e := NSM.succ (P := P) (la := la) (ord := ord) k0
  unfold WSB at e
  have m1 := NSM.mono a g.2.1 (i := 0) (j := k + 1) (by omega) (by omega) (by omega)
  have m2 := NSM.mono a g.2.1 (i := k + 1) (j := o) (by omega) (by omega) (by omega)
  have m3 := NSM.le a g
  rw [NSM.zero] at m1
  exact ⟨by omega, m1, by omega⟩
theorem TKP.rw15 {k : Nat} (h : RW1 x Q Q') (e : Q.kd x = 15) (ne : k ≠ 15) : TKP k L Q L Q' := fun z m q => by
  have nx : z ≠ x := fun w => ne (by rw [← q, w]; exact e)
  refine ⟨m, h.2 z nx, fun f => ?_, ?_, ?_, ?_⟩
  · rw [h.1]
  · show Q'.2.2.1 z = Q.2.2.1 z; rw [h.1]
  · show Q'.2.2.2.1 z = Q.2.2.2.1 z; rw [h.1]
  · show Q'.2.2.2.2 z = Q.2.2.2.2 z; rw [h.1]
theorem TKP.ri41 {k u : Nat} {g : Int → Int} (e : Q.kd u = 41) (ne : k ≠ 41) (hP : Q' = Q.ri9 u g) : TKP k L Q L Q' := fun z m q => by
  subst hP
  exact ⟨m, SM9.ri9 (fun w => ne (by rw [← q, w]; exact e))⟩
/-- an operand of a PHI has a name where it comes from -/
theorem NLT.opn (tl : NLT P la ord o o lt) (al : NAL ord o (P.lz la)) (a : ALP L P cO cI cZ ed la) (g : ODR idm ord o (P.lz la)) (av : AVU P la (DA9 P la)) (pg : PRG P la) (b0 : 0 ≤ b) (b1 : b < P.lz la) (k0 : 0 ≤ k) (k1 : k < P.lz (P.bp (P.el la b))) (ex : x = P.el (P.bp (P.el la b)) k) (i0 : 0 ≤ i) (i1 : i < P.pn x) : 0 ≤ lt (P.ia (P.pp x) i) (P.ia (P.pu x) i) ∧ lt (P.ia (P.pp x) i) (P.ia (P.pu x) i) < NST P la := by
  subst ex
  have kx := a.kphi b0 b1 k0 k1
  have pk := a.pik kx.1 kx.2
  have z := pg b k i b0 b1 k0 k1 i0 i1
  have rg := pk.2.2.2.2.2.2 i i0 i1
  have pb := a.2.2.1 _ ⟨b, b0, b1, rfl⟩ k k0 k1 i i0 i1
  obtain ⟨f, f0, f1, ef⟩ := al _ rg.1.1 pb
  have op := rg.2.2.2.resolve_left z
  have us := ((av b b0 b1).1 k k0 k1 i i0 i1).resolve_left z
  have nw := tl f f0 f1 _ op.1 op.2
  have hs : NHS P la ord f (P.lz (P.bp (P.el la (ord f)))) (P.lz (P.br (P.el la (ord f)))) (P.ia (P.pu (P.el (P.bp (P.el la b)) k)) i) := by
    rcases us with us | us
    · rw [← ef] at us; exact Or.inl us
    · rw [← ef] at us; exact NHS.sib us
  have nn := nw.2.2 hs
  have w := NAV.rng a g f0 f1 (nw.2.1 nn)
  rw [ef] at nn w
  exact ⟨nn, w.2⟩
/-- the PHI in hand, in the first pool -/
theorem NPO.at (h : NPO Q Q2 la lt b k i) (nx : NXR P Q la ord o o 0 0) (al : NAL ord o (P.lz la)) (a : ALP L P cO cI cZ ed la) (b0 : 0 ≤ b) (b1 : b < P.lz la) (k0 : 0 ≤ k) (k1 : k < P.lz (P.bp (P.el la b))) (ex : x = P.el (P.bp (P.el la b)) k) : Q2.pn x = P.pn x ∧ (Q2.pp x = P.pp x ∧ Q2.pu x = P.pu x ∧ Q.pu x = P.pu x) ∧ Q2.ia (P.pp x) = P.ia (P.pp x) ∧ (0 ≤ i → i < P.pn x → Q2.ia (P.pu x) i = P.ia (P.pu x) i) ∧ Q.pn x = P.pn x ∧ Q.ia (P.pp x) = P.ia (P.pp x) ∧ Q.ia (P.pu x) = P.ia (P.pu x) := by
  subst ex
  obtain ⟨f, f0, f1, ef⟩ := al b b0 b1
  have kx := a.kphi b0 b1 k0 k1
  have pk := a.pik kx.1 kx.2
  have u := nx.2.1 f k f0 f1 k0 (by rw [ef]; exact k1)
  rw [ef] at u
  have s := nx.1
  have ib := a.inb ⟨b, b0, b1, rfl⟩
  have en : Q.pn (P.el (P.bp (P.el la b)) k) = P.pn (P.el (P.bp (P.el la b)) k) := u.1 1 (by decide)
  have N : ∀ f z : Nat, Q2.2.1 f z = P.2.1 f z := fun f z => by rw [h.1.2.1, s.1.1]
  have N1 : ∀ f z : Nat, Q.2.1 f z = P.2.1 f z := fun f z => by rw [s.1.1]
  have ip : Q.ia (P.pp (P.el (P.bp (P.el la b)) k)) = P.ia (P.pp (P.el (P.bp (P.el la b)) k)) := s.2.2.1 _ (by rw [pk.2.1.2.1]; decide)
  have iu : Q.ia (P.pu (P.el (P.bp (P.el la b)) k)) = P.ia (P.pu (P.el (P.bp (P.el la b)) k)) := s.2.2.1 _ (by rw [pk.2.2.1.2.1]; decide)
  refine ⟨(show Q2.1 1 _ = Q.1 1 _ by rw [h.1.1]).trans en, ⟨N 1 _, N 2 _, N1 2 _⟩, (h.2.1 _ (by rw [s.kd, pk.2.1.2.1]; decide)).trans ip, fun i0 i1 => ?_, en, ip, iu⟩
  have ex : Q.el (Q.bp (Q.el la b)) k = P.el (P.bp (P.el la b)) k := by rw [s.el, s.bp, s.el]
  have w := (h.2.2 b k i b0 (by rw [s.lz la a.lok.2.1]; exact b1) k0 (by rw [s.el, s.bp, s.lz _ ib.2.2.1.2.1]; exact k1) i0 (by rw [ex, en]; exact i1)).2 (by omega)
  rw [ex, show Q.pu (P.el (P.bp (P.el la b)) k) = P.pu (P.el (P.bp (P.el la b)) k) from N1 2 _] at w
  exact w.trans (congrFun iu i)
end NMD5
section NMD4
variable {L : List Nat} {P Q Q2 : PO} {cO cI cZ : ClassId} {ed la x y : Nat} {ord : Int → Int} {b i k j o r : Int} {lt : Int → Int → Int}
theorem NXS.pp (h : NXS P Q) (z : Nat) : Q.pp z = P.pp z := congrArg (fun q : Nat → Nat → Nat => q 1 z) h.1.1
theorem NXR.ndr (h : NXR P Q la ord o k j r) (a : ALP L P cO cI cZ ed la) (nd : NDR P la) : NDR Q la := by
  have s := h.1
  have zl := s.lz la a.lok.2.1
  have zp : ∀ b : Int, 0 ≤ b → b < P.lz la → Q.lz (P.bp (P.el la b)) = P.lz (P.bp (P.el la b)) ∧ Q.lz (P.br (P.el la b)) = P.lz (P.br (P.el la b)) := fun b b0 b1 => by
    have ib := a.inb ⟨b, b0, b1, rfl⟩
    exact ⟨s.lz _ ib.2.2.1.2.1, s.lz _ ib.2.1.2.1⟩
  refine ⟨fun b c j k b0 b1 c0 c1 j0 j1 k0 k1 e => ?_, fun b c j k b0 b1 c0 c1 j0 j1 k0 k1 e => ?_, fun b c b0 b1 c0 c1 e => ?_⟩
  · rw [zl] at b1 c1
    rw [s.el, s.br, (zp b b0 b1).2] at j1
    rw [s.el, s.br, (zp c c0 c1).2] at k1
    rw [s.el, s.br, s.el, s.el, s.br, s.el] at e
    exact nd.1 b c j k b0 b1 c0 c1 j0 j1 k0 k1 e
  · rw [zl] at b1 c1
    rw [s.el, s.bp, (zp b b0 b1).1] at j1
    rw [s.el, s.bp, (zp c c0 c1).1] at k1
    rw [s.el, s.bp, s.el, s.el, s.bp, s.el] at e
    exact nd.2.1 b c j k b0 b1 c0 c1 j0 j1 k0 k1 e
  · rw [zl] at b1 c1
    rw [s.el, s.be, s.el, s.be] at e
    exact nd.2.2 b c b0 b1 c0 c1 e
theorem NPO.nxs (h : NPO Q Q2 la lt b k i) (s : NXS P Q) : NXT P Q2 := ⟨⟨h.1.2.1.trans s.1.1, h.1.2.2.1.trans s.1.2⟩, fun z z1 z2 f => (show Q2.1 f z = Q.1 f z by rw [h.1.1]).trans (s.2.1 z z1 z2 f)⟩
theorem NPO.tab (h : NPO Q Q2 la lt b k i) (ky : Q.kd y = 45) : Q2.ia y = Q.ia y := h.2.1 y (by rw [ky]; decide)
end NMD4
