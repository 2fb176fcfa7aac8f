/-! names (named): each thing that sets gets a number of its own, block by block along an order in which the nearest dominator stands before -/
def NSM (P : PO) (la : Nat) (ord : Int → Int) (i : Int) : Int := sumI (fun e => WSB P la (ord e)) i.toNat
/-- v is the name of something in block number i of the order: of a PHI in front of j, of a row in front of r -/
def NIB (P : PO) (la : Nat) (ord : Int → Int) (i j r v : Int) : Prop := (∃ q : Int, 0 ≤ q ∧ q < j ∧ q < P.lz (P.bp (P.el la (ord i))) ∧ v = NSM P la ord i + q) ∨ ∃ q : Int, 0 ≤ q ∧ q < r ∧ q < P.lz (P.br (P.el la (ord i))) ∧ rSets (P.ro (P.el (P.br (P.el la (ord i))) q)) ≠ 0 ∧ v = NSM P la ord i + P.lz (P.bp (P.el la (ord i))) + CSR P (P.el la (ord i)) q
def NIA (P : PO) (la : Nat) (ord : Int → Int) (i v : Int) : Prop := NIB P la ord i (P.lz (P.bp (P.el la (ord i)))) (P.lz (P.br (P.el la (ord i)))) v
def NDM (P : PO) (la : Nat) (ord : Int → Int) (o i v : Int) : Prop := ∃ e : Int, 0 ≤ e ∧ e < o ∧ e ≠ i ∧ DOM P la (ord e) (ord i) ∧ NIA P la ord e v
def NAV (P : PO) (la : Nat) (ord : Int → Int) (o i j r v : Int) : Prop := NDM P la ord o i v ∨ NIB P la ord i j r v
/-- x is set by a block that dominates b, and is another -/
def DA9 (P : PO) (la : Nat) (x b : Int) : Prop := ∃ d : Int, 0 ≤ d ∧ d < P.lz la ∧ SIB P la d x ∧ DOM P la d b ∧ d ≠ b
def NHS (P : PO) (la : Nat) (ord : Int → Int) (i j r x : Int) : Prop := DA9 P la x (ord i) ∨ (∃ q : Int, 0 ≤ q ∧ q < j ∧ q < P.lz (P.bp (P.el la (ord i))) ∧ P.pt (P.el (P.bp (P.el la (ord i))) q) = x) ∨ SRW P la (ord i) r x
/-- the row of the newest names while block number i is gone through -/
def NOW9 (P : PO) (la : Nat) (ord : Int → Int) (o i j r : Int) (now : Int → Int) : Prop := ∀ x : Int, 0 ≤ x → x ≤ 1001 → -1 ≤ now x ∧ (0 ≤ now x → NAV P la ord o i j r (now x)) ∧ (NHS P la ord i j r x → 0 ≤ now x)
/-- the rows of the blocks that are done -/
def NLT (P : PO) (la : Nat) (ord : Int → Int) (o k : Int) (lt : Int → Int → Int) : Prop := ∀ i : Int, 0 ≤ i → i < k → NOW9 P la ord o i (P.lz (P.bp (P.el la (ord i)))) (P.lz (P.br (P.el la (ord i)))) (lt (ord i))
section NMD9
variable {L : List Nat} {P Q : PO} {cO cI cZ : ClassId} {ed la : Nat} {ord idm : Int → Int} {b d e i j k n o p q r v x y : Int} {now : Int → Int} {lt : Int → Int → Int}
theorem WSB.nn (a : ALP L P cO cI cZ ed la) (b0 : 0 ≤ b) (b1 : b < P.lz la) : 0 ≤ P.lz (P.bp (P.el la b)) ∧ 0 ≤ P.lz (P.br (P.el la b)) ∧ 0 ≤ CSR P (P.el la b) (P.lz (P.br (P.el la b))) := by
  have ib := a.inb ⟨b, b0, b1, rfl⟩
  have z1 := ib.2.2.1.2.2.1.1
  have z2 := ib.2.1.2.2.1.1
  have q := CSR.up (P := P) (y := P.el la b) (k := 0) (by omega) (P.lz (P.br (P.el la b))).toNat
  rw [CSR.zero, show (0 : Int) + (((P.lz (P.br (P.el la b))).toNat : Nat) : Int) = P.lz (P.br (P.el la b)) from by omega] at q
  exact ⟨z1, z2, q⟩
theorem CSR.mono9 {y : Nat} (i0 : 0 ≤ i) (ij : i ≤ j) : CSR P y i ≤ CSR P y j := by
  have q := CSR.up (P := P) (y := y) (k := i) i0 (j - i).toNat
  rw [show i + (((j - i).toNat : Nat) : Int) = j from by omega] at q
  exact q
theorem NSM.zero : NSM P la ord 0 = 0 := rfl
theorem NSM.succ (i0 : 0 ≤ i) : NSM P la ord (i + 1) = NSM P la ord i + WSB P la (ord i) := by
  unfold NSM
  rw [show (i + 1).toNat = i.toNat + 1 from by omega]
  show sumI _ i.toNat + WSB P la (ord ((i.toNat : Nat) : Int)) = _
  rw [show ((i.toNat : Nat) : Int) = i from by omega]
theorem NSM.up (a : ALP L P cO cI cZ ed la) (og : ∀ e : Int, 0 ≤ e → e < o → 0 ≤ ord e ∧ ord e < P.lz la) (i0 : 0 ≤ i) : ∀ m : Nat, i + m ≤ o → NSM P la ord i ≤ NSM P la ord (i + m)
  | 0, _ => by rw [show i + ((0 : Nat) : Int) = i from by omega]; exact Int.le_refl _
  | m + 1, h => by
    have ih := NSM.up a og i0 m (by omega)
    have w := og (i + m) (by omega) (by omega)
    have z := WSB.nn a w.1 w.2
    rw [show i + ((m + 1 : Nat) : Int) = i + m + 1 from by omega, NSM.succ (by omega)]
    unfold WSB
    omega
theorem NSM.mono (a : ALP L P cO cI cZ ed la) (og : ∀ e : Int, 0 ≤ e → e < o → 0 ≤ ord e ∧ ord e < P.lz la) (i0 : 0 ≤ i) (ij : i ≤ j) (jo : j ≤ o) : NSM P la ord i ≤ NSM P la ord j := by
  have q := NSM.up a og i0 (j - i).toNat (by omega)
  rw [show i + (((j - i).toNat : Nat) : Int) = j from by omega] at q
  exact q
theorem NSM.le (a : ALP L P cO cI cZ ed la) (h : ODR idm ord o (P.lz la)) : NSM P la ord o ≤ NST P la := by
  have n0 := h.1.1
  have q := sumI_ord (N := (P.lz la).toNat) (ord := ord) o.toNat (fun b => WSB P la b) (fun b b0 b1 => by
    have z := WSB.nn a b0 (show b < P.lz la by omega)
    show 0 ≤ WSB P la b
    unfold WSB
    omega) (fun j j0 j1 => by have w := h.2.1 j j0 (by omega); exact ⟨w.1, by omega⟩) (fun i j i0 ij j1 => h.2.2.1 i j i0 ij (by omega))
  exact q
theorem NIB.rng (a : ALP L P cO cI cZ ed la) (b0 : 0 ≤ ord i) (b1 : ord i < P.lz la) (i0 : 0 ≤ i) (h : NIB P la ord i j r v) : NSM P la ord i ≤ v ∧ v < NSM P la ord (i + 1) := by
  have z := WSB.nn a b0 b1
  rw [NSM.succ i0]
  unfold WSB
  rcases h with ⟨q, q0, _, q1, e⟩ | ⟨q, q0, _, q1, s, e⟩
  · omega
  · have y1 := CSR.yes (P := P) (y := P.el la (ord i)) q0 s
    have y2 := CSR.mono9 (P := P) (y := P.el la (ord i)) (i := q + 1) (j := P.lz (P.br (P.el la (ord i)))) (by omega) (by omega)
    have y3 := CSR.mono9 (P := P) (y := P.el la (ord i)) (i := 0) (j := q) (by omega) (by omega)
    rw [CSR.zero] at y3
    omega
theorem NIB.wk {j' r' : Int} (h : NIB P la ord i j r v) (a : j ≤ j') (c : r ≤ r') : NIB P la ord i j' r' v := by
  rcases h with ⟨q, q0, q1, w⟩ | ⟨q, q0, q1, w⟩
  · exact Or.inl ⟨q, q0, by omega, w⟩
  · exact Or.inr ⟨q, q0, by omega, w⟩
theorem NIB.all (h : NIB P la ord i j r v) : NIA P la ord i v := by
  rcases h with ⟨q, q0, _, q1, w⟩ | ⟨q, q0, _, q1, w⟩
  · exact Or.inl ⟨q, q0, q1, q1, w⟩
  · exact Or.inr ⟨q, q0, q1, q1, w⟩
theorem NAV.wk {j' r' : Int} (h : NAV P la ord o i j r v) (a : j ≤ j') (c : r ≤ r') : NAV P la ord o i j' r' v := h.imp id (fun q => q.wk a c)
theorem NAV.rng (a : ALP L P cO cI cZ ed la) (g : ODR idm ord o (P.lz la)) (i0 : 0 ≤ i) (i1 : i < o) (h : NAV P la ord o i j r v) : 0 ≤ v ∧ v < NST P la := by
  have og := g.2.1
  have le := NSM.le a g
  have key : ∀ e : Int, 0 ≤ e → e < o → ∀ j r : Int, NIB P la ord e j r v → 0 ≤ v ∧ v < NST P la := fun e e0 e1 j r w => by
    have q := og e e0 e1
    have u := NIB.rng a q.1 q.2 e0 w
    have m1 := NSM.mono a og (i := 0) (j := e) (by omega) e0 (by omega)
    have m2 := NSM.mono a og (i := e + 1) (j := o) (by omega) (by omega) (by omega)
    rw [NSM.zero] at m1
    omega
  rcases h with ⟨e, e0, e1, _, _, w⟩ | w
  · exact key e e0 e1 _ _ w
  · exact key i i0 i1 _ _ w
theorem NHS.of (h : AVT P la (DA9 P la) (ord i) r x) : NHS P la ord i (P.lz (P.bp (P.el la (ord i)))) r x := by
  rcases h with w | ⟨q, q0, q1, w⟩ | w
  · exact Or.inl w
  · exact Or.inr (Or.inl ⟨q, q0, q1, q1, w⟩)
  · exact Or.inr (Or.inr w)
theorem NHS.sib (h : SIB P la (ord i) x) : NHS P la ord i (P.lz (P.bp (P.el la (ord i)))) (P.lz (P.br (P.el la (ord i)))) x := by
  rcases h with ⟨q, q0, q1, w⟩ | w
  · exact Or.inr (Or.inl ⟨q, q0, q1, q1, w⟩)
  · exact Or.inr (Or.inr w)
/-- what is used has a name -/
theorem NOW9.use (h : NOW9 P la ord o i (P.lz (P.bp (P.el la (ord i)))) r now) (u : AVT P la (DA9 P la) (ord i) r x) (x0 : 0 ≤ x) (x1 : x ≤ 1001) : 0 ≤ now x ∧ NAV P la ord o i (P.lz (P.bp (P.el la (ord i)))) r (now x) := by
  have w := h x x0 x1
  have q := w.2.2 (NHS.of u)
  exact ⟨q, w.2.1 q⟩
/-- the first block -/
theorem NOW9.zero (z : ord i = 0) (h : ∀ x : Int, 0 ≤ x → x ≤ 1001 → now x = -1) : NOW9 P la ord o i 0 0 now := fun x x0 x1 => by
  have e := h x x0 x1
  refine ⟨by omega, fun q => by omega, fun q => ?_⟩
  rcases q with ⟨d, d0, d1, _, dm, ne⟩ | ⟨q, q0, q1, _⟩ | ⟨q, q0, q1, _⟩
  · rw [z] at dm ne
    exact absurd (RCH.zero ne) dm.2.2
  · omega
  · omega
/-- what the nearest dominator hands on -/
theorem NOW9.idom (h : NLT P la ord o k lt) (e0 : 0 ≤ e) (e1 : e < k) (ko : k < o) (m : IDM P la (ord e) (ord k)) (c : ∀ x : Int, 0 ≤ x → x ≤ 1001 → now x = lt (ord e) x) : NOW9 P la ord o k 0 0 now := fun x x0 x1 => by
  have w := h e e0 e1 x x0 x1
  rw [c x x0 x1]
  refine ⟨w.1, fun q => Or.inl ?_, fun q => w.2.2 ?_⟩
  · rcases w.2.1 q with ⟨u, u0, u1, _, dm, s⟩ | s
    · refine ⟨u, u0, u1, fun t => ?_, dm.trans m.1, s⟩
      rw [t] at dm
      exact m.2.1 (DOM.anti m.1 dm)
    · exact ⟨e, e0, by omega, by omega, m.1, s.all⟩
  · rcases q with ⟨d, d0, d1, s, dm, ne⟩ | ⟨q, q0, q1, _⟩ | ⟨q, q0, q1, _⟩
    · have ab := m.above dm ne
      by_cases t : d = ord e
      · rw [t] at s; exact NHS.sib s
      · exact Or.inl ⟨d, d0, d1, s, ab, t⟩
    · omega
    · omega
theorem NOW9.phi (a : ALP L P cO cI cZ ed la) (og : ∀ e : Int, 0 ≤ e → e < o → 0 ≤ ord e ∧ ord e < P.lz la) (h : NOW9 P la ord o k j 0 now) (k0 : 0 ≤ k) (ko : k < o) (j0 : 0 ≤ j) (j1 : j < P.lz (P.bp (P.el la (ord k)))) : NOW9 P la ord o k (j + 1) 0 (zup now (P.pt (P.el (P.bp (P.el la (ord k))) j)) (NSM P la ord k + j)) := fun x x0 x1 => by
  have w := h x x0 x1
  have m1 := NSM.mono a og (i := 0) (j := k) (by omega) k0 (by omega)
  rw [NSM.zero] at m1
  by_cases t : x = P.pt (P.el (P.bp (P.el la (ord k))) j)
  · rw [t, zup_eq]
    exact ⟨by omega, fun _ => Or.inr (Or.inl ⟨j, j0, by omega, j1, rfl⟩), fun _ => by omega⟩
  · rw [zup_ne _ _ t]
    refine ⟨w.1, fun q => (w.2.1 q).wk (by omega) (Int.le_refl _), fun q => w.2.2 ?_⟩
    rcases q with s | ⟨q, q0, q1, q2, s⟩ | s
    · exact Or.inl s
    · by_cases g : q = j
      · rw [g] at s; exact absurd s.symm t
      · exact Or.inr (Or.inl ⟨q, q0, by omega, q2, s⟩)
    · exact Or.inr (Or.inr s)
theorem NOW9.row (a : ALP L P cO cI cZ ed la) (og : ∀ e : Int, 0 ≤ e → e < o → 0 ≤ ord e ∧ ord e < P.lz la) (h : NOW9 P la ord o k j r now) (k0 : 0 ≤ k) (ko : k < o) (r0 : 0 ≤ r) (r1 : r < P.lz (P.br (P.el la (ord k)))) (s : rSets (P.ro (P.el (P.br (P.el la (ord k))) r)) ≠ 0) : NOW9 P la ord o k j (r + 1) (zup now (P.rt (P.el (P.br (P.el la (ord k))) r)) (NSM P la ord k + P.lz (P.bp (P.el la (ord k))) + CSR P (P.el la (ord k)) r)) := fun x x0 x1 => by
  have w := h x x0 x1
  have g := og k k0 ko
  have m1 := NSM.mono a og (i := 0) (j := k) (by omega) k0 (by omega)
  rw [NSM.zero] at m1
  have z := WSB.nn a g.1 g.2
  have z3 := CSR.mono9 (P := P) (y := P.el la (ord k)) (i := 0) (j := r) (by omega) r0
  rw [CSR.zero] at z3
  by_cases t : x = P.rt (P.el (P.br (P.el la (ord k))) r)
  · rw [t, zup_eq]
    exact ⟨by omega, fun _ => Or.inr (Or.inr ⟨r, r0, by omega, r1, s, rfl⟩), fun _ => by omega⟩
  · rw [zup_ne _ _ t]
    refine ⟨w.1, fun q => (w.2.1 q).wk (Int.le_refl _) (by omega), fun q => w.2.2 ?_⟩
    rcases q with u | u | ⟨q, q0, q1, q2, q3, u⟩
    · exact Or.inl u
    · exact Or.inr (Or.inl u)
    · by_cases g : q = r
      · rw [g] at u; exact absurd u.symm t
      · exact Or.inr (Or.inr ⟨q, q0, by omega, q2, q3, u⟩)
theorem NOW9.non (h : NOW9 P la ord o k j r now) (s : rSets (P.ro (P.el (P.br (P.el la (ord k))) r)) = 0) : NOW9 P la ord o k j (r + 1) now := fun x x0 x1 => by
  have w := h x x0 x1
  refine ⟨w.1, fun q => (w.2.1 q).wk (Int.le_refl _) (by omega), fun q => w.2.2 ?_⟩
  rcases q with u | u | ⟨q, q0, q1, q2, q3, u⟩
  · exact Or.inl u
  · exact Or.inr (Or.inl u)
  · by_cases g : q = r
    · rw [g] at q3; exact absurd s q3
    · exact Or.inr (Or.inr ⟨q, q0, by omega, q2, q3, u⟩)
theorem NOW9.to {j' r' : Int} (h : NOW9 P la ord o k j r now) (a : j = j') (c : r = r') : NOW9 P la ord o k j' r' now := by rw [← a, ← c]; exact h
theorem NOW9.eq {now' : Int → Int} (h : NOW9 P la ord o k j r now) (c : ∀ x : Int, 0 ≤ x → x ≤ 1001 → now' x = now x) : NOW9 P la ord o k j r now' := fun x x0 x1 => by
  rw [c x x0 x1]; exact h x x0 x1
theorem NLT.first (lt : Int → Int → Int) : NLT P la ord o 0 lt := fun i i0 i1 => by omega
theorem NLT.next (h : NLT P la ord o k lt) (c : NOW9 P la ord o k (P.lz (P.bp (P.el la (ord k)))) (P.lz (P.br (P.el la (ord k)))) (lt (ord k))) : NLT P la ord o (k + 1) lt := fun i i0 i1 => by
  by_cases g : i = k
  · rw [g]; exact c
  · exact h i i0 (by omega)
theorem NLT.eq {lt' : Int → Int → Int} (h : NLT P la ord o k lt) (c : ∀ i x : Int, 0 ≤ i → i < k → 0 ≤ x → x ≤ 1001 → lt' (ord i) x = lt (ord i) x) : NLT P la ord o k lt' := fun i i0 i1 => (h i i0 i1).eq (fun x x0 x1 => c i x i0 i1 x0 x1)
end NMD9
