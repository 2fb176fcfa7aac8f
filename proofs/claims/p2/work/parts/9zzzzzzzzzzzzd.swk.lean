/-! what a function keeps when something goes out of its lists -/
/-- only lists and flags of what is gone have changed -/
def NSG (P Q : PO) : Prop := Q.2.1 = P.2.1 ∧ Q.2.2.2 = P.2.2.2 ∧ ∀ (z f : Nat), P.kd z ≠ 30 → (P.kd z = 17 → f ≠ 6) → (P.kd z = 15 → f ≠ 2) → Q.1 f z = P.1 f z
/-- how what is left stands in what was: g is 0 of what is left -/
def MPS (m : Int → Int) (n n' : Int) (e e' : Int → Nat) (g : Nat → Int) : Prop := 0 ≤ n' ∧ (∀ k i : Int, 0 ≤ k → k < i → i < n' → m k < m i) ∧ (∀ k : Int, 0 ≤ k → k < n' → 0 ≤ m k ∧ m k < n ∧ e' k = e (m k) ∧ g (e (m k)) = 0) ∧ ∀ i : Int, 0 ≤ i → i < n → g (e i) = 0 → ∃ k : Int, 0 ≤ k ∧ k < n' ∧ m k = i
/-- gp, gr: what is gone (PHIs, rows) went -/
def SWG (P Q : PO) (la : Nat) (gp gr : Nat → Int) : Prop := NSG P Q ∧ UNT P Q la ∧ ∀ b : Int, 0 ≤ b → b < P.lz la → (∃ m : Int → Int, MPS m (P.lz (P.bp (P.el la b))) (Q.lz (P.bp (P.el la b))) (P.el (P.bp (P.el la b))) (Q.el (P.bp (P.el la b))) gp) ∧ ∃ m : Int → Int, MPS m (P.lz (P.br (P.el la b))) (Q.lz (P.br (P.el la b))) (P.el (P.br (P.el la b))) (Q.el (P.br (P.el la b))) gr
/-- N: the registers that are wanted; nothing that goes sets one, and what is left uses no other -/
def NDD (P : PO) (la : Nat) (gp gr : Nat → Int) (N : Int → Prop) : Prop := ∀ b : Int, 0 ≤ b → b < P.lz la → (∀ k : Int, 0 ≤ k → k < P.lz (P.bp (P.el la b)) → (gp (P.el (P.bp (P.el la b)) k) ≠ 0 → ¬ N (P.pt (P.el (P.bp (P.el la b)) k))) ∧ (gp (P.el (P.bp (P.el la b)) k) = 0 → ∀ i : Int, 0 ≤ i → i < P.pn (P.el (P.bp (P.el la b)) k) → P.ia (P.pr (P.el (P.bp (P.el la b)) k)) i = 0 ∨ N (P.ia (P.pu (P.el (P.bp (P.el la b)) k)) i))) ∧ (∀ k : Int, 0 ≤ k → k < P.lz (P.br (P.el la b)) → (gr (P.el (P.br (P.el la b)) k) ≠ 0 → rSets (P.ro (P.el (P.br (P.el la b)) k)) ≠ 0 → ¬ N (P.rt (P.el (P.br (P.el la b)) k))) ∧ (gr (P.el (P.br (P.el la b)) k) = 0 → (rUsA (P.ro (P.el (P.br (P.el la b)) k)) (P.rA (P.el (P.br (P.el la b)) k)) = 0 ∨ N (P.ra (P.el (P.br (P.el la b)) k))) ∧ (rUsB (P.ro (P.el (P.br (P.el la b)) k)) (P.rB (P.el (P.br (P.el la b)) k)) = 0 ∨ N (P.rb (P.el (P.br (P.el la b)) k))))) ∧ (rUsA (P.ro (P.be (P.el la b))) (P.rA (P.be (P.el la b))) = 0 ∨ N (P.ra (P.be (P.el la b)))) ∧ (rUsB (P.ro (P.be (P.el la b))) (P.rB (P.be (P.el la b))) = 0 ∨ N (P.rb (P.be (P.el la b))))
section SWK9
variable {L : List Nat} {P P1 Q : PO} {cO cI cZ : ClassId} {ed x z la : Nat} {A : Int → Int → Prop} {N : Int → Prop} {b c i j k p r n n' : Int} {m : Int → Int} {e e' : Int → Nat} {g gp gr : Nat → Int}
theorem FLT.mps (h : FLT (fun z => g z ≠ 0) e n e' n' 0) : ∃ m : Int → Int, MPS m n n' e e' g := by
  obtain ⟨a, m, m1, m2, m3, m4⟩ := h
  refine ⟨m, a, m2, fun k k0 k1 => ⟨(m3 k k0 k1).1, (m3 k k0 k1).2.1, (m3 k k0 k1).2.2.1, ?_⟩, fun i i0 i1 q => m4 i i0 i1 (fun w => w q)⟩
  exact Classical.byContradiction (fun w => (m3 k k0 k1).2.2.2 k0 w)
theorem MPS.lt (h : MPS m n n' e e' g) (k0 : 0 ≤ k) (i1 : i < n') (i0 : 0 ≤ i) (k1 : k < n') (q : m k < m i) : k < i := by
  rcases Int.lt_or_le k i with w | w
  · exact w
  · exfalso
    by_cases t : k = i
    · rw [t] at q; omega
    · have := h.2.1 i k i0 (by omega) k1
      omega
theorem MPS.inj (h : MPS m n n' e e' g) (k0 : 0 ≤ k) (k1 : k < n') (i0 : 0 ≤ i) (i1 : i < n') (q : m k = m i) : k = i := by
  rcases Int.lt_or_le k i with w | w
  · have := h.2.1 k i k0 w i1; omega
  · by_cases t : k = i
    · exact t
    · have := h.2.1 i k i0 (by omega) k1; omega
theorem MPS.up (h : MPS m n n' e e' g) : ∀ t : Nat, (t : Int) < n' → (t : Int) ≤ m t
  | 0, q => (h.2.2.1 0 (by omega) (by omega)).1
  | t + 1, q => by
    have w := MPS.up h t (by omega)
    have v := h.2.1 t ((t + 1 : Nat) : Int) (by omega) (by omega) q
    omega
theorem MPS.le (h : MPS m n n' e e' g) (n0 : 0 ≤ n) : n' ≤ n := by
  by_cases t : n' ≤ 0
  · omega
  · have w := h.up (n' - 1).toNat (by omega)
    rw [show (((n' - 1).toNat : Nat) : Int) = n' - 1 from by omega] at w
    have v := (h.2.2.1 (n' - 1) (by omega) (by omega)).2.1
    omega
theorem NSG.bp (h : NSG P Q) (x : Nat) : Q.bp x = P.bp x := by unfold PO.bp; rw [h.1]
theorem NSG.br (h : NSG P Q) (x : Nat) : Q.br x = P.br x := by unfold PO.br; rw [h.1]
theorem NSG.be (h : NSG P Q) (x : Nat) : Q.be x = P.be x := by unfold PO.be; rw [h.1]
theorem NSG.pp (h : NSG P Q) (x : Nat) : Q.pp x = P.pp x := by unfold PO.pp; rw [h.1]
theorem NSG.pu (h : NSG P Q) (x : Nat) : Q.pu x = P.pu x := by unfold PO.pu; rw [h.1]
theorem NSG.pr (h : NSG P Q) (x : Nat) : Q.pr x = P.pr x := by unfold PO.pr; rw [h.1]
theorem NSG.ia (h : NSG P Q) (x : Nat) : Q.ia x = P.ia x := by unfold PO.ia; rw [h.2.1]
theorem NSG.kd (h : NSG P Q) (x : Nat) : Q.kd x = P.kd x := by unfold PO.kd; rw [h.1]
/-- a row's numbers -/
theorem NSG.row (h : NSG P Q) (k : P.kd x = 17) : Q.ro x = P.ro x ∧ Q.rt x = P.rt x ∧ Q.ra x = P.ra x ∧ Q.rb x = P.rb x ∧ Q.rA x = P.rA x ∧ Q.rB x = P.rB x := by
  have q : ∀ f : Nat, f ≠ 6 → Q.1 f x = P.1 f x := fun f n => h.2.2 x f (by omega) (fun _ => n) (fun w => by omega)
  exact ⟨q 0 (by decide), q 1 (by decide), q 2 (by decide), q 3 (by decide), q 4 (by decide), q 5 (by decide)⟩
theorem NSG.phi (h : NSG P Q) (k : P.kd x = 15) : Q.pt x = P.pt x ∧ Q.pn x = P.pn x := by
  have q : ∀ f : Nat, f ≠ 2 → Q.1 f x = P.1 f x := fun f n => h.2.2 x f (by omega) (fun w => by omega) (fun _ => n)
  exact ⟨q 0 (by decide), q 1 (by decide)⟩
theorem NSG.blk (h : NSG P Q) (k : P.kd x = 12) : Q.bf x = P.bf x ∧ Q.bs x = P.bs x := ⟨h.2.2 x 0 (by omega) (fun w => by omega) (fun w => by omega), h.2.2 x 1 (by omega) (fun w => by omega) (fun w => by omega)⟩
theorem SWG.el (s : SWG P Q la gp gr) (b0 : 0 ≤ b) (b1 : b < P.lz la) : Q.el la b = P.el la b := s.2.1.2 b b0 b1
/-- PHIs, rows of a block -/
theorem SWG.ph (s : SWG P Q la gp gr) (b0 : 0 ≤ b) (b1 : b < P.lz la) : ∃ m : Int → Int, MPS m (P.lz (P.bp (P.el la b))) (Q.lz (Q.bp (Q.el la b))) (P.el (P.bp (P.el la b))) (Q.el (Q.bp (Q.el la b))) gp := by
  rw [s.el b0 b1, s.1.bp]; exact (s.2.2 b b0 b1).1
theorem SWG.rw (s : SWG P Q la gp gr) (b0 : 0 ≤ b) (b1 : b < P.lz la) : ∃ m : Int → Int, MPS m (P.lz (P.br (P.el la b))) (Q.lz (Q.br (Q.el la b))) (P.el (P.br (P.el la b))) (Q.el (Q.br (Q.el la b))) gr := by
  rw [s.el b0 b1, s.1.br]; exact (s.2.2 b b0 b1).2
theorem SWG.edg (s : SWG P Q la gp gr) (a : ALP L P cO cI cZ ed la) (p0 : 0 ≤ p) (p1 : p < P.lz la) : EDG Q la p c ↔ EDG P la p c := by
  have bk := a.inb ⟨p, p0, p1, rfl⟩
  have f := s.1.blk bk.1.2
  have o := (s.1.row (a.kend p0 p1).2.1).1
  unfold EDG
  rw [s.el p0 p1, s.1.be, o, f.1, f.2]
theorem ALR.swg (h : ALR P la) (s : SWG P Q la gp gr) (a : ALP L P cO cI cZ ed la) : ALR Q la := fun b b0 b1 => by
  rw [s.2.1.1] at b1
  exact (h b b0 b1 (fun c => RCH Q la (-1) c ∧ 0 ≤ c ∧ c < P.lz la) (fun _ => ⟨RCH.zero (by decide), by omega, by omega⟩) (fun p q t e ne => ⟨t.1.step ((s.edg a t.2.1 t.2.2).mpr e) ne, EDG.rng a t.2.1 t.2.2 e⟩)).1
theorem NDR.swg (h : NDR P la) (s : SWG P Q la gp gr) : NDR Q la := by
  refine ⟨fun b c j k b0 b1 c0 c1 j0 j1 k0 k1 q => ?_, fun b c j k b0 b1 c0 c1 j0 j1 k0 k1 q => ?_, fun b c b0 b1 c0 c1 q => ?_⟩ <;> rw [s.2.1.1] at b1 c1
  · obtain ⟨m, hm⟩ := s.rw b0 b1
    obtain ⟨m', hm'⟩ := s.rw c0 c1
    have u := hm.2.2.1 j j0 j1
    have v := hm'.2.2.1 k k0 k1
    rw [u.2.2.1, v.2.2.1] at q
    obtain ⟨t1, t2⟩ := h.1 b c (m j) (m' k) b0 b1 c0 c1 u.1 u.2.1 v.1 v.2.1 q
    subst t1
    obtain ⟨i, i0, i1, i2⟩ := hm.2.2.2 (m' k) v.1 v.2.1 v.2.2.2
    have w : j = i := hm.inj j0 j1 i0 i1 (by rw [t2, i2])
    exact ⟨rfl, by
      have kk : Q.el (Q.br (Q.el la b)) k = P.el (P.br (P.el la b)) (m j) := by rw [v.2.2.1, t2]
      have u2 := hm.2.2.1 k k0 k1
      rw [u2.2.2.1] at kk
      have t3 := (h.1 b b (m k) (m j) b0 b1 b0 b1 u2.1 u2.2.1 u.1 u.2.1 kk).2
      exact (hm.inj k0 k1 j0 j1 t3).symm⟩
  · obtain ⟨m, hm⟩ := s.ph b0 b1
    obtain ⟨m', hm'⟩ := s.ph c0 c1
    have u := hm.2.2.1 j j0 j1
    have v := hm'.2.2.1 k k0 k1
    rw [u.2.2.1, v.2.2.1] at q
    obtain ⟨t1, t2⟩ := h.2.1 b c (m j) (m' k) b0 b1 c0 c1 u.1 u.2.1 v.1 v.2.1 q
    subst t1
    exact ⟨rfl, by
      have kk : Q.el (Q.bp (Q.el la b)) k = P.el (P.bp (P.el la b)) (m j) := by rw [v.2.2.1, t2]
      have u2 := hm.2.2.1 k k0 k1
      rw [u2.2.2.1] at kk
      have t3 := (h.2.1 b b (m k) (m j) b0 b1 b0 b1 u2.1 u2.2.1 u.1 u.2.1 kk).2
      exact (hm.inj k0 k1 j0 j1 t3).symm⟩
  · rw [s.el b0 b1, s.el c0 c1, s.1.be, s.1.be] at q
    exact h.2.2 b c b0 b1 c0 c1 q
theorem SPH.swg (h : SPH P la b r) (s : SWG P Q la gp gr) (d : NDD P la gp gr N) (w : N r) (a : ALP L P cO cI cZ ed la) (b0 : 0 ≤ b) (b1 : b < P.lz la) : SPH Q la b r := by
  obtain ⟨k, k0, k1, q⟩ := h
  have g0 : gp (P.el (P.bp (P.el la b)) k) = 0 := Classical.byContradiction (fun t => ((d b b0 b1).1 k k0 k1).1 t (by rw [q]; exact w))
  obtain ⟨m, hm⟩ := s.ph b0 b1
  obtain ⟨i, i0, i1, i2⟩ := hm.2.2.2 k k0 k1 g0
  refine ⟨i, i0, i1, ?_⟩
  rw [(hm.2.2.1 i i0 i1).2.2.1, i2, (s.1.phi (a.kphi b0 b1 k0 k1).2).1]; exact q
theorem SRW.swg (h : SRW P la b j r) (hm : MPS m (P.lz (P.br (P.el la b))) (Q.lz (Q.br (Q.el la b))) (P.el (P.br (P.el la b))) (Q.el (Q.br (Q.el la b))) gr) (t : ∀ i : Int, 0 ≤ i → i < Q.lz (Q.br (Q.el la b)) → m i < j → i < p) (s : SWG P Q la gp gr) (d : NDD P la gp gr N) (w : N r) (a : ALP L P cO cI cZ ed la) (b0 : 0 ≤ b) (b1 : b < P.lz la) : SRW Q la b p r := by
  obtain ⟨k, k0, kj, k1, o, q⟩ := h
  have g0 : gr (P.el (P.br (P.el la b)) k) = 0 := Classical.byContradiction (fun t => ((d b b0 b1).2.1 k k0 k1).1 t o (by rw [q]; exact w))
  obtain ⟨i, i0, i1, i2⟩ := hm.2.2.2 k k0 k1 g0
  have v := s.1.row (a.krow b0 b1 k0 k1).2
  refine ⟨i, i0, t i i0 i1 (by omega), i1, ?_, ?_⟩
  · rw [(hm.2.2.1 i i0 i1).2.2.1, i2, v.1]; exact o
  · rw [(hm.2.2.1 i i0 i1).2.2.1, i2, v.2.1]; exact q
theorem SIB.swg (h : SIB P la b r) (s : SWG P Q la gp gr) (d : NDD P la gp gr N) (w : N r) (a : ALP L P cO cI cZ ed la) (b0 : 0 ≤ b) (b1 : b < P.lz la) : SIB Q la b r := by
  rcases h with h | h
  · exact Or.inl (h.swg s d w a b0 b1)
  · obtain ⟨m, hm⟩ := s.rw b0 b1
    exact Or.inr (h.swg hm (fun i _ i1 _ => i1) s d w a b0 b1)
theorem AVT.swg (h : AVT P la A b j r) (hm : MPS m (P.lz (P.br (P.el la b))) (Q.lz (Q.br (Q.el la b))) (P.el (P.br (P.el la b))) (Q.el (Q.br (Q.el la b))) gr) (t : ∀ i : Int, 0 ≤ i → i < Q.lz (Q.br (Q.el la b)) → m i < j → i < p) (s : SWG P Q la gp gr) (d : NDD P la gp gr N) (w : N r) (a : ALP L P cO cI cZ ed la) (b0 : 0 ≤ b) (b1 : b < P.lz la) : AVT Q la (fun r b => A r b ∧ N r) b p r := by
  rcases h with h | h | h
  · exact Or.inl ⟨h, w⟩
  · exact Or.inr (Or.inl (h.swg s d w a b0 b1))
  · exact Or.inr (Or.inr (h.swg hm t s d w a b0 b1))
theorem AVL.swg (h : AVL P la) (s : SWG P Q la gp gr) (d : NDD P la gp gr N) (a : ALP L P cO cI cZ ed la) : AVL Q la := by
  obtain ⟨A, w, u⟩ := h
  refine ⟨fun r b => A r b ∧ N r, ⟨fun r q => w.1 r q.1, fun r p b p0 p1 e q => ?_⟩, fun b b0 b1 => ?_⟩
  · rw [s.2.1.1] at p1
    rcases w.2 r p b p0 p1 ((s.edg a p0 p1).mp e) q.1 with t | t
    · exact Or.inl ⟨t, q.2⟩
    · exact Or.inr (t.swg s d q.2 a p0 p1)
  · rw [s.2.1.1] at b1
    obtain ⟨u1, u2, u3⟩ := u b b0 b1
    obtain ⟨d1, d2, d3⟩ := d b b0 b1
    obtain ⟨m, hm⟩ := s.ph b0 b1
    obtain ⟨m', hr⟩ := s.rw b0 b1
    refine ⟨fun k k0 k1 i i0 i1 => ?_, fun k k0 k1 => ?_, ?_⟩
    · have v := hm.2.2.1 k k0 k1
      have kx := a.kphi b0 b1 v.1 v.2.1
      have f := s.1.phi kx.2
      rw [v.2.2.1] at i1 ⊢
      rw [f.2] at i1
      rw [s.1.pr, s.1.pu, s.1.pp, s.1.ia, s.1.ia, s.1.ia]
      have ee := (a.pik kx.1 kx.2).2.2.2.2.2.2 i i0 i1
      have pb := a.2.2.1 _ ⟨b, b0, b1, rfl⟩ (m k) v.1 v.2.1 i i0 i1
      rcases (d1 (m k) v.1 v.2.1).2 v.2.2.2 i i0 i1 with t | t
      · exact Or.inl t
      · rcases u1 (m k) v.1 v.2.1 i i0 i1 with y | y | y
        · exact Or.inl y
        · exact Or.inr (Or.inl ⟨y, t⟩)
        · exact Or.inr (Or.inr (y.swg s d t a ee.1.1 pb))
    · have v := hr.2.2.1 k k0 k1
      have kx := a.krow b0 b1 v.1 v.2.1
      obtain ⟨f0, f1, f2, f3, f4, f5⟩ := s.1.row kx.2
      have t := (d2 (m' k) v.1 v.2.1).2 v.2.2.2
      have y := u2 (m' k) v.1 v.2.1
      have lt : ∀ i : Int, 0 ≤ i → i < Q.lz (Q.br (Q.el la b)) → m' i < m' k → i < k := fun i i0 i1 q => hr.lt i0 k1 k0 i1 q
      rw [v.2.2.1]
      unfold URA
      rw [f0, f2, f3, f4, f5]
      constructor
      · rcases t.1 with t | t
        · exact Or.inl t
        · exact y.1.imp id (fun q => q.swg hr lt s d t a b0 b1)
      · rcases t.2 with t | t
        · exact Or.inl t
        · exact y.2.imp id (fun q => q.swg hr lt s d t a b0 b1)
    · have kx := a.kend b0 b1
      obtain ⟨f0, f1, f2, f3, f4, f5⟩ := s.1.row kx.2.1
      have lt : ∀ i : Int, 0 ≤ i → i < Q.lz (Q.br (Q.el la b)) → m' i < P.lz (P.br (P.el la b)) → i < Q.lz (Q.br (Q.el la b)) := fun i _ i1 _ => i1
      rw [show Q.be (Q.el la b) = P.be (P.el la b) from by rw [s.el b0 b1, s.1.be]]
      unfold URA
      rw [f0, f2, f3, f4, f5]
      constructor
      · rcases d3.1 with t | t
        · exact Or.inl t
        · exact u3.1.imp id (fun q => q.swg hr lt s d t a b0 b1)
      · rcases d3.2 with t | t
        · exact Or.inl t
        · exact u3.2.imp id (fun q => q.swg hr lt s d t a b0 b1)
theorem SNG.swg (h : SNG P la) (s : SWG P Q la gp gr) (a : ALP L P cO cI cZ ed la) : SNG Q la := by
  refine ⟨fun b c j k b0 b1 c0 c1 j0 j1 k0 k1 q => ?_, fun b c j k b0 b1 c0 c1 j0 j1 k0 k1 o1 o2 q => ?_, fun b c j k b0 b1 c0 c1 j0 j1 k0 k1 o2 q => ?_⟩ <;> rw [s.2.1.1] at b1 c1
  · obtain ⟨m, hm⟩ := s.ph b0 b1
    obtain ⟨m', hm'⟩ := s.ph c0 c1
    have u := hm.2.2.1 j j0 j1
    have v := hm'.2.2.1 k k0 k1
    rw [u.2.2.1, v.2.2.1, (s.1.phi (a.kphi b0 b1 u.1 u.2.1).2).1, (s.1.phi (a.kphi c0 c1 v.1 v.2.1).2).1] at q
    obtain ⟨t1, t2⟩ := h.1 b c (m j) (m' k) b0 b1 c0 c1 u.1 u.2.1 v.1 v.2.1 q
    subst t1
    refine ⟨rfl, ?_⟩
    have u2 := hm.2.2.1 k k0 k1
    have q2 : P.pt (P.el (P.bp (P.el la b)) (m j)) = P.pt (P.el (P.bp (P.el la b)) (m k)) := by rw [← u2.2.2.1, v.2.2.1, t2]
    exact hm.inj j0 j1 k0 k1 (h.1 b b (m j) (m k) b0 b1 b0 b1 u.1 u.2.1 u2.1 u2.2.1 q2).2
  · obtain ⟨m, hm⟩ := s.rw b0 b1
    obtain ⟨m', hm'⟩ := s.rw c0 c1
    have u := hm.2.2.1 j j0 j1
    have v := hm'.2.2.1 k k0 k1
    have f := s.1.row (a.krow b0 b1 u.1 u.2.1).2
    have f' := s.1.row (a.krow c0 c1 v.1 v.2.1).2
    rw [u.2.2.1, v.2.2.1, f.2.1, f'.2.1] at q
    rw [u.2.2.1, f.1] at o1
    rw [v.2.2.1, f'.1] at o2
    obtain ⟨t1, t2⟩ := h.2.1 b c (m j) (m' k) b0 b1 c0 c1 u.1 u.2.1 v.1 v.2.1 o1 o2 q
    subst t1
    refine ⟨rfl, ?_⟩
    have u2 := hm.2.2.1 k k0 k1
    have q2 : P.el (P.br (P.el la b)) (m j) = P.el (P.br (P.el la b)) (m k) := by rw [← u2.2.2.1, v.2.2.1, t2]
    exact hm.inj j0 j1 k0 k1 (h.2.1 b b (m j) (m k) b0 b1 b0 b1 u.1 u.2.1 u2.1 u2.2.1 o1 (by rw [← q2]; exact o1) (by rw [q2])).2
  · obtain ⟨m, hm⟩ := s.ph b0 b1
    obtain ⟨m', hm'⟩ := s.rw c0 c1
    have u := hm.2.2.1 j j0 j1
    have v := hm'.2.2.1 k k0 k1
    have f' := s.1.row (a.krow c0 c1 v.1 v.2.1).2
    rw [u.2.2.1, v.2.2.1, (s.1.phi (a.kphi b0 b1 u.1 u.2.1).2).1, f'.2.1] at q
    rw [v.2.2.1, f'.1] at o2
    exact h.2.2 b c (m j) (m' k) b0 b1 c0 c1 u.1 u.2.1 v.1 v.2.1 o2 q
theorem CMP.swg (h : CMP P la) (s : SWG P Q la gp gr) (a : ALP L P cO cI cZ ed la) (z1 : 0 < P.lz la) : CMP Q la := by
  have le : ∀ b : Int, 0 ≤ b → b < P.lz la → 0 ≤ Q.lz (Q.bp (Q.el la b)) ∧ Q.lz (Q.bp (Q.el la b)) ≤ P.lz (P.bp (P.el la b)) := fun b b0 b1 => by
    obtain ⟨m, hm⟩ := s.ph b0 b1
    exact ⟨hm.1, hm.le (a.inb ⟨b, b0, b1, rfl⟩).2.2.1.2.2.1.1⟩
  refine ⟨by have := le 0 (by omega) z1; have := h.1; omega, fun b b0 b1 => ?_, fun p b p0 p1 b0 b1 n g i i0 i1 => ?_⟩
  · rw [s.2.1.1] at b1
    have q := h.2.1 b b0 b1
    have l := le b b0 b1
    have o := (s.1.row (a.kend b0 b1).2.1).1
    refine ⟨by omega, ?_⟩
    rw [s.el b0 b1, s.1.be, o]; exact q.2
  · rw [s.2.1.1] at p1 b1
    have o := (s.1.row (a.kend p0 p1).2.1).1
    have f := s.1.blk (a.inb ⟨p, p0, p1, rfl⟩).1.2
    rw [s.el p0 p1, s.1.be, o] at n
    rw [s.el p0 p1, s.1.be, o, f.1, f.2] at g
    obtain ⟨m, hm⟩ := s.ph b0 b1
    have u := hm.2.2.1 i i0 i1
    obtain ⟨k, k0, k1, k2⟩ := h.2.2 p b p0 p1 b0 b1 n g (m i) u.1 u.2.1
    have q := s.1.phi (a.kphi b0 b1 u.1 u.2.1).2
    rw [u.2.2.1]
    exact ⟨k, k0, by rw [q.2]; exact k1, by rw [s.1.pp, s.1.ia]; exact k2⟩
theorem NST.swg (s : SWG P Q la gp gr) (a : ALP L P cO cI cZ ed la) : NST Q la ≤ NST P la := by
  unfold NST
  rw [s.2.1.1]
  refine sumI_le (fun b b0 b1 => ?_)
  have b2 : b < P.lz la := by omega
  obtain ⟨m, hm⟩ := s.ph b0 b2
  obtain ⟨m', hr⟩ := s.rw b0 b2
  have bk := a.inb ⟨b, b0, b2, rfl⟩
  have l1 := hm.le bk.2.2.1.2.2.1.1
  have l2 := hr.1
  have l3 := bk.2.1.2.2.1.1
  have key : CSR Q (Q.el la b) (Q.lz (Q.br (Q.el la b))) ≤ CSR P (P.el la b) (P.lz (P.br (P.el la b))) := by
    unfold CSR
    have e1 : sumI (fun k => if rSets (Q.ro (Q.el (Q.br (Q.el la b)) k)) = 0 then 0 else 1) (Q.lz (Q.br (Q.el la b))).toNat = sumI (fun k => (fun i => if rSets (P.ro (P.el (P.br (P.el la b)) i)) = 0 then (0 : Int) else 1) (m' k)) (Q.lz (Q.br (Q.el la b))).toNat := sumI_eq (fun k k0 k1 => by
      have u := hr.2.2.1 k k0 (by omega)
      show (if rSets (Q.ro (Q.el (Q.br (Q.el la b)) k)) = 0 then 0 else 1) = if rSets (P.ro (P.el (P.br (P.el la b)) (m' k))) = 0 then (0 : Int) else 1
      rw [u.2.2.1, (s.1.row (a.krow b0 b2 u.1 u.2.1).2).1])
    rw [e1]
    refine sumI_ord (ord := m') _ _ (fun i i0 i1 => ?_) (fun j j0 j1 => ?_) (fun i j i0 ij j1 => ?_)
    · by_cases t : rSets (P.ro (P.el (P.br (P.el la b)) i)) = 0
      · rw [if_pos t]; exact Int.le_refl 0
      · rw [if_neg t]; decide
    · have u := hr.2.2.1 j j0 (by omega)
      exact ⟨u.1, by omega⟩
    · have u := hr.2.1 i j i0 ij (by omega)
      omega
  unfold WSB
  omega
/-- flags first, then the sweep -/
theorem SWE.swg (s : SWE P1 Q la) (h : NSG P P1) (hl : P1.2.2.1 = P.2.2.1) (hz : ∀ l : Nat, P.kd l = 30 → P1.lz l = P.lz l) (a : ALP L P cO cI cZ ed la) : SWG P Q la P1.pg P1.rg := by
  have el : ∀ (l : Nat) (k : Int), P1.el l k = P.el l k := fun l k => by unfold PO.el PO.oa PO.le; rw [h.1, hl]
  have ez : P1.lz la = P.lz la := hz _ a.lok.2.1
  refine ⟨⟨s.1.1.trans h.1, s.1.2.1.trans h.2.1, fun z f k n1 n2 => (s.1.2.2 z (by rw [h.kd]; exact k) f).trans (h.2.2 z f k n1 n2)⟩, ⟨s.2.1.1.trans ez, fun k k0 k1 => (s.2.1.2 k k0 (by rw [ez]; exact k1)).trans (el _ _)⟩, fun b b0 b1 => ?_⟩
  have q := (s.2.2.2 b b0 (by rw [ez]; exact b1)).1 (by rw [ez]; exact b1)
  rw [el] at q
  have bk := a.inb ⟨b, b0, b1, rfl⟩
  have q1 := q.1
  have q2 := q.2
  unfold FLP at q1
  unfold FLR at q2
  rw [h.bp, hz _ bk.2.2.1.2.1, show P1.el (P.bp (P.el la b)) = P.el (P.bp (P.el la b)) from funext (el _)] at q1
  rw [h.br, hz _ bk.2.1.2.1, show P1.el (P.br (P.el la b)) = P.el (P.br (P.el la b)) from funext (el _)] at q2
  exact ⟨q1.mps, q2.mps⟩
end SWK9
