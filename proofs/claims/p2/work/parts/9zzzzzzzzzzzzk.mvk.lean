/-! a row goes out of a loop: SSA stays SSA -/
/-- objects that are no lists are as they were -/
def OBS (L : List Nat) (P : PO) (L' : List Nat) (Q : PO) : Prop := ∀ z : Nat, z ∈ L → P.kd z ≠ 30 → P.kd z ≠ 31 → z ∈ L' ∧ SM9 z P Q
/-- the row x, j-th of block c, is the last of block p now -/
def MVD (L : List Nat) (P : PO) (L' : List Nat) (Q : PO) (la : Nat) (c j p : Int) (x : Nat) : Prop := OBS L P L' Q ∧ UNT P Q la ∧ (c ≠ p ∧ (0 ≤ c ∧ c < P.lz la) ∧ (0 ≤ p ∧ p < P.lz la) ∧ (0 ≤ j ∧ j < P.lz (P.br (P.el la c))) ∧ x = P.el (P.br (P.el la c)) j) ∧ (∀ b : Int, 0 ≤ b → b < P.lz la → UNT P Q (P.bp (P.el la b)) ∧ (b ≠ c → b ≠ p → UNT P Q (P.br (P.el la b)))) ∧ (Q.lz (P.br (P.el la c)) = P.lz (P.br (P.el la c)) - 1 ∧ ∀ k : Int, 0 ≤ k → k + 1 < P.lz (P.br (P.el la c)) → Q.el (P.br (P.el la c)) k = P.el (P.br (P.el la c)) (if k < j then k else k + 1)) ∧ Q.lz (P.br (P.el la p)) = P.lz (P.br (P.el la p)) + 1 ∧ (∀ k : Int, 0 ≤ k → k < P.lz (P.br (P.el la p)) → Q.el (P.br (P.el la p)) k = P.el (P.br (P.el la p)) k) ∧ Q.el (P.br (P.el la p)) (P.lz (P.br (P.el la p))) = x
/-- a loop t with its head h, come into from p alone -/
def LPK (P : PO) (la : Nat) (t : Int → Int) (h p : Int) : Prop := (t h ≠ 0 ∧ 0 ≤ h ∧ h < P.lz la) ∧ t 0 = 0 ∧ t p = 0 ∧ EDG P la p h ∧ (∀ q : Int, 0 ≤ q → q < P.lz la → EDG P la q h → t q = 0 → q = p) ∧ ∀ b : Int, 0 ≤ b → b < P.lz la → t b ≠ 0 → b ≠ h → ∀ q : Int, 0 ≤ q → q < P.lz la → EDG P la q b → t q ≠ 0
/-- what the loop sets is marked -/
def INL (P : PO) (la : Nat) (t ins : Int → Int) : Prop := ∀ b : Int, 0 ≤ b → b < P.lz la → t b ≠ 0 → ∀ r : Int, SIB P la b r → ins r ≠ 0
def MAY (P : PO) (ins : Int → Int) (x : Nat) : Prop := (rUsA (P.ro x) (P.rA x) = 0 ∨ ins (P.ra x) = 0) ∧ (rUsB (P.ro x) (P.rB x) = 0 ∨ ins (P.rb x) = 0) ∧ P.ro x < 20
section MVK9
variable {L L' : List Nat} {P Q : PO} {cO cI cZ : ClassId} {ed x y z la : Nat} {A : Int → Int → Prop} {t ins : Int → Int} {b c d h i j k p q r : Int}
theorem OBS.row (o : OBS L P L' Q) (m : z ∈ L) (kz : P.kd z = 17) : ∀ f : Nat, Q.1 f z = P.1 f z := (o z m (by omega) (by omega)).2.1
theorem OBS.blk (o : OBS L P L' Q) (m : z ∈ L) (kz : P.kd z = 12) : (Q.bp z = P.bp z ∧ Q.br z = P.br z ∧ Q.be z = P.be z) ∧ Q.bf z = P.bf z ∧ Q.bs z = P.bs z := by
  have s := (o z m (by omega) (by omega)).2
  exact ⟨⟨s.2.1 1, s.2.1 2, s.2.1 3⟩, s.1 0, s.1 1⟩
theorem OBS.phi (o : OBS L P L' Q) (w : PIK L P cI cZ z) : PVE P Q z := by
  have s := (o z w.1.1 (by rw [w.1.2]; decide) (by rw [w.1.2]; decide)).2
  have s1 := (o _ w.2.1.1 (by rw [w.2.1.2.1]; decide) (by rw [w.2.1.2.1]; decide)).2
  have s2 := (o _ w.2.2.1.1 (by rw [w.2.2.1.2.1]; decide) (by rw [w.2.2.1.2.1]; decide)).2
  have s3 := (o _ w.2.2.2.1.1 (by rw [w.2.2.2.1.2.1]; decide) (by rw [w.2.2.2.1.2.1]; decide)).2
  exact ⟨s.1, ⟨s.2.1 1, s.2.1 2, s.2.1 3⟩, s1.2.2.2.1, s2.2.2.2.1, s3.2.2.2.1⟩
/-- block b, as it is in both -/
theorem MVD.blk (m : MVD L P L' Q la c j p x) (a : ALP L P cO cI cZ ed la) (b0 : 0 ≤ b) (b1 : b < P.lz la) : Q.el la b = P.el la b ∧ (Q.bp (P.el la b) = P.bp (P.el la b) ∧ Q.br (P.el la b) = P.br (P.el la b) ∧ Q.be (P.el la b) = P.be (P.el la b)) ∧ (Q.bf (P.el la b) = P.bf (P.el la b) ∧ Q.bs (P.el la b) = P.bs (P.el la b)) ∧ ∀ f : Nat, Q.1 f (P.be (P.el la b)) = P.1 f (P.be (P.el la b)) := by
  have bk := (a.inb ⟨b, b0, b1, rfl⟩).1
  have e := a.kend b0 b1
  have w := m.1.blk bk.1 bk.2
  exact ⟨m.2.1.2 b b0 b1, w.1, w.2, m.1.row e.1 e.2.1⟩
theorem MVD.edg (m : MVD L P L' Q la c j p x) (a : ALP L P cO cI cZ ed la) (b0 : 0 ≤ b) (b1 : b < P.lz la) : EDG Q la b d ↔ EDG P la b d := by
  obtain ⟨e, w, f, o⟩ := m.blk a b0 b1
  have o0 : Q.ro (P.be (P.el la b)) = P.ro (P.be (P.el la b)) := o 0
  unfold EDG
  rw [e, w.2.2, o0, f.1, f.2]
theorem MVD.ph (m : MVD L P L' Q la c j p x) (a : ALP L P cO cI cZ ed la) (b0 : 0 ≤ b) (b1 : b < P.lz la) : Q.lz (Q.bp (Q.el la b)) = P.lz (P.bp (P.el la b)) ∧ ∀ k : Int, 0 ≤ k → k < P.lz (P.bp (P.el la b)) → Q.el (Q.bp (Q.el la b)) k = P.el (P.bp (P.el la b)) k ∧ PVE P Q (P.el (P.bp (P.el la b)) k) := by
  obtain ⟨e, w, _, _⟩ := m.blk a b0 b1
  have u := (m.2.2.2.1 b b0 b1).1
  rw [e, w.1]
  exact ⟨u.1, fun k k0 k1 => ⟨u.2 k k0 k1, m.1.phi (a.pik (a.kphi b0 b1 k0 k1).1 (a.kphi b0 b1 k0 k1).2)⟩⟩
/-- where a row was -/
def PB9 (c p np b i : Int) : Int := if b = p ∧ i = np then c else b
def PI9 (c j p np b i : Int) : Int := if b = p ∧ i = np then j else if b = c ∧ j ≤ i then i + 1 else i
theorem MVD.row (m : MVD L P L' Q la c j p x) (a : ALP L P cO cI cZ ed la) (b0 : 0 ≤ b) (b1 : b < P.lz la) (i0 : 0 ≤ i) (i1 : i < Q.lz (Q.br (Q.el la b))) : (0 ≤ PB9 c p (P.lz (P.br (P.el la p))) b i ∧ PB9 c p (P.lz (P.br (P.el la p))) b i < P.lz la) ∧ (0 ≤ PI9 c j p (P.lz (P.br (P.el la p))) b i ∧ PI9 c j p (P.lz (P.br (P.el la p))) b i < P.lz (P.br (P.el la (PB9 c p (P.lz (P.br (P.el la p))) b i)))) ∧ Q.el (Q.br (Q.el la b)) i = P.el (P.br (P.el la (PB9 c p (P.lz (P.br (P.el la p))) b i))) (PI9 c j p (P.lz (P.br (P.el la p))) b i) := by
  obtain ⟨e, w, _, _⟩ := m.blk a b0 b1
  obtain ⟨_, _, ⟨ne, c9, p9, j9, ex⟩, m4, m5, m6, m7, m8⟩ := m
  rw [e, w.2.1] at i1 ⊢
  by_cases s : b = p ∧ i = P.lz (P.br (P.el la p))
  · have e1 : PB9 c p (P.lz (P.br (P.el la p))) b i = c := if_pos s
    have e2 : PI9 c j p (P.lz (P.br (P.el la p))) b i = j := if_pos s
    rw [e1, e2, s.1, s.2]
    exact ⟨c9, j9, by rw [m8]; exact ex⟩
  · have e1 : PB9 c p (P.lz (P.br (P.el la p))) b i = b := if_neg s
    rw [e1]
    by_cases u : b = c ∧ j ≤ i
    · have e2 : PI9 c j p (P.lz (P.br (P.el la p))) b i = i + 1 := (if_neg s).trans (if_pos u)
      rw [e2]
      rw [u.1] at i1 ⊢
      refine ⟨c9, ⟨by omega, by omega⟩, ?_⟩
      rw [m5.2 i i0 (by omega), if_neg (by omega)]
    · have e2 : PI9 c j p (P.lz (P.br (P.el la p))) b i = i := (if_neg s).trans (if_neg u)
      rw [e2]
      by_cases v : b = c
      · rw [v] at i1 ⊢
        refine ⟨c9, ⟨i0, by omega⟩, ?_⟩
        rw [m5.2 i i0 (by omega), if_pos (by omega)]
      · by_cases y : b = p
        · rw [y] at i1 s ⊢
          have : i < P.lz (P.br (P.el la p)) := by omega
          exact ⟨p9, ⟨i0, this⟩, m7 i i0 this⟩
        · have un := (m4 b b0 b1).2 v y
          rw [un.1] at i1
          exact ⟨⟨b0, b1⟩, ⟨i0, i1⟩, un.2 i i0 i1⟩
theorem PB9.inj {np b2 k : Int} (ne : c ≠ p) (e1 : PB9 c p np b i = PB9 c p np b2 k) (e2 : PI9 c j p np b i = PI9 c j p np b2 k) : b = b2 ∧ i = k := by
  unfold PB9 at e1
  unfold PI9 at e2
  by_cases s : b = p ∧ i = np
  · rw [if_pos s] at e1 e2
    by_cases u : b2 = p ∧ k = np
    · omega
    · rw [if_neg u] at e1 e2
      by_cases v : b2 = c ∧ j ≤ k
      · rw [if_pos v] at e2; omega
      · rw [if_neg v] at e2; omega
  · rw [if_neg s] at e1 e2
    by_cases u : b2 = p ∧ k = np
    · rw [if_pos u] at e1 e2
      by_cases v : b = c ∧ j ≤ i
      · rw [if_pos v] at e2; omega
      · rw [if_neg v] at e2; omega
    · rw [if_neg u] at e1 e2
      by_cases v : b2 = c ∧ j ≤ k
      · rw [if_pos v] at e2
        by_cases y : b = c ∧ j ≤ i
        · rw [if_pos y] at e2; omega
        · rw [if_neg y] at e2; omega
      · rw [if_neg v] at e2
        by_cases y : b = c ∧ j ≤ i
        · rw [if_pos y] at e2; omega
        · rw [if_neg y] at e2; omega
/-- where a row is now -/
theorem MVD.to (m : MVD L P L' Q la c j p x) (a : ALP L P cO cI cZ ed la) (b0 : 0 ≤ b) (b1 : b < P.lz la) (i0 : 0 ≤ i) (i1 : i < P.lz (P.br (P.el la b))) (n : ¬ (b = c ∧ i = j)) : ∃ k : Int, 0 ≤ k ∧ k < Q.lz (Q.br (Q.el la b)) ∧ (((b ≠ c ∨ i ≤ j) ∧ k = i) ∨ (b = c ∧ j < i ∧ k = i - 1)) ∧ Q.el (Q.br (Q.el la b)) k = P.el (P.br (P.el la b)) i := by
  obtain ⟨e, w, _, _⟩ := m.blk a b0 b1
  obtain ⟨_, _, ⟨ne, c9, p9, j9, ex⟩, m4, m5, m6, m7, m8⟩ := m
  rw [e, w.2.1]
  by_cases v : b = c
  · rw [v] at i1 n ⊢
    by_cases s : i < j
    · exact ⟨i, i0, by omega, Or.inl ⟨Or.inr (by omega), rfl⟩, by rw [m5.2 i i0 (by omega), if_pos s]⟩
    · have nj : i ≠ j := fun q => n ⟨rfl, q⟩
      exact ⟨i - 1, by omega, by omega, Or.inr ⟨rfl, by omega, rfl⟩, by rw [m5.2 (i - 1) (by omega) (by omega), if_neg (by omega), show i - 1 + 1 = i from by omega]⟩
  · by_cases y : b = p
    · rw [y] at i1 ⊢
      exact ⟨i, i0, by omega, Or.inl ⟨Or.inl (fun q => ne q.symm), rfl⟩, m7 i i0 i1⟩
    · have un := (m4 b b0 b1).2 v y
      exact ⟨i, i0, by rw [un.1]; exact i1, Or.inl ⟨Or.inl v, rfl⟩, un.2 i i0 i1⟩
theorem MVD.rown (m : MVD L P L' Q la c j p x) (a : ALP L P cO cI cZ ed la) (b0 : 0 ≤ b) (b1 : b < P.lz la) (i0 : 0 ≤ i) (i1 : i < P.lz (P.br (P.el la b))) : ∀ f : Nat, Q.1 f (P.el (P.br (P.el la b)) i) = P.1 f (P.el (P.br (P.el la b)) i) := m.1.row (a.krow b0 b1 i0 i1).1 (a.krow b0 b1 i0 i1).2
theorem SPH.mvd (s : SPH P la b r) (m : MVD L P L' Q la c j p x) (a : ALP L P cO cI cZ ed la) (b0 : 0 ≤ b) (b1 : b < P.lz la) : SPH Q la b r := by
  obtain ⟨k, k0, k1, e⟩ := s
  obtain ⟨z, f⟩ := m.ph a b0 b1
  have q := f k k0 k1
  exact ⟨k, k0, by rw [z]; exact k1, by rw [q.1]; exact (q.2.1 0).trans e⟩
/-- what is set in front of place d is so still, in front of place h, but for the row that went -/
theorem SRW.mvd (s : SRW P la b d r) (m : MVD L P L' Q la c j p x) (a : ALP L P cO cI cZ ed la) (b0 : 0 ≤ b) (b1 : b < P.lz la) (w : ∀ i k : Int, i < d → (((b ≠ c ∨ i ≤ j) ∧ k = i) ∨ (b = c ∧ j < i ∧ k = i - 1)) → k < h) : (b = c ∧ r = P.rt x) ∨ SRW Q la b h r := by
  obtain ⟨i, i0, id, i1, o, e⟩ := s
  by_cases n : b = c ∧ i = j
  · refine Or.inl ⟨n.1, ?_⟩
    rw [← e, m.2.2.1.2.2.2.2, n.1, n.2]
  · obtain ⟨k, k0, k1, k2, ek⟩ := m.to a b0 b1 i0 i1 n
    have f := m.rown a b0 b1 i0 i1
    have f0 : Q.ro (P.el (P.br (P.el la b)) i) = P.ro (P.el (P.br (P.el la b)) i) := f 0
    have f1 : Q.rt (P.el (P.br (P.el la b)) i) = P.rt (P.el (P.br (P.el la b)) i) := f 1
    exact Or.inr ⟨k, k0, w i k id k2, k1, by rw [ek, f0]; exact o, by rw [ek, f1]; exact e⟩
theorem SIB.mvd (s : SIB P la b r) (m : MVD L P L' Q la c j p x) (a : ALP L P cO cI cZ ed la) (b0 : 0 ≤ b) (b1 : b < P.lz la) : (b = c ∧ r = P.rt x) ∨ SIB Q la b r := by
  rcases s with s | ⟨i, i0, id, i1, o, e⟩
  · exact Or.inr (Or.inl (s.mvd m a b0 b1))
  · by_cases n : b = c ∧ i = j
    · refine Or.inl ⟨n.1, ?_⟩
      rw [← e, m.2.2.1.2.2.2.2, n.1, n.2]
    · obtain ⟨k, k0, k1, k2, ek⟩ := m.to a b0 b1 i0 i1 n
      have f := m.rown a b0 b1 i0 i1
      have f0 : Q.ro (P.el (P.br (P.el la b)) i) = P.ro (P.el (P.br (P.el la b)) i) := f 0
      have f1 : Q.rt (P.el (P.br (P.el la b)) i) = P.rt (P.el (P.br (P.el la b)) i) := f 1
      exact Or.inr (Or.inr ⟨k, k0, k1, k1, by rw [ek, f0]; exact o, by rw [ek, f1]; exact e⟩)
/-- what a block of the loop begins with, and the loop doesn't set, its head begins with -/
theorem LPK.head (lp : LPK P la t h p) (w : AVW P la A) (n : ALR P la) (a : ALP L P cO cI cZ ed la) (il : INL P la t ins) (z : ins r = 0) (b0 : 0 ≤ b) (b1 : b < P.lz la) (tb : t b ≠ 0) (q : A r b) : A r h := by
  obtain ⟨⟨th, h0, h1⟩, t0, tp, ep, oh, ob⟩ := lp
  have key := n b b0 b1 (fun e => (0 ≤ e ∧ e < P.lz la) ∧ (t e ≠ 0 → A r e → A r h)) (fun _ => ⟨⟨by omega, by omega⟩, fun u => absurd t0 u⟩) (fun g e s ed _ => by
    have rg := EDG.rng a s.1.1 s.1.2 ed
    refine ⟨rg, fun te ae => ?_⟩
    by_cases eh : e = h
    · rw [← eh]; exact ae
    · have tg := ob e rg.1 rg.2 te eh g s.1.1 s.1.2 ed
      rcases w.2 r g e s.1.1 s.1.2 ed ae with u | u
      · exact s.2 tg u
      · exact absurd z (il g s.1.1 s.1.2 tg r u))
  exact key.2 tb q
theorem AVL.mvd (s : AVL P la) (n : ALR P la) (m : MVD L P L' Q la c j p x) (a : ALP L P cO cI cZ ed la) (lp : LPK P la t h p) (il : INL P la t ins) (my : MAY P ins x) (tc : t c ≠ 0) : AVL Q la := by
  obtain ⟨A, w, u⟩ := s
  have hd := fun (r : Int) (z : ins r = 0) (q : A r c) => lp.head w n a il z m.2.2.1.2.1.1 m.2.2.1.2.1.2 tc q
  obtain ⟨⟨th, h0, h1⟩, t0, tp, ep, oh, ob⟩ := lp
  have m0 := m.2.2.1
  have z : Q.lz la = P.lz la := m.2.1.1
  have sq : ∀ r q : Int, 0 ≤ q → q < P.lz la → A r q ∨ SIB P la q r → (A r q ∨ (r = P.rt x ∧ t q ≠ 0)) ∨ SIB Q la q r := fun r q q0 q1 s => by
    rcases s with s | s
    · exact Or.inl (Or.inl s)
    · rcases s.mvd m a q0 q1 with v | v
      · exact Or.inl (Or.inr ⟨v.2, by rw [v.1]; exact tc⟩)
      · exact Or.inr v
  have nx : Q.lz (Q.br (Q.el la p)) = P.lz (P.br (P.el la p)) + 1 ∧ Q.el (Q.br (Q.el la p)) (P.lz (P.br (P.el la p))) = x := by
    obtain ⟨e, wb, _, _⟩ := m.blk a m0.2.2.1.1 m0.2.2.1.2
    rw [e, wb.2.1]; exact ⟨m.2.2.2.2.2.1, m.2.2.2.2.2.2.2⟩
  have xn : ∀ f : Nat, Q.1 f x = P.1 f x := by
    rw [m0.2.2.2.2]; exact m.rown a m0.2.1.1 m0.2.1.2 m0.2.2.2.1.1 m0.2.2.2.1.2
  have x0 : Q.ro x = P.ro x := xn 0
  have x1 : Q.rt x = P.rt x := xn 1
  have x2 : Q.ra x = P.ra x := xn 2
  have x3 : Q.rb x = P.rb x := xn 3
  have x4 : Q.rA x = P.rA x := xn 4
  have x5 : Q.rB x = P.rB x := xn 5
  have ss := rSets_spec (P.ro x)
  have pz := (a.inb ⟨p, m0.2.2.1.1, m0.2.2.1.2, rfl⟩).2.1.2.2.1.1
  have xp : SIB Q la p (P.rt x) := Or.inr ⟨P.lz (P.br (P.el la p)), pz, by omega, by omega, by rw [nx.2, x0]; have := my.2.2; omega, by rw [nx.2, x1]⟩
  refine ⟨fun r b => A r b ∨ (r = P.rt x ∧ t b ≠ 0), ⟨fun r q => ?_, fun r q b q0 q1 e s => ?_⟩, fun b b0 b1 => ?_⟩
  · rcases q with q | q
    · exact w.1 r q
    · exact q.2 t0
  · rw [z] at q1
    have e' := (m.edg a q0 q1).mp e
    have rg := EDG.rng a q0 q1 e'
    rcases s with s | s
    · exact sq r q q0 q1 (w.2 r q b q0 q1 e' s)
    · by_cases bh : b = h
      · by_cases tq : t q = 0
        · rw [bh] at e'
          rw [oh q q0 q1 e' tq, s.1]; exact Or.inr xp
        · exact Or.inl (Or.inr ⟨s.1, tq⟩)
      · exact Or.inl (Or.inr ⟨s.1, ob b rg.1 rg.2 s.2 bh q q0 q1 e'⟩)
  · rw [z] at b1
    obtain ⟨u1, u2, u3⟩ := u b b0 b1
    obtain ⟨e, wb, fb, eb⟩ := m.blk a b0 b1
    obtain ⟨pz1, pf⟩ := m.ph a b0 b1
    have av : ∀ r d g : Int, AVT P la A b d r → (∀ i k : Int, i < d → (((b ≠ c ∨ i ≤ j) ∧ k = i) ∨ (b = c ∧ j < i ∧ k = i - 1)) → k < g) → AVT Q la (fun r b => A r b ∨ (r = P.rt x ∧ t b ≠ 0)) b g r := fun r d g s q => by
      rcases s with s | s | s
      · exact Or.inl (Or.inl s)
      · exact Or.inr (Or.inl (s.mvd m a b0 b1))
      · rcases s.mvd m a b0 b1 q with v | v
        · exact Or.inl (Or.inr ⟨v.2, by rw [v.1]; exact tc⟩)
        · exact Or.inr (Or.inr v)
    refine ⟨fun k k0 k1 i i0 i1 => ?_, fun i i0 i1 => ?_, ?_⟩
    · rw [pz1] at k1
      obtain ⟨q1, q2⟩ := pf k k0 k1
      rw [q1] at i1 ⊢
      have e1 : Q.pn (P.el (P.bp (P.el la b)) k) = P.pn (P.el (P.bp (P.el la b)) k) := q2.1 1
      rw [e1] at i1
      rw [q2.2.1.2.2, q2.2.1.2.1, q2.2.1.1, q2.2.2.2.2, q2.2.2.2.1, q2.2.2.1]
      have kx := a.kphi b0 b1 k0 k1
      have ee := (a.pik kx.1 kx.2).2.2.2.2.2.2 i i0 i1
      exact (u1 k k0 k1 i i0 i1).imp id (fun q => sq _ _ ee.1.1 (a.2.2.1 _ ⟨b, b0, b1, rfl⟩ k k0 k1 i i0 i1) q)
    · obtain ⟨⟨g0, g1⟩, ⟨g2, g3⟩, g4⟩ := m.row a b0 b1 i0 i1
      by_cases s : b = p ∧ i = P.lz (P.br (P.el la p))
      · rw [s.1, s.2, nx.2]
        have v := (u c m0.2.1.1 m0.2.1.2).2.1 j m0.2.2.2.1.1 m0.2.2.2.1.2
        rw [← m0.2.2.2.2] at v
        have go : ∀ r : Int, ins r = 0 → AVT P la A c j r → AVT Q la (fun r b => A r b ∨ (r = P.rt x ∧ t b ≠ 0)) p (P.lz (P.br (P.el la p))) r := fun r zr y => by
          rcases y.sib with y | y
          · have ah := hd r zr y
            rcases w.2 r p h m0.2.2.1.1 m0.2.2.1.2 ep ah with k | k
            · exact Or.inl (Or.inl k)
            · rcases k with k | k
              · exact Or.inr (Or.inl (k.mvd m a m0.2.2.1.1 m0.2.2.1.2))
              · rcases k.mvd m a m0.2.2.1.1 m0.2.2.1.2 (h := P.lz (P.br (P.el la p))) (fun i k id q => by omega) with y | y
                · exact absurd y.1.symm m0.1
                · exact Or.inr (Or.inr y)
          · exact absurd zr (il c m0.2.1.1 m0.2.1.2 tc r y)
        unfold URA
        rw [x0, x2, x3, x4, x5]
        constructor
        · rcases my.1 with k | k
          · exact Or.inl k
          · exact v.1.imp id (fun y => go _ k y)
        · rcases my.2.1 with k | k
          · exact Or.inl k
          · exact v.2.imp id (fun y => go _ k y)
      · have e1 : PB9 c p (P.lz (P.br (P.el la p))) b i = b := if_neg s
        rw [e1] at g3 g4
        have f := m.rown a b0 b1 g2 g3
        have f0 : Q.ro _ = P.ro _ := f 0
        have f2 : Q.ra _ = P.ra _ := f 2
        have f3 : Q.rb _ = P.rb _ := f 3
        have f4 : Q.rA _ = P.rA _ := f 4
        have f5 : Q.rB _ = P.rB _ := f 5
        have lt : ∀ i' k : Int, i' < PI9 c j p (P.lz (P.br (P.el la p))) b i → (((b ≠ c ∨ i' ≤ j) ∧ k = i') ∨ (b = c ∧ j < i' ∧ k = i' - 1)) → (b = c ∧ i' = j) ∨ k < i := fun i' k y q => by
          have e2 : PI9 c j p (P.lz (P.br (P.el la p))) b i = if b = c ∧ j ≤ i then i + 1 else i := if_neg s
          rw [e2] at y
          by_cases v : b = c ∧ j ≤ i
          · rw [if_pos v] at y; omega
          · rw [if_neg v] at y; omega
        have av2 : ∀ r : Int, AVT P la A b (PI9 c j p (P.lz (P.br (P.el la p))) b i) r → AVT Q la (fun r b => A r b ∨ (r = P.rt x ∧ t b ≠ 0)) b i r := fun r y => by
          rcases y with y | y | ⟨i', i'0, i'd, i'1, o, er⟩
          · exact Or.inl (Or.inl y)
          · exact Or.inr (Or.inl (y.mvd m a b0 b1))
          · by_cases n : b = c ∧ i' = j
            · refine Or.inl (Or.inr ⟨?_, by rw [n.1]; exact tc⟩)
              rw [← er, m0.2.2.2.2, n.1, n.2]
            · obtain ⟨k, k0, k1, k2, ek⟩ := m.to a b0 b1 i'0 i'1 n
              have h9 := m.rown a b0 b1 i'0 i'1
              have h90 : Q.ro (P.el (P.br (P.el la b)) i') = P.ro (P.el (P.br (P.el la b)) i') := h9 0
              have h91 : Q.rt (P.el (P.br (P.el la b)) i') = P.rt (P.el (P.br (P.el la b)) i') := h9 1
              exact Or.inr (Or.inr ⟨k, k0, (lt i' k i'd k2).resolve_left n, k1, by rw [ek, h90]; exact o, by rw [ek, h91]; exact er⟩)
        have v := u2 _ g2 g3
        rw [g4]
        unfold URA
        rw [f0, f2, f3, f4, f5]
        exact ⟨v.1.imp id (av2 _), v.2.imp id (av2 _)⟩
    · have ro0 : Q.ro (P.be (P.el la b)) = P.ro (P.be (P.el la b)) := eb 0
      have ra0 : Q.ra (P.be (P.el la b)) = P.ra (P.be (P.el la b)) := eb 2
      have rb0 : Q.rb (P.be (P.el la b)) = P.rb (P.be (P.el la b)) := eb 3
      have rA0 : Q.rA (P.be (P.el la b)) = P.rA (P.be (P.el la b)) := eb 4
      have rB0 : Q.rB (P.be (P.el la b)) = P.rB (P.be (P.el la b)) := eb 5
      have en : ∀ r : Int, AVT P la A b (P.lz (P.br (P.el la b))) r → AVT Q la (fun r b => A r b ∨ (r = P.rt x ∧ t b ≠ 0)) b (Q.lz (Q.br (Q.el la b))) r := fun r y => by
        rcases sq r b b0 b1 y.sib with k | k | k
        · exact Or.inl k
        · exact Or.inr (Or.inl k)
        · exact Or.inr (Or.inr k)
      rw [show Q.be (Q.el la b) = P.be (P.el la b) from by rw [e, wb.2.2]]
      unfold URA
      rw [ro0, ra0, rb0, rA0, rB0]
      exact ⟨u3.1.imp id (en _), u3.2.imp id (en _)⟩
end MVK9
