/-! ROWS that come at the end of a block of the function: what stays, what is told of them -/
/-- a block as it was, but that n rows have come behind its own: they set something, and no pass has marked them -/
def BVA (P Q : PO) (z : Nat) (n : Int) : Prop := (Q.bp z = P.bp z ∧ Q.br z = P.br z ∧ Q.be z = P.be z ∧ Q.bf z = P.bf z ∧ Q.bs z = P.bs z) ∧ (Q.lz (P.bp z) = P.lz (P.bp z) ∧ ∀ k : Int, 0 ≤ k → k < P.lz (P.bp z) → Q.el (P.bp z) k = P.el (P.bp z) k ∧ PVE P Q (P.el (P.bp z) k)) ∧ (Q.lz (P.br z) = P.lz (P.br z) + n ∧ (∀ k : Int, 0 ≤ k → k < P.lz (P.br z) → Q.el (P.br z) k = P.el (P.br z) k ∧ ∀ f : Nat, Q.1 f (P.el (P.br z) k) = P.1 f (P.el (P.br z) k)) ∧ ∀ k : Int, P.lz (P.br z) ≤ k → k < P.lz (P.br z) + n → rSets (Q.ro (Q.el (P.br z) k)) ≠ 0 ∧ Q.rg (Q.el (P.br z) k) = 0) ∧ ∀ f : Nat, Q.1 f (P.be z) = P.1 f (P.be z)
/-- n rows have come at the end of block y, nothing else -/
def ROA (P Q : PO) (la : Nat) (y n : Int) : Prop := (Q.lz la = P.lz la ∧ 0 ≤ n) ∧ (∀ b : Int, 0 ≤ b → b < P.lz la → Q.el la b = P.el la b ∧ BVA P Q (P.el la b) (if b = y then n else 0)) ∧ (NDR P la → NDR Q la)
section ROA9
variable {L L2 E : List Nat} {P Q R : PO} {cO cI cZ : ClassId} {ed la l q x z : Nat} {b c k m n y : Int}
theorem BVA.of (h : BVE P Q z) : BVA P Q z 0 := ⟨h.1, h.2.1, ⟨by rw [h.2.2.1.1]; omega, h.2.2.1.2, fun k a b => by omega⟩, h.2.2.2⟩
theorem BVA.trans (h : BVA P Q z n) (w : BVA Q R z m) (n0 : 0 ≤ n) (m0 : 0 ≤ m) (z0 : 0 ≤ P.lz (P.br z)) : BVA P R z (n + m) := by
  obtain ⟨⟨a1, a2, a3, a4, a5⟩, ⟨p1, p2⟩, ⟨r1, r2, r3⟩, e⟩ := h
  obtain ⟨⟨b1, b2, b3, b4, b5⟩, ⟨q1, q2⟩, ⟨s1, s2, s3⟩, f⟩ := w
  rw [a1] at q1 q2
  rw [a2] at s1 s2 s3
  rw [a3] at f
  refine ⟨⟨b1.trans a1, b2.trans a2, b3.trans a3, b4.trans a4, b5.trans a5⟩, ⟨q1.trans p1, fun k k0 k1 => ?_⟩, ⟨by rw [s1, r1]; omega, fun k k0 k1 => ?_, fun k k0 k1 => ?_⟩, fun g => (f g).trans (e g)⟩
  · have u := q2 k k0 (by rw [p1]; exact k1)
    have v := p2 k k0 k1
    rw [v.1] at u
    exact ⟨u.1, v.2.trans9 u.2⟩
  · have u := s2 k k0 (by omega)
    have v := r2 k k0 k1
    rw [v.1] at u
    exact ⟨u.1, fun g => (u.2 g).trans (v.2 g)⟩
  · by_cases t : k < P.lz (P.br z) + n
    · have u := s2 k (by omega) (by omega)
      have v := r3 k k0 t
      rw [u.1, show R.ro (Q.el (P.br z) k) = Q.ro (Q.el (P.br z) k) from u.2 0, show R.rg (Q.el (P.br z) k) = Q.rg (Q.el (P.br z) k) from u.2 6]
      exact v
    · exact s3 k (by omega) (by omega)
theorem ROA.fne (v : FNE P Q la) (y : Int) : ROA P Q la y 0 := ⟨⟨v.1, Int.le_refl 0⟩, fun b b0 b1 => ⟨(v.2 b b0 b1).1, by rw [ite_self]; exact BVA.of (v.2 b b0 b1).2⟩, fun nd => nd.fne v⟩
theorem ROA.trans (h : ROA P Q la y n) (w : ROA Q R la y m) (z : ∀ b : Int, 0 ≤ b → b < P.lz la → 0 ≤ P.lz (P.br (P.el la b))) : ROA P R la y (n + m) := by
  obtain ⟨⟨h1, h2⟩, h3, h4⟩ := h
  obtain ⟨⟨w1, w2⟩, w3, w4⟩ := w
  refine ⟨⟨w1.trans h1, by omega⟩, fun b b0 b1 => ?_, fun nd => w4 (h4 nd)⟩
  have u := h3 b b0 b1
  have v := w3 b b0 (by omega)
  rw [u.1] at v
  refine ⟨v.1, ?_⟩
  by_cases t : b = y
  · rw [if_pos t] at u v ⊢
    exact u.2.trans v.2 h2 w2 (z b b0 b1)
  · rw [if_neg t] at u v ⊢
    exact u.2.trans v.2 (Int.le_refl 0) (Int.le_refl 0) (z b b0 b1)
theorem ROA.to (h : ROA P Q la y n) (e : n = m) : ROA P Q la y m := by rw [← e]; exact h
theorem ALP.lr0 (a : ALP L P cO cI cZ ed la) (b : Int) (b0 : 0 ≤ b) (b1 : b < P.lz la) : 0 ≤ P.lz (P.br (P.el la b)) := (a.inb ⟨b, b0, b1, rfl⟩).2.1.2.2.1.1
theorem ROA.fner (h : ROA P Q la y n) (v : FNE Q R la) (a : ALP L P cO cI cZ ed la) : ROA P R la y n := (h.trans (ROA.fne v y) a.lr0).to (by omega)
theorem ROA.add (a : ALP L P cO cI cZ ed la) (w : GL1 l q L P L2 Q) (ke : KEP E L P L2 Q la) (hl : l = P.br (P.el la y)) (ml : l ∈ L) (kl : P.kd l = 30) (fx : P.fl l = 1 ∨ P.le l ∉ L) (y0 : 0 ≤ y) (y1 : y < P.lz la) (z1 : Q.lz l = P.lz l + 1) (nw : Q.oa q (P.lz l).toNat = some x) (od : ∀ j : Nat, (j : Int) < P.lz l → Q.oa q j = P.oa (P.le l) j) (nf : ¬ FNP P la x) (mx : x ∈ L) (kx : P.kd x = 17) (sx : rSets (P.ro x) ≠ 0) (gx : P.rg x = 0) : ROA P Q la y 1 := by
  have num : ∀ z : Nat, z ∈ L → P.kd z ≠ 30 → P.kd z ≠ 31 → SM9 z P Q := fun z m n1 n2 => by
    have n3 : z ≠ q := fun e => by have e2 := w.2.2.2.2 (by rw [← e]; exact m); rw [e, e2] at n2; rcases fx with f | f; exact n2 ((a.glf.owa l ml kl).2 f).2.1; rw [e, e2] at m; exact f m
    exact w.2.2.2.1 z (fun e => by rw [e] at n1; exact n1 kl) n3
  have ln : ∀ z : Nat, z ∈ L → P.kd z = 30 → z ≠ l → UNT P Q z := fun z m kz n9 => ⟨w.lz a ml kl fx m kz n9, fun i i0 i1 => w.elO a.glf.owa ml kl fx m kz n9 i0 i1⟩
  have ul : UNT P Q la := ke.2.2
  have oc := fun (c : Int) (c0 : 0 ≤ c) (c1 : c < P.lz la) => a.2.1.2.2.1 _ (a.inb ⟨c, c0, c1, rfl⟩).1.1 (a.inb ⟨c, c0, c1, rfl⟩).1.2
  have oy := oc y y0 y1
  have fld : ∀ c : Int, 0 ≤ c → c < P.lz la → Q.el la c = P.el la c ∧ Q.bp (P.el la c) = P.bp (P.el la c) ∧ Q.br (P.el la c) = P.br (P.el la c) ∧ Q.be (P.el la c) = P.be (P.el la c) ∧ Q.bf (P.el la c) = P.bf (P.el la c) ∧ Q.bs (P.el la c) = P.bs (P.el la c) := fun c c0 c1 => by
    have ib := a.inb ⟨c, c0, c1, rfl⟩
    have g := num _ ib.1.1 (by rw [ib.1.2]; decide) (by rw [ib.1.2]; decide)
    exact ⟨ul.2 c c0 c1, g.2.1 1, g.2.1 2, g.2.1 3, g.1 0, g.1 1⟩
  have phi : ∀ c : Int, 0 ≤ c → c < P.lz la → UNT P Q (P.bp (P.el la c)) := fun c c0 c1 => by
    have o9 := oc c c0 c1
    refine ln _ o9.2.2.2.1 o9.2.2.2.2 (fun e => ?_)
    have e1 := o9.2.1; have e2 := oy.1.1; rw [e, hl] at e1; omega
  have oth : ∀ c : Int, 0 ≤ c → c < P.lz la → c ≠ y → UNT P Q (P.br (P.el la c)) := fun c c0 c1 cy => by
    have o9 := oc c c0 c1
    refine ln _ o9.1.2.2.1 o9.1.2.2.2 (fun e => ?_)
    have e1 := o9.1.2.1; have e2 := oy.1.2.1; rw [e, hl] at e1; rw [e1] at e2
    rcases Int.lt_trichotomy y c with t | t | t
    · exact a.2.1.2.2.2 y c y0 t c1 e2.symm
    · exact cy t.symm
    · exact a.2.1.2.2.2 c y c0 t y1 e2
  have lst : Q.el l (P.lz l) = x := w.elast nw
  have own : ∀ k : Int, 0 ≤ k → k < P.lz l → Q.el l k = P.el l k := fun k k0 k1 => w.elx od k0 k1
  have row : ∀ c k : Int, 0 ≤ c → c < P.lz la → 0 ≤ k → k < P.lz (P.br (P.el la c)) → Q.el (P.br (P.el la c)) k = P.el (P.br (P.el la c)) k ∧ ∀ f : Nat, Q.1 f (P.el (P.br (P.el la c)) k) = P.1 f (P.el (P.br (P.el la c)) k) := fun c k c0 c1 k0 k1 => by
    have kr := a.krow c0 c1 k0 k1
    refine ⟨?_, (num _ kr.1 (by rw [kr.2]; decide) (by rw [kr.2]; decide)).1⟩
    by_cases t : c = y
    · rw [t, ← hl] at k1 ⊢; exact own k k0 k1
    · exact (oth c c0 c1 t).2 k k0 k1
  have nx := num x mx (by rw [kx]; decide) (by rw [kx]; decide)
  refine ⟨⟨ul.1, by omega⟩, fun c c0 c1 => ⟨(fld c c0 c1).1, (fld c c0 c1).2, ⟨(phi c c0 c1).1, fun k k0 k1 => ⟨(phi c c0 c1).2 k k0 k1, ?_⟩⟩, ⟨?_, fun k k0 k1 => row c k c0 c1 k0 k1, fun k k0 k1 => ?_⟩, ?_⟩, fun nd => ?_⟩
  · have kp := a.kphi c0 c1 k0 k1
    have p := a.pik kp.1 kp.2
    have s := num _ kp.1 (by rw [kp.2]; decide) (by rw [kp.2]; decide)
    exact ⟨s.1, ⟨s.2.1 1, s.2.1 2, s.2.1 3⟩, (num _ p.2.1.1 (by rw [p.2.1.2.1]; decide) (by rw [p.2.1.2.1]; decide)).2.2.2.1, (num _ p.2.2.1.1 (by rw [p.2.2.1.2.1]; decide) (by rw [p.2.2.1.2.1]; decide)).2.2.2.1, (num _ p.2.2.2.1.1 (by rw [p.2.2.2.1.2.1]; decide) (by rw [p.2.2.2.1.2.1]; decide)).2.2.2.1⟩
  · by_cases t : c = y
    · rw [if_pos t, t, ← hl]; exact z1
    · rw [if_neg t, (oth c c0 c1 t).1]; omega
  · by_cases t : c = y
    · rw [if_pos t] at k1
      rw [t, ← hl] at k0 k1 ⊢
      rw [show k = P.lz l from by omega, lst, show Q.ro x = P.ro x from nx.1 0, show Q.rg x = P.rg x from nx.1 6]
      exact ⟨sx, gx⟩
    · rw [if_neg t] at k1; omega
  · have ke9 := a.kend c0 c1
    exact (num _ ke9.1 (by rw [ke9.2.1]; decide) (by rw [ke9.2.1]; decide)).1
  · have nr := NRW9.of nf
    have get : ∀ c k : Int, 0 ≤ c → c < P.lz la → 0 ≤ k → k < Q.lz (Q.br (Q.el la c)) → (c = y ∧ k = P.lz (P.br (P.el la c)) ∧ Q.el (Q.br (Q.el la c)) k = x) ∨ (k < P.lz (P.br (P.el la c)) ∧ Q.el (Q.br (Q.el la c)) k = P.el (P.br (P.el la c)) k) := fun c k c0 c1 k0 k1 => by
      have g := fld c c0 c1
      rw [g.1, g.2.2.1] at k1 ⊢
      by_cases t : c = y
      · rw [t, ← hl] at k1 ⊢
        rw [z1] at k1
        by_cases s : k < P.lz l
        · exact Or.inr ⟨s, own k k0 s⟩
        · have e : k = P.lz l := by omega
          exact Or.inl ⟨rfl, e, by rw [e]; exact lst⟩
      · have o := oth c c0 c1 t
        rw [o.1] at k1
        exact Or.inr ⟨k1, o.2 k k0 k1⟩
    refine ⟨fun b c j k b0 b1 c0 c1 j0 j1 k0 k1 e => ?_, fun b c j k b0 b1 c0 c1 j0 j1 k0 k1 e => ?_, fun b c b0 b1 c0 c1 e => ?_⟩
    · rw [ul.1] at b1 c1
      rcases get b j b0 b1 j0 j1 with ⟨u1, u2, u3⟩ | ⟨u1, u2⟩ <;> rcases get c k c0 c1 k0 k1 with ⟨v1, v2, v3⟩ | ⟨v1, v2⟩
      · exact ⟨u1.trans v1.symm, by rw [u2, v2, u1, v1]⟩
      · exact absurd ((v2.symm.trans e.symm).trans u3) (nr c k c0 c1 k0 v1)
      · exact absurd ((u2.symm.trans e).trans v3) (nr b j b0 b1 j0 u1)
      · exact nd.1 b c j k b0 b1 c0 c1 j0 u1 k0 v1 ((u2.symm.trans e).trans v2)
    · rw [ul.1] at b1 c1
      have gb := fld b b0 b1
      have gc := fld c c0 c1
      rw [gb.1, gb.2.1, (phi b b0 b1).1] at j1
      rw [gc.1, gc.2.1, (phi c c0 c1).1] at k1
      rw [gb.1, gb.2.1, gc.1, gc.2.1, (phi b b0 b1).2 j j0 j1, (phi c c0 c1).2 k k0 k1] at e
      exact nd.2.1 b c j k b0 b1 c0 c1 j0 j1 k0 k1 e
    · rw [ul.1] at b1 c1
      have gb := fld b b0 b1
      have gc := fld c c0 c1
      rw [gb.1, gb.2.2.2.1, gc.1, gc.2.2.2.1] at e
      exact nd.2.2 b c b0 b1 c0 c1 e
theorem ROA.blk (h : ROA P Q la y n) (b0 : 0 ≤ b) (b1 : b < P.lz la) : Q.lz (Q.bp (Q.el la b)) = P.lz (P.bp (P.el la b)) ∧ Q.lz (Q.br (Q.el la b)) = P.lz (P.br (P.el la b)) + (if b = y then n else 0) ∧ Q.bf (Q.el la b) = P.bf (P.el la b) ∧ Q.bs (Q.el la b) = P.bs (P.el la b) ∧ Q.ro (Q.be (Q.el la b)) = P.ro (P.be (P.el la b)) := by
  obtain ⟨eb, w⟩ := h.2.1 b b0 b1
  rw [eb, w.1.1, w.1.2.1, w.1.2.2.1, w.1.2.2.2.1, w.1.2.2.2.2]
  exact ⟨w.2.1.1, w.2.2.1.1, rfl, rfl, w.2.2.2 0⟩
theorem ROA.edy (h : ROA P Q la y n) : EDY P Q la := ⟨h.1.1, fun b b0 b1 c => by
  have w := h.blk b0 b1
  unfold EDG
  rw [w.2.2.1, w.2.2.2.1, w.2.2.2.2]⟩
theorem ROA.wyr (h : ROA P Q la y n) : WYR P Q la := WYR.same h.1.1 (fun b c b0 b1 e => (h.edy.2 b b0 b1 c).mp e) (fun b b0 b1 o => by rw [(h.blk b0 b1).2.2.2.2] at o; exact o) (fun b b0 b1 => by rw [(h.blk b0 b1).1]; exact Int.le_refl _)
theorem ROA.rsb (h : ROA P Q la y n) (z : ∀ b : Int, 0 ≤ b → b < P.lz la → 0 ≤ P.lz (P.br (P.el la b))) : RSB P Q la := fun b k b0 b1 k0 k1 o => by
  rw [h.1.1] at b1
  obtain ⟨eb, w⟩ := h.2.1 b b0 b1
  rw [eb, w.1.2.1] at k1 o
  by_cases t : k < P.lz (P.br (P.el la b))
  · have u := w.2.2.1.2.1 k k0 t
    rw [u.1, show Q.ro (P.el (P.br (P.el la b)) k) = P.ro (P.el (P.br (P.el la b)) k) from u.2 0] at o
    exact ⟨b, k, ⟨b0, b1⟩, ⟨k0, t⟩, by rw [eb, w.1.2.1, u.1], o⟩
  · rw [w.2.2.1.1] at k1
    exact absurd o (w.2.2.1.2.2 k (by omega) k1).1
end ROA9
