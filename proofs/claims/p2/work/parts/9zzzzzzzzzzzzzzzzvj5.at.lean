/-! toSsa: zero rows while the function is taken in hand again and again -/
/-- tables are as they were -/
def TKA (L : List Nat) (P : PO) (L' : List Nat) (P' : PO) : Prop := ∀ z : Nat, z ∈ L → 43 ≤ P.kd z → z ∈ L' ∧ SM9 z P P'
section ZST9
variable {L L' L1 L2 L3 E : List Nat} {P P' P2 Q R R0 R1 R2 R3 : PO} {F : Nat → Prop} {cO cI cZ : ClassId} {ed la lb lr lp x q z : Nat} {n p s c t : Int} {k : Nat} {Z Z' : Int → Prop}
theorem TKA.refl (L : List Nat) (P : PO) : TKA L P L P := fun z m _ => ⟨m, SM9.refl z P⟩
theorem TKA.trans (h : TKA L P L' P') (j : TKA L' P' L2 P2) : TKA L P L2 P2 := fun z m k => by
  obtain ⟨m1, s1⟩ := h z m k
  obtain ⟨m2, s2⟩ := j z m1 (by rw [show P'.kd z = P.kd z from s1.2.1 0]; exact k)
  exact ⟨m2, s1.trans s2⟩
theorem TKA.tkp (h : TKA L P L' P') (k9 : 43 ≤ k) : TKP k L P L' P' := fun z m e => h z m (by omega)
theorem TKA.rw1 (w : RW1 x P P') (kx : P.kd x < 43) : TKA L P L P' := fun z m k => ⟨m, fun f => w.2 z (fun e => by rw [e] at k; omega) f, fun f => by rw [w.1], by show P'.2.2.1 z = P.2.2.1 z; rw [w.1], by show P'.2.2.2.1 z = P.2.2.2.1 z; rw [w.1], by show P'.2.2.2.2 z = P.2.2.2.2 z; rw [w.1]⟩
theorem TKA.gl1 (w : GL1 x q L P L' P') (kx : P.kd x = 30) (kq : q ∈ L → P.kd q = 31) (kl : P.le x ∈ L → P.kd (P.le x) = 31) : TKA L P L' P' := fun z m k => by
  have n1 : z ≠ x := fun e => by rw [e] at k; omega
  have n2 : z ≠ q := fun e => by have := kq (by rw [← e]; exact m); rw [e] at k; omega
  have n3 : z ≠ P.le x := fun e => by have := kl (by rw [← e]; exact m); rw [← e] at this; omega
  exact ⟨w.2.1 z m n3, w.2.2.2.1 z n1 n2⟩
/-- the table as a function, where nothing of it has changed -/
theorem LVT.tka {fv : Nat → Option Nat} {m len lo hi b r : Int} {cl : ClassId} (t : TBK L P k cl fv m len lo hi) (h : TKA L P L' P') (k9 : 43 ≤ k) (b0 : 0 ≤ b) (b1 : b < m) : LVT P' fv b r = LVT P fv b r := by
  obtain ⟨y, e, ⟨m1, k1, _⟩, _⟩ := t b b0 b1
  rw [LVT.at e, LVT.at e]
  have s := (h y m1 (by omega)).2
  show P'.2.2.2.1 y r = P.2.2.2.1 y r
  rw [show P'.2.2.2.1 y = P.2.2.2.1 y from s.2.2.2.1]
theorem FNE.rw9 (w : RW1 x P P') (a : ALP L P cO cI cZ ed la) (l0 : 0 < P.lz la) (nf : ¬ FNP P la x) : FNE P P' la := CHG.fne (w.chg L) a l0 (NHD9.wk NHD9.fnp a l0 (fun z _ e => by rw [e]; exact nf))
/-- a row that the function does not hold -/
def NRW9 (P : PO) (la x : Nat) : Prop := ∀ c k : Int, 0 ≤ c → c < P.lz la → 0 ≤ k → k < P.lz (P.br (P.el la c)) → P.el (P.br (P.el la c)) k ≠ x
theorem NRW9.of (h : ¬ FNP P la x) : NRW9 P la x := fun c k c0 c1 k0 k1 e => h (Or.inr (Or.inr ⟨c, ⟨c0, c1⟩, Or.inr (Or.inr (Or.inr (Or.inr (Or.inr (Or.inr (Or.inl ⟨k, ⟨k0, k1⟩, e.symm⟩))))))⟩))
theorem NRW9.fne (h : NRW9 P la x) (f : FNE P P' la) : NRW9 P' la x := fun c k c0 c1 k0 k1 e => by
  rw [f.1] at c1
  obtain ⟨e1, v⟩ := f.2 c c0 c1
  have eb : P'.br (P.el la c) = P.br (P.el la c) := v.1.2.1
  rw [e1, eb] at k1 e
  rw [v.2.2.1.1] at k1
  rw [(v.2.2.1.2 k k0 k1).1] at e
  exact h c k c0 c1 k0 k1 e
theorem ZRI.iff (h : ZRI P Q la n Z) (e : ∀ r : Int, Z r ↔ Z' r) : ZRI P Q la n Z' := by
  have q : Z = Z' := funext (fun r => propext (e r))
  rw [← q]; exact h
theorem ZRI.fne (h : ZRI P R la n Z) (f : FNE R R1 la) (l0 : 0 < P.lz la) (nn : 0 ≤ P.lz (P.br (P.el la 0))) : ZRI P R1 la n Z := by
  obtain ⟨⟨hz, hn⟩, hb, hr, ⟨hl, ho, hw⟩, hs⟩ := h
  have g : ∀ b : Int, 0 ≤ b → b < P.lz la → R1.el la b = P.el la b ∧ BVE R R1 (P.el la b) := fun b b0 b1 => by
    have u := f.2 b b0 (by rw [hz]; exact b1)
    have v := (hb b b0 b1).1
    rw [v] at u
    exact u
  have e0 := (hb 0 (Int.le_refl 0) l0).2.1.2.1
  have g0 := (g 0 (Int.le_refl 0) l0).2
  have r0 := g0.2.2.1
  rw [e0] at r0
  refine ⟨⟨f.1.trans hz, hn⟩, fun b b0 b1 => ?_, fun b b0 b1 => ?_, ⟨r0.1.trans hl, fun k k0 k1 => ?_, fun k k0 k1 => ?_⟩, fun r q => ?_⟩
  · obtain ⟨a1, a2, a3, a4⟩ := hb b b0 b1
    obtain ⟨u1, ⟨v1, v2, v3, v4, v5⟩, w1, w2, w3⟩ := g b b0 b1
    rw [a2.1] at w1
    rw [a2.2.2.1] at w3
    exact ⟨u1, ⟨v1.trans a2.1, v2.trans a2.2.1, v3.trans a2.2.2.1, v4.trans a2.2.2.2.1, v5.trans a2.2.2.2.2⟩, w1.1.trans a3, fun q => (w3 q).trans (a4 q)⟩
  · obtain ⟨a1, a2, a3, a4⟩ := hb b (by omega) b1
    obtain ⟨u1, _, _, w2, _⟩ := g b (by omega) b1
    rw [a2.2.1] at w2
    obtain ⟨c1, c2⟩ := hr b b0 b1
    refine ⟨w2.1.trans c1, fun k k0 k1 => ?_⟩
    have y := w2.2 k k0 (by rw [c1]; exact k1)
    rw [(c2 k k0 k1).1] at y
    exact ⟨y.1, fun q => (y.2 q).trans ((c2 k k0 k1).2 q)⟩
  · have y := r0.2 (n + k) (by omega) (by omega)
    rw [(ho k k0 k1).1] at y
    exact ⟨y.1, fun q => (y.2 q).trans ((ho k k0 k1).2 q)⟩
  · have y := r0.2 k k0 (by rw [hl]; omega)
    have w := hw k k0 k1
    rw [y.1]
    rw [show R1.ro (R.el (P.br (P.el la 0)) k) = R.ro (R.el (P.br (P.el la 0)) k) from y.2 0, show R1.rA (R.el (P.br (P.el la 0)) k) = R.rA (R.el (P.br (P.el la 0)) k) from y.2 4, show R1.rB (R.el (P.br (P.el la 0)) k) = R.rB (R.el (P.br (P.el la 0)) k) from y.2 5, show R1.rt (R.el (P.br (P.el la 0)) k) = R.rt (R.el (P.br (P.el la 0)) k) from y.2 1]
    exact w
  · obtain ⟨k, k0, k1, e⟩ := hs r q
    have y := r0.2 k k0 (by rw [hl]; omega)
    exact ⟨k, k0, k1, by rw [y.1]; exact (y.2 1).trans e⟩
/-- one zero row more: taken, its numbers put, put in its place -/
theorem ZRI.step (h : ZRI P R0 la n Z) (hp : PLF R0 la) (l0 : 0 < P.lz la) (nn : 0 ≤ P.lz (P.br (P.el la 0))) (f1 : FNE R0 R1 la) (nf : ¬ FNP R1 la x) (w : RW1 x R1 R2) (a1 : ALP L1 R1 cO cI cZ ed la) (a2 : ALP L1 R2 cO cI cZ ed la) (a : ZAD L1 R2 L2 R3 la n x) (mx : x ∈ L1) (kx : R2.kd x = 17) (ux : rUsA (R2.ro x) (R2.rA x) = 0 ∧ rUsB (R2.ro x) (R2.rB x) = 0) (sx : rSets (R2.ro x) ≠ 0) (tx : R2.rt x = t) (gx : R2.rg x = 0) (e : ∀ r : Int, (Z r ∨ r = t) ↔ Z' r) : ZRI P R3 la (n + 1) Z' ∧ PLF R3 la := by
  have z1 : 0 < R1.lz la := by rw [f1.1, h.1.1]; exact l0
  have f2 : FNE R1 R2 la := FNE.rw9 w a1 z1 nf
  have h2 := (h.fne f1 l0 nn).fne f2 l0 nn
  have p2 := (hp.fne f1).fne f2
  exact ⟨(h2.add l0 a a2 mx kx ux sx tx).iff e, p2.add a a2 mx kx ((NRW9.of nf).fne f2) gx⟩
end ZST9
section ROWA
variable {L L' : List Nat} {P Q Q' V : PO} {F : Nat → Prop} {g : Nat → Nat} {cO cI cZ : ClassId} {ed la lb lr lp x z : Nat} {n p s c t : Int}
theorem pkk_43 {k : Nat} (h : 43 ≤ k) : pkk k = k := by have q := pkk_cases k; omega
theorem TKA.park (h : ∀ z : Nat, z ∈ L → 43 ≤ P.kd z → z ∈ L' ∧ (∀ f : Nat, Q'.1 f z = P.1 f z) ∧ (∀ f : Nat, Q'.2.1 f z = P.2.1 f z) ∧ Q'.oa z = P.oa z ∧ Q'.ia z = P.ia z ∧ Q'.ac z = P.ac z) : TKA L P L' (Q'.park F) := fun z m k => by
  obtain ⟨m1, s1, s2, s3, s4, s5⟩ := h z m k
  refine ⟨m1, s1, fun f => ?_, s3, s4, s5⟩
  by_cases f0 : f = 0
  · rw [f0]
    have e : Q'.kd z = P.kd z := s2 0
    show (Q'.park F).kd z = P.kd z
    by_cases fz : F z
    · rw [park_in fz]; exact e
    · rw [park_out fz, e]; exact pkk_43 k
  · show (if f = 0 then _ else Q'.2.1 f z) = _
    rw [if_neg f0]; exact s2 f
theorem TKA.kin (t : ∀ z : Nat, z ∈ L → 43 ≤ P.kd z → g z = P.kd z) (w : CHG F L (P.kin g) L' Q') (n : ∀ z : Nat, z ∈ L → 43 ≤ g z → ¬ F z) (F' : Nat → Prop) : TKA L P L' (Q'.park F') := TKA.park (fun z m k => by
  have e := t z m k
  obtain ⟨m1, s1, s2, s3, s4, s5⟩ := w z m (n z m (by omega))
  refine ⟨m1, s1, fun f => ?_, s3, s4, s5⟩
  have q := s2 f
  by_cases f0 : f = 0
  · rw [f0] at q ⊢; exact q.trans e
  · exact q.trans (by show (if f = 0 then _ else P.2.1 f z) = _; rw [if_neg f0]))
theorem TKA.row (t : ∀ z : Nat, z ∈ L → 43 ≤ P.kd z → g z = P.kd z) (w : CRH lr x n L (P.kin g) L' Q') (c : CLF L (P.kin g) lr 17) (F' : Nat → Prop) : TKA L P L' (Q'.park F') := TKA.kin t w.2.2.2.1 (fun z m k s => by
  have kz : (P.kin g).kd z = g z := rfl
  rcases s with s | s | s
  · have q := (w.2.2.2.2.2 (by rw [← s]; exact m)).1; rw [← s] at q; omega
  · have q := c.2.1; rw [← s] at q; omega
  · omega) F'
theorem TKA.phi (t : ∀ z : Nat, z ∈ L → 43 ≤ P.kd z → g z = P.kd z) (w : CPQ lp x n p L (P.kin g) L' Q') (c : CLF L (P.kin g) lp 15) (kx : x ∈ L → (P.kin g).kd x = 15) (F' : Nat → Prop) : TKA L P L' (Q'.park F') := TKA.kin t w.2.2.2.2 (fun z m k s => by
  have kz : (P.kin g).kd z = g z := rfl
  rcases s with s | s | s
  · have q := kx (by rw [← s]; exact m); rw [← s] at q; omega
  · have q := c.2.1; rw [← s] at q; omega
  · omega) F'
end ROWA
