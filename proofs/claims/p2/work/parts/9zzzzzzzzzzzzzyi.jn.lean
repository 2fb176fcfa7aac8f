/-- of the blocks in front of p, n lead to b, the last of them y -/
def JPC (P : PO) (la : Nat) (b y n p : Int) : Prop := 0 ≤ n ∧ (n = 0 → ∀ q : Int, 0 ≤ q → q < p → ¬ EDG P la q b) ∧ (n = 1 → (0 ≤ y ∧ y < p) ∧ EDG P la y b ∧ ∀ q : Int, 0 ≤ q → q < p → EDG P la q b → q = y)
section JON8
variable {L : List Nat} {P P1 Q R : PO} {cO cI cZ : ClassId} {ed l la x : Nat} {st a s : Int → Int} {b c d i j k m n p y : Int}
theorem JPC.first (P : PO) (la : Nat) (b y : Int) : JPC P la b y 0 0 := ⟨Int.le_refl 0, fun _ q q0 q1 => by omega, fun e => by omega⟩
theorem JPC.no (h : JPC P la b y n p) (e : ¬ EDG P la p b) : JPC P la b y n (p + 1) := by
  refine ⟨h.1, fun z q q0 q1 => ?_, fun z => ?_⟩
  · by_cases t : q = p
    · rw [t]; exact e
    · exact h.2.1 z q q0 (by omega)
  · have o := h.2.2 z
    refine ⟨⟨o.1.1, by omega⟩, o.2.1, fun q q0 q1 g => ?_⟩
    by_cases t : q = p
    · rw [t] at g; exact absurd g e
    · exact o.2.2 q q0 (by omega) g
theorem JPC.yes (h : JPC P la b y n p) (e : EDG P la p b) (p0 : 0 ≤ p) : JPC P la b p (n + 1) (p + 1) := by
  have n0 := h.1
  refine ⟨by omega, fun z => by omega, fun z => ⟨⟨p0, by omega⟩, e, fun q q0 q1 g => ?_⟩⟩
  by_cases t : q = p
  · exact t
  · exact absurd g (h.2.1 (by omega) q q0 (by omega))
theorem ALP.two9 (al : ALP L P cO cI cZ ed la) (b0 : 0 ≤ b) (b1 : b < P.lz la) (y0 : 0 ≤ y) (y1 : y < P.lz la) (yb : y ≠ b) : P.lz (P.br (P.el la y)) + P.lz (P.br (P.el la b)) ≤ P.tot 2 la := by
  have nn : ∀ c : Int, 0 ≤ c → c < P.lz la → 0 ≤ P.lz (P.br (P.el la c)) := fun c c0 c1 => (al.inb ⟨c, c0, c1, rfl⟩).2.1.2.2.1.1
  have s1 : sumI (fun c => if c = b then 0 else P.lz (P.br (P.el la c))) (P.lz la).toNat = sumI (fun c => P.lz (P.br (P.el la c))) (P.lz la).toNat + (- P.lz (P.br (P.el la b))) := sumI_one (k := b) b0 (by omega) (by show (if b = b then (0 : Int) else _) = _; rw [if_pos rfl]; omega) (fun i _ _ ne => by show (if i = b then (0 : Int) else _) = _; rw [if_neg ne])
  have s2 := sumI_in (f := fun c => if c = b then 0 else P.lz (P.br (P.el la c))) (n := (P.lz la).toNat) (k := y) (fun i i0 i1 => by
    show (0 : Int) ≤ if i = b then 0 else P.lz (P.br (P.el la i))
    by_cases t : i = b
    · rw [if_pos t]; exact Int.le_refl 0
    · rw [if_neg t]; exact nn i i0 (by omega)) y0 (by omega)
  have s3 : (if y = b then 0 else P.lz (P.br (P.el la y))) = P.lz (P.br (P.el la y)) := if_neg yb
  have s4 : P.tot 2 la = sumI (fun c => P.lz (P.br (P.el la c))) (P.lz la).toNat := rfl
  have s5 : (if y = b then 0 else P.lz (P.br (P.el la y))) ≤ sumI (fun c => if c = b then 0 else P.lz (P.br (P.el la c))) (P.lz la).toNat := s2
  rw [s3] at s5
  omega
theorem JMR.tow (h : JMR P Q la b y) (T : ∀ k : Int, 0 ≤ k → k < P.lz la → (st k ≠ 0 ↔ k ≠ b)) (b0 : 0 ≤ b) (b1 : b < P.lz la) (y0 : 0 ≤ y) (y1 : y < P.lz la) (yb : y ≠ b) : Q.tow st la = P.tot 2 la ∧ Q.tot 1 la = P.tot 1 la := by
  have z : Q.lz la = P.lz la := h.1.1
  constructor
  · have s1 : sumI (fun c => if c = b then 0 else P.lz (P.br (P.el la c))) (P.lz la).toNat = sumI (fun c => P.lz (P.br (P.el la c))) (P.lz la).toNat + (- P.lz (P.br (P.el la b))) := sumI_one (k := b) b0 (by omega) (by show (if b = b then (0 : Int) else _) = _; rw [if_pos rfl]; omega) (fun i _ _ ne => by show (if i = b then (0 : Int) else _) = _; rw [if_neg ne])
    have s2 : sumI (fun c => if st c = 0 then 0 else Q.lz (Q.br (Q.el la c))) (P.lz la).toNat = sumI (fun c => if c = b then 0 else P.lz (P.br (P.el la c))) (P.lz la).toNat + P.lz (P.br (P.el la b)) := sumI_one (k := y) y0 (by omega) (by
      show (if st y = 0 then (0 : Int) else Q.lz (Q.br (Q.el la y))) = (if y = b then 0 else P.lz (P.br (P.el la y))) + P.lz (P.br (P.el la b))
      have w := h.1.2 y y0 y1
      rw [if_neg ((T y y0 y1).mpr yb), if_neg yb, w.1, w.2.2.1]
      exact h.2.2.1.1) (fun i i0 i1 ne => by
      show (if st i = 0 then (0 : Int) else Q.lz (Q.br (Q.el la i))) = if i = b then 0 else P.lz (P.br (P.el la i))
      have i2 : i < P.lz la := by omega
      by_cases ib : i = b
      · rw [if_pos ib, if_pos (show st i = 0 from Classical.byContradiction fun q9 => (T i i0 i2).mp q9 ib)]
      · have w := h.1.2 i i0 i2
        rw [if_neg ib, if_neg ((T i i0 i2).mpr ib), w.1, w.2.2.1]
        exact ((h.2.1 i i0 i2).2 ne).1)
    have s3 : Q.tow st la = sumI (fun c => if st c = 0 then 0 else Q.lz (Q.br (Q.el la c))) (P.lz la).toNat := by unfold PO.tow; rw [z]
    have s4 : P.tot 2 la = sumI (fun c => P.lz (P.br (P.el la c))) (P.lz la).toNat := rfl
    omega
  · unfold PO.tot
    rw [z]
    exact sumI_eq (fun i i0 i1 => by
      have w := h.1.2 i i0 (by omega)
      have t := (h.2.1 i i0 (by omega)).1.1
      show Q.lz (Q.bp (Q.el la i)) = P.lz (P.bp (P.el la i))
      rw [w.1, w.2.1]
      exact t)
theorem DRE.tow (h : DRE P Q la st a s m) (al : ALP L P cO cI cZ ed la) : Q.tot 2 la ≤ P.tow st la := by
  have nn : ∀ c : Int, 0 ≤ c → c < P.lz la → 0 ≤ P.lz (P.br (P.el la c)) := fun c c0 c1 => (al.inb ⟨c, c0, c1, rfl⟩).2.1.2.2.1.1
  have nm := h.1.1
  have m0 := nm.1
  have e : Q.tot 2 la = sumI (fun j => (fun c => if st c = 0 then 0 else P.lz (P.br (P.el la c))) (s j)) m.toNat := by
    unfold PO.tot
    rw [h.1.2.1]
    exact sumI_eq (fun i i0 i1 => by
      have t := nm.2.2.1 i i0 (by omega)
      have v := h.2.2.1 (s i) (by omega) (by omega)
      show Q.lz (Q.br (Q.el la i)) = if st (s i) = 0 then 0 else P.lz (P.br (P.el la (s i)))
      rw [h.2.1 i i0 (by omega), v.1.2.1, v.2.1.2, if_neg t.2.1])
  rw [e]
  exact sumI_ord m.toNat (fun c => if st c = 0 then 0 else P.lz (P.br (P.el la c))) (fun i i0 i1 => by
    show (0 : Int) ≤ if st i = 0 then 0 else P.lz (P.br (P.el la i))
    by_cases t : st i = 0
    · rw [if_pos t]; exact Int.le_refl 0
    · rw [if_neg t]; exact nn i i0 (by omega)) (fun j j0 j1 => by
    have t := nm.2.2.1 j j0 (by omega)
    omega) (fun i j i0 ij j1 => by
    have t := nm.2.2.2 i j i0 ij (by omega)
    omega)
theorem GN0.jna (g : GN0 P la) (h : CLR (P.bp (P.el la b)) L P P1) (s9 : STQ L P1 Q) (f : FLQ L P1 Q) (al : ALP L P cO cI cZ ed la) (b0 : 0 ≤ b) (b1 : b < P.lz la) : GN0 Q la := by
  have lb := al.lsx b0 b1
  have w := h.1
  have ml := lb.2.2.2.1
  have kl := lb.2.2.2.2
  have nla : la ≠ P.bp (P.el la b) := fun q => by
    have t := lb.2.1
    rw [← q, al.2.1.2.1] at t
    exact absurd t (by decide)
  have ula := (h.unt al ml kl al.lok.1 al.lok.2.1 nla).trans (s9.unt ((w.kd la).trans al.lok.2.1))
  intro c c0 c1
  rw [ula.1] at c1
  have lc := al.lsx c0 c1
  have ebr : Q.br (P.el la c) = P.br (P.el la c) := (s9.brq _).trans (by unfold PO.br; rw [w.1])
  have ebp : Q.bp (P.el la c) = P.bp (P.el la c) := (s9.bp _).trans (by unfold PO.bp; rw [w.1])
  rw [ula.2 c c0 c1, ebr, ebp]
  constructor
  · intro k k0 k1
    by_cases q : P.bp (P.el la c) = P.bp (P.el la b)
    · rw [q, (s9.unt ((w.kd _).trans kl)).1, h.2.1] at k1
      omega
    · have u := (h.unt al ml kl lc.2.2.2.1 lc.2.2.2.2 q).trans (s9.unt ((w.kd _).trans lc.2.2.2.2))
      rw [u.1] at k1
      rw [u.2 k k0 k1]
      have kp := al.kphi c0 c1 k0 k1
      have n : P.el (P.bp (P.el la c)) k ≠ P.bp (P.el la b) := kd_ne kp.2 kl (by decide)
      exact (f.2 _ kp.1 ((w.kd _).trans kp.2)).trans ((show P1.pg (P.el (P.bp (P.el la c)) k) = P.pg (P.el (P.bp (P.el la c)) k) from w.2.2.1 _ n _).trans ((g c c0 c1).1 k k0 k1))
  · intro k k0 k1
    have q : P.br (P.el la c) ≠ P.bp (P.el la b) := fun q => by
      have t := lc.1.1
      rw [q, lb.2.1] at t
      exact absurd t (by decide)
    have u := (h.unt al ml kl lc.1.2.2.1 lc.1.2.2.2 q).trans (s9.unt ((w.kd _).trans lc.1.2.2.2))
    rw [u.1] at k1
    rw [u.2 k k0 k1]
    have kp := al.krow c0 c1 k0 k1
    have n : P.el (P.br (P.el la c)) k ≠ P.bp (P.el la b) := kd_ne kp.2 kl (by decide)
    exact (f.1 _ kp.1 ((w.kd _).trans kp.2)).trans ((show P1.rg (P.el (P.br (P.el la c)) k) = P.rg (P.el (P.br (P.el la c)) k) from w.2.2.1 _ n _).trans ((g c c0 c1).2 k k0 k1))
theorem JMA.of (h : CLR (P.bp (P.el la b)) L P P1) (s9 : STQ L P1 Q) (al : ALP L P cO cI cZ ed la) (b0 : 0 < b) (b1 : b < P.lz la) (y0 : 0 ≤ y) (y1 : y < P.lz la) (yb : y ≠ b) (ey : EDG P la y b) (one : ∀ p : Int, 0 ≤ p → p < P.lz la → EDG P la p b → p = y) (o : P.ro (P.be (P.el la y)) = 30) (j : (∀ p c : Int, 0 ≤ p → p < P.lz la → (EDG Q la p c ↔ EDG P la p c)) ∧ Q.lz (P.bp (P.el la b)) = 0) : JMA Q la b y ∧ Q.lz la = P.lz la ∧ ∀ c : Int, 0 ≤ c → c < P.lz la → Q.el la c = P.el la c ∧ Q.bp (P.el la c) = P.bp (P.el la c) ∧ Q.br (P.el la c) = P.br (P.el la c) ∧ Q.be (P.el la c) = P.be (P.el la c) := by
  have lb := al.lsx (Int.le_of_lt b0) b1
  have w := h.1
  have kl := lb.2.2.2.2
  have nla : la ≠ P.bp (P.el la b) := fun q => by
    have t := lb.2.1
    rw [← q, al.2.1.2.1] at t
    exact absurd t (by decide)
  have ula := (h.unt al lb.2.2.2.1 kl al.lok.1 al.lok.2.1 nla).trans (s9.unt ((w.kd la).trans al.lok.2.1))
  have bl : ∀ c : Int, 0 ≤ c → c < P.lz la → Q.el la c = P.el la c ∧ Q.bp (P.el la c) = P.bp (P.el la c) ∧ Q.br (P.el la c) = P.br (P.el la c) ∧ Q.be (P.el la c) = P.be (P.el la c) := fun c c0 c1 => ⟨ula.2 c c0 c1, (s9.bp _).trans (by unfold PO.bp; rw [w.1]), (s9.brq _).trans (by unfold PO.br; rw [w.1]), (s9.be _).trans (by unfold PO.be; rw [w.1])⟩
  have ky := (al.inb ⟨y, y0, y1, rfl⟩).1
  have ke := al.kend y0 y1
  have ny : P.el la y ≠ P.bp (P.el la b) := kd_ne ky.2 kl (by decide)
  have ne : P.be (P.el la y) ≠ P.bp (P.el la b) := kd_ne ke.2.1 kl (by decide)
  have ro : Q.ro (P.be (P.el la y)) = 30 := (s9.2.1 _ ke.1 ((w.kd _).trans ke.2.1)).1.trans ((show P1.ro (P.be (P.el la y)) = P.ro (P.be (P.el la y)) from w.2.2.1 _ ne _).trans o)
  have bf : Q.bf (P.el la y) = P.bf (P.el la y) := (s9.2.2.2 _ ky.1 ((w.kd _).trans ky.2)).1.trans (w.2.2.1 _ ny _)
  have way := ey.way
  rw [o] at way
  have fb : P.bf (P.el la y) = b := way.2.elim id (fun t => absurd rfl t.1)
  have wy := bl y y0 y1
  have wb := bl b (Int.le_of_lt b0) b1
  refine ⟨⟨⟨b0, by rw [ula.1]; exact b1, y0, by rw [ula.1]; exact y1, yb⟩, ⟨by rw [wy.1, wy.2.2.2]; exact ro, by rw [wy.1, bf]; exact fb⟩, fun p p0 p1 e => ?_, by rw [wb.1, wb.2.1]; exact j.2⟩, ula.1, bl⟩
  rw [ula.1] at p1
  exact one p p0 p1 ((j.1 p b p0 p1).mp e)
end JON8
