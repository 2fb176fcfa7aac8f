/-! toPlain: what the walk wants of the split, of ways, of PHIs that are cleared -/
/-- the PHIs of the blocks below c are cleared -/
def TPD (Q : PO) (la : Nat) (n c : Int) : Prop := ((0 < n ∧ n ≤ Q.lz la) ∧ NDR Q la ∧ ENE Q la ∧ GN0 Q la ∧ TXH Q la ∧ I6P Q la) ∧ ∀ d : Int, 0 ≤ d → d < Q.lz la → (30 ≤ Q.ro (Q.be (Q.el la d)) ∧ Q.ro (Q.be (Q.el la d)) ≤ 32) ∧ (d < c ∨ n ≤ d → Q.lz (Q.bp (Q.el la d)) = 0) ∧ Q.lz (Q.br (Q.el la d)) ≤ 1601
/-- a plain function, as toPlain leaves it -/
def FKP (Q : PO) (la : Nat) : Prop := PLF Q la ∧ TXH Q la ∧ I6P Q la ∧ (∀ d : Int, 0 ≤ d → d < Q.lz la → Q.lz (Q.br (Q.el la d)) ≤ 1601) ∧ Q.tot 2 la ≤ 2000
/-- just one of the two goals is b -/
def GYQ (Q : PO) (v : Nat) (b : Int) : Prop := (Q.bf v = b ∨ Q.bs v = b) ∧ Q.bf v ≠ Q.bs v
section TPM9
variable {L L' : List Nat} {P P' Q Q' R : PO} {cO cI cZ : ClassId} {ed la lb lr lp l x : Nat} {b c d k m n p t y : Int}
theorem ALP.totrow (al : ALP L P cO cI cZ ed la) (b0 : 0 ≤ b) (b1 : b < P.lz la) : P.lz (P.br (P.el la b)) ≤ P.tot 2 la := by
  have q := sumI_in (f := fun i => P.lz (P.br (P.el la i))) (n := (P.lz la).toNat) (k := b) (fun i i0 i1 => (al.inb ⟨i, i0, by omega, rfl⟩).2.1.2.2.1.1) b0 (by omega)
  exact q
theorem SPL.sm (G : GLR L Q cO cI cZ ed) (G' : GLR L' Q' cO cI cZ ed) (c0 : CLF L Q la 12) (c1 : CLF L Q lb 12) (ke : KEG [la, lb] L Q L' Q') (w : CB9 la lb x m L Q L' Q') (y0 : 0 ≤ y) (y1 : y < Q.lz la) : Q'.bf (Q.el la y) = Q.bf (Q.el la y) ∧ Q'.bs (Q.el la y) = Q.bs (Q.el la y) := by
  have B := (G.lk c0).2.2.2.2 y y0 y1
  have k := ke.mem B.2.1 B.2.2 (by decide)
  have o := G'.owc x w.1.1 w.1.2.1
  have s := (w.2.2.2.2 _ B.2.1 (fun q => by
    rcases q with (q | q | q | q) | q
    · have t := B.2.2; rw [q, c0.2.1] at t; omega
    · have t := B.2.2; rw [q, c1.2.1] at t; omega
    · have t := k.2; rw [q, o.2.2.2.2] at t; omega
    · have t := k.2; rw [q, o.1.2.2.2] at t; omega
    · have t := q.1; rw [B.2.2] at t; omega)).2
  exact ⟨s.1 0, s.1 1⟩
theorem GYQ.fst {v : Nat} (h : GYQ Q v b) (e : Q.bf v = b) (r1 : R.bf v = n) (r2 : R.bs v = Q.bs v) : (Q.bf v = b ∧ Q.bs v ≠ b ∧ R.bf v = n ∧ R.bs v = Q.bs v) ∨ (Q.bf v ≠ b ∧ Q.bs v = b ∧ R.bf v = Q.bf v ∧ R.bs v = n) := Or.inl ⟨e, fun q => h.2 (e.trans q.symm), r1, r2⟩
theorem GYQ.snd {v : Nat} (h : GYQ Q v b) (e : Q.bf v ≠ b) (r1 : R.bf v = Q.bf v) (r2 : R.bs v = n) : (Q.bf v = b ∧ Q.bs v ≠ b ∧ R.bf v = n ∧ R.bs v = Q.bs v) ∨ (Q.bf v ≠ b ∧ Q.bs v = b ∧ R.bf v = Q.bf v ∧ R.bs v = n) := Or.inr ⟨e, h.1.resolve_left e, r1, r2⟩
theorem GYQ.of (e : EDG Q la y b) (w : rWays (Q.ro (Q.be (Q.el la y))) (Q.bf (Q.el la y)) (Q.bs (Q.el la y)) = 2) : GYQ Q (Q.el la y) b := by
  have s := rWays_spec (Q.ro (Q.be (Q.el la y))) (Q.bf (Q.el la y)) (Q.bs (Q.el la y))
  have t := e.way.2
  exact ⟨t.imp id (fun q => q.2), by omega⟩
theorem SPX.tot (h : SPX P Q la y b) : Q.tot 2 la = P.tot 2 la := by
  have z : 0 ≤ P.lz la := by have t := h.1.2.1; omega
  unfold PO.tot
  rw [h.1.1, sumI_toN9 _ z]
  have e := sumI_eq (f := fun i => Q.lz (Q.2.1 2 (Q.el la i))) (g := fun i => P.lz (P.2.1 2 (P.el la i))) (n := (P.lz la).toNat) (fun i i0 i1 => by
    have u := h.2.1 i i0 (by omega)
    show Q.lz (Q.br (Q.el la i)) = P.lz (P.br (P.el la i))
    rw [u.1, u.2.1.2.1]; exact u.2.2.2.2.1.1)
  rw [e]
  have v := h.2.2.2.1.2.1
  show _ + Q.lz (Q.br (Q.el la (P.lz la))) = _
  omega
theorem EDG.one (o : rWays (P.ro (P.be (P.el la p))) (P.bf (P.el la p)) (P.bs (P.el la p)) ≤ 1) (e : EDG P la p b) (f : EDG P la p d) : d = b := by
  obtain ⟨i, i0, i1, ei⟩ := e
  obtain ⟨j, j0, j1, ej⟩ := f
  have a : i = 0 := by omega
  have c : j = 0 := by omega
  rw [a] at ei; rw [c] at ej
  exact ej.symm.trans ei
theorem TPI.tpd (h : TPI Q la n m t b p) : TPD Q la n 0 := ⟨⟨⟨h.1.1.1, h.1.1.2.1⟩, h.1.2⟩, fun d d0 d1 => by
  obtain ⟨h1, h2, h3, h4⟩ := h.2.1 d d0 d1
  have z := h.1.1
  exact ⟨h1, fun e => h2.2.2 (by omega), by rcases h4 with w | w <;> omega⟩⟩
theorem TPD.clr (h : TPD Q la n c) (w : CLR l L Q R) (a : ALP L Q cO cI cZ ed la) (aR : ALP L' R cO cI cZ ed la) (ke : KEP [] L Q L' R la) (hl : l = Q.bp (Q.el la c)) (c0 : 0 ≤ c) (c1 : c < n) : TPD R la n (c + 1) := by
  obtain ⟨⟨⟨n0, n1⟩, nd, en, gn, tx, i6⟩, h2⟩ := h
  have oc := fun (d : Int) (d0 : 0 ≤ d) (d1 : d < Q.lz la) => a.2.1.2.2.1 _ (a.inb ⟨d, d0, d1, rfl⟩).1.1 (a.inb ⟨d, d0, d1, rfl⟩).1.2
  have oy := oc c c0 (by omega)
  have ml : l ∈ L ∧ Q.kd l = 30 := by rw [hl]; exact oy.2.2.2
  have ul : UNT Q R la := ke.2.2
  have rf : ∀ (f z : Nat), R.2.1 f z = Q.2.1 f z := fun f z => by rw [w.1.1]
  have nu : ∀ z : Nat, z ∈ L → Q.kd z ≠ 30 → ∀ f : Nat, R.1 f z = Q.1 f z := fun z _ k f => w.1.2.2.1 z (fun e => k (by rw [e]; exact ml.2)) f
  have fld : ∀ d : Int, 0 ≤ d → d < Q.lz la → R.el la d = Q.el la d ∧ R.bp (Q.el la d) = Q.bp (Q.el la d) ∧ R.br (Q.el la d) = Q.br (Q.el la d) ∧ R.be (Q.el la d) = Q.be (Q.el la d) ∧ R.bf (Q.el la d) = Q.bf (Q.el la d) ∧ R.bs (Q.el la d) = Q.bs (Q.el la d) ∧ R.ro (Q.be (Q.el la d)) = Q.ro (Q.be (Q.el la d)) := fun d d0 d1 => by
    have ib := a.inb ⟨d, d0, d1, rfl⟩
    have ie := a.kend d0 d1
    exact ⟨ul.2 d d0 d1, rf 1 _, rf 2 _, rf 3 _, nu _ ib.1.1 (by rw [ib.1.2]; decide) 0, nu _ ib.1.1 (by rw [ib.1.2]; decide) 1, nu _ ie.1 (by rw [ie.2.1]; decide) 0⟩
  have row : ∀ d : Int, 0 ≤ d → d < Q.lz la → UNT Q R (Q.br (Q.el la d)) := fun d d0 d1 => by
    have o := oc d d0 d1
    refine w.unt a ml.1 ml.2 o.1.2.2.1 o.1.2.2.2 (fun e => ?_)
    have e1 := o.1.1; have e2 := oy.2.1; rw [e, hl] at e1; omega
  have phi : ∀ d : Int, 0 ≤ d → d < Q.lz la → d ≠ c → UNT Q R (Q.bp (Q.el la d)) := fun d d0 d1 dc => by
    have o := oc d d0 d1
    refine w.unt a ml.1 ml.2 o.2.2.2.1 o.2.2.2.2 (fun e => ?_)
    have e1 := o.2.2.1; have e2 := oy.2.2.1; rw [e, hl] at e1; rw [e1] at e2
    rcases Int.lt_trichotomy c d with t | t | t
    · exact a.2.1.2.2.2 c d c0 t d1 e2.symm
    · exact dc t.symm
    · exact a.2.1.2.2.2 d c d0 t (by omega) e2
  have z0 : R.lz (Q.bp (Q.el la c)) = 0 := by rw [← hl]; exact w.2.1
  have edg : ∀ p q : Int, 0 ≤ p → p < Q.lz la → (EDG R la p q ↔ EDG Q la p q) := fun p q p0 p1 => by
    have u := fld p p0 p1
    unfold EDG
    rw [u.1, u.2.2.2.1, u.2.2.2.2.1, u.2.2.2.2.2.1, u.2.2.2.2.2.2]
  have pl : ∀ d : Int, 0 ≤ d → d < Q.lz la → 0 ≤ Q.lz (Q.bp (Q.el la d)) := fun d d0 d1 => (a.inb ⟨d, d0, d1, rfl⟩).2.2.1.2.2.1.1
  have wy : WYR Q R la := WYR.same ul.1 (fun p q p0 p1 e => (edg p q p0 p1).mp e) (fun d d0 d1 e => by
    have u := fld d d0 d1
    rw [u.1, u.2.2.2.1, u.2.2.2.2.2.2] at e; exact e) (fun d d0 d1 => by
    have u := fld d d0 d1
    rw [u.1, u.2.1]
    by_cases e : d = c
    · rw [e, z0]; exact pl c c0 (by omega)
    · rw [(phi d d0 d1 e).1]; exact Int.le_refl _)
  have rs : RSB Q R la := fun d k d0 d1 k0 k1 o => by
    rw [ul.1] at d1
    have u := fld d d0 d1
    have r := row d d0 d1
    rw [u.1, u.2.2.1] at k1 o
    rw [r.1] at k1
    have kr := a.krow d0 d1 k0 k1
    rw [r.2 k k0 k1, show R.ro (Q.el (Q.br (Q.el la d)) k) = Q.ro (Q.el (Q.br (Q.el la d)) k) from nu _ kr.1 (by rw [kr.2]; decide) 0] at o
    exact ⟨d, k, ⟨d0, d1⟩, ⟨k0, k1⟩, by rw [u.1, u.2.2.1, r.2 k k0 k1], o⟩
  refine ⟨⟨⟨n0, by rw [ul.1]; exact n1⟩, ⟨fun b d j k b0 b1 d0 d1 j0 j1 k0 k1 e => ?_, fun b d j k b0 b1 d0 d1 j0 j1 k0 k1 e => ?_, fun b d b0 b1 d0 d1 e => ?_⟩, ⟨fun q q0 q1 e => en.1 q q0 (by rw [← ul.1]; exact q1) ((edg q 0 q0 (by rw [← ul.1]; exact q1)).mp e), fun d d0 d1 => ?_⟩, fun d d0 d1 => ⟨fun k k0 k1 => ?_, fun k k0 k1 => ?_⟩, ⟨tx.1.wyr wy aR, tx.2.rsb rs⟩, i6.1.wyr wy, i6.2.wyr wy⟩, fun d d0 d1 => ?_⟩
  · rw [ul.1] at b1 d1
    have u := fld b b0 b1
    have v := fld d d0 d1
    rw [u.1, u.2.2.1, (row b b0 b1).1] at j1
    rw [v.1, v.2.2.1, (row d d0 d1).1] at k1
    rw [u.1, u.2.2.1, v.1, v.2.2.1, (row b b0 b1).2 j j0 j1, (row d d0 d1).2 k k0 k1] at e
    exact nd.1 b d j k b0 b1 d0 d1 j0 j1 k0 k1 e
  · rw [ul.1] at b1 d1
    have u := fld b b0 b1
    have v := fld d d0 d1
    rw [u.1, u.2.1] at j1
    rw [v.1, v.2.1] at k1
    by_cases eb : b = c
    · rw [eb, z0] at j1; omega
    · by_cases ee : d = c
      · rw [ee, z0] at k1; omega
      · rw [(phi b b0 b1 eb).1] at j1
        rw [(phi d d0 d1 ee).1] at k1
        rw [u.1, u.2.1, v.1, v.2.1, (phi b b0 b1 eb).2 j j0 j1, (phi d d0 d1 ee).2 k k0 k1] at e
        exact nd.2.1 b d j k b0 b1 d0 d1 j0 j1 k0 k1 e
  · rw [ul.1] at b1 d1
    have u := fld b b0 b1
    have v := fld d d0 d1
    rw [u.1, u.2.2.2.1, v.1, v.2.2.2.1] at e
    exact nd.2.2 b d b0 b1 d0 d1 e
  · rw [ul.1] at d1
    have u := fld d d0 d1
    rw [u.1, u.2.2.2.1, u.2.2.2.2.1, u.2.2.2.2.2.1, u.2.2.2.2.2.2]; exact en.2 d d0 d1
  · rw [ul.1] at d1
    have u := fld d d0 d1
    rw [u.1, u.2.1] at k1 ⊢
    by_cases e : d = c
    · rw [e, z0] at k1; omega
    · rw [(phi d d0 d1 e).1] at k1
      have kp := a.kphi d0 d1 k0 k1
      rw [(phi d d0 d1 e).2 k k0 k1, show R.pg (Q.el (Q.bp (Q.el la d)) k) = Q.pg (Q.el (Q.bp (Q.el la d)) k) from nu _ kp.1 (by rw [kp.2]; decide) 2]
      exact (gn d d0 d1).1 k k0 k1
  · rw [ul.1] at d1
    have u := fld d d0 d1
    rw [u.1, u.2.2.1] at k1 ⊢
    rw [(row d d0 d1).1] at k1
    have kr := a.krow d0 d1 k0 k1
    rw [(row d d0 d1).2 k k0 k1, show R.rg (Q.el (Q.br (Q.el la d)) k) = Q.rg (Q.el (Q.br (Q.el la d)) k) from nu _ kr.1 (by rw [kr.2]; decide) 6]
    exact (gn d d0 d1).2 k k0 k1
  · rw [ul.1] at d1
    have u := fld d d0 d1
    obtain ⟨g1, g2, g3⟩ := h2 d d0 d1
    rw [u.1, u.2.1, u.2.2.1, u.2.2.2.1, u.2.2.2.2.2.2, (row d d0 d1).1]
    refine ⟨g1, fun e => ?_, g3⟩
    by_cases t : d = c
    · rw [t]; exact z0
    · rw [(phi d d0 d1 t).1]; exact g2 (by omega)
theorem TPD.fin (h : TPD Q la n c) (e : n ≤ c) (z : Q.tot 2 la ≤ 2000) : FKP Q la := by
  have n0 := h.1.1
  refine ⟨⟨⟨by omega, fun d d0 d1 => ?_⟩, h.1.2.1, h.1.2.2.1, h.1.2.2.2.1⟩, h.1.2.2.2.2.1, h.1.2.2.2.2.2, fun d d0 d1 => (h.2 d d0 d1).2.2, z⟩
  have u := h.2 d d0 d1
  exact ⟨u.2.1 (by omega), u.1⟩
theorem LMZ.clr (h : LMZ L P la lb lr lp) (c : CLR x L P P') (mx : x ∈ L) (kx : P.kd x = 30) {v : Nat} (mb : v ∈ L) (kb : P.kd v = 12) (ex : x = P.bp v) : LMZ L P' la lb lr lp := by
  have r : ∀ l : Nat, l = la ∨ l = lb ∨ l = lr ∨ l = lp → P'.lz l = P.lz l ∧ ∀ i : Int, 0 ≤ i → i < P.lz l → P'.el l i = P.el l i := fun l hl => by
    have nx : l ≠ x := h.1.nel mb kb (Or.inr ex) hl
    have k := h.1.2.1.1 l hl
    have o := h.1.2.2.1.1 l k.1 k.2
    have oX := h.1.2.2.1.1 x mx (kc30 kx)
    refine ⟨c.lz nx, fun i i0 i1 => ?_⟩
    have f : P.fl l = 1 := by
      by_cases f : P.fl l = 1
      · exact f
      · have := o.2 f; omega
    have q := o.1 f
    unfold PO.el
    rw [show P'.le l = P.le l from by unfold PO.le; rw [c.1.1]]
    rcases c.2.2 with ⟨fx, _⟩ | s
    · rw [c.1.2.2.2 (P.le l) (fun e => nx (by rw [← q.2.2, e]; exact (oX.1 fx).2.2))]
    · rw [s]
  refine ⟨LMT.nat h.1 c.1.1 (fun l hl => r l (Or.inr hl)) (fun z mz kz fz => ?_), h.2.same (r la (Or.inl rfl)).1 (r la (Or.inl rfl)).2 (r lb (Or.inr (Or.inl rfl)))⟩
  by_cases e : z = x
  · rw [e]; exact c.2.1
  · rw [c.lz e]; exact (h.1.2.2.1.1 z mz kz).2 fz
theorem TKA.clr (c : CLR x L P P') (o : OWA L P cO ed) (hed : ed ∉ L) (mx : x ∈ L) (kx : P.kd x = 30) : TKA L P L P' := fun z m k => by
  refine ⟨m, fun f => c.1.2.2.1 z (fun e => by rw [e] at k; omega) f, fun f => by rw [c.1.1], ?_, by unfold PO.ia; rw [c.1.2.1], by unfold PO.ac; rw [c.1.2.1]⟩
  refine c.1.2.2.2 z (fun e => ?_)
  by_cases f : P.fl x = 1
  · have q := ((o x mx kx).2 f).2.1; rw [← e] at q; omega
  · have q := ((o x mx kx).1 f).2; rw [← e] at q; exact hed (by rw [← q]; exact m)
end TPM9
