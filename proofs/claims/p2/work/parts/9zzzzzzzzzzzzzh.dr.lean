/-! SSA of the blocks that are kept; w: a PHI's operand is asked only where its PRED leads there -/
def AVZ (w : Prop) (P : PO) (la : Nat) (st : Int → Int) : Prop := ∃ A : Int → Int → Prop, ((∀ r : Int, ¬ A r 0) ∧ ∀ r p b : Int, 0 ≤ p → p < P.lz la → st p ≠ 0 → EDG P la p b → A r b → A r p ∨ SIB P la p r) ∧ ∀ b : Int, 0 ≤ b → b < P.lz la → st b ≠ 0 → (∀ k : Int, 0 ≤ k → k < P.lz (P.bp (P.el la b)) → ∀ i : Int, 0 ≤ i → i < P.pn (P.el (P.bp (P.el la b)) k) → st (P.ia (P.pp (P.el (P.bp (P.el la b)) k)) i) ≠ 0 → (w → EDG P la (P.ia (P.pp (P.el (P.bp (P.el la b)) k)) i) b) → P.ia (P.pr (P.el (P.bp (P.el la b)) k)) i = 0 ∨ (A (P.ia (P.pu (P.el (P.bp (P.el la b)) k)) i) (P.ia (P.pp (P.el (P.bp (P.el la b)) k)) i) ∨ SIB P la (P.ia (P.pp (P.el (P.bp (P.el la b)) k)) i) (P.ia (P.pu (P.el (P.bp (P.el la b)) k)) i))) ∧ (∀ j : Int, 0 ≤ j → j < P.lz (P.br (P.el la b)) → URA P la A b j (P.el (P.br (P.el la b)) j)) ∧ URA P la A b (P.lz (P.br (P.el la b))) (P.be (P.el la b))
def CMK (P : PO) (la : Nat) (st : Int → Int) : Prop := P.lz (P.bp (P.el la 0)) = 0 ∧ (∀ b : Int, 0 ≤ b → b < P.lz la → st b ≠ 0 → P.lz (P.bp (P.el la b)) ≤ 1900 ∧ (30 ≤ P.ro (P.be (P.el la b)) ∧ P.ro (P.be (P.el la b)) ≤ 32)) ∧ ∀ p b : Int, 0 ≤ p → p < P.lz la → st p ≠ 0 → 0 ≤ b → b < P.lz la → st b ≠ 0 → EDG P la p b → ∀ i : Int, 0 ≤ i → i < P.lz (P.bp (P.el la b)) → HPP P (P.el (P.bp (P.el la b)) i) p
def NDK (P : PO) (la : Nat) (st : Int → Int) : Prop := (∀ b c j k : Int, 0 ≤ b → b < P.lz la → st b ≠ 0 → 0 ≤ c → c < P.lz la → st c ≠ 0 → 0 ≤ j → j < P.lz (P.br (P.el la b)) → 0 ≤ k → k < P.lz (P.br (P.el la c)) → P.el (P.br (P.el la b)) j = P.el (P.br (P.el la c)) k → b = c ∧ j = k) ∧ ∀ b c : Int, 0 ≤ b → b < P.lz la → st b ≠ 0 → 0 ≤ c → c < P.lz la → st c ≠ 0 → P.be (P.el la b) = P.be (P.el la c) → b = c
def SNK (P : PO) (la : Nat) (st : Int → Int) : Prop := (∀ b c j k : Int, 0 ≤ b → b < P.lz la → st b ≠ 0 → 0 ≤ c → c < P.lz la → st c ≠ 0 → 0 ≤ j → j < P.lz (P.bp (P.el la b)) → 0 ≤ k → k < P.lz (P.bp (P.el la c)) → P.pt (P.el (P.bp (P.el la b)) j) = P.pt (P.el (P.bp (P.el la c)) k) → b = c ∧ j = k) ∧ (∀ b c j k : Int, 0 ≤ b → b < P.lz la → st b ≠ 0 → 0 ≤ c → c < P.lz la → st c ≠ 0 → 0 ≤ j → j < P.lz (P.br (P.el la b)) → 0 ≤ k → k < P.lz (P.br (P.el la c)) → rSets (P.ro (P.el (P.br (P.el la b)) j)) ≠ 0 → rSets (P.ro (P.el (P.br (P.el la c)) k)) ≠ 0 → P.rt (P.el (P.br (P.el la b)) j) = P.rt (P.el (P.br (P.el la c)) k) → b = c ∧ j = k) ∧ ∀ b c j k : Int, 0 ≤ b → b < P.lz la → st b ≠ 0 → 0 ≤ c → c < P.lz la → st c ≠ 0 → 0 ≤ j → j < P.lz (P.bp (P.el la b)) → 0 ≤ k → k < P.lz (P.br (P.el la c)) → rSets (P.ro (P.el (P.br (P.el la c)) k)) ≠ 0 → P.pt (P.el (P.bp (P.el la b)) j) ≠ P.rt (P.el (P.br (P.el la c)) k)
def NSK (P : PO) (la : Nat) (st : Int → Int) : Int := sumI (fun b => if st b = 0 then 0 else WSB P la b) (P.lz la).toNat
def SSK (w : Prop) (P : PO) (la : Nat) (st : Int → Int) : Prop := KST P la st ∧ CMK P la st ∧ NDK P la st ∧ (∀ b : Int, 0 ≤ b → b < P.lz la → st b ≠ 0 → RCH P la (-1) b) ∧ AVZ w P la st ∧ SNK P la st ∧ NSK P la st ≤ 1000 ∧ (∀ p : Int, 0 ≤ p → p < P.lz la → st p ≠ 0 → ¬ EDG P la p 0) ∧ ∀ b : Int, 0 ≤ b → b < P.lz la → st b ≠ 0 → P.ro (P.be (P.el la b)) = 30 → P.bs (P.el la b) = P.bf (P.el la b)
/-- SSA, but that operands from where no way leads may be anything -/
def AVY (w : Prop) (P : PO) (la : Nat) : Prop := ∃ A : Int → Int → Prop, AVW P la A ∧ ∀ b : Int, 0 ≤ b → b < P.lz la → (∀ k : Int, 0 ≤ k → k < P.lz (P.bp (P.el la b)) → ∀ i : Int, 0 ≤ i → i < P.pn (P.el (P.bp (P.el la b)) k) → (w → EDG P la (P.ia (P.pp (P.el (P.bp (P.el la b)) k)) i) b) → P.ia (P.pr (P.el (P.bp (P.el la b)) k)) i = 0 ∨ (A (P.ia (P.pu (P.el (P.bp (P.el la b)) k)) i) (P.ia (P.pp (P.el (P.bp (P.el la b)) k)) i) ∨ SIB P la (P.ia (P.pp (P.el (P.bp (P.el la b)) k)) i) (P.ia (P.pu (P.el (P.bp (P.el la b)) k)) i))) ∧ (∀ j : Int, 0 ≤ j → j < P.lz (P.br (P.el la b)) → URA P la A b j (P.el (P.br (P.el la b)) j)) ∧ URA P la A b (P.lz (P.br (P.el la b))) (P.be (P.el la b))
def SSW (w : Prop) (P : PO) (la : Nat) : Prop := 0 < P.lz la ∧ CMP P la ∧ NDR P la ∧ ALR P la ∧ AVY w P la ∧ SNG P la ∧ NST P la ≤ 1000 ∧ ENE P la ∧ OPD P la
/-- one operand of each PRED -/
def OPK (P : PO) (la : Nat) (st : Int → Int) : Prop := ∀ b k i j : Int, 0 ≤ b → b < P.lz la → st b ≠ 0 → 0 ≤ k → k < P.lz (P.bp (P.el la b)) → 0 ≤ i → i < j → j < P.pn (P.el (P.bp (P.el la b)) k) → P.ia (P.pp (P.el (P.bp (P.el la b)) k)) i ≠ P.ia (P.pp (P.el (P.bp (P.el la b)) k)) j
def GNK (P : PO) (la : Nat) (st : Int → Int) : Prop := ∀ b : Int, 0 ≤ b → b < P.lz la → st b ≠ 0 → (∀ k : Int, 0 ≤ k → k < P.lz (P.bp (P.el la b)) → P.pg (P.el (P.bp (P.el la b)) k) = 0) ∧ ∀ k : Int, 0 ≤ k → k < P.lz (P.br (P.el la b)) → P.rg (P.el (P.br (P.el la b)) k) = 0
section SSK9
variable {w : Prop} {L : List Nat} {P Q : PO} {cO cI cZ : ClassId} {ed x la : Nat} {st a s : Int → Int} {A : Int → Int → Prop} {b c i j k m n p r : Int}
theorem SSW.ssp (h : SSW False P la) (o : OPE9 P la) : SSP P la := by
  obtain ⟨h0, h1, h2, h3, ⟨A, h4, h5⟩, h6, h7, h8, h9⟩ := h
  exact ⟨h0, h1, h2, h3, ⟨A, h4, fun b b0 b1 => ⟨fun k k0 k1 i i0 i1 => (h5 b b0 b1).1 k k0 k1 i i0 i1 (fun q => q.elim), (h5 b b0 b1).2⟩⟩, h6, h7, h8, o, h9⟩
theorem AVY.lsr (v : AVY w P la) (h : LSR P Q la) (a : ALP L P cO cI cZ ed la) : AVL Q la := by
  obtain ⟨A, w, u⟩ := v
  have z := (h.edy a).1
  refine ⟨A, ⟨w.1, fun r p b p0 p1 e q => ?_⟩, fun b b0 b1 => ?_⟩
  · rw [z] at p1
    exact (w.2 r p b p0 p1 (((h.edy a).2 p p0 p1 b).mp e) q).imp id (fun t => t.lsr h a p0 p1)
  · rw [z] at b1
    obtain ⟨u1, u2, u3⟩ := u b b0 b1
    obtain ⟨eb, wb, _, ub⟩ := h.vst.blk a b0 b1
    refine ⟨fun k k0 k1 i i0 i1 => ?_, fun k k0 k1 => ?_, ?_⟩
    · rw [h.nph a b0 b1] at k1
      rw [h.eph a b0 b1] at i1 ⊢
      obtain ⟨m, _, _, c, _, _⟩ := (h.2 b k b0 b1 k0 k1 (Or.inl b1)).1
      obtain ⟨⟨m0, m1⟩, ⟨c1, c2, c3⟩, c4⟩ := c i i0 i1
      rw [h.1.pr, h.1.pu, h.1.pp, c1, c2, c3]
      have kx := a.kphi b0 b1 k0 k1
      have ee := (a.pik kx.1 kx.2).2.2.2.2.2.2 (m i) m0 m1
      exact (u1 k k0 k1 (m i) m0 m1 (fun _ => c4 (by omega))).imp id (fun q => q.imp id (fun t => t.lsr h a ee.1.1 (a.2.2.1 _ ⟨b, b0, b1, rfl⟩ k k0 k1 (m i) m0 m1)))
    · rw [h.nrw a b0 b1] at k1
      rw [h.erw a b0 b1]; exact (u2 k k0 k1).lsr h a b0 b1 (a.krow b0 b1 k0 k1).2
    · rw [h.nrw a b0 b1, eb, wb.2.2]; exact u3.lsr h a b0 b1 (a.kend b0 b1).2.1
/-- behind lose SSA is SSA -/
theorem SSW.lsr (s : SSW w P la) (h : LSR P Q la) (a : ALP L P cO cI cZ ed la) : SSP Q la := by
  obtain ⟨h0, h1, h2, h3, h4, h5, h6, h7, h8⟩ := s
  have z := (h.edy a).1
  exact ⟨by rw [z]; exact h0, h1.lsr h a h0, h2.unv h.vst a, fun b b0 b1 => (h.edy a).rch a h0 (h3 b b0 (by rw [← z]; exact b1)), h4.lsr h a, h5.lsr h a, by rw [NST.lsr h a]; exact h6, h7.lsr h a, OPE9.lsr h a, h8.lsr h a⟩
theorem AVZ.dre (v : AVZ w P la st) (h : DRE P Q la st a s m) (al : ALP L P cO cI cZ ed la) (kst : KST P la st) : AVY w Q la := by
  obtain ⟨A, ⟨v1, v2⟩, v3⟩ := v
  have z := h.1.2.1
  refine ⟨fun r b => A r (s b), ⟨fun r q => v1 r (by have q : A r (s 0) := q; rw [h.1.2.2.2] at q; exact q), fun r p b p0 p1 e q => ?_⟩, fun b b0 b1 => ?_⟩
  · rw [z] at p1
    have o := h.on p0 p1
    have eb : 0 ≤ b ∧ b < m := by
      have y := e.way
      have gd := h.2.2.2.2.1 (s p) o.1.1 o.1.2 o.2.1
      have ro := h.ro al o.1.1 o.1.2
      have vb := h.2.2.1 (s p) o.1.1 o.1.2
      rw [h.2.1 p p0 p1, vb.1.2.2, ro] at y
      have g := (al.inb ⟨s p, o.1.1, o.1.2, rfl⟩).2.2.2.2
      have kk := (kst.2.1 (s p) o.1.1 o.1.2 o.2.1).1 y.1
      have f1 := h.off g.1 g.2.1 kk.1
      have f2 := h.off g.2.2.1 g.2.2.2 kk.2
      have e2 := gd.1 y.1
      rcases y.2 with t | t
      · rw [e2.1] at t; omega
      · have t2 := t.2; rw [e2.2] at t2; omega
    have e2 := (h.edg al kst p0 p1 eb.1 eb.2).mp e
    exact (v2 r (s p) (s b) o.1.1 o.1.2 o.2.1 e2 q).imp id (fun t => t.dre h al p0 p1)
  · rw [z] at b1
    have o := h.on b0 b1
    obtain ⟨u1, u2, u3⟩ := v3 (s b) o.1.1 o.1.2 o.2.1
    refine ⟨fun k k0 k1 i i0 i1 q => ?_, fun k k0 k1 => ?_, ?_⟩
    · rw [(h.nph b0 b1).1] at k1
      have ph := h.2.2.2.2.2 (s b) k o.1.1 o.1.2 o.2.1 k0 k1
      rw [h.eph b0 b1 k0 k1, ph.2.2.1] at q
      rw [h.eph b0 b1 k0 k1] at i1
      rw [h.eph b0 b1 k0 k1, ph.2.2.1, ph.2.2.2.1, ph.2.2.2.2]
      obtain ⟨μ, _, _, c, _, _⟩ := ph.1
      obtain ⟨⟨m0, m1⟩, ⟨c2, c3⟩, _, c4⟩ := c i i0 i1
      obtain ⟨c5, c6⟩ := c4 (by omega)
      rw [c6] at q
      rw [c2, c3, c6]
      have kx := al.kphi o.1.1 o.1.2 k0 k1
      have ee := ((al.pik kx.1 kx.2).2.2.2.2.2.2 (μ i) m0 m1).1.1
      have pb := al.2.2.1 _ ⟨s b, o.1.1, o.1.2, rfl⟩ k k0 k1 (μ i) m0 m1
      have sp := h.1.1.hi ee pb c5
      have of := h.off ee pb sp
      have g := u1 k k0 k1 (μ i) m0 m1 sp (fun hw => by
        have t := (h.edg al kst of.1.1 of.1.2 b0 b1).mp (q hw)
        rw [of.2] at t; exact t)
      refine g.imp id (fun q => q.imp (fun t => ?_) (fun t => ?_))
      · show A _ (s (a _)); rw [of.2]; exact t
      · refine SIB.dre (s := s) ?_ h al of.1.1 of.1.2
        rw [of.2]; exact t
    · rw [(h.nph b0 b1).2] at k1
      rw [h.erw b0 b1 k0 k1]; exact (u2 k k0 k1).dre h al b0 b1 (al.krow o.1.1 o.1.2 k0 k1).2
    · rw [(h.nph b0 b1).2, h.ebe b0 b1]; exact u3.dre h al b0 b1 (al.kend o.1.1 o.1.2).2.1
theorem OPK.dre (o : OPK P la st) (h : DRE P Q la st a s m) (al : ALP L P cO cI cZ ed la) : OPD Q la := fun b k i j b0 b1 k0 k1 i0 ij j1 => by
  rw [h.1.2.1] at b1
  have ob := h.on b0 b1
  rw [(h.nph b0 b1).1] at k1
  have ph := h.2.2.2.2.2 (s b) k ob.1.1 ob.1.2 ob.2.1 k0 k1
  rw [h.eph b0 b1 k0 k1] at j1 ⊢
  rw [ph.2.2.1]
  obtain ⟨μ, _, _, c, mo, _⟩ := ph.1
  obtain ⟨⟨m0, m1⟩, _, _, c4⟩ := c i i0 (by omega)
  obtain ⟨⟨n0, n1⟩, _, _, d4⟩ := c j (by omega) j1
  obtain ⟨c5, c6⟩ := c4 (by omega)
  obtain ⟨d5, d6⟩ := d4 (by omega)
  rw [c6, d6]
  have pr := al.prd ob.1.1 ob.1.2 k0 k1 m0 m1
  have qr := al.prd ob.1.1 ob.1.2 k0 k1 n0 n1
  have o1 := h.off pr.1 pr.2 (h.1.1.hi pr.1 pr.2 c5)
  have o2 := h.off qr.1 qr.2 (h.1.1.hi qr.1 qr.2 d5)
  intro e
  refine o (s b) k (μ i) (μ j) ob.1.1 ob.1.2 ob.2.1 k0 k1 m0 (mo i j i0 ij j1) n1 ?_
  rw [← o1.2, ← o2.2, e]
theorem SSK.dre (h : SSK w P la st) (od : OPK P la st) (d : DRE P Q la st a s m) (al : ALP L P cO cI cZ ed la) : SSW w Q la := by
  obtain ⟨h0, h1, h2, h3, h4, h5, h6, h7, h8⟩ := h
  have z := d.1.2.1
  have a0 := d.off (Int.le_refl 0) h0.1.1 h0.1.2
  have m0 : 0 < m := by omega
  have es : s 0 = 0 := d.1.2.2.2
  have inj : ∀ b c : Int, 0 ≤ b → b < m → 0 ≤ c → c < m → s b = s c → b = c := fun b c b0 b1 c0 c1 e => by
    have x := (d.on b0 b1).2.2
    have y := (d.on c0 c1).2.2
    rw [← x, ← y, e]
  have ro : ∀ b k : Int, 0 ≤ b → b < m → 0 ≤ k → k < Q.lz (Q.br (Q.el la b)) → k < P.lz (P.br (P.el la (s b))) ∧ Q.el (Q.br (Q.el la b)) k = P.el (P.br (P.el la (s b))) k ∧ Q.rt (Q.el (Q.br (Q.el la b)) k) = P.rt (P.el (P.br (P.el la (s b))) k) ∧ Q.ro (Q.el (Q.br (Q.el la b)) k) = P.ro (P.el (P.br (P.el la (s b))) k) := fun b k b0 b1 k0 k1 => by
    rw [(d.nph b0 b1).2] at k1
    have o := d.on b0 b1
    have q := d.2.2.2.1 _ (al.krow o.1.1 o.1.2 k0 k1).2
    rw [d.erw b0 b1 k0 k1]
    exact ⟨k1, rfl, q _, q _⟩
  have ph : ∀ b k : Int, 0 ≤ b → b < m → 0 ≤ k → k < Q.lz (Q.bp (Q.el la b)) → k < P.lz (P.bp (P.el la (s b))) ∧ Q.el (Q.bp (Q.el la b)) k = P.el (P.bp (P.el la (s b))) k ∧ Q.pt (Q.el (Q.bp (Q.el la b)) k) = P.pt (P.el (P.bp (P.el la (s b))) k) := fun b k b0 b1 k0 k1 => by
    rw [(d.nph b0 b1).1] at k1
    have o := d.on b0 b1
    rw [d.eph b0 b1 k0 k1]
    exact ⟨k1, rfl, (d.2.2.2.2.2 (s b) k o.1.1 o.1.2 o.2.1 k0 k1).2.1.1⟩
  refine ⟨by omega, ⟨?_, fun b b0 b1 => ?_, fun p b p0 p1 b0 b1 n t i i0 i1 => ?_⟩, ⟨fun b c j k b0 b1 c0 c1 j0 j1 k0 k1 e => ?_, fun b c j k b0 b1 c0 c1 j0 j1 k0 k1 e => ?_, fun b c b0 b1 c0 c1 e => ?_⟩, fun b b0 b1 => ?_, h4.dre d al h0, ⟨fun b c j k b0 b1 c0 c1 j0 j1 k0 k1 e => ?_, fun b c j k b0 b1 c0 c1 j0 j1 k0 k1 s1 s2 e => ?_, fun b c j k b0 b1 c0 c1 j0 j1 k0 k1 s2 e => ?_⟩, ?_, ⟨fun p p0 p1 e => ?_, fun b b0 b1 => ?_⟩, od.dre d al⟩
  · rw [(d.nph (Int.le_refl 0) m0).1, es]; exact h1.1
  · rw [z] at b1
    have o := d.on b0 b1
    rw [(d.nph b0 b1).1, d.ebe b0 b1, d.ro al o.1.1 o.1.2]; exact h1.2.1 (s b) o.1.1 o.1.2 o.2.1
  · rw [z] at p1 b1
    have op := d.on p0 p1
    have ob := d.on b0 b1
    have e := (d.edg al h0 p0 p1 b0 b1).mp (EDG.yaw n t)
    rw [(d.nph b0 b1).1] at i1
    rw [d.eph b0 b1 i0 i1]
    obtain ⟨k, k0, k1, ek⟩ := h1.2.2 (s p) (s b) op.1.1 op.1.2 op.2.1 ob.1.1 ob.1.2 ob.2.1 e i i0 i1
    have ll := d.2.2.2.2.2 (s b) i ob.1.1 ob.1.2 ob.2.1 i0 i1
    obtain ⟨μ, _, _, cc, _, su⟩ := ll.1
    obtain ⟨k', k0', k1', e'⟩ := su k (by omega) k1 (by rw [ek, op.2.2]; exact p0)
    refine ⟨k', k0', k1', ?_⟩
    rw [ll.2.2.1, ((cc k' k0' k1').2.2.2 (by omega)).2, e', ek, op.2.2]
  · rw [z] at b1 c1
    have ob := d.on b0 b1
    have oc := d.on c0 c1
    obtain ⟨j2, ej, _⟩ := ro b j b0 b1 j0 j1
    obtain ⟨k2, ek, _⟩ := ro c k c0 c1 k0 k1
    rw [ej, ek] at e
    have q := h2.1 (s b) (s c) j k ob.1.1 ob.1.2 ob.2.1 oc.1.1 oc.1.2 oc.2.1 j0 j2 k0 k2 e
    exact ⟨inj b c b0 b1 c0 c1 q.1, q.2⟩
  · rw [z] at b1 c1
    have ob := d.on b0 b1
    have oc := d.on c0 c1
    obtain ⟨j2, ej, _⟩ := ph b j b0 b1 j0 j1
    obtain ⟨k2, ek, _⟩ := ph c k c0 c1 k0 k1
    rw [ej, ek] at e
    have q := h0.2.2 (s b) (s c) j k ob.1.1 ob.1.2 ob.2.1 oc.1.1 oc.1.2 oc.2.1 j0 j2 k0 k2 e
    exact ⟨inj b c b0 b1 c0 c1 q.1, q.2⟩
  · rw [z] at b1 c1
    have ob := d.on b0 b1
    have oc := d.on c0 c1
    rw [d.ebe b0 b1, d.ebe c0 c1] at e
    exact inj b c b0 b1 c0 c1 (h2.2 (s b) (s c) ob.1.1 ob.1.2 ob.2.1 oc.1.1 oc.1.2 oc.2.1 e)
  · rw [z] at b1
    have o := d.on b0 b1
    exact d.rch al h0 b0 b1 (h3 (s b) o.1.1 o.1.2 o.2.1)
  · rw [z] at b1 c1
    have ob := d.on b0 b1
    have oc := d.on c0 c1
    obtain ⟨j2, _, ej⟩ := ph b j b0 b1 j0 j1
    obtain ⟨k2, _, ek⟩ := ph c k c0 c1 k0 k1
    rw [ej, ek] at e
    have q := h5.1 (s b) (s c) j k ob.1.1 ob.1.2 ob.2.1 oc.1.1 oc.1.2 oc.2.1 j0 j2 k0 k2 e
    exact ⟨inj b c b0 b1 c0 c1 q.1, q.2⟩
  · rw [z] at b1 c1
    have ob := d.on b0 b1
    have oc := d.on c0 c1
    obtain ⟨j2, _, ej, oj⟩ := ro b j b0 b1 j0 j1
    obtain ⟨k2, _, ek, ok⟩ := ro c k c0 c1 k0 k1
    rw [ej, ek] at e
    rw [oj] at s1
    rw [ok] at s2
    have q := h5.2.1 (s b) (s c) j k ob.1.1 ob.1.2 ob.2.1 oc.1.1 oc.1.2 oc.2.1 j0 j2 k0 k2 s1 s2 e
    exact ⟨inj b c b0 b1 c0 c1 q.1, q.2⟩
  · rw [z] at b1 c1
    have ob := d.on b0 b1
    have oc := d.on c0 c1
    obtain ⟨j2, _, ej⟩ := ph b j b0 b1 j0 j1
    obtain ⟨k2, _, ek, ok⟩ := ro c k c0 c1 k0 k1
    rw [ej, ek] at e
    rw [ok] at s2
    exact h5.2.2 (s b) (s c) j k ob.1.1 ob.1.2 ob.2.1 oc.1.1 oc.1.2 oc.2.1 j0 j2 k0 k2 s2 e
  · refine Int.le_trans ?_ h6
    unfold NST NSK
    rw [z]
    have e1 : sumI (fun b => WSB Q la b) m.toNat = sumI (fun j => (fun b => if st b = 0 then 0 else WSB P la b) (s j)) m.toNat := sumI_eq (fun b b0 b1 => by
      have b2 : b < m := by omega
      have o := d.on b0 b2
      show WSB Q la b = if st (s b) = 0 then 0 else WSB P la (s b)
      rw [if_neg o.2.1]
      unfold WSB
      rw [(d.nph b0 b2).1, (d.nph b0 b2).2]
      have e : CSR Q (Q.el la b) (P.lz (P.br (P.el la (s b)))) = CSR P (P.el la (s b)) (P.lz (P.br (P.el la (s b)))) := sumI_eq (fun k k0 k1 => by
        have k2 : k < P.lz (P.br (P.el la (s b))) := by omega
        rw [(ro b k b0 b2 k0 (by rw [(d.nph b0 b2).2]; exact k2)).2.2.2])
      rw [e])
    rw [e1]
    refine sumI_ord m.toNat _ (fun b b0 b1 => ?_) (fun j j0 j1 => ?_) (fun i j i0 ij j1 => ?_)
    · show 0 ≤ if st b = 0 then 0 else WSB P la b
      split
      · exact Int.le_refl _
      · have bl := al.inb ⟨b, b0, by omega, rfl⟩
        have q1 := bl.2.2.1.2.2.1.1
        have q2 : 0 ≤ CSR P (P.el la b) (P.lz (P.br (P.el la b))) := sumI_nn (fun k _ _ => by split <;> decide)
        unfold WSB; omega
    · have t := d.on j0 (show j < m by omega); exact ⟨t.1.1, by omega⟩
    · have t := d.1.1.2.2.2 i j i0 ij (by omega); omega
  · rw [z] at p1
    have o := d.on p0 p1
    have q := (d.edg al h0 p0 p1 (Int.le_refl 0) m0).mp e
    rw [es] at q
    exact h7 (s p) o.1.1 o.1.2 o.2.1 q
  · rw [z] at b1
    have o := d.on b0 b1
    have gd := d.2.2.2.2.1 (s b) o.1.1 o.1.2 o.2.1
    rw [d.ebe b0 b1, d.ro al o.1.1 o.1.2, d.2.1 b b0 b1]
    refine ⟨fun q => ?_, fun q => ?_⟩
    · have t := gd.2 q
      rw [t.1, t.2]; exact (h0.2.1 (s b) o.1.1 o.1.2 o.2.1).2 q
    · have t := gd.1 (by omega)
      rw [t.1, t.2, h8 (s b) o.1.1 o.1.2 o.2.1 q]
theorem GNK.dre (h : GNK P la st) (d : DRE P Q la st a s m) (al : ALP L P cO cI cZ ed la) : GN0 Q la := fun b b0 b1 => by
  rw [d.1.2.1] at b1
  have o := d.on b0 b1
  refine ⟨fun k k0 k1 => ?_, fun k k0 k1 => ?_⟩
  · rw [(d.nph b0 b1).1] at k1
    rw [d.eph b0 b1 k0 k1, (d.2.2.2.2.2 (s b) k o.1.1 o.1.2 o.2.1 k0 k1).2.1.2]; exact (h (s b) o.1.1 o.1.2 o.2.1).1 k k0 k1
  · rw [(d.nph b0 b1).2] at k1
    rw [d.erw b0 b1 k0 k1]; exact (show Q.rg _ = P.rg _ from d.2.2.2.1 _ (al.krow o.1.1 o.1.2 k0 k1).2 _).trans ((h (s b) o.1.1 o.1.2 o.2.1).2 k k0 k1)
/-- operands of kept blocks are of PREDs -/
theorem OPE9.dre (o : ∀ b k i : Int, 0 ≤ b → b < P.lz la → st b ≠ 0 → 0 ≤ k → k < P.lz (P.bp (P.el la b)) → 0 ≤ i → i < P.pn (P.el (P.bp (P.el la b)) k) → st (P.ia (P.pp (P.el (P.bp (P.el la b)) k)) i) ≠ 0 → EDG P la (P.ia (P.pp (P.el (P.bp (P.el la b)) k)) i) b) (h : DRE P Q la st a s m) (al : ALP L P cO cI cZ ed la) (kst : KST P la st) : OPE9 Q la := fun b k i b0 b1 k0 k1 i0 i1 => by
  rw [h.1.2.1] at b1
  have ob := h.on b0 b1
  rw [(h.nph b0 b1).1] at k1
  have ph := h.2.2.2.2.2 (s b) k ob.1.1 ob.1.2 ob.2.1 k0 k1
  rw [h.eph b0 b1 k0 k1] at i1 ⊢
  rw [ph.2.2.1]
  obtain ⟨μ, _, _, c, _, _⟩ := ph.1
  obtain ⟨⟨m0, m1⟩, _, _, c4⟩ := c i i0 i1
  obtain ⟨c5, c6⟩ := c4 (by omega)
  rw [c6]
  have pr := al.prd ob.1.1 ob.1.2 k0 k1 m0 m1
  have sp := h.1.1.hi pr.1 pr.2 c5
  have of := h.off pr.1 pr.2 sp
  rw [h.edg al kst of.1.1 of.1.2 b0 b1, of.2]
  exact o (s b) k (μ i) ob.1.1 ob.1.2 ob.2.1 k0 k1 m0 m1 sp
/-- behind drop -/
theorem SSK.drx (h : SSK w P la st) (od : OPK P la st) (d : DRX P Q la st a) (al : ALP L P cO cI cZ ed la) : SSW w Q la := by
  obtain ⟨s, m, e⟩ := d.dre al h.1
  exact h.dre od e al
theorem GNK.drx (h : GNK P la st) (k : KST P la st) (d : DRX P Q la st a) (al : ALP L P cO cI cZ ed la) : GN0 Q la := by
  obtain ⟨s, m, e⟩ := d.dre al k
  exact h.dre e al
end SSK9
