section EQV8
variable {L : List Nat} {P Q Q' : PO} {cO cI cZ : ClassId} {ed x la : Nat} {rp br bb : Int → Int} {b c d j k p r : Int}
theorem STQ.refl (L : List Nat) (P : PO) : STQ L P P := ⟨⟨rfl, rfl, fun _ _ => rfl⟩, fun _ _ _ => ⟨rfl, rfl⟩, fun _ _ _ => ⟨rfl, rfl, rfl⟩, fun _ _ _ => ⟨rfl, rfl⟩⟩
theorem STQ.kd (s : STQ L P Q) (x : Nat) : Q.kd x = P.kd x := by unfold PO.kd; rw [s.1.1]
theorem STQ.trans (s : STQ L P Q) (t : STQ L Q Q') : STQ L P Q' := by
  refine ⟨⟨t.1.1.trans s.1.1, t.1.2.1.trans s.1.2.1, fun l k => (t.1.2.2 l (by rw [s.kd]; exact k)).trans (s.1.2.2 l k)⟩, fun z m k => ?_, fun z m k => ?_, fun z m k => ?_⟩
  · have a := s.2.1 z m k
    have b := t.2.1 z m (by rw [s.kd]; exact k)
    exact ⟨b.1.trans a.1, b.2.trans a.2⟩
  · have a := s.2.2.1 z m k
    have b := t.2.2.1 z m (by rw [s.kd]; exact k)
    rw [s.pp] at b
    exact ⟨b.1.trans a.1, b.2.1.trans a.2.1, b.2.2.trans a.2.2⟩
  · have a := s.2.2.2 z m k
    have b := t.2.2.2 z m (by rw [s.kd]; exact k)
    exact ⟨b.1.trans a.1, b.2.trans a.2⟩
/-- one row: its operands alone -/
theorem RW1.stq (w : RW1 x P Q) (kx : P.kd x = 17) (o : Q.ro x = P.ro x) (t : Q.rt x = P.rt x) (L : List Nat) : STQ L P Q := by
  refine ⟨⟨by rw [w.1], by rw [w.1], fun l k => w.2 l (fun e => by rw [e, kx] at k; omega) 0⟩, fun z _ k => ?_, fun z _ k => ?_, fun z _ k => ?_⟩
  · by_cases e : z = x
    · rw [e]; exact ⟨o, t⟩
    · exact ⟨w.2 z e 0, w.2 z e 1⟩
  · have e : z ≠ x := fun e => by rw [e, kx] at k; omega
    refine ⟨w.2 z e 0, w.2 z e 1, ?_⟩
    show Q.2.2.2.1 (P.pp z) = P.2.2.2.1 (P.pp z)
    rw [w.1]
  · have e : z ≠ x := fun e => by rw [e, kx] at k; omega
    exact ⟨w.2 z e 0, w.2 z e 1⟩
/-- one PHI: its operands alone, or its flag -/
theorem PH1.stq (w : PH1 x P Q) (kx : P.kd x = 15) (t : Q.pt x = P.pt x) (n : Q.pn x = P.pn x) (pa : Q.ia (P.pp x) = P.ia (P.pp x)) (g : ∀ z : Nat, z ∈ L → P.kd z = 15 → PIK L P cI cZ z) : STQ L P Q := by
  refine ⟨⟨w.1.1, w.1.2.1, fun l k => w.2.1 l (fun e => by rw [e, kx] at k; omega) 0⟩, fun z _ k => ?_, fun z m k => ?_, fun z _ k => ?_⟩
  · have e : z ≠ x := fun e => by rw [e, kx] at k; omega
    exact ⟨w.2.1 z e 0, w.2.1 z e 1⟩
  · by_cases e : z = x
    · rw [e]; exact ⟨t, n, pa⟩
    · refine ⟨w.2.1 z e 0, w.2.1 z e 1, w.2.2 _ ?_⟩
      rw [(g z m k).2.1.2.2.2]; exact e
  · have e : z ≠ x := fun e => by rw [e, kx] at k; omega
    exact ⟨w.2.1 z e 0, w.2.1 z e 1⟩
theorem SNG.stq (h : SNG P la) (s : STQ L P Q) (a : ALP L P cO cI cZ ed la) : SNG Q la := by
  have z := s.lza a
  refine ⟨fun b c j k b0 b1 c0 c1 j0 j1 k0 k1 e => ?_, fun b c j k b0 b1 c0 c1 j0 j1 k0 k1 s1 s2 e => ?_, fun b c j k b0 b1 c0 c1 j0 j1 k0 k1 s2 e => ?_⟩ <;> rw [z] at b1 c1
  · rw [s.lzp a b0 b1] at j1
    rw [s.lzp a c0 c1] at k1
    have q := s.phi a b0 b1 j0 j1
    have q' := s.phi a c0 c1 k0 k1
    rw [q.1, q'.1, q.2.1, q'.2.1] at e
    exact h.1 b c j k b0 b1 c0 c1 j0 j1 k0 k1 e
  · rw [s.lzr a b0 b1] at j1
    rw [s.lzr a c0 c1] at k1
    have q := s.row a b0 b1 j0 j1
    have q' := s.row a c0 c1 k0 k1
    rw [q.1, q'.1, q.2.2, q'.2.2] at e
    rw [q.1, q.2.1] at s1
    rw [q'.1, q'.2.1] at s2
    exact h.2.1 b c j k b0 b1 c0 c1 j0 j1 k0 k1 s1 s2 e
  · rw [s.lzp a b0 b1] at j1
    rw [s.lzr a c0 c1] at k1
    have q := s.phi a b0 b1 j0 j1
    have q' := s.row a c0 c1 k0 k1
    rw [q.1, q'.1, q.2.1, q'.2.2] at e
    rw [q'.1, q'.2.1] at s2
    exact h.2.2 b c j k b0 b1 c0 c1 j0 j1 k0 k1 s2 e
theorem NDR.stq (h : NDR P la) (s : STQ L P Q) (a : ALP L P cO cI cZ ed la) : NDR Q la := by
  have z := s.lza a
  refine ⟨fun b c j k b0 b1 c0 c1 j0 j1 k0 k1 e => ?_, fun b c j k b0 b1 c0 c1 j0 j1 k0 k1 e => ?_, fun b c b0 b1 c0 c1 e => ?_⟩ <;> rw [z] at b1 c1
  · rw [s.lzr a b0 b1] at j1
    rw [s.lzr a c0 c1] at k1
    rw [(s.row a b0 b1 j0 j1).1, (s.row a c0 c1 k0 k1).1] at e
    exact h.1 b c j k b0 b1 c0 c1 j0 j1 k0 k1 e
  · rw [s.lzp a b0 b1] at j1
    rw [s.lzp a c0 c1] at k1
    rw [(s.phi a b0 b1 j0 j1).1, (s.phi a c0 c1 k0 k1).1] at e
    exact h.2.1 b c j k b0 b1 c0 c1 j0 j1 k0 k1 e
  · rw [s.el, s.el, s.be, s.be] at e
    exact h.2.2 b c b0 b1 c0 c1 e
theorem ALR.stq (h : ALR P la) (s : STQ L P Q) (a : ALP L P cO cI cZ ed la) (z1 : 0 < P.lz la) : ALR Q la := fun b b0 b1 => by
  rw [s.lza a] at b1
  exact (s.edy a).rch a z1 (h b b0 b1)
theorem CMP.stq (h : CMP P la) (s : STQ L P Q) (a : ALP L P cO cI cZ ed la) (z1 : 0 < P.lz la) : CMP Q la := by
  refine ⟨by rw [s.lzp a (b := 0) (by omega) z1]; exact h.1, fun b b0 b1 => ?_, fun p b p0 p1 b0 b1 n g i i0 i1 => ?_⟩
  · rw [s.lza a] at b1
    have e := a.kend b0 b1
    rw [s.lzp a b0 b1, s.el, s.be, (s.2.1 _ e.1 e.2.1).1]
    exact h.2.1 b b0 b1
  · rw [s.lza a] at p1 b1
    have e := a.kend p0 p1
    have bk := (a.inb ⟨p, p0, p1, rfl⟩).1
    have f := s.2.2.2 _ bk.1 bk.2
    rw [s.lzp a b0 b1] at i1
    rw [s.el, s.be, (s.2.1 _ e.1 e.2.1).1] at n
    rw [s.el, s.be, (s.2.1 _ e.1 e.2.1).1, f.1, f.2] at g
    obtain ⟨k, k0, k1, k2⟩ := h.2.2 p b p0 p1 b0 b1 n g i i0 i1
    have q := s.phi a b0 b1 i0 i1
    rw [q.1]
    exact ⟨k, k0, by rw [q.2.2.1]; exact k1, by rw [s.pp, q.2.2.2]; exact k2⟩
theorem ENE.stq (h : ENE P la) (s : STQ L P Q) (a : ALP L P cO cI cZ ed la) : ENE Q la := by
  refine ⟨fun p p0 p1 e => ?_, fun b b0 b1 => ?_⟩
  · rw [s.lza a] at p1
    exact h.1 p p0 p1 (((s.edy a).2 p p0 p1 0).mp e)
  · rw [s.lza a] at b1
    have e := a.kend b0 b1
    have bk := (a.inb ⟨b, b0, b1, rfl⟩).1
    have f := s.2.2.2 _ bk.1 bk.2
    rw [s.el, s.be, (s.2.1 _ e.1 e.2.1).1, f.1, f.2]
    exact h.2 b b0 b1
theorem OPE9.stq (h : OPE9 P la) (s : STQ L P Q) (a : ALP L P cO cI cZ ed la) : OPE9 Q la := fun b k i b0 b1 k0 k1 i0 i1 => by
  rw [s.lza a] at b1
  rw [s.lzp a b0 b1] at k1
  have q := s.phi a b0 b1 k0 k1
  rw [q.1] at i1 ⊢
  rw [q.2.2.1] at i1
  rw [s.pp, q.2.2.2]
  have pr := a.prd b0 b1 k0 k1 i0 i1
  exact ((s.edy a).2 _ pr.1 pr.2 b).mpr (h b k i b0 b1 k0 k1 i0 i1)
theorem OPD.stq (h : OPD P la) (s : STQ L P Q) (a : ALP L P cO cI cZ ed la) : OPD Q la := fun b k i j b0 b1 k0 k1 i0 ij j1 => by
  rw [s.lza a] at b1
  rw [s.lzp a b0 b1] at k1
  have q := s.phi a b0 b1 k0 k1
  rw [q.1] at j1 ⊢
  rw [q.2.2.1] at j1
  rw [s.pp, q.2.2.2]
  exact h b k i j b0 b1 k0 k1 i0 ij j1
theorem ENP.stq (h : ENP P la) (s : STQ L P Q) (a : ALP L P cO cI cZ ed la) : ENP Q la := ⟨h.1.stq s a, h.2.1.stq s a, h.2.2.stq s a⟩
theorem NST.stq (s : STQ L P Q) (a : ALP L P cO cI cZ ed la) : NST Q la = NST P la := by
  unfold NST
  rw [s.lza a]
  refine sumI_eq (fun b b0 b1 => ?_)
  have b2 : b < P.lz la := by omega
  unfold WSB CSR
  rw [s.lzp a b0 b2, s.lzr a b0 b2]
  congr 1
  refine sumI_eq (fun k k0 k1 => ?_)
  have q := s.row a b0 b2 k0 (show k < P.lz (P.br (P.el la b)) from by omega)
  rw [q.1, q.2.1]
theorem SSP.eqv (h : SSP P la) (s : STQ L P Q) (o : OPR9 L P Q rp br bb) (rs : RPS P la rp br bb) (a : ALP L P cO cI cZ ed la) : SSP Q la := by
  obtain ⟨h0, h1, h2, h3, h4, h5, h6, h7⟩ := h
  exact ⟨by rw [s.lza a]; exact h0, h1.stq s a h0, h2.stq s a, h3.stq s a h0, h4.eqv s o rs h5 h1 h3 a, h5.stq s a, by rw [NST.stq s a]; exact h6, h7.stq s a⟩
/-- what is gone has been replaced -/
def GNR (L : List Nat) (Q : PO) (rp : Int → Int) (la : Nat) : Prop := ∀ b : Int, 0 ≤ b → b < Q.lz la → (∀ k : Int, 0 ≤ k → k < Q.lz (Q.bp (Q.el la b)) → Q.pg (Q.el (Q.bp (Q.el la b)) k) ≠ 0 → rp (Q.pt (Q.el (Q.bp (Q.el la b)) k)) ≠ 0) ∧ ∀ k : Int, 0 ≤ k → k < Q.lz (Q.br (Q.el la b)) → Q.rg (Q.el (Q.br (Q.el la b)) k) ≠ 0 → rSets (Q.ro (Q.el (Q.br (Q.el la b)) k)) ≠ 0 → rp (Q.rt (Q.el (Q.br (Q.el la b)) k)) ≠ 0
/-- nothing that is used has been replaced -/
def UNR (L : List Nat) (Q : PO) (rp : Int → Int) : Prop := (∀ z : Nat, z ∈ L → Q.kd z = 17 → (rUsA (Q.ro z) (Q.rA z) = 0 ∨ rp (Q.ra z) = 0) ∧ (rUsB (Q.ro z) (Q.rB z) = 0 ∨ rp (Q.rb z) = 0)) ∧ ∀ z : Nat, z ∈ L → Q.kd z = 15 → ∀ i : Int, 0 ≤ i → i < Q.pn z → Q.ia (Q.pr z) i = 0 ∨ rp (Q.ia (Q.pu z) i) = 0
theorem SWE.swd (s : SWE Q Q' la) (g : GNR L Q rp la) (un : ∀ b : Int, 0 ≤ b → b < Q.lz la → (∀ k : Int, 0 ≤ k → k < Q.lz (Q.bp (Q.el la b)) → ∀ i : Int, 0 ≤ i → i < Q.pn (Q.el (Q.bp (Q.el la b)) k) → Q.ia (Q.pr (Q.el (Q.bp (Q.el la b)) k)) i = 0 ∨ rp (Q.ia (Q.pu (Q.el (Q.bp (Q.el la b)) k)) i) = 0) ∧ (∀ k : Int, 0 ≤ k → k < Q.lz (Q.br (Q.el la b)) → (rUsA (Q.ro (Q.el (Q.br (Q.el la b)) k)) (Q.rA (Q.el (Q.br (Q.el la b)) k)) = 0 ∨ rp (Q.ra (Q.el (Q.br (Q.el la b)) k)) = 0) ∧ (rUsB (Q.ro (Q.el (Q.br (Q.el la b)) k)) (Q.rB (Q.el (Q.br (Q.el la b)) k)) = 0 ∨ rp (Q.rb (Q.el (Q.br (Q.el la b)) k)) = 0)) ∧ (rUsA (Q.ro (Q.be (Q.el la b))) (Q.rA (Q.be (Q.el la b))) = 0 ∨ rp (Q.ra (Q.be (Q.el la b))) = 0) ∧ (rUsB (Q.ro (Q.be (Q.el la b))) (Q.rB (Q.be (Q.el la b))) = 0 ∨ rp (Q.rb (Q.be (Q.el la b))) = 0)) (a : ALP L Q cO cI cZ ed la) : SWD Q Q' la := by
  refine ⟨Q.pg, Q.rg, fun r => rp r = 0, s.swg ⟨rfl, rfl, fun _ _ _ _ _ => rfl⟩ rfl (fun _ _ => rfl) a, fun b b0 b1 => ?_⟩
  obtain ⟨u1, u2, u3⟩ := un b b0 b1
  exact ⟨fun k k0 k1 => ⟨fun q => (g b b0 b1).1 k k0 k1 q, fun _ i i0 i1 => u1 k k0 k1 i i0 i1⟩, fun k k0 k1 => ⟨fun q o => (g b b0 b1).2 k k0 k1 q o, fun _ => u2 k k0 k1⟩, u3⟩
end EQV8
