/-! behind lose: SSA stays SSA -/
def LSR (P Q : PO) (la : Nat) : Prop := UNV P Q (VPH9 P la (P.lz la) 0) ∧ LSD P Q la (P.lz la) 0
section LSG9
variable {L : List Nat} {P Q : PO} {cO cI cZ : ClassId} {ed x la : Nat} {A : Int → Int → Prop} {b c j k p r : Int}
theorem EDG.yaw (n : P.ro (P.be (P.el la p)) ≠ 32) (t : P.bf (P.el la p) = b ∨ (P.ro (P.be (P.el la p)) ≠ 30 ∧ P.bs (P.el la p) = b)) : EDG P la p b := by
  have w := rWays_spec (P.ro (P.be (P.el la p))) (P.bf (P.el la p)) (P.bs (P.el la p))
  have w0 := rWay_spec (P.bf (P.el la p)) (P.bs (P.el la p)) 0
  have w1 := rWay_spec (P.bf (P.el la p)) (P.bs (P.el la p)) 1
  by_cases q : P.bf (P.el la p) = b
  · exact ⟨0, by omega, by omega, by omega⟩
  · exact ⟨1, by omega, by omega, by omega⟩
theorem LSR.vst (h : LSR P Q la) : UNV P Q (VST P la (P.lz la) 0 0) := h.1.wk (fun z q => Or.inl q)
theorem LSR.r17 (h : LSR P Q la) (a : ALP L P cO cI cZ ed la) (k : P.kd x = 17) (f : Nat) : Q.1 f x = P.1 f x := h.1.2.1 x (fun q => by rw [q.kd a] at k; omega) f
theorem LSR.edy (h : LSR P Q la) (a : ALP L P cO cI cZ ed la) : EDY P Q la := ⟨h.1.1.2.2 _ a.lok.2.1, fun b b0 b1 c => h.1.edgv a b0 b1⟩
theorem LSR.nph (h : LSR P Q la) (a : ALP L P cO cI cZ ed la) (b0 : 0 ≤ b) (b1 : b < P.lz la) : Q.lz (Q.bp (Q.el la b)) = P.lz (P.bp (P.el la b)) := by
  obtain ⟨eb, wb, _, ub⟩ := h.vst.blk a b0 b1
  rw [eb, wb.1, ub.1]
theorem LSR.nrw (h : LSR P Q la) (a : ALP L P cO cI cZ ed la) (b0 : 0 ≤ b) (b1 : b < P.lz la) : Q.lz (Q.br (Q.el la b)) = P.lz (P.br (P.el la b)) := by
  obtain ⟨eb, wb, _, ub⟩ := h.vst.blk a b0 b1
  rw [eb, wb.2.1, ub.2]
theorem LSR.eph (h : LSR P Q la) (a : ALP L P cO cI cZ ed la) (b0 : 0 ≤ b) (b1 : b < P.lz la) : Q.el (Q.bp (Q.el la b)) k = P.el (P.bp (P.el la b)) k := by
  obtain ⟨eb, wb, _, ub⟩ := h.vst.blk a b0 b1
  rw [eb, wb.1, h.1.el]
theorem LSR.erw (h : LSR P Q la) (a : ALP L P cO cI cZ ed la) (b0 : 0 ≤ b) (b1 : b < P.lz la) : Q.el (Q.br (Q.el la b)) k = P.el (P.br (P.el la b)) k := by
  obtain ⟨eb, wb, _, ub⟩ := h.vst.blk a b0 b1
  rw [eb, wb.2.1, h.1.el]
theorem SPH.lsr (s : SPH P la b r) (h : LSR P Q la) (a : ALP L P cO cI cZ ed la) (b0 : 0 ≤ b) (b1 : b < P.lz la) : SPH Q la b r := by
  obtain ⟨k, k0, k1, e⟩ := s
  exact ⟨k, k0, by rw [h.nph a b0 b1]; exact k1, by rw [h.eph a b0 b1, (h.2 b k b0 b1 k0 k1 (Or.inl b1)).2.1]; exact e⟩
theorem SRW.lsr (s : SRW P la b j r) (h : LSR P Q la) (a : ALP L P cO cI cZ ed la) (b0 : 0 ≤ b) (b1 : b < P.lz la) : SRW Q la b j r := by
  obtain ⟨k, k0, k1, k2, o, e⟩ := s
  have q := h.r17 a (a.krow b0 b1 k0 k2).2
  exact ⟨k, k0, k1, by rw [h.nrw a b0 b1]; exact k2, by rw [h.erw a b0 b1, show Q.ro (P.el (P.br (P.el la b)) k) = P.ro (P.el (P.br (P.el la b)) k) from q _]; exact o, by rw [h.erw a b0 b1]; exact (show Q.rt (P.el (P.br (P.el la b)) k) = P.rt (P.el (P.br (P.el la b)) k) from q _).trans e⟩
theorem SIB.lsr (s : SIB P la b r) (h : LSR P Q la) (a : ALP L P cO cI cZ ed la) (b0 : 0 ≤ b) (b1 : b < P.lz la) : SIB Q la b r := by
  rcases s with s | s
  · exact Or.inl (s.lsr h a b0 b1)
  · refine Or.inr ?_
    rw [h.nrw a b0 b1]; exact s.lsr h a b0 b1
theorem AVT.lsr (s : AVT P la A b j r) (h : LSR P Q la) (a : ALP L P cO cI cZ ed la) (b0 : 0 ≤ b) (b1 : b < P.lz la) : AVT Q la A b j r := s.imp id (fun q => q.imp (fun t => t.lsr h a b0 b1) (fun t => t.lsr h a b0 b1))
theorem URA.lsr (u : URA P la A b j x) (h : LSR P Q la) (a : ALP L P cO cI cZ ed la) (b0 : 0 ≤ b) (b1 : b < P.lz la) (kx : P.kd x = 17) : URA Q la A b j x := by
  have e := h.r17 a kx
  unfold URA
  rw [show Q.ro x = P.ro x from e _, show Q.rA x = P.rA x from e _, show Q.rB x = P.rB x from e _, show Q.ra x = P.ra x from e _, show Q.rb x = P.rb x from e _]
  exact ⟨u.1.imp id (fun q => q.lsr h a b0 b1), u.2.imp id (fun q => q.lsr h a b0 b1)⟩
theorem AVL.lsr (v : AVL P la) (h : LSR P Q la) (a : ALP L P cO cI cZ ed la) : AVL Q la := by
  obtain ⟨A, w, u⟩ := v
  have z := (h.edy a).1
  refine ⟨A, ⟨w.1, fun r p b p0 p1 e q => ?_⟩, fun b b0 b1 => ?_⟩
  · rw [z] at p1
    exact (w.2 r p b p0 p1 (((h.edy a).2 p p0 p1 b).mp e) q).imp id (fun t => t.lsr h a p0 p1)
  · rw [z] at b1
    obtain ⟨u1, u2, u3⟩ := u b b0 b1
    obtain ⟨eb, wb, _, ub⟩ := h.vst.blk a b0 b1
    refine ⟨fun k k0 k1 i i0 i1 => ?_, fun k k0 k1 => ?_, ?_⟩
    · rw [h.nph a b0 b1] at k1
      rw [h.eph a b0 b1] at i1 ⊢
      obtain ⟨m, _, _, c, _, _⟩ := (h.2 b k b0 b1 k0 k1 (Or.inl b1)).1
      obtain ⟨⟨m0, m1⟩, ⟨c1, c2, c3⟩, _⟩ := c i i0 i1
      rw [h.1.pr, h.1.pu, h.1.pp, c1, c2, c3]
      have kx := a.kphi b0 b1 k0 k1
      have ee := (a.pik kx.1 kx.2).2.2.2.2.2.2 (m i) m0 m1
      exact (u1 k k0 k1 (m i) m0 m1).imp id (fun q => q.imp id (fun t => t.lsr h a ee.1.1 (a.2.2.1 _ ⟨b, b0, b1, rfl⟩ k k0 k1 (m i) m0 m1)))
    · rw [h.nrw a b0 b1] at k1
      rw [h.erw a b0 b1]; exact (u2 k k0 k1).lsr h a b0 b1 (a.krow b0 b1 k0 k1).2
    · rw [h.nrw a b0 b1, eb, wb.2.2]; exact u3.lsr h a b0 b1 (a.kend b0 b1).2.1
theorem SNG.lsr (s : SNG P la) (h : LSR P Q la) (a : ALP L P cO cI cZ ed la) : SNG Q la := by
  have z := (h.edy a).1
  have ph : ∀ b k : Int, 0 ≤ b → b < P.lz la → 0 ≤ k → k < Q.lz (Q.bp (Q.el la b)) → k < P.lz (P.bp (P.el la b)) ∧ Q.pt (Q.el (Q.bp (Q.el la b)) k) = P.pt (P.el (P.bp (P.el la b)) k) := fun b k b0 b1 k0 k1 => by
    rw [h.nph a b0 b1] at k1
    exact ⟨k1, by rw [h.eph a b0 b1]; exact (h.2 b k b0 b1 k0 k1 (Or.inl b1)).2.1⟩
  have ro : ∀ b k : Int, 0 ≤ b → b < P.lz la → 0 ≤ k → k < Q.lz (Q.br (Q.el la b)) → k < P.lz (P.br (P.el la b)) ∧ Q.rt (Q.el (Q.br (Q.el la b)) k) = P.rt (P.el (P.br (P.el la b)) k) ∧ Q.ro (Q.el (Q.br (Q.el la b)) k) = P.ro (P.el (P.br (P.el la b)) k) := fun b k b0 b1 k0 k1 => by
    rw [h.nrw a b0 b1] at k1
    have q := h.r17 a (a.krow b0 b1 k0 k1).2
    exact ⟨k1, by rw [h.erw a b0 b1]; exact q _, by rw [h.erw a b0 b1]; exact q _⟩
  refine ⟨fun b c j k b0 b1 c0 c1 j0 j1 k0 k1 e => ?_, fun b c j k b0 b1 c0 c1 j0 j1 k0 k1 s1 t e => ?_, fun b c j k b0 b1 c0 c1 j0 j1 k0 k1 t e => ?_⟩ <;> rw [z] at b1 c1
  · obtain ⟨j2, ej⟩ := ph b j b0 b1 j0 j1
    obtain ⟨k2, ek⟩ := ph c k c0 c1 k0 k1
    rw [ej, ek] at e
    exact s.1 b c j k b0 b1 c0 c1 j0 j2 k0 k2 e
  · obtain ⟨j2, ej, oj⟩ := ro b j b0 b1 j0 j1
    obtain ⟨k2, ek, ok⟩ := ro c k c0 c1 k0 k1
    rw [ej, ek] at e
    rw [oj] at s1
    rw [ok] at t
    exact s.2.1 b c j k b0 b1 c0 c1 j0 j2 k0 k2 s1 t e
  · obtain ⟨j2, ej⟩ := ph b j b0 b1 j0 j1
    obtain ⟨k2, ek, ok⟩ := ro c k c0 c1 k0 k1
    rw [ej, ek] at e
    rw [ok] at t
    exact s.2.2 b c j k b0 b1 c0 c1 j0 j2 k0 k2 t e
theorem NST.lsr (h : LSR P Q la) (a : ALP L P cO cI cZ ed la) : NST Q la = NST P la := by
  unfold NST
  rw [(h.edy a).1]
  refine sumI_eq (fun b b0 b1 => ?_)
  have b2 : b < P.lz la := by omega
  obtain ⟨eb, wb, _, ub⟩ := h.vst.blk a b0 b2
  unfold WSB
  rw [eb, wb.1, wb.2.1, ub.1, ub.2]
  have e : CSR Q (P.el la b) (P.lz (P.br (P.el la b))) = CSR P (P.el la b) (P.lz (P.br (P.el la b))) := sumI_eq (fun k k0 k1 => by
    have k2 : k < P.lz (P.br (P.el la b)) := by omega
    rw [wb.2.1, h.1.el, show Q.ro (P.el (P.br (P.el la b)) k) = P.ro (P.el (P.br (P.el la b)) k) from h.r17 a (a.krow b0 b2 k0 k2).2 _])
  rw [e]
theorem CMP.lsr (s : CMP P la) (h : LSR P Q la) (a : ALP L P cO cI cZ ed la) (z1 : 0 < P.lz la) : CMP Q la := by
  have z := (h.edy a).1
  refine ⟨by rw [h.nph a (by omega) z1]; exact s.1, fun b b0 b1 => ?_, fun p b p0 p1 b0 b1 n t i i0 i1 => ?_⟩
  · rw [z] at b1
    obtain ⟨eb, wb, _, ub⟩ := h.vst.blk a b0 b1
    rw [h.nph a b0 b1, eb, wb.2.2, show Q.ro (P.be (P.el la b)) = P.ro (P.be (P.el la b)) from h.r17 a (a.kend b0 b1).2.1 _]; exact s.2.1 b b0 b1
  · rw [z] at p1 b1
    obtain ⟨ep, wp, fp, _⟩ := h.vst.blk a p0 p1
    rw [h.nph a b0 b1] at i1
    have er : Q.ro (P.be (P.el la p)) = P.ro (P.be (P.el la p)) := h.r17 a (a.kend p0 p1).2.1 _
    rw [ep, wp.2.2, er] at n t
    rw [fp.1, fp.2] at t
    rw [h.eph a b0 b1]
    exact (h.2 b i b0 b1 i0 i1 (Or.inl b1)).1.hpp (h.1.pp _) (s.2.2 p b p0 p1 b0 b1 n t i i0 i1) (EDG.yaw n t)
theorem ENE.lsr (s : ENE P la) (h : LSR P Q la) (a : ALP L P cO cI cZ ed la) : ENE Q la := by
  have z := (h.edy a).1
  refine ⟨fun p p0 p1 e => ?_, fun b b0 b1 => ?_⟩
  · rw [z] at p1
    exact s.1 p p0 p1 (((h.edy a).2 p p0 p1 0).mp e)
  · rw [z] at b1
    obtain ⟨eb, wb, fb, _⟩ := h.vst.blk a b0 b1
    rw [eb, wb.2.2, show Q.ro (P.be (P.el la b)) = P.ro (P.be (P.el la b)) from h.r17 a (a.kend b0 b1).2.1 _, fb.1, fb.2]
    exact s.2 b b0 b1
theorem OPE9.lsr (h : LSR P Q la) (a : ALP L P cO cI cZ ed la) : OPE9 Q la := fun b k i b0 b1 k0 k1 i0 i1 => by
  rw [(h.edy a).1] at b1
  rw [h.nph a b0 b1] at k1
  rw [h.eph a b0 b1] at i1 ⊢
  have l := (h.2 b k b0 b1 k0 k1 (Or.inl b1)).1
  have e := l.only (h.1.pp _) i0 i1
  have pr : 0 ≤ Q.ia (Q.pp (P.el (P.bp (P.el la b)) k)) i ∧ Q.ia (Q.pp (P.el (P.bp (P.el la b)) k)) i < P.lz la := by
    obtain ⟨m, _, _, c, _, _⟩ := l
    obtain ⟨⟨m0, m1⟩, ⟨c1, _, _⟩, _⟩ := c i i0 i1
    rw [h.1.pp, c1]; exact a.prd b0 b1 k0 k1 m0 m1
  exact ((h.edy a).2 _ pr.1 pr.2 b).mpr e
theorem OPD.lsr (s : OPD P la) (h : LSR P Q la) (a : ALP L P cO cI cZ ed la) : OPD Q la := fun b k i j b0 b1 k0 k1 i0 ij j1 => by
  rw [(h.edy a).1] at b1
  rw [h.nph a b0 b1] at k1
  rw [h.eph a b0 b1] at j1 ⊢
  obtain ⟨m, _, _, c, o, _⟩ := (h.2 b k b0 b1 k0 k1 (Or.inl b1)).1
  have c1 := c i i0 (by omega)
  have c2 := c j (by omega) j1
  rw [h.1.pp, c1.2.1.1, c2.2.1.1]
  exact s b k (m i) (m j) b0 b1 k0 k1 c1.1.1 (o i j i0 ij j1) c2.1.2
theorem ENP.lsr (s : ENP P la) (h : LSR P Q la) (a : ALP L P cO cI cZ ed la) : ENP Q la := ⟨s.1.lsr h a, OPE9.lsr h a, s.2.2.lsr h a⟩
theorem SSP.lsr (s : SSP P la) (h : LSR P Q la) (a : ALP L P cO cI cZ ed la) : SSP Q la := by
  obtain ⟨h0, h1, h2, h3, h4, h5, h6, h7⟩ := s
  have z := (h.edy a).1
  exact ⟨by rw [z]; exact h0, h1.lsr h a h0, h2.unv h.vst a, fun b b0 b1 => (h.edy a).rch a h0 (h3 b b0 (by rw [← z]; exact b1)), h4.lsr h a, h5.lsr h a, by rw [NST.lsr h a]; exact h6, h7.lsr h a⟩
theorem GN0.lsr (s : GN0 P la) (h : LSR P Q la) (a : ALP L P cO cI cZ ed la) : GN0 Q la := fun b b0 b1 => by
  rw [(h.edy a).1] at b1
  refine ⟨fun k k0 k1 => ?_, fun k k0 k1 => ?_⟩
  · rw [h.nph a b0 b1] at k1
    rw [h.eph a b0 b1, (h.2 b k b0 b1 k0 k1 (Or.inl b1)).2.2]; exact (s b b0 b1).1 k k0 k1
  · rw [h.nrw a b0 b1] at k1
    rw [h.erw a b0 b1]; exact (show Q.rg (P.el (P.br (P.el la b)) k) = P.rg (P.el (P.br (P.el la b)) k) from h.r17 a (a.krow b0 b1 k0 k1).2 _).trans ((s b b0 b1).2 k k0 k1)
end LSG9
