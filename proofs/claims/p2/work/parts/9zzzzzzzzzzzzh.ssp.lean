/-! SSA of a function of the pool, all that is kept -/
/-- no way leads to the first block; RET has goals 0, JUMP one goal -/
def ENE (P : PO) (la : Nat) : Prop := (∀ p : Int, 0 ≤ p → p < P.lz la → ¬ EDG P la p 0) ∧ ∀ b : Int, 0 ≤ b → b < P.lz la → (P.ro (P.be (P.el la b)) = 32 → P.bf (P.el la b) = 0 ∧ P.bs (P.el la b) = 0) ∧ (P.ro (P.be (P.el la b)) = 30 → P.bs (P.el la b) = P.bf (P.el la b))
/-- a PHI has operands of its PREDs alone -/
def OPE9 (P : PO) (la : Nat) : Prop := ∀ b k i : Int, 0 ≤ b → b < P.lz la → 0 ≤ k → k < P.lz (P.bp (P.el la b)) → 0 ≤ i → i < P.pn (P.el (P.bp (P.el la b)) k) → EDG P la (P.ia (P.pp (P.el (P.bp (P.el la b)) k)) i) b
/-- one of each -/
def OPD (P : PO) (la : Nat) : Prop := ∀ b k i j : Int, 0 ≤ b → b < P.lz la → 0 ≤ k → k < P.lz (P.bp (P.el la b)) → 0 ≤ i → i < j → j < P.pn (P.el (P.bp (P.el la b)) k) → P.ia (P.pp (P.el (P.bp (P.el la b)) k)) i ≠ P.ia (P.pp (P.el (P.bp (P.el la b)) k)) j
def ENP (P : PO) (la : Nat) : Prop := ENE P la ∧ OPE9 P la ∧ OPD P la
def SSP (P : PO) (la : Nat) : Prop := 0 < P.lz la ∧ CMP P la ∧ NDR P la ∧ ALR P la ∧ AVL P la ∧ SNG P la ∧ NST P la ≤ 1000 ∧ ENP P la
section SSP9
variable {L : List Nat} {P Q : PO} {cO cI cZ : ClassId} {ed x la : Nat} {A : Int → Int → Prop} {b c i j k p r : Int} {g : Int → Int} {gp gr : Nat → Int}
theorem ENE.swg (h : ENE P la) (s : SWG P Q la gp gr) (a : ALP L P cO cI cZ ed la) : ENE Q la := by
  refine ⟨fun p p0 p1 e => ?_, fun b b0 b1 => ?_⟩
  · rw [s.2.1.1] at p1
    exact h.1 p p0 p1 ((s.edg a p0 p1).mp e)
  · rw [s.2.1.1] at b1
    have bk := a.inb ⟨b, b0, b1, rfl⟩
    have f := s.1.blk bk.1.2
    have o := (s.1.row (a.kend b0 b1).2.1).1
    rw [s.el b0 b1, s.1.be, o, f.1, f.2]
    exact h.2 b b0 b1
theorem ALP.prd (a : ALP L P cO cI cZ ed la) (b0 : 0 ≤ b) (b1 : b < P.lz la) (k0 : 0 ≤ k) (k1 : k < P.lz (P.bp (P.el la b))) (i0 : 0 ≤ i) (i1 : i < P.pn (P.el (P.bp (P.el la b)) k)) : 0 ≤ P.ia (P.pp (P.el (P.bp (P.el la b)) k)) i ∧ P.ia (P.pp (P.el (P.bp (P.el la b)) k)) i < P.lz la := by
  have kx := a.kphi b0 b1 k0 k1
  exact ⟨((a.pik kx.1 kx.2).2.2.2.2.2.2 i i0 i1).1.1, a.2.2.1 _ ⟨b, b0, b1, rfl⟩ k k0 k1 i i0 i1⟩
theorem OPE9.swg (h : OPE9 P la) (s : SWG P Q la gp gr) (a : ALP L P cO cI cZ ed la) : OPE9 Q la := fun b k i b0 b1 k0 k1 i0 i1 => by
  rw [s.2.1.1] at b1
  obtain ⟨m, hm⟩ := s.ph b0 b1
  have u := hm.2.2.1 k k0 k1
  have q := s.1.phi (a.kphi b0 b1 u.1 u.2.1).2
  rw [u.2.2.1] at i1 ⊢
  rw [q.2] at i1
  rw [s.1.pp, s.1.ia]
  have pr := a.prd b0 b1 u.1 u.2.1 i0 i1
  exact (s.edg a pr.1 pr.2).mpr (h b (m k) i b0 b1 u.1 u.2.1 i0 i1)
theorem OPD.swg (h : OPD P la) (s : SWG P Q la gp gr) (a : ALP L P cO cI cZ ed la) : OPD Q la := fun b k i j b0 b1 k0 k1 i0 ij j1 => by
  rw [s.2.1.1] at b1
  obtain ⟨m, hm⟩ := s.ph b0 b1
  have u := hm.2.2.1 k k0 k1
  have q := s.1.phi (a.kphi b0 b1 u.1 u.2.1).2
  rw [u.2.2.1] at j1 ⊢
  rw [q.2] at j1
  rw [s.1.pp, s.1.ia]
  exact h b (m k) i j b0 b1 u.1 u.2.1 i0 ij j1
theorem ENP.swg (h : ENP P la) (s : SWG P Q la gp gr) (a : ALP L P cO cI cZ ed la) : ENP Q la := ⟨h.1.swg s a, h.2.1.swg s a, h.2.2.swg s a⟩
theorem SSP.swd (h : SSP P la) (s : SWD P Q la) (a : ALP L P cO cI cZ ed la) : SSP Q la := by
  obtain ⟨h0, h1, h2, h3, h4, h5, h6, h7⟩ := h
  obtain ⟨gp, gr, N, s, d⟩ := s
  have n := NST.swg s a
  exact ⟨by rw [s.2.1.1]; exact h0, h1.swg s a h0, h2.swg s, h3.swg s a, h4.swg s d a, h5.swg s a, by omega, h7.swg s a⟩
theorem ENE.fne (h : ENE P la) (v : FNE P Q la) : ENE Q la := by
  refine ⟨fun p p0 p1 e => ?_, fun b b0 b1 => ?_⟩
  · rw [v.1] at p1
    exact h.1 p p0 p1 (v.edgr p0 p1 e)
  · rw [v.1] at b1
    obtain ⟨eb, wb⟩ := v.2 b b0 b1
    have o : Q.ro (P.be (P.el la b)) = P.ro (P.be (P.el la b)) := wb.2.2.2 0
    rw [eb, wb.1.2.2.1, o, wb.1.2.2.2.1, wb.1.2.2.2.2]
    exact h.2 b b0 b1
theorem OPE9.fne (h : OPE9 P la) (v : FNE P Q la) (a : ALP L P cO cI cZ ed la) : OPE9 Q la := fun b k i b0 b1 k0 k1 i0 i1 => by
  rw [v.1] at b1
  obtain ⟨eb, wb⟩ := v.2 b b0 b1
  rw [eb, wb.1.1, wb.2.1.1] at k1
  obtain ⟨ek, pv⟩ := wb.2.1.2 k k0 k1
  rw [eb, wb.1.1, ek] at i1 ⊢
  have pn : Q.pn (P.el (P.bp (P.el la b)) k) = P.pn (P.el (P.bp (P.el la b)) k) := pv.1 1
  rw [pn] at i1
  rw [pv.2.1.1, pv.2.2.1]
  have pr := a.prd b0 b1 k0 k1 i0 i1
  exact v.edg pr.1 pr.2 (h b k i b0 b1 k0 k1 i0 i1)
theorem OPD.fne (h : OPD P la) (v : FNE P Q la) : OPD Q la := fun b k i j b0 b1 k0 k1 i0 ij j1 => by
  rw [v.1] at b1
  obtain ⟨eb, wb⟩ := v.2 b b0 b1
  rw [eb, wb.1.1, wb.2.1.1] at k1
  obtain ⟨ek, pv⟩ := wb.2.1.2 k k0 k1
  rw [eb, wb.1.1, ek] at j1 ⊢
  have pn : Q.pn (P.el (P.bp (P.el la b)) k) = P.pn (P.el (P.bp (P.el la b)) k) := pv.1 1
  rw [pn] at j1
  rw [pv.2.1.1, pv.2.2.1]
  exact h b k i j b0 b1 k0 k1 i0 ij j1
theorem ENP.fne (h : ENP P la) (v : FNE P Q la) (a : ALP L P cO cI cZ ed la) : ENP Q la := ⟨h.1.fne v, h.2.1.fne v a, h.2.2.fne v⟩
theorem SSP.fne (h : SSP P la) (v : FNE P Q la) (a : ALP L P cO cI cZ ed la) : SSP Q la := by
  obtain ⟨h0, h1, h2, h3, h4, h5, h6, h7⟩ := h
  exact ⟨by rw [v.1]; exact h0, h1.fne v h0, h2.fne v, h3.fne v a.1.1, h4.fne v a, h5.fne v, by rw [NST.fne v]; exact h6, h7.fne v a⟩
theorem SSP.usd (h : SSP P la) (a : ALP L P cO cI cZ ed la) : USD P la := h.2.2.2.2.1.usd h.2.2.2.1 h.2.1 a
/-! registers become others -/
theorem EDG.unv (h : UNV P Q (VST P la (P.lz la) 0 0)) (d : DON P Q g (VST P la (P.lz la) 0 0)) (a : ALP L P cO cI cZ ed la) (p0 : 0 ≤ p) (p1 : p < P.lz la) : EDG Q la p c ↔ EDG P la p c := by
  obtain ⟨eb, wb, fb, ub⟩ := h.blk a p0 p1
  have qe := (d _ (VST.aend9 p0 p1)).1 (a.kend p0 p1).2.1
  unfold EDG
  rw [eb, wb.2.2, qe.1.1, fb.1, fb.2]
theorem SPH.unv (s : SPH P la b r) (h : UNV P Q (VST P la (P.lz la) 0 0)) (d : DON P Q g (VST P la (P.lz la) 0 0)) (a : ALP L P cO cI cZ ed la) (b0 : 0 ≤ b) (b1 : b < P.lz la) : SPH Q la b (g r) := by
  obtain ⟨k, k0, k1, e⟩ := s
  obtain ⟨eb, wb, _, ub⟩ := h.blk a b0 b1
  have q := (d _ (VST.aphi9 b0 b1 k0 k1)).2 (a.kphi b0 b1 k0 k1).2
  exact ⟨k, k0, by rw [eb, wb.1, ub.1]; exact k1, by rw [eb, wb.1, h.el, q.2.1, e]⟩
theorem SRW.unv (s : SRW P la b j r) (h : UNV P Q (VST P la (P.lz la) 0 0)) (d : DON P Q g (VST P la (P.lz la) 0 0)) (a : ALP L P cO cI cZ ed la) (b0 : 0 ≤ b) (b1 : b < P.lz la) : SRW Q la b j (g r) := by
  obtain ⟨k, k0, kj, k1, o, e⟩ := s
  obtain ⟨eb, wb, _, ub⟩ := h.blk a b0 b1
  have q := (d _ (VST.arow9 b0 b1 k0 k1)).1 (a.krow b0 b1 k0 k1).2
  exact ⟨k, k0, kj, by rw [eb, wb.2.1, ub.2]; exact k1, by rw [eb, wb.2.1, h.el, q.1.1]; exact o, by rw [eb, wb.2.1, h.el, q.2.2.2.2 o, e]⟩
theorem SIB.unv (s : SIB P la b r) (h : UNV P Q (VST P la (P.lz la) 0 0)) (d : DON P Q g (VST P la (P.lz la) 0 0)) (a : ALP L P cO cI cZ ed la) (b0 : 0 ≤ b) (b1 : b < P.lz la) : SIB Q la b (g r) := by
  rcases s with s | s
  · exact Or.inl (s.unv h d a b0 b1)
  · refine Or.inr ?_
    obtain ⟨eb, wb, _, ub⟩ := h.blk a b0 b1
    rw [eb, wb.2.1, ub.2]; exact s.unv h d a b0 b1
theorem AVT.unv (s : AVT P la A b j r) (h : UNV P Q (VST P la (P.lz la) 0 0)) (d : DON P Q g (VST P la (P.lz la) 0 0)) (a : ALP L P cO cI cZ ed la) (b0 : 0 ≤ b) (b1 : b < P.lz la) : AVT Q la (fun s b => ∃ r : Int, g r = s ∧ A r b) b j (g r) := by
  rcases s with s | s | s
  · exact Or.inl ⟨r, rfl, s⟩
  · exact Or.inr (Or.inl (s.unv h d a b0 b1))
  · exact Or.inr (Or.inr (s.unv h d a b0 b1))
theorem URA.unv (u : URA P la A b j x) (q : RNR P Q g x) (h : UNV P Q (VST P la (P.lz la) 0 0)) (d : DON P Q g (VST P la (P.lz la) 0 0)) (a : ALP L P cO cI cZ ed la) (b0 : 0 ≤ b) (b1 : b < P.lz la) : URA Q la (fun s b => ∃ r : Int, g r = s ∧ A r b) b j x := by
  obtain ⟨⟨q0, q4, q5⟩, qa, qb, _⟩ := q
  unfold URA
  rw [q0, q4, q5]
  constructor
  · by_cases e : rUsA (P.ro x) (P.rA x) = 0
    · exact Or.inl e
    · rw [qa.2 e]; exact Or.inr ((u.1.resolve_left e).unv h d a b0 b1)
  · by_cases e : rUsB (P.ro x) (P.rB x) = 0
    · exact Or.inl e
    · rw [qb.2 e]; exact Or.inr ((u.2.resolve_left e).unv h d a b0 b1)
theorem AVL.unv (s : AVL P la) (h : UNV P Q (VST P la (P.lz la) 0 0)) (d : DON P Q g (VST P la (P.lz la) 0 0)) (a : ALP L P cO cI cZ ed la) : AVL Q la := by
  obtain ⟨A, w, u⟩ := s
  have z : Q.lz la = P.lz la := h.1.2.2 _ a.lok.2.1
  refine ⟨fun s b => ∃ r : Int, g r = s ∧ A r b, ⟨fun s q => ?_, fun s p b p0 p1 e q => ?_⟩, fun b b0 b1 => ?_⟩
  · obtain ⟨r, _, q⟩ := q
    exact w.1 r q
  · rw [z] at p1
    obtain ⟨r, er, q⟩ := q
    rcases w.2 r p b p0 p1 ((EDG.unv h d a p0 p1).mp e) q with t | t
    · exact Or.inl ⟨r, er, t⟩
    · rw [← er]; exact Or.inr (t.unv h d a p0 p1)
  · rw [z] at b1
    obtain ⟨eb, wb, _, ub⟩ := h.blk a b0 b1
    obtain ⟨u1, u2, u3⟩ := u b b0 b1
    rw [eb, wb.1, wb.2.1, wb.2.2, ub.1, ub.2]
    refine ⟨fun k k0 k1 i i0 i1 => ?_, fun k k0 k1 => ?_, u3.unv ((d _ (VST.aend9 b0 b1)).1 (a.kend b0 b1).2.1) h d a b0 b1⟩
    · have kx := a.kphi b0 b1 k0 k1
      have q := (d _ (VST.aphi9 b0 b1 k0 k1)).2 kx.2
      rw [h.el] at i1 ⊢
      rw [q.1] at i1
      obtain ⟨e1, e2, e3, _⟩ := q.2.2 i i0 i1
      have ee := (a.pik kx.1 kx.2).2.2.2.2.2.2 i i0 i1
      have pb := a.2.2.1 _ ⟨b, b0, b1, rfl⟩ k k0 k1 i i0 i1
      rw [h.pr, h.pu, h.pp, e1, e2]
      by_cases e : P.ia (P.pr (P.el (P.bp (P.el la b)) k)) i = 0
      · exact Or.inl e
      · rw [(e3 i1).2 e]
        rcases (u1 k k0 k1 i i0 i1).resolve_left e with t | t
        · exact Or.inr (Or.inl ⟨_, rfl, t⟩)
        · exact Or.inr (Or.inr (t.unv h d a ee.1.1 pb))
    · rw [h.el]
      exact (u2 k k0 k1).unv ((d _ (VST.arow9 b0 b1 k0 k1)).1 (a.krow b0 b1 k0 k1).2) h d a b0 b1
theorem SNG.unv (s : SNG P la) (h : UNV P Q (VST P la (P.lz la) 0 0)) (d : DON P Q g (VST P la (P.lz la) 0 0)) (a : ALP L P cO cI cZ ed la) (gi : ∀ r t : Int, SETR P la r → SETR P la t → g r = g t → r = t) : SNG Q la := by
  have z : Q.lz la = P.lz la := h.1.2.2 _ a.lok.2.1
  have ph : ∀ b k : Int, 0 ≤ b → b < P.lz la → 0 ≤ k → k < Q.lz (Q.bp (Q.el la b)) → k < P.lz (P.bp (P.el la b)) ∧ Q.pt (Q.el (Q.bp (Q.el la b)) k) = g (P.pt (P.el (P.bp (P.el la b)) k)) := fun b k b0 b1 k0 k1 => by
    obtain ⟨eb, wb, _, ub⟩ := h.blk a b0 b1
    rw [eb, wb.1, ub.1] at k1
    have q := (d _ (VST.aphi9 b0 b1 k0 k1)).2 (a.kphi b0 b1 k0 k1).2
    exact ⟨k1, by rw [eb, wb.1, h.el, q.2.1]⟩
  have ro : ∀ b k : Int, 0 ≤ b → b < P.lz la → 0 ≤ k → k < Q.lz (Q.br (Q.el la b)) → k < P.lz (P.br (P.el la b)) ∧ Q.ro (Q.el (Q.br (Q.el la b)) k) = P.ro (P.el (P.br (P.el la b)) k) ∧ (rSets (P.ro (P.el (P.br (P.el la b)) k)) ≠ 0 → Q.rt (Q.el (Q.br (Q.el la b)) k) = g (P.rt (P.el (P.br (P.el la b)) k))) := fun b k b0 b1 k0 k1 => by
    obtain ⟨eb, wb, _, ub⟩ := h.blk a b0 b1
    rw [eb, wb.2.1, ub.2] at k1
    have q := (d _ (VST.arow9 b0 b1 k0 k1)).1 (a.krow b0 b1 k0 k1).2
    exact ⟨k1, by rw [eb, wb.2.1, h.el, q.1.1], fun o => by rw [eb, wb.2.1, h.el, q.2.2.2.2 o]⟩
  refine ⟨fun b c j k b0 b1 c0 c1 j0 j1 k0 k1 e => ?_, fun b c j k b0 b1 c0 c1 j0 j1 k0 k1 s1 s2 e => ?_, fun b c j k b0 b1 c0 c1 j0 j1 k0 k1 s2 e => ?_⟩ <;> rw [z] at b1 c1
  · obtain ⟨j2, ej⟩ := ph b j b0 b1 j0 j1
    obtain ⟨k2, ek⟩ := ph c k c0 c1 k0 k1
    rw [ej, ek] at e
    exact s.1 b c j k b0 b1 c0 c1 j0 j2 k0 k2 (gi _ _ (Or.inl ⟨b, j, b0, b1, j0, j2, rfl⟩) (Or.inl ⟨c, k, c0, c1, k0, k2, rfl⟩) e)
  · obtain ⟨j2, oj, ej⟩ := ro b j b0 b1 j0 j1
    obtain ⟨k2, ok, ek⟩ := ro c k c0 c1 k0 k1
    rw [oj] at s1
    rw [ok] at s2
    rw [ej s1, ek s2] at e
    exact s.2.1 b c j k b0 b1 c0 c1 j0 j2 k0 k2 s1 s2 (gi _ _ (Or.inr ⟨b, j, b0, b1, j0, j2, s1, rfl⟩) (Or.inr ⟨c, k, c0, c1, k0, k2, s2, rfl⟩) e)
  · obtain ⟨j2, ej⟩ := ph b j b0 b1 j0 j1
    obtain ⟨k2, ok, ek⟩ := ro c k c0 c1 k0 k1
    rw [ok] at s2
    rw [ej, ek s2] at e
    exact s.2.2 b c j k b0 b1 c0 c1 j0 j2 k0 k2 s2 (gi _ _ (Or.inl ⟨b, j, b0, b1, j0, j2, rfl⟩) (Or.inr ⟨c, k, c0, c1, k0, k2, s2, rfl⟩) e)
theorem CMP.unv (s : CMP P la) (h : UNV P Q (VST P la (P.lz la) 0 0)) (d : DON P Q g (VST P la (P.lz la) 0 0)) (a : ALP L P cO cI cZ ed la) (z1 : 0 < P.lz la) : CMP Q la := by
  have z : Q.lz la = P.lz la := h.1.2.2 _ a.lok.2.1
  obtain ⟨e0, w0, _, u0⟩ := h.blk a (b := 0) (by omega) z1
  refine ⟨by rw [e0, w0.1, u0.1]; exact s.1, fun b b0 b1 => ?_, fun p b p0 p1 b0 b1 n t i i0 i1 => ?_⟩
  · rw [z] at b1
    obtain ⟨eb, wb, _, ub⟩ := h.blk a b0 b1
    have qe := (d _ (VST.aend9 b0 b1)).1 (a.kend b0 b1).2.1
    rw [eb, wb.1, ub.1, wb.2.2, qe.1.1]; exact s.2.1 b b0 b1
  · rw [z] at p1 b1
    obtain ⟨eb, wb, _, ub⟩ := h.blk a b0 b1
    obtain ⟨ep, wp, fp, up⟩ := h.blk a p0 p1
    have qe := (d _ (VST.aend9 p0 p1)).1 (a.kend p0 p1).2.1
    rw [eb, wb.1, ub.1] at i1
    rw [ep, wp.2.2, qe.1.1] at n
    rw [ep, wp.2.2, qe.1.1, fp.1, fp.2] at t
    obtain ⟨k, k0, k1, k2⟩ := s.2.2 p b p0 p1 b0 b1 n t i i0 i1
    have q := (d _ (VST.aphi9 b0 b1 i0 i1)).2 (a.kphi b0 b1 i0 i1).2
    rw [eb, wb.1, h.el]
    exact ⟨k, k0, by rw [q.1]; exact k1, by rw [h.pp, (q.2.2 k k0 k1).1]; exact k2⟩
theorem ENE.unv (s : ENE P la) (h : UNV P Q (VST P la (P.lz la) 0 0)) (d : DON P Q g (VST P la (P.lz la) 0 0)) (a : ALP L P cO cI cZ ed la) : ENE Q la := by
  have z : Q.lz la = P.lz la := h.1.2.2 _ a.lok.2.1
  refine ⟨fun p p0 p1 e => ?_, fun b b0 b1 => ?_⟩
  · rw [z] at p1
    exact s.1 p p0 p1 ((EDG.unv h d a p0 p1).mp e)
  · rw [z] at b1
    obtain ⟨eb, wb, fb, ub⟩ := h.blk a b0 b1
    have qe := (d _ (VST.aend9 b0 b1)).1 (a.kend b0 b1).2.1
    rw [eb, wb.2.2, qe.1.1, fb.1, fb.2]
    exact s.2 b b0 b1
theorem OPE9.unv (s : OPE9 P la) (h : UNV P Q (VST P la (P.lz la) 0 0)) (d : DON P Q g (VST P la (P.lz la) 0 0)) (a : ALP L P cO cI cZ ed la) : OPE9 Q la := fun b k i b0 b1 k0 k1 i0 i1 => by
  have z : Q.lz la = P.lz la := h.1.2.2 _ a.lok.2.1
  rw [z] at b1
  obtain ⟨eb, wb, fb, ub⟩ := h.blk a b0 b1
  rw [eb, wb.1, ub.1] at k1
  have q := (d _ (VST.aphi9 b0 b1 k0 k1)).2 (a.kphi b0 b1 k0 k1).2
  rw [eb, wb.1, h.el] at i1 ⊢
  rw [q.1] at i1
  rw [h.pp, (q.2.2 i i0 i1).1]
  have pr := a.prd b0 b1 k0 k1 i0 i1
  exact (EDG.unv h d a pr.1 pr.2).mpr (s b k i b0 b1 k0 k1 i0 i1)
theorem OPD.unv (s : OPD P la) (h : UNV P Q (VST P la (P.lz la) 0 0)) (d : DON P Q g (VST P la (P.lz la) 0 0)) (a : ALP L P cO cI cZ ed la) : OPD Q la := fun b k i j b0 b1 k0 k1 i0 ij j1 => by
  have z : Q.lz la = P.lz la := h.1.2.2 _ a.lok.2.1
  rw [z] at b1
  obtain ⟨eb, wb, fb, ub⟩ := h.blk a b0 b1
  rw [eb, wb.1, ub.1] at k1
  have q := (d _ (VST.aphi9 b0 b1 k0 k1)).2 (a.kphi b0 b1 k0 k1).2
  rw [eb, wb.1, h.el] at j1 ⊢
  rw [q.1] at j1
  rw [h.pp, (q.2.2 i i0 (by omega)).1, (q.2.2 j (by omega) j1).1]
  exact s b k i j b0 b1 k0 k1 i0 ij j1
theorem ENP.unv (s : ENP P la) (h : UNV P Q (VST P la (P.lz la) 0 0)) (d : DON P Q g (VST P la (P.lz la) 0 0)) (a : ALP L P cO cI cZ ed la) : ENP Q la := ⟨s.1.unv h d a, s.2.1.unv h d a, s.2.2.unv h d a⟩
theorem SSP.unv (s : SSP P la) (h : UNV P Q (VST P la (P.lz la) 0 0)) (d : DON P Q g (VST P la (P.lz la) 0 0)) (a : ALP L P cO cI cZ ed la) (gi : ∀ r t : Int, SETR P la r → SETR P la t → g r = g t → r = t) : SSP Q la := by
  obtain ⟨h0, h1, h2, h3, h4, h5, h6, h7⟩ := s
  exact ⟨by rw [h.1.2.2 _ a.lok.2.1]; exact h0, h1.unv h d a h0, h2.unv h a, h3.unv h d a, h4.unv h d a, h5.unv h d a gi, by rw [NST.unv h d a]; exact h6, h7.unv h d a⟩
end SSP9
