section EQW9
variable {L L0 Lr : List Nat} {P Q Qo Q1 : PO} {cO cI cZ : ClassId} {ed x y la : Nat} {rp br bb rp' br' bb' ord idm : Int → Int} {b d g j k o v z : Int}
theorem mix_self (Q : PO) (Lr : List Nat) : Q.mix Lr Q = Q := by
  unfold PO.mix
  refine Prod.ext (funext fun f => funext fun z => ?_) (Prod.ext (funext fun f => funext fun z => ?_) (Prod.ext (funext fun z => ?_) (Prod.ext (funext fun z => ?_) (funext fun z => ?_))))
  all_goals (show (if z ∈ Lr then _ else _) = _; split <;> rfl)
theorem mix_rw9 (Q : PO) {t : Nat} (n : x ∉ Lr) (w : Int) : (Q.rw9 t x w).mix Lr Q = Q.rw9 t x w := by
  unfold PO.mix
  refine Prod.ext (funext fun f => funext fun z => ?_) (Prod.ext (funext fun f => funext fun z => ?_) (Prod.ext (funext fun z => ?_) (Prod.ext (funext fun z => ?_) (funext fun z => ?_))))
  · show (if z ∈ Lr then Q.1 f z else (Q.rw9 t x w).1 f z) = (Q.rw9 t x w).1 f z
    split
    · next h => exact (rw9_away Q w (fun e => n (by rw [← e]; exact h)) f).symm
    · rfl
  all_goals (show (if z ∈ Lr then _ else _) = _; split <;> rfl)
theorem STQ.sub (s : STQ L P Q) (h : ∀ z : Nat, z ∈ L0 → z ∈ L) : STQ L0 P Q := ⟨s.1, fun z m k => s.2.1 z (h z m) k, fun z m k => s.2.2.1 z (h z m) k, fun z m k => s.2.2.2 z (h z m) k⟩
theorem OPR9.sub (o : OPR9 L P Q rp br bb) (h : ∀ z : Nat, z ∈ L0 → z ∈ L) : OPR9 L0 P Q rp br bb := ⟨fun z m k => o.1 z (h z m) k, fun z m k => o.2 z (h z m) k⟩
theorem IDZ.edy (h : IDZ P la idm) (e : EDY P Q la) (a : ALP L P cO cI cZ ed la) (z1 : 0 < P.lz la) : IDZ Q la idm := ⟨h.1, fun b b0 b1 r => by
  rw [e.1] at b1
  exact (e.dom a z1).mpr (h.2 b b0 b1 (e.rchr a z1 r))⟩
/-- behind equal: a PHI has been replaced, or nothing has changed -/
theorem EQJ.equal (h : EQJ L P Q la rp br bb) (q : EQPX z Q Qo y j rp br bb rp' br' bb') (e1 : Q1 = Qo.mix Lr Q) (nr : ∀ w : Nat, w ∈ Lr → 43 ≤ Q.kd w) (u : UVG P Q la ord o d j 0) (sg : SNG P la) (nd : NDR P la) (a : ALP L P cO cI cZ ed la) (og : ∀ e : Int, 0 ≤ e → e < o → 0 ≤ ord e ∧ ord e < P.lz la) (oi : ∀ e f : Int, 0 ≤ e → e < f → f < o → ord e ≠ ord f) (d0 : 0 ≤ d) (d1 : d < o) (j0 : 0 ≤ j) (ey : y = P.el la (ord d)) (j1 : j < P.lz (P.bp y)) : EQJ L P Q1 la rp' br' bb' ∧ UVG P Q1 la ord o d (j + 1) 0 := by
  by_cases zz : z = 0
  · obtain ⟨q1, q2, q3, q4⟩ := q.1 zz
    rw [q1, mix_self] at e1
    rw [e1, q2, q3, q4]
    exact ⟨h, u.skipp⟩
  · obtain ⟨v, g, ⟨q1, q2, q3, q4⟩, q5⟩ := q.2 zz
    have r := og d d0 d1
    rw [ey] at j1
    obtain ⟨x, ex⟩ : ∃ x : Nat, x = P.el (P.bp (P.el la (ord d))) j := ⟨_, rfl⟩
    have kx := a.kphi r.1 r.2 j0 j1
    rw [← ex] at kx
    have exq : Q.el (Q.bp y) j = x := by rw [h.1.el, h.1.bp, ey, ex]
    have st := h.1.2.2.1 x kx.1 kx.2
    have hu := h.2.2.2.1 x kx.1 kx.2
    rw [exq] at q1 q2 q3 q4 q5
    rw [st.1] at q2 q3 q4 q5
    have nx : x ∉ Lr := fun m => by have := nr x m; rw [h.1.kd, kx.2] at this; omega
    rw [q1, mix_rw9 Q nx] at e1
    have fl : Q.pg x = 0 := by
      have w := ((u d d0 d1).2 rfl).1 j j0 (Int.le_refl j) j1
      rw [← ex] at w; exact w
    have fresh : rp (P.pt x) = 0 := by
      have w := h.freshp sg a.srg r.1 r.2 j0 j1 (by rw [← ex]; exact fl)
      rw [← ex] at w; exact w
    rw [q2, q3, q4]
    refine ⟨h.setp a r.1 r.2 j0 j1 ex fresh e1 (fun w => ?_), u.setp nd a og oi d0 d1 j0 j1 ex e1⟩
    rcases q5 w with ⟨i, i0, ij, iv⟩ | al
    · refine Or.inl ⟨i, i0, ij, ?_⟩
      rw [← iv, h.1.el, h.1.bp, ey]
      have ki := a.kphi r.1 r.2 i0 (show i < P.lz (P.bp (P.el la (ord d))) from by omega)
      exact (h.1.2.2.1 _ ki.1 ki.2).1.symm
    · refine Or.inr (fun i i0 i1 => ?_)
      have w2 := al i i0 (by rw [st.2.1]; exact i1)
      rw [h.1.pr, h.1.pu, hu.1, hu.2] at w2
      exact w2
/-- a row whose register operand stands for it -/
theorem EQJ.copy (h : EQJ L P Q la rp br bb) (m : x ∈ L) (kx : P.kd x = 17) (ro : Q.ro x = 0) (q : Q.rA x ≠ 0) : rUsA (P.ro x) (P.rA x) ≠ 0 ∧ CHQ rp br bb (P.ra x) (Q.ra x) := by
  have w := (h.2.1.1 x m kx).1 q
  have s := (h.1.2.1 x m kx).1
  have us := rUsA_spec (P.ro x) (P.rA x)
  exact ⟨by have := w.1; omega, w.2⟩
/-- a row that stands before and is like it -/
theorem EQJ.like {a9 : Nat} (h : EQJ L P Q la rp br bb) (a : ALP L P cO cI cZ ed la) (z1 : 0 < P.lz la) (lk : LKX Q la b k a9) (so : rSets (Q.ro a9) ≠ 0) : RWY P la rp br bb b k (Q.rt a9) := by
  obtain ⟨d, i, d0, d1, i0, i1, e, w⟩ := lk
  rw [h.1.lza a] at d1
  rw [h.1.lzr a d0 d1] at i1
  have q := h.1.row a d0 d1 i0 i1
  rw [q.1] at e
  refine Or.inr ⟨d, i, ⟨d0, d1, i0, i1⟩, ?_, ?_, ?_⟩
  · rw [← q.2.1, ← e]; exact so
  · rw [← q.2.2, ← e]
  · rcases w with w | w
    · exact Or.inl w
    · exact Or.inr ⟨((h.1.edy a).dom a z1).mp w.1, w.2⟩
/-- behind all: what is gone has been replaced, what is used has not -/
def UNX (Q : PO) (rp : Int → Int) (la : Nat) : Prop := ∀ b : Int, 0 ≤ b → b < Q.lz la → (∀ k : Int, 0 ≤ k → k < Q.lz (Q.bp (Q.el la b)) → (Q.pg (Q.el (Q.bp (Q.el la b)) k) ≠ 0 → rp (Q.pt (Q.el (Q.bp (Q.el la b)) k)) ≠ 0) ∧ RZP Q rp (Q.el (Q.bp (Q.el la b)) k)) ∧ (∀ k : Int, 0 ≤ k → k < Q.lz (Q.br (Q.el la b)) → (Q.rg (Q.el (Q.br (Q.el la b)) k) ≠ 0 → rSets (Q.ro (Q.el (Q.br (Q.el la b)) k)) ≠ 0 → rp (Q.rt (Q.el (Q.br (Q.el la b)) k)) ≠ 0) ∧ RZR Q rp (Q.el (Q.br (Q.el la b)) k)) ∧ RZR Q rp (Q.be (Q.el la b))
theorem EQJ.unx (h : EQJ L P Q la rp br bb) (s2 : STQ L0 Q Qo) (f : FLQ L0 Q Qo) (rv : RVI Q Qo rp la (Q.lz la) 0 0) (aq : ALP L0 Q cO cI cZ ed la) (a : ALP L P cO cI cZ ed la) : UNX Qo rp la := fun b b0 b1 => by
  rw [s2.lza aq] at b1
  have b2 : b < P.lz la := by rw [← h.1.lza a]; exact b1
  have w := (rv b b0 b1).1 b1
  have g := h.2.2.2.2
  rw [s2.lzp aq b0 b1, s2.lzr aq b0 b1]
  refine ⟨fun k k0 k1 => ?_, fun k k0 k1 => ?_, ?_⟩
  · have q := s2.phi aq b0 b1 k0 k1
    have kx := aq.kphi b0 b1 k0 k1
    have k2 : k < P.lz (P.bp (P.el la b)) := by rw [← h.1.lzp a b0 b2]; exact k1
    have qp := h.1.phi a b0 b2 k0 k2
    rw [q.1, q.2.1]
    refine ⟨fun n => ?_, w.1 k k0 k1⟩
    rw [f.2 _ kx.1 kx.2, qp.1] at n
    rw [qp.1, qp.2.1]
    exact g.1 b k b0 b2 k0 k2 n
  · have q := s2.row aq b0 b1 k0 k1
    have kx := aq.krow b0 b1 k0 k1
    have k2 : k < P.lz (P.br (P.el la b)) := by rw [← h.1.lzr a b0 b2]; exact k1
    have qp := h.1.row a b0 b2 k0 k2
    rw [q.1, q.2.1, q.2.2]
    refine ⟨fun n so => ?_, w.2.1 k k0 k1⟩
    rw [f.1 _ kx.1 kx.2, qp.1] at n
    rw [qp.1, qp.2.1] at so
    rw [qp.1, qp.2.2]
    exact g.2.1 b k b0 b2 k0 k2 n so
  · rw [show Qo.be (Qo.el la b) = Q.be (Q.el la b) from by rw [s2.el, s2.be]]
    exact w.2.2
theorem UNX.fne (h : UNX P rp la) (v : FNE P Q la) : UNX Q rp la := fun b b0 b1 => by
  rw [v.1] at b1
  obtain ⟨eb, wb⟩ := v.2 b b0 b1
  obtain ⟨h1, h2, h3⟩ := h b b0 b1
  have rz : ∀ z : Nat, (∀ f : Nat, Q.1 f z = P.1 f z) → RZR P rp z → RZR Q rp z := fun z e r => by
    have f0 : Q.ro z = P.ro z := e 0
    have f2 : Q.ra z = P.ra z := e 2
    have f3 : Q.rb z = P.rb z := e 3
    have f4 : Q.rA z = P.rA z := e 4
    have f5 : Q.rB z = P.rB z := e 5
    unfold RZR
    rw [f0, f2, f3, f4, f5]; exact r
  rw [eb, wb.1.1, wb.1.2.1, wb.1.2.2.1, wb.2.1.1, wb.2.2.1.1]
  refine ⟨fun k k0 k1 => ?_, fun k k0 k1 => ?_, rz _ wb.2.2.2 h3⟩
  · obtain ⟨q1, q2⟩ := wb.2.1.2 k k0 k1
    have f0 : Q.pt (P.el (P.bp (P.el la b)) k) = P.pt (P.el (P.bp (P.el la b)) k) := q2.1 0
    have f1 : Q.pn (P.el (P.bp (P.el la b)) k) = P.pn (P.el (P.bp (P.el la b)) k) := q2.1 1
    have f2 : Q.pg (P.el (P.bp (P.el la b)) k) = P.pg (P.el (P.bp (P.el la b)) k) := q2.1 2
    rw [q1, f0, f2]
    refine ⟨(h1 k k0 k1).1, fun i i0 i1 => ?_⟩
    rw [f1] at i1
    rw [q2.2.1.2.2, q2.2.1.2.1, q2.2.2.2.2, q2.2.2.2.1]
    exact (h1 k k0 k1).2 i i0 i1
  · obtain ⟨q1, q2⟩ := wb.2.2.1.2 k k0 k1
    have f0 : Q.ro (P.el (P.br (P.el la b)) k) = P.ro (P.el (P.br (P.el la b)) k) := q2 0
    have f1 : Q.rt (P.el (P.br (P.el la b)) k) = P.rt (P.el (P.br (P.el la b)) k) := q2 1
    have f6 : Q.rg (P.el (P.br (P.el la b)) k) = P.rg (P.el (P.br (P.el la b)) k) := q2 6
    rw [q1, f0, f1, f6]
    exact ⟨(h2 k k0 k1).1, rz _ q2 (h2 k k0 k1).2⟩
theorem SWE.swu (s : SWE Q Q1 la) (h : UNX Q rp la) (a : ALP L Q cO cI cZ ed la) : SWD Q Q1 la := s.swd (L := L) (rp := rp) (fun b b0 b1 => ⟨fun k k0 k1 => ((h b b0 b1).1 k k0 k1).1, fun k k0 k1 => ((h b b0 b1).2.1 k k0 k1).1⟩) (fun b b0 b1 => ⟨fun k k0 k1 => ((h b b0 b1).1 k k0 k1).2, fun k k0 k1 => ((h b b0 b1).2.1 k k0 k1).2, (h b b0 b1).2.2⟩) a
end EQW9
theorem UVG.row9 {L : List Nat} {P Q Q' : PO} {cO cI cZ : ClassId} {ed x la : Nat} {ord : Int → Int} {o d j k : Int} (h : UVG P Q la ord o d j k) (w : RW1 x Q Q') (kx : Q.kd x = 17) (rg : Q'.rg x = Q.rg x) (s : STQ L P Q) (a : ALP L P cO cI cZ ed la) (og : ∀ e : Int, 0 ≤ e → e < o → 0 ≤ ord e ∧ ord e < P.lz la) : UVG P Q' la ord o d j k := h.flags (fun z _ => by
  by_cases e : z = x
  · rw [e]; exact rg
  · exact w.2 z e 6) (fun z q => w.2 z (fun e => by rw [s.kd, ← e] at kx; omega) 2) a og
