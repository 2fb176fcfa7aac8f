section MVK8
variable {L L' : List Nat} {P P1 Q : PO} {cO cI cZ : ClassId} {ed x y z l l0 la q0 : Nat} {t ins : Int → Int} {b c d h i j k p r : Int}
theorem SNG.mvd (s : SNG P la) (m : MVD L P L' Q la c j p x) (a : ALP L P cO cI cZ ed la) : SNG Q la := by
  have zz : Q.lz la = P.lz la := m.2.1.1
  have ph : ∀ b k : Int, 0 ≤ b → b < P.lz la → 0 ≤ k → k < Q.lz (Q.bp (Q.el la b)) → k < P.lz (P.bp (P.el la b)) ∧ Q.pt (Q.el (Q.bp (Q.el la b)) k) = P.pt (P.el (P.bp (P.el la b)) k) := fun b k b0 b1 k0 k1 => by
    obtain ⟨z, f⟩ := m.ph a b0 b1
    rw [z] at k1
    have w := f k k0 k1
    exact ⟨k1, by rw [w.1]; exact w.2.1 0⟩
  refine ⟨fun b c' j' k b0 b1 c0 c1 j0 j1 k0 k1 e => ?_, fun b c' j' k b0 b1 c0 c1 j0 j1 k0 k1 s1 s2 e => ?_, fun b c' j' k b0 b1 c0 c1 j0 j1 k0 k1 s2 e => ?_⟩ <;> rw [zz] at b1 c1
  · obtain ⟨j2, ej⟩ := ph b j' b0 b1 j0 j1
    obtain ⟨k2, ek⟩ := ph c' k c0 c1 k0 k1
    rw [ej, ek] at e
    exact s.1 b c' j' k b0 b1 c0 c1 j0 j2 k0 k2 e
  · obtain ⟨⟨g0, g1⟩, ⟨g2, g3⟩, g4⟩ := m.row a b0 b1 j0 j1
    obtain ⟨⟨h0, h1⟩, ⟨h2, h3⟩, h4⟩ := m.row a c0 c1 k0 k1
    have f := m.rown a g0 g1 g2 g3
    have f' := m.rown a h0 h1 h2 h3
    have f0 : Q.ro _ = P.ro _ := f 0
    have f1 : Q.rt _ = P.rt _ := f 1
    have f'0 : Q.ro _ = P.ro _ := f' 0
    have f'1 : Q.rt _ = P.rt _ := f' 1
    rw [g4, h4, f1, f'1] at e
    rw [g4, f0] at s1
    rw [h4, f'0] at s2
    obtain ⟨e1, e2⟩ := s.2.1 _ _ _ _ g0 g1 h0 h1 g2 g3 h2 h3 s1 s2 e
    exact PB9.inj m.2.2.1.1 e1 e2
  · obtain ⟨j2, ej⟩ := ph b j' b0 b1 j0 j1
    obtain ⟨⟨h0, h1⟩, ⟨h2, h3⟩, h4⟩ := m.row a c0 c1 k0 k1
    have f' := m.rown a h0 h1 h2 h3
    have f'0 : Q.ro _ = P.ro _ := f' 0
    have f'1 : Q.rt _ = P.rt _ := f' 1
    rw [ej, h4, f'1] at e
    rw [h4, f'0] at s2
    exact s.2.2 _ _ _ _ b0 b1 h0 h1 j0 j2 h2 h3 s2 e
theorem NDR.mvd (s : NDR P la) (m : MVD L P L' Q la c j p x) (a : ALP L P cO cI cZ ed la) : NDR Q la := by
  have zz : Q.lz la = P.lz la := m.2.1.1
  refine ⟨fun b c' j' k b0 b1 c0 c1 j0 j1 k0 k1 e => ?_, fun b c' j' k b0 b1 c0 c1 j0 j1 k0 k1 e => ?_, fun b c' b0 b1 c0 c1 e => ?_⟩ <;> rw [zz] at b1 c1
  · obtain ⟨⟨g0, g1⟩, ⟨g2, g3⟩, g4⟩ := m.row a b0 b1 j0 j1
    obtain ⟨⟨h0, h1⟩, ⟨h2, h3⟩, h4⟩ := m.row a c0 c1 k0 k1
    rw [g4, h4] at e
    obtain ⟨e1, e2⟩ := s.1 _ _ _ _ g0 g1 h0 h1 g2 g3 h2 h3 e
    exact PB9.inj m.2.2.1.1 e1 e2
  · obtain ⟨zb, fb⟩ := m.ph a b0 b1
    obtain ⟨zc, fc⟩ := m.ph a c0 c1
    rw [zb] at j1
    rw [zc] at k1
    rw [(fb j' j0 j1).1, (fc k k0 k1).1] at e
    exact s.2.1 b c' j' k b0 b1 c0 c1 j0 j1 k0 k1 e
  · obtain ⟨eb, wb, _, _⟩ := m.blk a b0 b1
    obtain ⟨ec, wc, _, _⟩ := m.blk a c0 c1
    rw [eb, ec, wb.2.2, wc.2.2] at e
    exact s.2.2 b c' b0 b1 c0 c1 e
theorem ALR.mvd (s : ALR P la) (m : MVD L P L' Q la c j p x) (a : ALP L P cO cI cZ ed la) : ALR Q la := fun b b0 b1 => by
  rw [m.2.1.1] at b1
  exact (s b b0 b1 (fun c => RCH Q la (-1) c ∧ 0 ≤ c ∧ c < P.lz la) (fun _ => ⟨RCH.zero (by decide), by omega, by omega⟩) (fun p q t e ne => ⟨t.1.step ((m.edg a t.2.1 t.2.2).mpr e) ne, EDG.rng a t.2.1 t.2.2 e⟩)).1
theorem CMP.mvd (s : CMP P la) (m : MVD L P L' Q la c j p x) (a : ALP L P cO cI cZ ed la) (z1 : 0 < P.lz la) : CMP Q la := by
  refine ⟨by rw [(m.ph a (b := 0) (by omega) z1).1]; exact s.1, fun b b0 b1 => ?_, fun p b p0 p1 b0 b1 n g i i0 i1 => ?_⟩
  · rw [m.2.1.1] at b1
    obtain ⟨eb, wb, _, ob⟩ := m.blk a b0 b1
    have o : Q.ro (P.be (P.el la b)) = P.ro (P.be (P.el la b)) := ob 0
    refine ⟨by rw [(m.ph a b0 b1).1]; exact (s.2.1 b b0 b1).1, ?_⟩
    rw [eb, wb.2.2, o]; exact (s.2.1 b b0 b1).2
  · rw [m.2.1.1] at p1 b1
    obtain ⟨eb, wb, fb, ob⟩ := m.blk a p0 p1
    have o : Q.ro (P.be (P.el la p)) = P.ro (P.be (P.el la p)) := ob 0
    obtain ⟨zb, f⟩ := m.ph a b0 b1
    rw [zb] at i1
    rw [eb, wb.2.2, o] at n
    rw [eb, wb.2.2, o, fb.1, fb.2] at g
    obtain ⟨k, k0, k1, k2⟩ := s.2.2 p b p0 p1 b0 b1 n g i i0 i1
    have q := f i i0 i1
    have n1 : Q.pn (P.el (P.bp (P.el la b)) i) = P.pn (P.el (P.bp (P.el la b)) i) := q.2.1 1
    rw [q.1]
    exact ⟨k, k0, by rw [n1]; exact k1, by rw [q.2.2.1.1, q.2.2.2.1]; exact k2⟩
theorem ENE.mvd (s : ENE P la) (m : MVD L P L' Q la c j p x) (a : ALP L P cO cI cZ ed la) : ENE Q la := by
  refine ⟨fun p p0 p1 e => ?_, fun b b0 b1 => ?_⟩
  · rw [m.2.1.1] at p1
    exact s.1 p p0 p1 ((m.edg a p0 p1).mp e)
  · rw [m.2.1.1] at b1
    obtain ⟨eb, wb, fb, ob⟩ := m.blk a b0 b1
    have o : Q.ro (P.be (P.el la b)) = P.ro (P.be (P.el la b)) := ob 0
    rw [eb, wb.2.2, o, fb.1, fb.2]
    exact s.2 b b0 b1
theorem OPE9.mvd (s : OPE9 P la) (m : MVD L P L' Q la c j p x) (a : ALP L P cO cI cZ ed la) : OPE9 Q la := fun b k i b0 b1 k0 k1 i0 i1 => by
  rw [m.2.1.1] at b1
  obtain ⟨zb, f⟩ := m.ph a b0 b1
  rw [zb] at k1
  have q := f k k0 k1
  have n1 : Q.pn (P.el (P.bp (P.el la b)) k) = P.pn (P.el (P.bp (P.el la b)) k) := q.2.1 1
  rw [q.1] at i1 ⊢
  rw [n1] at i1
  rw [q.2.2.1.1, q.2.2.2.1]
  have pr := a.prd b0 b1 k0 k1 i0 i1
  exact (m.edg a pr.1 pr.2).mpr (s b k i b0 b1 k0 k1 i0 i1)
theorem OPD.mvd (s : OPD P la) (m : MVD L P L' Q la c j p x) (a : ALP L P cO cI cZ ed la) : OPD Q la := fun b k i j b0 b1 k0 k1 i0 ij j1 => by
  rw [m.2.1.1] at b1
  obtain ⟨zb, f⟩ := m.ph a b0 b1
  rw [zb] at k1
  have q := f k k0 k1
  have n1 : Q.pn (P.el (P.bp (P.el la b)) k) = P.pn (P.el (P.bp (P.el la b)) k) := q.2.1 1
  rw [q.1] at j1 ⊢
  rw [n1] at j1
  rw [q.2.2.1.1, q.2.2.2.1]
  exact s b k i j b0 b1 k0 k1 i0 ij j1
theorem ENP.mvd (s : ENP P la) (m : MVD L P L' Q la c j p x) (a : ALP L P cO cI cZ ed la) : ENP Q la := ⟨s.1.mvd m a, s.2.1.mvd m a, s.2.2.mvd m a⟩
theorem NST.mvd (m : MVD L P L' Q la c j p x) (a : ALP L P cO cI cZ ed la) (o : rSets (P.ro x) ≠ 0) : NST Q la ≤ NST P la := by
  have m0 := m.2.2.1
  have z2 := m0.2.1
  have z3 := m0.2.2.1
  have cz := (a.inb ⟨c, z2.1, z2.2, rfl⟩).2.1.2.2.1.1
  have pz := (a.inb ⟨p, z3.1, z3.2, rfl⟩).2.1.2.2.1.1
  have ww : ∀ b : Int, 0 ≤ b → b < P.lz la → WSB Q la b = P.lz (P.bp (P.el la b)) + sumI (fun k => if rSets (Q.ro (Q.el (P.br (P.el la b)) k)) = 0 then 0 else 1) (Q.lz (P.br (P.el la b))).toNat := fun b b0 b1 => by
    obtain ⟨e, w, _, _⟩ := m.blk a b0 b1
    unfold WSB CSR
    rw [(m.ph a b0 b1).1, e, w.2.1]
  have x0 : Q.ro x = P.ro x := by rw [m0.2.2.2.2]; exact m.rown a z2.1 z2.2 m0.2.2.2.1.1 m0.2.2.2.1.2 0
  -- the block that it left
  have wc : WSB Q la c + 1 ≤ WSB P la c := by
    rw [ww c z2.1 z2.2]
    unfold WSB CSR
    have j9 := m0.2.2.2.1
    have m5 := m.2.2.2.2.1
    rw [m5.1]
    have key := sumI_ord (N := (P.lz (P.br (P.el la c))).toNat) (ord := fun k => if k = P.lz (P.br (P.el la c)) - 1 then j else if k < j then k else k + 1) (P.lz (P.br (P.el la c))).toNat (fun k => if rSets (P.ro (P.el (P.br (P.el la c)) k)) = 0 then (0 : Int) else 1) (fun i i0 i1 => by
      by_cases t : rSets (P.ro (P.el (P.br (P.el la c)) i)) = 0
      · rw [if_pos t]; exact Int.le_refl 0
      · rw [if_neg t]; decide) (fun k k0 k1 => by
      show 0 ≤ (if k = P.lz (P.br (P.el la c)) - 1 then j else if k < j then k else k + 1) ∧ (if k = P.lz (P.br (P.el la c)) - 1 then j else if k < j then k else k + 1) < _
      by_cases u : k = P.lz (P.br (P.el la c)) - 1
      · rw [if_pos u]; omega
      · rw [if_neg u]
        by_cases v : k < j
        · rw [if_pos v]; omega
        · rw [if_neg v]; omega) (fun i k i0 ik k1 => by
      show (if i = P.lz (P.br (P.el la c)) - 1 then j else if i < j then i else i + 1) ≠ (if k = P.lz (P.br (P.el la c)) - 1 then j else if k < j then k else k + 1)
      rw [if_neg (by omega)]
      by_cases u : k = P.lz (P.br (P.el la c)) - 1
      · rw [if_pos u]
        by_cases v : i < j
        · rw [if_pos v]; omega
        · rw [if_neg v]; omega
      · rw [if_neg u]
        by_cases v : i < j
        · rw [if_pos v]
          by_cases w : k < j
          · rw [if_pos w]; omega
          · rw [if_neg w]; omega
        · rw [if_neg v, if_neg (by omega)]; omega)
    rw [show (P.lz (P.br (P.el la c))).toNat = (P.lz (P.br (P.el la c)) - 1).toNat + 1 from by omega] at key
    have last : sumI (fun k => (fun k => if rSets (P.ro (P.el (P.br (P.el la c)) k)) = 0 then (0 : Int) else 1) ((fun k => if k = P.lz (P.br (P.el la c)) - 1 then j else if k < j then k else k + 1) k)) ((P.lz (P.br (P.el la c)) - 1).toNat + 1) = sumI (fun k => if rSets (Q.ro (Q.el (P.br (P.el la c)) k)) = 0 then 0 else 1) (P.lz (P.br (P.el la c)) - 1).toNat + 1 := by
      show sumI _ (P.lz (P.br (P.el la c)) - 1).toNat + (if rSets (P.ro (P.el (P.br (P.el la c)) (if (((P.lz (P.br (P.el la c)) - 1).toNat : Nat) : Int) = P.lz (P.br (P.el la c)) - 1 then j else if (((P.lz (P.br (P.el la c)) - 1).toNat : Nat) : Int) < j then (((P.lz (P.br (P.el la c)) - 1).toNat : Nat) : Int) else (((P.lz (P.br (P.el la c)) - 1).toNat : Nat) : Int) + 1))) = 0 then (0 : Int) else 1) = _
      rw [if_pos (show (((P.lz (P.br (P.el la c)) - 1).toNat : Nat) : Int) = P.lz (P.br (P.el la c)) - 1 from by omega), ← m0.2.2.2.2, if_neg o]
      congr 1
      refine sumI_eq (fun k k0 k1 => ?_)
      show (if rSets (P.ro (P.el (P.br (P.el la c)) (if k = P.lz (P.br (P.el la c)) - 1 then j else if k < j then k else k + 1))) = 0 then (0 : Int) else 1) = _
      rw [if_neg (show ¬ k = P.lz (P.br (P.el la c)) - 1 from by omega), m5.2 k k0 (by omega)]
      by_cases v : k < j
      · rw [if_pos v]
        have f := m.rown a z2.1 z2.2 k0 (show k < P.lz (P.br (P.el la c)) from by omega) 0
        rw [show Q.ro (P.el (P.br (P.el la c)) k) = P.ro (P.el (P.br (P.el la c)) k) from f]
      · rw [if_neg v]
        have f := m.rown a z2.1 z2.2 (show 0 ≤ k + 1 from by omega) (show k + 1 < P.lz (P.br (P.el la c)) from by omega) 0
        rw [show Q.ro (P.el (P.br (P.el la c)) (k + 1)) = P.ro (P.el (P.br (P.el la c)) (k + 1)) from f]
    rw [last] at key
    rw [show (P.lz (P.br (P.el la c))).toNat = (P.lz (P.br (P.el la c)) - 1).toNat + 1 from by omega]
    omega
  have wp : WSB Q la p = WSB P la p + 1 := by
    rw [ww p z3.1 z3.2]
    unfold WSB CSR
    have m6 := m.2.2.2.2.2
    rw [m6.1, show (P.lz (P.br (P.el la p)) + 1).toNat = (P.lz (P.br (P.el la p))).toNat + 1 from by omega]
    have e : sumI (fun k => if rSets (Q.ro (Q.el (P.br (P.el la p)) k)) = 0 then (0 : Int) else 1) (P.lz (P.br (P.el la p))).toNat = sumI (fun k => if rSets (P.ro (P.el (P.br (P.el la p)) k)) = 0 then (0 : Int) else 1) (P.lz (P.br (P.el la p))).toNat := sumI_eq (fun k k0 k1 => by
      have k2 : k < P.lz (P.br (P.el la p)) := by omega
      have f := m.rown a z3.1 z3.2 k0 k2 0
      rw [m6.2.1 k k0 k2, show Q.ro (P.el (P.br (P.el la p)) k) = P.ro (P.el (P.br (P.el la p)) k) from f])
    show P.lz (P.bp (P.el la p)) + (sumI (fun k => if rSets (Q.ro (Q.el (P.br (P.el la p)) k)) = 0 then (0 : Int) else 1) (P.lz (P.br (P.el la p))).toNat + (if rSets (Q.ro (Q.el (P.br (P.el la p)) (((P.lz (P.br (P.el la p))).toNat : Nat) : Int))) = 0 then (0 : Int) else 1)) = _
    rw [e, show (((P.lz (P.br (P.el la p))).toNat : Nat) : Int) = P.lz (P.br (P.el la p)) from by omega, m6.2.2, x0, if_neg o]
    omega
  have wo : ∀ b : Int, 0 ≤ b → b < P.lz la → b ≠ c → b ≠ p → WSB Q la b = WSB P la b := fun b b0 b1 n1 n2 => by
    rw [ww b b0 b1]
    unfold WSB CSR
    have un := (m.2.2.2.1 b b0 b1).2 n1 n2
    rw [un.1]
    congr 1
    refine sumI_eq (fun k k0 k1 => ?_)
    have k2 : k < P.lz (P.br (P.el la b)) := by omega
    have f := m.rown a b0 b1 k0 k2 0
    rw [un.2 k k0 k2, show Q.ro (P.el (P.br (P.el la b)) k) = P.ro (P.el (P.br (P.el la b)) k) from f]
  unfold NST
  rw [m.2.1.1]
  have s1 := sumI_one (f := fun b => WSB P la b) (g := zup (fun b => WSB P la b) c (WSB P la c - 1)) (n := (P.lz la).toNat) (k := c) (d := -1) z2.1 (by omega) (by rw [zup_eq]; omega) (fun i _ _ ne => zup_ne _ _ ne)
  have s2 : sumI (fun b => WSB Q la b) (P.lz la).toNat ≤ sumI (zup (zup (fun b => WSB P la b) c (WSB P la c - 1)) p (WSB P la p + 1)) (P.lz la).toNat := sumI_le (fun b b0 b1 => by
    by_cases u : b = p
    · rw [u, zup_eq, wp]; exact Int.le_refl _
    · rw [zup_ne _ _ u]
      by_cases v : b = c
      · rw [v, zup_eq]; omega
      · rw [zup_ne _ _ v, wo b b0 (by omega) v u]; exact Int.le_refl _)
  have s3 := sumI_one (f := zup (fun b => WSB P la b) c (WSB P la c - 1)) (g := zup (zup (fun b => WSB P la b) c (WSB P la c - 1)) p (WSB P la p + 1)) (n := (P.lz la).toNat) (k := p) (d := 1) z3.1 (by omega) (by rw [zup_eq, zup_ne _ _ (fun q => m0.1 q.symm)]) (fun i _ _ ne => zup_ne _ _ ne)
  omega
theorem SSP.mvd (s : SSP P la) (m : MVD L P L' Q la c j p x) (a : ALP L P cO cI cZ ed la) (lp : LPK P la t h p) (il : INL P la t ins) (my : MAY P ins x) (tc : t c ≠ 0) : SSP Q la := by
  obtain ⟨h0, h1, h2, h3, h4, h5, h6, h7⟩ := s
  have ss := rSets_spec (P.ro x)
  have n := NST.mvd m a (by have := my.2.2; omega)
  exact ⟨by rw [m.2.1.1]; exact h0, h1.mvd m a h0, h2.mvd m a, h3.mvd m a, h4.mvd h3 m a lp il my tc, h5.mvd m a, by omega, h7.mvd m a⟩
theorem LPK.mvd (lp : LPK P la t h p) (m : MVD L P L' Q la c j p x) (a : ALP L P cO cI cZ ed la) : LPK Q la t h p := by
  obtain ⟨⟨th, h0, h1⟩, t0, tp, ep, oh, ob⟩ := lp
  have z := m.2.1.1
  have p9 := m.2.2.1.2.2.1
  exact ⟨⟨th, h0, by rw [z]; exact h1⟩, t0, tp, (m.edg a p9.1 p9.2).mpr ep, fun q q0 q1 e => by
    rw [z] at q1
    exact oh q q0 q1 ((m.edg a q0 q1).mp e), fun b b0 b1 tb ne q q0 q1 e => by
    rw [z] at b1 q1
    exact ob b b0 b1 tb ne q q0 q1 ((m.edg a q0 q1).mp e)⟩
theorem INL.mvd (il : INL P la t ins) (s : SNG P la) (m : MVD L P L' Q la c j p x) (a : ALP L P cO cI cZ ed la) (tp : t p = 0) (o : rSets (P.ro x) ≠ 0) : INL Q la t (zup ins (P.rt x) 0) := fun b b0 b1 tb r w => by
  rw [m.2.1.1] at b1
  have nb : b ≠ p := fun e => by rw [e] at tb; exact tb tp
  have m0 := m.2.2.1
  have ne : r ≠ P.rt x ∧ SIB P la b r := by
    rcases w with ⟨k, k0, k1, e⟩ | ⟨i, i0, _, i1, o2, e⟩
    · obtain ⟨z, f⟩ := m.ph a b0 b1
      rw [z] at k1
      have q := f k k0 k1
      have e2 : P.pt (P.el (P.bp (P.el la b)) k) = r := by rw [← e, q.1]; exact (q.2.1 0).symm
      refine ⟨fun er => ?_, Or.inl ⟨k, k0, k1, e2⟩⟩
      exact s.2.2 b c k j b0 b1 m0.2.1.1 m0.2.1.2 k0 k1 m0.2.2.2.1.1 m0.2.2.2.1.2 (by rw [← m0.2.2.2.2]; exact o) (by rw [e2, er, m0.2.2.2.2])
    · obtain ⟨⟨g0, g1⟩, ⟨g2, g3⟩, g4⟩ := m.row a b0 b1 i0 i1
      have e1 : PB9 c p (P.lz (P.br (P.el la p))) b i = b := if_neg (fun q => nb q.1)
      have e3 : PI9 c j p (P.lz (P.br (P.el la p))) b i = if b = c ∧ j ≤ i then i + 1 else i := if_neg (fun q => nb q.1)
      rw [e1] at g3 g4
      have f := m.rown a b0 b1 g2 g3
      have f0 : Q.ro _ = P.ro _ := f 0
      have f1 : Q.rt _ = P.rt _ := f 1
      rw [g4, f0] at o2
      rw [g4, f1] at e
      refine ⟨fun er => ?_, Or.inr ⟨_, g2, g3, g3, o2, e⟩⟩
      have u := s.2.1 b c _ j b0 b1 m0.2.1.1 m0.2.1.2 g2 g3 m0.2.2.2.1.1 m0.2.2.2.1.2 o2 (by rw [← m0.2.2.2.2]; exact o) (by rw [e, er, m0.2.2.2.2])
      rw [e3] at u
      by_cases v : b = c ∧ j ≤ i
      · rw [if_pos v] at u; omega
      · rw [if_neg v] at u; omega
  rw [zup_ne _ _ ne.1]
  exact il b b0 b1 tb r ne.2
/-! how a move is done: out of one list, into another -/
theorem OBS.ls1 (w : LS1 l P Q) (kl : P.kd l = 30) (kr : P.kd (P.le l) = 31) (L : List Nat) : OBS L P L Q := fun z mz n1 n2 => ⟨mz, fun f => w.2.2.1 z (fun e => n1 (by rw [e]; exact kl)) f, fun f => by rw [w.1], w.2.2.2 z (fun e => n2 (by rw [e]; exact kr)), by show Q.2.2.2.1 z = P.2.2.2.1 z; rw [w.2.1], by show Q.2.2.2.2 z = P.2.2.2.2 z; rw [w.2.1]⟩
theorem SM9.trans9 (u : SM9 z P P1) (v : SM9 z P1 Q) : SM9 z P Q := ⟨fun f => (v.1 f).trans (u.1 f), fun f => (v.2.1 f).trans (u.2.1 f), v.2.2.1.trans u.2.2.1, v.2.2.2.1.trans u.2.2.2.1, v.2.2.2.2.trans u.2.2.2.2⟩
theorem OBS.gl1 (h : ALP L P cO cI cZ ed la) (w : GL1 l q0 L P L' Q) (ml : l ∈ L) (kl : P.kd l = 30) (fx : P.fl l = 1 ∨ P.le l ∉ L) : OBS L P L' Q := fun z mz n1 n2 => by
  have ne : z ≠ l := fun e => n1 (by rw [e]; exact kl)
  have nl := h.nle ml kl fx mz n2
  exact ⟨w.2.1 z mz nl, w.sm z mz ne nl⟩
theorem OBS.trans {L2 : List Nat} (u : OBS L P L' P1) (v : OBS L' P1 L2 Q) : OBS L P L2 Q := fun z mz n1 n2 => by
  obtain ⟨m1, s1⟩ := u z mz n1 n2
  have k : P1.kd z = P.kd z := s1.2.1 0
  obtain ⟨m2, s2⟩ := v z m1 (by rw [k]; exact n1) (by rw [k]; exact n2)
  exact ⟨m2, s1.trans9 s2⟩
/-- another list stays when one grows -/
theorem ALP.untg {m : Nat} (h : ALP L P cO cI cZ ed la) (w : GL1 l q0 L P L' Q) (ml : l ∈ L) (kl : P.kd l = 30) (fx : P.fl l = 1 ∨ P.le l ∉ L) (mm : m ∈ L) (km : P.kd m = 30) (n : m ≠ l) (lm : ∃ k : Nat, LOK L P cO k m) : UNT P Q m := by
  have s := w.sm m mm n (h.nle ml kl fx mm (by omega))
  have le : Q.le m = P.le m := s.2.1 1
  refine ⟨s.1 0, fun k k0 k1 => ?_⟩
  obtain ⟨kk, lk⟩ := lm
  have r := h.rle ml kl fx lk (by omega) n
  have o := (w.sm _ r.1 r.2.1 r.2.2).2.2.1
  unfold PO.el
  rw [le, o]
theorem MVD.of (a : ALP L P cO cI cZ ed la) (a1 : ALP L P1 cO cI cZ ed la) (w : LS1 l P P1) (fl : P.fl l = 1) (z1 : P1.lz l = P.lz l - 1) (rm : RMV (P.oa (P.le l)) (P1.oa (P.le l)) j (P.lz l)) (v : GL1 l0 q0 L P1 L' Q) (fx : P1.fl l0 = 1 ∨ P1.le l0 ∉ L) (z2 : Q.lz l0 = P1.lz l0 + 1) (la9 : Q.oa q0 (P1.lz l0).toNat = some x) (old : ∀ k : Nat, (k : Int) < P1.lz l0 → Q.oa q0 k = P1.oa (P1.le l0) k) (el : P.br (P.el la c) = l) (el0 : P.br (P.el la p) = l0) (c0 : 0 ≤ c) (c1 : c < P.lz la) (p0 : 0 ≤ p) (p1 : p < P.lz la) (ne : c ≠ p) (j0 : 0 ≤ j) (j1 : j < P.lz l) (ex : x = P.el l j) : MVD L P L' Q la c j p x := by
  have ow : ∀ b : Int, 0 ≤ b → b < P.lz la → (P.ek (P.br (P.el la b)) = 17 ∧ P.ow (P.br (P.el la b)) = P.el la b ∧ P.br (P.el la b) ∈ L ∧ P.kd (P.br (P.el la b)) = 30) ∧ P.ek (P.bp (P.el la b)) = 15 ∧ P.ow (P.bp (P.el la b)) = P.el la b ∧ P.bp (P.el la b) ∈ L ∧ P.kd (P.bp (P.el la b)) = 30 := fun b b0 b1 => by
    have r := (a.inb ⟨b, b0, b1, rfl⟩).1
    exact a.2.1.2.2.1 _ r.1 r.2
  have df : ∀ b e : Int, 0 ≤ b → b < P.lz la → 0 ≤ e → e < P.lz la → b ≠ e → P.el la b ≠ P.el la e := fun b e b0 b1 e0 e1 n => by
    rcases Int.lt_or_le b e with q | q
    · exact a.2.1.2.2.2 b e b0 q e1
    · exact fun s => a.2.1.2.2.2 e b e0 (by omega) b1 s.symm
  have oc := ow c c0 c1
  have op := ow p p0 p1
  rw [el] at oc
  rw [el0] at op
  have kd : ∀ z : Nat, P1.kd z = P.kd z := fun z => w.kd z
  have nll : l0 ≠ l := fun q => df c p c0 c1 p0 p1 ne (by rw [← oc.1.2.1, ← op.1.2.1, q])
  have kr : P.kd (P.le l) = 31 := ((a.owa l oc.1.2.2.1 oc.1.2.2.2).2 fl).2.1
  have l0m : l0 ∈ L := op.1.2.2.1
  have l0k : P1.kd l0 = 30 := by rw [kd]; exact op.1.2.2.2
  have u1 : ∀ m : Nat, m ∈ L → P.kd m = 30 → m ≠ l → UNT P P1 m := fun m mm km n => a.unt w oc.1.2.2.1 oc.1.2.2.2 fl mm km n
  have lkk : ∀ m : Nat, m ∈ L → P1.kd m = 30 → ∃ k : Nat, LOK L P1 cO k m := fun m mm km => ⟨_, (a1.gla m mm km).1⟩
  have u2 : ∀ m : Nat, m ∈ L → P.kd m = 30 → m ≠ l0 → UNT P1 Q m := fun m mm km n => a1.untg v l0m l0k fx mm (by rw [kd]; exact km) n (lkk m mm (by rw [kd]; exact km))
  have nla : la ≠ l ∧ la ≠ l0 := ⟨fun q => by have s := a.2.1.2.1; rw [q, oc.1.1] at s; omega, fun q => by have s := a.2.1.2.1; rw [q, op.1.1] at s; omega⟩
  refine ⟨(OBS.ls1 w oc.1.2.2.2 kr L).trans (OBS.gl1 a1 v l0m l0k fx), (u1 la a.lok.1 a.lok.2.1 nla.1).trans (u2 la a.lok.1 a.lok.2.1 nla.2), ⟨ne, ⟨c0, c1⟩, ⟨p0, p1⟩, ⟨j0, by rw [el]; exact j1⟩, by rw [el]; exact ex⟩, fun b b0 b1 => ?_, ?_, ?_⟩
  · have o := ow b b0 b1
    have n1 : P.bp (P.el la b) ≠ l := fun q => by have s := o.2.1; rw [q, oc.1.1] at s; omega
    have n2 : P.bp (P.el la b) ≠ l0 := fun q => by have s := o.2.1; rw [q, op.1.1] at s; omega
    refine ⟨(u1 _ o.2.2.2.1 o.2.2.2.2 n1).trans (u2 _ o.2.2.2.1 o.2.2.2.2 n2), fun s1 s2 => ?_⟩
    have n3 : P.br (P.el la b) ≠ l := fun q => df b c b0 b1 c0 c1 s1 (by rw [← o.1.2.1, q, oc.1.2.1])
    have n4 : P.br (P.el la b) ≠ l0 := fun q => df b p b0 b1 p0 p1 s2 (by rw [← o.1.2.1, q, op.1.2.1])
    exact (u1 _ o.1.2.2.1 o.1.2.2.2 n3).trans (u2 _ o.1.2.2.1 o.1.2.2.2 n4)
  · rw [el]
    have t := u2 l oc.1.2.2.1 oc.1.2.2.2 (fun q => nll q.symm)
    refine ⟨t.1.trans z1, fun k k0 k1 => ?_⟩
    rw [t.2 k k0 (by omega)]
    exact rmv_el9 w rm k k0 k1
  · rw [el0]
    have t := u1 l0 l0m op.1.2.2.2 nll
    refine ⟨by rw [z2, t.1], fun k k0 k1 => ?_, ?_⟩
    · rw [v.elx old k0 (by rw [t.1]; exact k1)]; exact t.2 k k0 k1
    · rw [← t.1]; exact v.elast la9
end MVK8
