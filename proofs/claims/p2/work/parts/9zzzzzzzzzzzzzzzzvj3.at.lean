/-! behind a pass: the function is put down, the whole pool is there again -/
section ATP9
variable {L L' E : List Nat} {P P' Q Q' : PO} {F : Nat → Prop} {cO cI cZ : ClassId} {ed la lb lr lp x z : Nat} {n p n' p' s c s' c' : Int} {l j : Nat}
/-- a list of the Code that is parked is as it was -/
theorem CLF.upk (w : CLF L Q l j) (nf : ¬ F l) (g : GLR L Q cO cI cZ ed) (fc : FCL L Q F) (k : KEG E L (Q.park F) L' P') : CLF L' (P'.unp Q L F) l j ∧ P'.lz l = Q.lz l ∧ ∀ i : Int, 0 ≤ i → i < Q.lz l → P'.el l i = Q.el l i := by
  have u := k.unp w.1 (Or.inl (by rw [w.2.1]; decide))
  obtain ⟨s1, s2, s3, s4⟩ := k.unpd w.1 nf (by rw [w.2.1]; unfold K89; omega)
  have le : P'.le l = Q.le l := s2 1
  refine ⟨⟨u.1, u.2.1.trans w.2.1, u.2.2.trans w.2.2.1, (s2 9).trans w.2.2.2⟩, s1 0, fun i i0 i1 => ?_⟩
  have fl := g.2.2.2.1.fl1 w.1 w.2.1 (by omega)
  obtain ⟨q1, q2, q3, _⟩ := (g.2.2.2.1 l w.1 w.2.1).2 fl
  have nr : ¬ F (Q.le l) := fun f => nf (by have q := fc.2.2.2.1 _ q1 f (by omega) (by rw [q2]; unfold K89; omega); rw [q3] at q; exact q)
  have t := k.unpd q1 nr (by rw [q2]; unfold K89; omega)
  unfold PO.el
  rw [le, t.2.2.1]; rfl
theorem ATT.keg (h : ATT L P cO cI cZ ed la lb lr lp n p s c) (hed' : ed ∉ L') (n1 : L.Nodup) (n2 : L'.Nodup) (a : ALP L' P' cO cI cZ ed la) (v' : LVA L' P') (k : KEG E L P L' P') : ATW L' P' cO cI cZ ed la lb lr lp n p (s + (PSI wSL L' P' - PSI wSL L P)) (c + (PSI wCE L' P' - PSI wCE L P)) := by
  obtain ⟨Q, F, rfl, fc, ⟨fla, flb, flr, flp⟩, ⟨u1, u2⟩, ⟨g, f, v⟩, ⟨c1, c2, c3, ne⟩, _, ⟨d1, d2, n0, n9, p0, p9, l1, l2⟩, ps, pc⟩ := h
  have p1 := PSI.unp (w := wSL) n1 n2 g fc k
  have p2 := PSI.unp (w := wCE) n1 n2 g fc k
  have b1 := c1.upk flb g fc k
  have b2 := c2.upk flr g fc k
  have b3 := c3.upk flp g fc k
  have fk := a.fok k f.1 fla
  have ga : CLF L' P' la 12 := ⟨fk.1.1, a.lok.2.1, fk.1.2.2.1, fk.1.2.2.2⟩
  have nf : ∀ z : Nat, z ∈ L → ¬ F z → K89 (Q.kd z) → ¬ FNP (P'.unp Q L F) la z := fun z m nz kz fz => by
    have e := park_out (P := Q) nz
    have q := k.1 z m (fun w => pkk_not (Q.kd z) (by rw [← e, w]; unfold K89; omega))
    have r := a.glr.fnk9 hed' ga q.1 (show FNP P' la z from fz)
    rw [q.2.1, e] at r
    exact pkk_not _ r
  have hB : ATB L' (P'.unp Q L F) cO cI cZ ed la lb lr lp n p (s + (PSI wSL L' P' - PSI wSL L (Q.park F))) (c + (PSI wCE L' P' - PSI wCE L (Q.park F))) := by
    refine ⟨⟨g.unpark fc k a.glf, fk, v.unp v' g fc k⟩, ⟨b1.1, b2.1, b3.1, ne⟩, ⟨fun i i0 i1 => ?_, fun i i0 i1 => ?_⟩, ⟨fun i j i0 ij j1 => ?_, fun i j i0 ij j1 => ?_, n0, by rw [show (P'.unp Q L F).lz lr = P'.lz lr from rfl, b2.2.1]; exact n9, p0, by rw [show (P'.unp Q L F).lz lp = P'.lz lp from rfl, b3.2.1]; exact p9, by rw [show (P'.unp Q L F).lz lr = P'.lz lr from rfl, b2.2.1]; exact l1, by rw [show (P'.unp Q L F).lz lp = P'.lz lp from rfl, b3.2.1]; exact l2⟩, by omega, by omega⟩
    · have i1 : i < Q.lz lr := by have e : (P'.unp Q L F).lz lr = P'.lz lr := rfl; have e2 := b2.2.1; omega
      have m := (g.lk c2).2.2.2.2 i (by omega) i1
      have e : (P'.unp Q L F).el lr i = Q.el lr i := b2.2.2 i (by omega) i1
      rw [e]
      exact nf _ m.2.1 (u1 i i0 i1) (by rw [m.2.2]; unfold K89; omega)
    · have i1 : i < Q.lz lp := by have e : (P'.unp Q L F).lz lp = P'.lz lp := rfl; have e2 := b3.2.1; omega
      have m := (g.lk c3).2.2.2.2 i (by omega) i1
      have e : (P'.unp Q L F).el lp i = Q.el lp i := b3.2.2 i (by omega) i1
      rw [e]
      exact nf _ m.2.1 (u2 i i0 i1) (by rw [m.2.2]; unfold K89; omega)
    · have e : (P'.unp Q L F).lz lr = Q.lz lr := b2.2.1
      rw [e] at j1
      show P'.el lr i ≠ P'.el lr j
      rw [b2.2.2 i i0 (by omega), b2.2.2 j (by omega) j1]; exact d1 i j i0 ij j1
    · have e : (P'.unp Q L F).lz lp = Q.lz lp := b3.2.1
      rw [e] at j1
      show P'.el lp i ≠ P'.el lp j
      rw [b3.2.2 i i0 (by omega), b3.2.2 j (by omega) j1]; exact d2 i j i0 ij j1
  refine ⟨_, funext (pE_unp k), fun z m kz => ?_, hB⟩
  show (P'.unp Q L F).kd z = _
  by_cases w : z ∈ L ∧ ¬ F z
  · have e := park_out (P := Q) w.2
    have q := (k.1 z w.1 (fun v => pkk_not (Q.kd z) (by rw [← e, v]; unfold K89; omega))).2.1
    rw [unp_in w, q, e]
    have t := pkk_cases (Q.kd z)
    rw [q, e] at kz
    omega
  · exact unp_out w
end ATP9
