/-! one more of a Code's list is taken -/
/-- a list of the Code as it was, or one more at its end that is new -/
def LGX (L : List Nat) (Q Q' : PO) (l : Nat) : Prop := (Q'.lz l = Q.lz l ∨ (Q'.lz l = Q.lz l + 1 ∧ Q'.el l (Q.lz l) ∉ L)) ∧ ∀ i : Int, 0 ≤ i → i < Q.lz l → Q'.el l i = Q.el l i
section ATG9
variable {L L' E : List Nat} {P P' Q Q' : PO} {F : Nat → Prop} {cO cI cZ : ClassId} {ed la lb lr lp x z : Nat} {n p n' p' s c s' c' : Int} {l j : Nat}
theorem CLF.kg9 (w : CLF L P l j) (k : KEG E L P L' P') : CLF L' P' l j := by
  have q := k.1 l w.1 (by rw [w.2.1]; decide)
  exact ⟨q.1, q.2.1.trans w.2.1, q.2.2.1.trans w.2.2.1, (q.2.2.2.1 w.2.1 w.2.2.2).1⟩
theorem LGX.kg9 (w : CLF L P l j) (k : KEG E L P L' P') (n : l ∉ E) : LGX L P P' l := by
  have q := (k.1 l w.1 (by rw [w.2.1]; decide)).2.2.2.1 w.2.1 w.2.2.2
  exact ⟨Or.inl (q.2 n).1, (q.2 n).2⟩
/-- what the function holds is in the pool, or the empty row -/
theorem GLR.fnm (h : GLR L Q cO cI cZ ed) (cl : CLF L Q la 12) (f : FNP Q la z) : z ∈ L ∨ z = ed := by
  have row : ∀ l : Nat, l ∈ L → Q.kd l = 30 → Q.le l ∈ L ∨ Q.le l = ed := fun l m k => by
    by_cases q : Q.fl l = 1
    · exact Or.inl ((h.2.2.2.1 l m k).2 q).1
    · exact Or.inr ((h.2.2.2.1 l m k).1 q).2
  rcases f with f | f | ⟨b, ⟨b0, b1⟩, f⟩
  · exact Or.inl (by rw [f]; exact cl.1)
  · rw [f]; exact row la cl.1 cl.2.1
  · have q := (h.1.1 la cl.1 cl.2.1).1
    rw [cl.2.2.1] at q
    obtain ⟨_, mb, kb⟩ := q.2.2.2.2 b b0 b1
    have oc := h.2.2.2.2 _ mb kb
    have lr := (h.1.1 _ oc.1.2.2.1 oc.1.2.2.2).1
    have lp := (h.1.1 _ oc.2.2.2.1 oc.2.2.2.2).1
    rw [oc.2.1] at lp
    rcases f with f | f | f | f | f | f | ⟨i, ⟨i0, i1⟩, f⟩ | ⟨i, ⟨i0, i1⟩, f⟩
    · exact Or.inl (by rw [f]; exact mb)
    · exact Or.inl (by rw [f]; exact (h.1.2.1 _ mb kb).1.1)
    · exact Or.inl (by rw [f]; exact oc.1.2.2.1)
    · exact Or.inl (by rw [f]; exact oc.2.2.2.1)
    · rw [f]; exact row _ oc.1.2.2.1 oc.1.2.2.2
    · rw [f]; exact row _ oc.2.2.2.1 oc.2.2.2.2
    · exact Or.inl (by rw [f]; exact (lr.2.2.2.2 i i0 i1).2.1)
    · obtain ⟨_, mx, kx⟩ := lp.2.2.2.2 i i0 i1
      have pk := h.2.2.1 _ mx kx
      rcases f with f | f | f | f
      · exact Or.inl (by rw [f]; exact mx)
      · exact Or.inl (by rw [f]; exact pk.2.1.1)
      · exact Or.inl (by rw [f]; exact pk.2.2.1.1)
      · exact Or.inl (by rw [f]; exact pk.2.2.2.1.1)
/-- nothing of the function has changed: it holds no more than it did -/
theorem GLR.fns (h : GLR L Q cO cI cZ ed) (hed : ed ∉ L) (cl : CLF L Q la 12) (same : ∀ z : Nat, z ∈ L → FNP Q la z → z ∈ L' ∧ SM9 z Q Q') (f : FNP Q' la z) : FNP Q la z := by
  have fc := h.fcl hed cl
  have lst : ∀ l : Nat, l ∈ L → Q.kd l = 30 → FNP Q la l → Q'.lz l = Q.lz l ∧ Q'.le l = Q.le l ∧ ∀ i : Int, 0 ≤ i → i < Q.lz l → Q'.el l i = Q.el l i := fun l m k fl => by
    obtain ⟨m1, s1⟩ := same l m fl
    have le2 : Q'.le l = Q.le l := s1.2.1 1
    refine ⟨s1.1 0, le2, fun i i0 i1 => ?_⟩
    have f1 := h.2.2.2.1.fl1 m k (by omega)
    obtain ⟨o1, _⟩ := (h.2.2.2.1 l m k).2 f1
    obtain ⟨m2, s2⟩ := same _ o1 ((fc.1 l m fl k).1 f1)
    unfold PO.el
    rw [le2, s2.2.2.1]
  have ll := lst la cl.1 cl.2.1 (Or.inl rfl)
  rcases f with f | f | ⟨b, ⟨b0, b1⟩, f⟩
  · exact Or.inl f
  · exact Or.inr (Or.inl (f.trans ll.2.1))
  · rw [ll.1] at b1
    rw [ll.2.2 b b0 b1] at f
    refine Or.inr (Or.inr ⟨b, ⟨b0, b1⟩, ?_⟩)
    have q := (h.1.1 la cl.1 cl.2.1).1
    rw [cl.2.2.1] at q
    obtain ⟨_, mb, kb⟩ := q.2.2.2.2 b b0 b1
    have fb : FNP Q la (Q.el la b) := Or.inr (Or.inr ⟨b, ⟨b0, b1⟩, Or.inl rfl⟩)
    obtain ⟨_, sb⟩ := same _ mb fb
    have ebe : Q'.be (Q.el la b) = Q.be (Q.el la b) := sb.2.1 3
    have ebr : Q'.br (Q.el la b) = Q.br (Q.el la b) := sb.2.1 2
    have ebp : Q'.bp (Q.el la b) = Q.bp (Q.el la b) := sb.2.1 1
    have oc := h.2.2.2.2 _ mb kb
    have fx := fc.2.1 _ mb fb kb
    have lr := lst _ oc.1.2.2.1 oc.1.2.2.2 fx.2.1
    have lp := lst _ oc.2.2.2.1 oc.2.2.2.2 fx.2.2
    unfold FNB at f ⊢
    rw [ebe, ebr, ebp, lr.1, lr.2.1, lp.1, lp.2.1] at f
    rcases f with f | f | f | f | f | f | ⟨i, ⟨i0, i1⟩, f⟩ | ⟨i, ⟨i0, i1⟩, f⟩
    · exact Or.inl f
    · exact Or.inr (Or.inl f)
    · exact Or.inr (Or.inr (Or.inl f))
    · exact Or.inr (Or.inr (Or.inr (Or.inl f)))
    · exact Or.inr (Or.inr (Or.inr (Or.inr (Or.inl f))))
    · exact Or.inr (Or.inr (Or.inr (Or.inr (Or.inr (Or.inl f)))))
    · rw [lr.2.2 i i0 i1] at f
      exact Or.inr (Or.inr (Or.inr (Or.inr (Or.inr (Or.inr (Or.inl ⟨i, ⟨i0, i1⟩, f⟩))))))
    · rw [lp.2.2 i i0 i1] at f
      refine Or.inr (Or.inr (Or.inr (Or.inr (Or.inr (Or.inr (Or.inr ⟨i, ⟨i0, i1⟩, ?_⟩))))))
      have lk := (h.1.1 _ oc.2.2.2.1 oc.2.2.2.2).1
      rw [oc.2.1] at lk
      obtain ⟨_, mx, kx⟩ := lk.2.2.2.2 i i0 i1
      obtain ⟨_, sx⟩ := same _ mx ((fc.1 _ oc.2.2.2.1 fx.2.2 oc.2.2.2.2).2 i i0 i1)
      have p1 : Q'.pp (Q.el (Q.bp (Q.el la b)) i) = Q.pp (Q.el (Q.bp (Q.el la b)) i) := sx.2.1 1
      have p2 : Q'.pu (Q.el (Q.bp (Q.el la b)) i) = Q.pu (Q.el (Q.bp (Q.el la b)) i) := sx.2.1 2
      have p3 : Q'.pr (Q.el (Q.bp (Q.el la b)) i) = Q.pr (Q.el (Q.bp (Q.el la b)) i) := sx.2.1 3
      unfold FNQ at f ⊢
      rw [p1, p2, p3] at f
      exact f
theorem LGX.dsl (h : GLR L Q cO cI cZ ed) (w : CLF L Q l j) (g : LGX L Q Q' l) (d : DSL Q l) : DSL Q' l := fun a b a0 ab b1 => by
  have lk := h.lk w
  by_cases q : b < Q.lz l
  · rw [g.2 a a0 (by omega), g.2 b (by omega) q]; exact d a b a0 ab q
  · rcases g.1 with e | ⟨e, f⟩
    · omega
    · intro r
      rw [g.2 a a0 (by omega), show b = Q.lz l from by omega] at r
      exact f (by rw [← r]; exact (lk.2.2.2.2 a a0 (by omega)).2.1)
theorem LGX.unt (h : GLR L Q cO cI cZ ed) (hed : ed ∉ L) (hed' : ed ∉ L') (cl : CLF L Q la 12) (same : ∀ z : Nat, z ∈ L → FNP Q la z → z ∈ L' ∧ SM9 z Q Q') (h' : GLR L' Q' cO cI cZ ed) (w' : CLF L' Q' l j) (g : LGX L Q Q' l) (n0 : 0 ≤ n) (nn : n ≤ n') (u : ∀ k : Int, n ≤ k → k < Q.lz l → ¬ FNP Q la (Q.el l k)) : ∀ k : Int, n' ≤ k → k < Q'.lz l → ¬ FNP Q' la (Q'.el l k) := fun k k0 k1 f => by
  have f9 := h.fns hed cl same f
  by_cases q : k < Q.lz l
  · rw [g.2 k (by omega) q] at f9; exact u k (by omega) q f9
  · rcases g.1 with e | ⟨e, nl⟩
    · omega
    · have m := ((h'.lk w').2.2.2.2 k (by omega) k1).2.1
      have ek : k = Q.lz l := by omega
      rcases h.fnm cl f9 with r | r
      · rw [ek] at r; exact nl r
      · rw [r] at m; exact hed' m
theorem ATB.grow (h : ATB L Q cO cI cZ ed la lb lr lp n p s c) (hed : ed ∉ L) (hed' : ed ∉ L') (k : KEG E L Q L' Q') (g' : GLR L' Q' cO cI cZ ed) (v' : LVA L' Q') (same : ∀ z : Nat, z ∈ L → FNP Q la z → z ∈ L' ∧ SM9 z Q Q') (gr : LGX L Q Q' lr) (gp : LGX L Q Q' lp) (nn : n ≤ n') (pp : p ≤ p') (nz : n' ≤ Q'.lz lr) (pz : p' ≤ Q'.lz lp) (lz1 : Q'.lz lr ≤ 4164) (lz2 : Q'.lz lp ≤ 4164) (hs : s' - s ≤ PSI wSL L' Q' - PSI wSL L Q) (hc : c' - c ≤ PSI wCE L' Q' - PSI wCE L Q) : ATB L' Q' cO cI cZ ed la lb lr lp n' p' s' c' := by
  obtain ⟨⟨g, f, v⟩, ⟨c1, c2, c3, ne⟩, ⟨u1, u2⟩, ⟨d1, d2, n0, n1, p0, p1, l1, l2⟩, ps, pc⟩ := h
  exact ⟨⟨g', f.ext g hed same (g.lzf f.1), v'⟩, ⟨c1.kg9 k, c2.kg9 k, c3.kg9 k, ne⟩, ⟨LGX.unt g hed hed' f.1 same g' (c2.kg9 k) gr n0 nn u1, LGX.unt g hed hed' f.1 same g' (c3.kg9 k) gp p0 pp u2⟩, ⟨gr.dsl g c2 d1, gp.dsl g c3 d2, by omega, nz, by omega, pz, lz1, lz2⟩, by omega, by omega⟩
/-- a row of the Code is taken -/
theorem ATB.row (h : ATB L Q cO cI cZ ed la lb lr lp n p s c) (hed : ed ∉ L) (hed' : ed ∉ L') (k : KEG [lr] L Q L' Q') (g' : GLR L' Q' cO cI cZ ed) (v' : LVA L' Q') (w : CRH lr x n L Q L' Q') (e : x = Q'.el lr n ∧ (∀ i : Int, 0 ≤ i → i < Q.lz lr → Q'.el lr i = Q.el lr i) ∧ (Q'.lz lr = Q.lz lr ∨ (Q'.lz lr = Q.lz lr + 1 ∧ n = Q.lz lr ∧ x ∉ L))) (t : Q'.rt x = 0) (l0 : 0 < Q.lz la) (n4 : n < 4164) (hs : s' - s ≤ PSI wSL L' Q' - PSI wSL L Q) (hc : c' - c ≤ PSI wCE L' Q' - PSI wCE L Q) : ATB L' Q' cO cI cZ ed la lb lr lp (n + 1) p s' c' ∧ ROK9 Q' x ∧ ¬ FNP Q' la x ∧ FNE Q Q' la := by
  have hh := h
  obtain ⟨⟨g, f, v⟩, ⟨c1, c2, c3, ne⟩, ⟨u1, u2⟩, ⟨d1, d2, n0, n9, p0, p9, l1, l2⟩, ps, pc⟩ := h
  have n2 : lr ≠ la := fun e => by have a := c2.2.2.1; have b := f.1.2.2.1; rw [e] at a; omega
  have n3 : lp ≠ lr := fun e => by have a := c2.2.2.1; have b := c3.2.2.1; rw [e] at b; omega
  have w1 := w.2.1.1
  have nx : x ∈ L → ¬ FNP Q la x := fun m => by
    rcases e.2.2 with q | q
    · rw [e.1, e.2.1 n n0 (by omega)]; exact u1 n (Int.le_refl _) (by omega)
    · exact absurd m q.2.2
  have same : ∀ z : Nat, z ∈ L → FNP Q la z → z ∈ L' ∧ SM9 z Q Q' := fun z m fz => w.2.2.2.1 z m (fun S => by
    rcases S with S | S | S
    · exact nx (by rw [← S]; exact m) (by rw [← S]; exact fz)
    · exact g.fnl hed f.1 c2 n2 (by rw [← S]; exact fz)
    · exact g.fnr hed f.1 c2 n2 m S.1 S.2 fz)
  have gr : LGX L Q Q' lr := ⟨by
    rcases e.2.2 with q | q
    · exact Or.inl q
    · exact Or.inr ⟨q.1, by rw [← q.2.1, ← e.1]; exact q.2.2⟩, e.2.1⟩
  have rk := g'.2.1 x w.1.1 w.1.2.1
  have gp := LGX.kg9 c3 k (by simp; exact n3)
  refine ⟨hh.grow hed hed' k g' v' same gr gp (by omega) (Int.le_refl _) w1 (by rcases gp.1 with q | q <;> omega) (by rcases e.2.2 with q | q <;> omega) (by rcases gp.1 with q | q; omega; exact absurd q.1 (by have q8 := (k.1 lp c3.1 (by rw [c3.2.1]; decide)).2.2.2.1 c3.2.1 c3.2.2.2; have q7 := (q8.2 (by simp; exact n3)).1; omega)) hs hc, ?_, fun f9 => ?_, g.fne hed f l0 same⟩
  rotate_left
  · have f8 := g.fns hed f.1 same f9
    by_cases m : x ∈ L
    · exact nx m f8
    · rcases g.fnm f.1 f8 with r | r
      · exact m r
      · exact hed' (by rw [← r]; exact w.1.1)
  obtain ⟨a1, a2, a3, a4, a5, a6, a7, a8, a9⟩ := rk
  have b1 := w.2.2.1.1
  have b2 := w.2.2.1.2
  have q1 := rUsA_spec (Q'.ro x) (Q'.rA x)
  have q2 := rUsB_spec (Q'.ro x) (Q'.rB x)
  exact ⟨a1, ⟨by omega, by omega⟩, a3, a4, a5, a6, a7, Or.inl (by omega), Or.inl (by omega)⟩
/-- a ROW in hand beside the function -/
theorem ATB.handr (h : ATB L Q cO cI cZ ed la lb lr lp n p s c) (hed : ed ∉ L) (n0 : 0 < n) (r : ROK9 Q x) (ex : x = Q.el lr (n - 1)) : ALP L (Q.park (fun z => FNP Q la z ∨ z = x)) cO cI cZ ed la ∧ ATT L (Q.park (fun z => FNP Q la z ∨ z = x)) cO cI cZ ed la lb lr lp n p s c := by
  obtain ⟨⟨g, f, v⟩, ⟨c1, c2, c3, ne⟩, ⟨u1, u2⟩, ⟨d1, d2, n9, n1, p0, p1, l1, l2⟩, ps⟩ := h
  have kx := ((g.lk c2).2.2.2.2 (n - 1) (by omega) (by omega)).2.2
  rw [← ex] at kx
  have n2 : lr ≠ la := fun e => by have a := c2.2.2.1; have b := f.1.2.2.1; rw [e] at a; omega
  have n3 : lp ≠ la := fun e => by have a := c3.2.2.1; have b := f.1.2.2.1; rw [e] at a; omega
  have nl : ∀ l : Nat, Q.kd l = 30 → l ≠ x := fun l k e => by rw [e] at k; omega
  refine ⟨g.handr hed f kx r, Q, _, rfl, (g.fcl hed f.1).row kx, ⟨Or.inl (Or.inl rfl), fun q => q.elim (g.fnl hed f.1 c1 ne) (nl lb c1.2.1), fun q => q.elim (g.fnl hed f.1 c2 n2) (nl lr c2.2.1), fun q => q.elim (g.fnl hed f.1 c3 n3) (nl lp c3.2.1)⟩, ⟨fun k k0 k1 q => q.elim (u1 k k0 k1) (fun q => ?_), fun k k0 k1 q => q.elim (u2 k k0 k1) (fun q => ?_)⟩, ⟨g, f, v⟩, ⟨c1, c2, c3, ne⟩, ⟨u1, u2⟩, ⟨d1, d2, n9, n1, p0, p1, l1, l2⟩, ps⟩
  · rw [ex] at q; exact d1 (n - 1) k (by omega) (by omega) k1 q.symm
  · have kp := ((g.lk c3).2.2.2.2 k (by omega) k1).2.2
    rw [q] at kp; omega
end ATG9
