/-! a function in hand, and beside it a ROW or a PHI that has just been taken -/
section FNP4
variable {L L' E : List Nat} {P P' : PO} {F : Nat → Prop} {cO cI cZ : ClassId} {ed la x z : Nat}
theorem FOK.rok (f : FOK L P cO cI cZ la) (h : GLR L P cO cI cZ ed) (hed : ed ∉ L) (m : z ∈ L) (fz : FNP P la z) (k : P.kd z = 17) : ROK9 P z := by
  rcases h.fnk hed f.1 m fz with ⟨_, q, _⟩ | ⟨_, q, _⟩ | ⟨b, br, q⟩
  · omega
  · omega
  · have sb := f.2.2.2.2.2 b br.1 br.2
    rcases q with ⟨_, q⟩ | ⟨e, _⟩ | ⟨_, q, _⟩ | ⟨_, q, _⟩ | ⟨_, q, _⟩ | ⟨_, q, _⟩ | ⟨j, jr, e, _⟩ | ⟨j, jr, _, q⟩
    · omega
    · rw [e]; exact sb.1
    · omega
    · omega
    · omega
    · omega
    · rw [e]; exact sb.2.1 j jr.1 jr.2
    · omega
theorem FOK.pik (f : FOK L P cO cI cZ la) (h : GLR L P cO cI cZ ed) (hed : ed ∉ L) (m : z ∈ L) (fz : FNP P la z) (k : P.kd z = 15) : PIK L P cI cZ z := by
  rcases h.fnk hed f.1 m fz with ⟨_, q, _⟩ | ⟨_, q, _⟩ | ⟨b, br, q⟩
  · omega
  · omega
  · have sb := f.2.2.2.2.2 b br.1 br.2
    rcases q with ⟨_, q⟩ | ⟨_, q⟩ | ⟨_, q, _⟩ | ⟨_, q, _⟩ | ⟨_, q, _⟩ | ⟨_, q, _⟩ | ⟨j, jr, _, q⟩ | ⟨j, jr, _, q⟩
    · omega
    · omega
    · omega
    · omega
    · omega
    · omega
    · omega
    · rcases q with ⟨e, _⟩ | ⟨q, _⟩
      · rw [e]; exact sb.2.2 j jr.1 jr.2
      · omega
theorem GLR.handF (h : GLR L P cO cI cZ ed) (c : FCL L P F) (fl : F la) (hr : ∀ z : Nat, z ∈ L → F z → P.kd z = 17 → ROK9 P z) (hp : ∀ z : Nat, z ∈ L → F z → P.kd z = 15 → PIK L P cI cZ z) (f : FOK L P cO cI cZ la) : ALP L (P.park F) cO cI cZ ed la :=
  (h.park c hr hp).alp f.1.1 ((park_in fl).trans f.1.2.1) f.1.2.2.1 f.2.1 f.2.2.1 f.2.2.2.1 f.2.2.2.2.1
theorem FCL.row (c : FCL L P F) (k : P.kd x = 17) : FCL L P (fun z => F z ∨ z = x) := by
  refine ⟨fun y m f e => ?_, fun y m f e => ?_, fun y m f e => ?_, fun y m f e1 e => ?_, fun y m f e => ?_⟩
  all_goals rcases f with f | f
  · exact ⟨fun q => Or.inl ((c.1 y m f e).1 q), fun i i0 i1 => Or.inl ((c.1 y m f e).2 i i0 i1)⟩
  · rw [f] at e; omega
  · exact ⟨Or.inl (c.2.1 y m f e).1, Or.inl (c.2.1 y m f e).2.1, Or.inl (c.2.1 y m f e).2.2⟩
  · rw [f] at e; omega
  · exact ⟨Or.inl (c.2.2.1 y m f e).1, Or.inl (c.2.2.1 y m f e).2.1, Or.inl (c.2.2.1 y m f e).2.2⟩
  · rw [f] at e; omega
  · exact Or.inl (c.2.2.2.1 y m f e1 e)
  · rw [f] at e1; omega
  · exact (c.2.2.2.2 y m f e).imp id Or.inl
  · rw [f] at e; omega
theorem FCL.phi (c : FCL L P F) (p : PIKR L P cI cZ x) : FCL L P (fun z => F z ∨ FNQ P x z) := by
  obtain ⟨⟨a1, a2⟩, ⟨b1, b2, b3, b4⟩, ⟨c1, c2, c3, c4⟩, ⟨d1, d2, d3, d4⟩, _⟩ := p
  have kk : ∀ y : Nat, FNQ P x y → (y = x ∧ P.kd y = 15) ∨ ((P.kd y = 40 ∨ P.kd y = 41 ∨ P.kd y = 42) ∧ P.ow y = x) := fun y q => by
    rcases q with q | q | q | q
    · exact Or.inl ⟨q, by rw [q]; exact a2⟩
    · exact Or.inr ⟨by rw [q]; exact Or.inl b2, by rw [q]; exact b4⟩
    · exact Or.inr ⟨by rw [q]; exact Or.inr (Or.inl c2), by rw [q]; exact c4⟩
    · exact Or.inr ⟨by rw [q]; exact Or.inr (Or.inr d2), by rw [q]; exact d4⟩
  refine ⟨fun y m f e => ?_, fun y m f e => ?_, fun y m f e => ?_, fun y m f e1 e => ?_, fun y m f e => ?_⟩
  all_goals rcases f with f | f
  · exact ⟨fun q => Or.inl ((c.1 y m f e).1 q), fun i i0 i1 => Or.inl ((c.1 y m f e).2 i i0 i1)⟩
  · have q := kk y f
    omega
  · exact ⟨Or.inl (c.2.1 y m f e).1, Or.inl (c.2.1 y m f e).2.1, Or.inl (c.2.1 y m f e).2.2⟩
  · have q := kk y f
    omega
  · exact ⟨Or.inl (c.2.2.1 y m f e).1, Or.inl (c.2.2.1 y m f e).2.1, Or.inl (c.2.2.1 y m f e).2.2⟩
  · rcases kk y f with ⟨q, _⟩ | ⟨q, _⟩
    · rw [q]; exact ⟨Or.inr (Or.inr (Or.inl rfl)), Or.inr (Or.inr (Or.inr (Or.inl rfl))), Or.inr (Or.inr (Or.inr (Or.inr rfl)))⟩
    · omega
  · exact Or.inl (c.2.2.2.1 y m f e1 e)
  · rcases kk y f with ⟨_, q⟩ | ⟨_, q⟩
    · omega
    · rw [q]; exact Or.inr (Or.inl rfl)
  · exact (c.2.2.2.2 y m f e).imp id Or.inl
  · have q := kk y f
    omega
/-- a ROW in hand beside the function -/
theorem GLR.handr (h : GLR L P cO cI cZ ed) (hed : ed ∉ L) (f : FOK L P cO cI cZ la) (k : P.kd x = 17) (r : ROK9 P x) : ALP L (P.park (fun z => FNP P la z ∨ z = x)) cO cI cZ ed la :=
  h.handF ((h.fcl hed f.1).row k) (Or.inl (Or.inl rfl)) (fun z m q e => q.elim (fun q => f.rok h hed m q e) (fun q => by rw [q]; exact r)) (fun z m q e => q.elim (fun q => f.pik h hed m q e) (fun q => by rw [q] at e; omega)) f
/-- a PHI in hand beside the function -/
theorem GLR.handp (h : GLR L P cO cI cZ ed) (hed : ed ∉ L) (f : FOK L P cO cI cZ la) (r : PIK L P cI cZ x) : ALP L (P.park (fun z => FNP P la z ∨ FNQ P x z)) cO cI cZ ed la :=
  h.handF ((h.fcl hed f.1).phi r.r) (Or.inl (Or.inl rfl)) (fun z m q e => q.elim (fun q => f.rok h hed m q e) (fun q => by
    rcases q with q | q | q | q
    · rw [q, r.1.2] at e; omega
    · rw [q, r.2.1.2.1] at e; omega
    · rw [q, r.2.2.1.2.1] at e; omega
    · rw [q, r.2.2.2.1.2.1] at e; omega)) (fun z m q e => q.elim (fun q => f.pik h hed m q e) (fun q => by
    rcases q with q | q | q | q
    · rw [q]; exact r
    · rw [q, r.2.1.2.1] at e; omega
    · rw [q, r.2.2.1.2.1] at e; omega
    · rw [q, r.2.2.2.1.2.1] at e; omega)) f
/-- nothing of a function has changed: it is one still -/
theorem FOK.ext (f : FOK L P cO cI cZ la) (h : GLR L P cO cI cZ ed) (hed : ed ∉ L) (e : ∀ z : Nat, z ∈ L → FNP P la z → z ∈ L' ∧ SM9 z P P') (le : P.lz la ≠ 0 → P.fl la = 1) : FOK L' P' cO cI cZ la := by
  obtain ⟨c, fz, fg, fd, fb, fs⟩ := f
  obtain ⟨ml, sl⟩ := e la c.1 (Or.inl rfl)
  have lz : P'.lz la = P.lz la := sl.1 0
  have el : ∀ (l : Nat), l ∈ L → P.kd l = 30 → FNP P la l → (P.fl l = 1 → FNP P la (P.le l)) → ∀ i : Int, 0 ≤ i → i < P.lz l → P'.lz l = P.lz l ∧ P'.el l i = P.el l i := fun l m k fl ff i i0 i1 => by
    obtain ⟨m1, s1⟩ := e l m fl
    have f1 := h.2.2.2.1.fl1 m k (by omega)
    obtain ⟨o1, _⟩ := (h.2.2.2.1 l m k).2 f1
    obtain ⟨m2, s2⟩ := e _ o1 (ff f1)
    have le2 : P'.le l = P.le l := s1.2.1 1
    refine ⟨s1.1 0, ?_⟩
    unfold PO.el
    rw [le2, s2.2.2.1]
  have fc := h.fcl hed c
  have ela : ∀ i : Int, 0 ≤ i → i < P.lz la → P'.el la i = P.el la i := fun i i0 i1 => (el la c.1 c.2.1 (Or.inl rfl) (fun _ => Or.inr (Or.inl rfl)) i i0 i1).2
  have lo := (h.1.1 la c.1 c.2.1).1
  rw [c.2.2.1] at lo
  have blk : ∀ b : Int, 0 ≤ b → b < P.lz la → P.el la b ∈ L ∧ P.kd (P.el la b) = 12 ∧ FNP P la (P.el la b) := fun b b0 b1 => ⟨(lo.2.2.2.2 b b0 b1).2.1, (lo.2.2.2.2 b b0 b1).2.2, Or.inr (Or.inr ⟨b, ⟨b0, b1⟩, Or.inl rfl⟩)⟩
  have lst : ∀ (b : Int) (g : Nat), 0 ≤ b → b < P.lz la → g = 1 ∨ g = 2 → P'.2.1 g (P.el la b) = P.2.1 g (P.el la b) ∧ P'.lz (P.2.1 g (P.el la b)) = P.lz (P.2.1 g (P.el la b)) ∧ ∀ j : Int, 0 ≤ j → j < P.lz (P.2.1 g (P.el la b)) → P'.el (P.2.1 g (P.el la b)) j = P.el (P.2.1 g (P.el la b)) j := fun b g b0 b1 hg => by
    obtain ⟨m, k, fb⟩ := blk b b0 b1
    obtain ⟨⟨c1, c2, c3, c4⟩, c5, c6, c7, c8⟩ := h.2.2.2.2 _ m k
    have sx := (e _ m fb).2
    have fx := fc.2.1 _ m fb k
    rcases hg with rfl | rfl
    · have s1 := (e _ c7 fx.2.2).2
      exact ⟨sx.2.1 1, s1.1 0, fun j j0 j1 => (el _ c7 c8 fx.2.2 (fun q => (fc.1 _ c7 fx.2.2 c8).1 q) j j0 j1).2⟩
    · have s1 := (e _ c3 fx.2.1).2
      exact ⟨sx.2.1 2, s1.1 0, fun j j0 j1 => (el _ c3 c4 fx.2.1 (fun q => (fc.1 _ c3 fx.2.1 c4).1 q) j j0 j1).2⟩
  have phi : ∀ z : Nat, z ∈ L → P.kd z = 15 → FNP P la z → (z ∈ L' ∧ SM9 z P P') ∧ (P.pp z ∈ L' ∧ SM9 (P.pp z) P P') ∧ (P.pu z ∈ L' ∧ SM9 (P.pu z) P P') ∧ (P.pr z ∈ L' ∧ SM9 (P.pr z) P P') := fun z m k fz => by
    obtain ⟨_, b, c', d, _⟩ := h.2.2.1 z m k
    obtain ⟨f1, f2, f3⟩ := fc.2.2.1 z m fz k
    exact ⟨e z m fz, e _ b.1 f1, e _ c'.1 f2, e _ d.1 f3⟩
  refine ⟨⟨ml, (sl.2.1 0).trans c.2.1, (sl.2.1 8).trans c.2.2.1, (sl.2.1 9).trans c.2.2.2⟩, by rw [lz]; exact fz, fun i i0 i1 => ?_, fun i j i0 ij j1 => ?_, fun y hy j j0 j1 => ?_, fun b b0 b1 => ?_⟩
  · rw [lz] at i1 ⊢
    rw [ela i i0 i1]
    obtain ⟨m, k, fb⟩ := blk i i0 i1
    have s := (e _ m fb).2
    rw [show P'.bf (P.el la i) = P.bf (P.el la i) from s.1 0, show P'.bs (P.el la i) = P.bs (P.el la i) from s.1 1]
    exact fg i i0 i1
  · rw [lz] at j1
    rw [ela i i0 (by omega), ela j (by omega) j1]
    exact fd i j i0 ij j1
  · obtain ⟨b, b0, b1, ey⟩ := hy
    rw [lz] at b1
    rw [ela b b0 b1] at ey
    rw [ey] at j1 ⊢
    obtain ⟨l1, l2, l3⟩ := lst b 1 b0 b1 (Or.inl rfl)
    have l1' : P'.bp (P.el la b) = P.bp (P.el la b) := l1
    rw [l1'] at j1 ⊢
    have l2' : P'.lz (P.bp (P.el la b)) = P.lz (P.bp (P.el la b)) := l2
    rw [l2'] at j1
    have l3' : P'.el (P.bp (P.el la b)) j = P.el (P.bp (P.el la b)) j := l3 j j0 j1
    rw [l3', lz]
    obtain ⟨m, k, fb'⟩ := blk b b0 b1
    obtain ⟨_, c5, c6, c7, c8⟩ := h.2.2.2.2 _ m k
    have lb := (h.1.1 _ c7 c8).1
    rw [c5] at lb
    have q := lb.2.2.2.2 j j0 j1
    have fq : FNP P la (P.el (P.bp (P.el la b)) j) := Or.inr (Or.inr ⟨b, ⟨b0, b1⟩, Or.inr (Or.inr (Or.inr (Or.inr (Or.inr (Or.inr (Or.inr ⟨j, ⟨j0, j1⟩, Or.inl rfl⟩))))))⟩)
    obtain ⟨⟨_, s0⟩, ⟨_, s1⟩, _⟩ := phi _ q.2.1 q.2.2 fq
    intro i i0 i1
    rw [show P'.pn (P.el (P.bp (P.el la b)) j) = P.pn (P.el (P.bp (P.el la b)) j) from s0.1 1] at i1
    rw [show P'.pp (P.el (P.bp (P.el la b)) j) = P.pp (P.el (P.bp (P.el la b)) j) from s0.2.1 1, s1.2.2.2.1]
    exact fb _ ⟨b, b0, b1, rfl⟩ j j0 j1 i i0 i1
  · rw [lz] at b1
    rw [ela b b0 b1]
    obtain ⟨m, k, fb'⟩ := blk b b0 b1
    have sx := (e _ m fb').2
    obtain ⟨⟨c1, c2, c3, c4⟩, c5, c6, c7, c8⟩ := h.2.2.2.2 _ m k
    have fx := fc.2.1 _ m fb' k
    obtain ⟨⟨be1, be2, be3⟩, _⟩ := h.1.2.1 _ m k
    have l1 := (h.1.1 _ c3 c4).1
    have l2 := (h.1.1 _ c7 c8).1
    rw [c1] at l1
    rw [c5] at l2
    obtain ⟨s1, s2, s3⟩ := fs b b0 b1
    refine ⟨?_, fun j j0 j1 => ?_, fun j j0 j1 => ?_⟩
    · rw [show P'.be (P.el la b) = P.be (P.el la b) from sx.2.1 3]
      exact (e _ be1 fx.1).2.rok s1
    · obtain ⟨r1, r2, r3⟩ := lst b 2 b0 b1 (Or.inr rfl)
      have r1' : P'.br (P.el la b) = P.br (P.el la b) := r1
      rw [r1'] at j1 ⊢
      have r2' : P'.lz (P.br (P.el la b)) = P.lz (P.br (P.el la b)) := r2
      rw [r2'] at j1
      have r3' : P'.el (P.br (P.el la b)) j = P.el (P.br (P.el la b)) j := r3 j j0 j1
      rw [r3']
      have q := l1.2.2.2.2 j j0 j1
      have fq : FNP P la (P.el (P.br (P.el la b)) j) := Or.inr (Or.inr ⟨b, ⟨b0, b1⟩, Or.inr (Or.inr (Or.inr (Or.inr (Or.inr (Or.inr (Or.inl ⟨j, ⟨j0, j1⟩, rfl⟩))))))⟩)
      exact (e _ q.2.1 fq).2.rok (s2 j j0 j1)
    · obtain ⟨r1, r2, r3⟩ := lst b 1 b0 b1 (Or.inl rfl)
      have r1' : P'.bp (P.el la b) = P.bp (P.el la b) := r1
      rw [r1'] at j1 ⊢
      have r2' : P'.lz (P.bp (P.el la b)) = P.lz (P.bp (P.el la b)) := r2
      rw [r2'] at j1
      have r3' : P'.el (P.bp (P.el la b)) j = P.el (P.bp (P.el la b)) j := r3 j j0 j1
      rw [r3']
      have q := l2.2.2.2.2 j j0 j1
      have fq : FNP P la (P.el (P.bp (P.el la b)) j) := Or.inr (Or.inr ⟨b, ⟨b0, b1⟩, Or.inr (Or.inr (Or.inr (Or.inr (Or.inr (Or.inr (Or.inr ⟨j, ⟨j0, j1⟩, Or.inl rfl⟩))))))⟩)
      obtain ⟨⟨m0, s0⟩, ⟨m1, t1⟩, ⟨m2, t2⟩, ⟨m3, t3⟩⟩ := phi _ q.2.1 q.2.2 fq
      obtain ⟨a, ⟨b1', b2', b3', b4'⟩, ⟨c1', c2', c3', c4'⟩, ⟨d1', d2', d3', d4'⟩, p5, p6, p7⟩ := s3 j j0 j1
      have pp := s0.2.1 1
      have pu := s0.2.1 2
      have pr := s0.2.1 3
      have pn := s0.1 1
      have pt := s0.1 0
      have pg := s0.1 2
      have n1 := t1.2.1 1
      have n2 := t2.2.1 1
      have n3 := t3.2.1 1
      refine ⟨⟨m0, (s0.2.1 0).trans a.2⟩, ?_, ?_, ?_, ?_, ?_, fun i i0 i1 => ?_⟩
      · rw [show P'.pp _ = P.pp _ from pp]; exact ⟨m1, (t1.2.1 0).trans b2', t1.2.2.2.2.trans b3', (t1.2.1 9).trans b4'⟩
      · rw [show P'.pu _ = P.pu _ from pu]; exact ⟨m2, (t2.2.1 0).trans c2', t2.2.2.2.2.trans c3', (t2.2.1 9).trans c4'⟩
      · rw [show P'.pr _ = P.pr _ from pr]; exact ⟨m3, (t3.2.1 0).trans d2', t3.2.2.2.2.trans d3', (t3.2.1 9).trans d4'⟩
      · rw [show P'.pp (P.el (P.bp (P.el la b)) j) = P.pp (P.el (P.bp (P.el la b)) j) from pp, show P'.pu (P.el (P.bp (P.el la b)) j) = P.pu (P.el (P.bp (P.el la b)) j) from pu, show P'.pr (P.el (P.bp (P.el la b)) j) = P.pr (P.el (P.bp (P.el la b)) j) from pr, show P'.pn (P.el (P.bp (P.el la b)) j) = P.pn (P.el (P.bp (P.el la b)) j) from pn, show P'.an (P.pp (P.el (P.bp (P.el la b)) j)) = P.an (P.pp (P.el (P.bp (P.el la b)) j)) from n1, show P'.an (P.pu (P.el (P.bp (P.el la b)) j)) = P.an (P.pu (P.el (P.bp (P.el la b)) j)) from n2, show P'.an (P.pr (P.el (P.bp (P.el la b)) j)) = P.an (P.pr (P.el (P.bp (P.el la b)) j)) from n3]; exact p5
      · rw [show P'.pt (P.el (P.bp (P.el la b)) j) = P.pt (P.el (P.bp (P.el la b)) j) from pt, show P'.pg (P.el (P.bp (P.el la b)) j) = P.pg (P.el (P.bp (P.el la b)) j) from pg]; exact p6
      · rw [show P'.pn (P.el (P.bp (P.el la b)) j) = P.pn (P.el (P.bp (P.el la b)) j) from pn] at i1
        rw [show P'.pp (P.el (P.bp (P.el la b)) j) = P.pp (P.el (P.bp (P.el la b)) j) from pp, show P'.pu (P.el (P.bp (P.el la b)) j) = P.pu (P.el (P.bp (P.el la b)) j) from pu, show P'.pr (P.el (P.bp (P.el la b)) j) = P.pr (P.el (P.bp (P.el la b)) j) from pr, t1.2.2.2.1, t2.2.2.2.1, t3.2.2.2.1]; exact p7 i i0 i1
end FNP4
