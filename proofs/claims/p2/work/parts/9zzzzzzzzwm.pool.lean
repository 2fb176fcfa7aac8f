/-- a PHI has changed, with the rows that are its own; new rows of numbers may have come -/
def PXC (x : Nat) (L : List Nat) (P : PO) (L' : List Nat) (P' : PO) : Prop := (∀ z : Nat, z ∈ L → z ∈ L' ∧ P'.kd z = P.kd z ∧ P'.ek z = P.ek z ∧ P'.ow z = P.ow z) ∧ CHG (fun z => z = x ∨ (P.ow z = x ∧ 40 ≤ P.kd z)) L P L' P' ∧ NUM9 L L' P'
section PXC9
variable {E L L' : List Nat} {P P' : PO} {cO cI cZ : ClassId} {ed la x : Nat}
theorem PXC.sm {z : Nat} (w : PXC x L P L' P') (kx : P.kd x = 15) (m : z ∈ L) (k : P.kd z ≠ 15) (k4 : P.kd z < 40) : SM9 z P P' := (w.2.1 z m (fun q => by
  rcases q with q | q
  · rw [q] at k; exact k kx
  · omega)).2
theorem PXC.el {l : Nat} {i : Int} (w : PXC x L P L' P') (kx : P.kd x = 15) (o : OWA L P cO ed) (m : l ∈ L) (k : P.kd l = 30) (i0 : 0 ≤ i) (i1 : i < P.lz l) : P'.el l i = P.el l i := by
  have r := (o l m k).2 (o.fl1 m k (by omega))
  have s := w.sm kx r.1 (by omega) (by omega)
  have le : P'.le l = P.le l := (w.sm kx m (by omega) (by omega)).2.1 1
  unfold PO.el; rw [le, s.2.2.1]
theorem PXC.lok {l k : Nat} (w : PXC x L P L' P') (kx : P.kd x = 15) (ql : LOK L P cO k l) : LOK L' P' cO k l := by
  have s := w.sm kx ql.1 (by rw [ql.2.1]; decide) (by rw [ql.2.1]; decide)
  have z : P'.lz l = P.lz l := s.1 0
  have le : P'.le l = P.le l := s.2.1 1
  have q4 := ql.2.2.2.1
  refine ⟨(w.1 l ql.1).1, (s.2.1 0).trans ql.2.1, by rw [z]; exact ql.2.2.1, ?_, fun i i0 i1 => ?_⟩
  · rw [z, le]
    rcases q4 with d | ⟨d1, d2, d3, d4⟩
    · exact Or.inl d
    · have s1 := w.sm kx d1 (by omega) (by omega)
      have an : P'.an (P.le l) = P.an (P.le l) := s1.2.1 1
      have kd : P'.kd (P.le l) = P.kd (P.le l) := s1.2.1 0
      exact Or.inr ⟨(w.1 _ d1).1, by rw [kd]; exact d2, by rw [s1.2.2.2.2]; exact d3, by rw [an]; exact d4⟩
  · rw [z] at i1
    rcases q4 with d | ⟨d1, d2, _⟩
    · omega
    · have s1 := w.sm kx d1 (by omega) (by omega)
      obtain ⟨c1, c2, c3⟩ := ql.2.2.2.2 i i0 i1
      have el : P'.el l i = P.el l i := by unfold PO.el; rw [le, s1.2.2.1]
      rw [le, s1.2.2.1, el]
      exact ⟨c1, (w.1 _ c2).1, (w.1 _ c2).2.1.trans c3⟩
theorem PXC.pik {y : Nat} (w : PXC x L P L' P') (kx : P.kd x = 15) (n : y ≠ x) (p : PIK L P cI cZ y) : PIK L' P' cI cZ y := by
  obtain ⟨p1, p2, p3, p4, p5, p6, p7⟩ := p
  have go : ∀ z : Nat, z ∈ L → (z = y ∨ (P.ow z = y ∧ 40 ≤ P.kd z)) → z ∈ L' ∧ SM9 z P P' := fun z m o => ⟨(w.1 z m).1, (w.2.1 z m (fun q => by
    rcases o with o | o
    · rw [o] at q
      rcases q with q | q
      · exact n q
      · omega
    · rcases q with q | q
      · rw [q] at o; omega
      · exact n (o.1.symm.trans q.1))).2⟩
  obtain ⟨m, s⟩ := go y p1.1 (Or.inl rfl)
  have d : P'.kd y = 15 := (s.2.1 0).trans p1.2
  have s2 := go _ p2.1 (Or.inr ⟨p2.2.2.2, by omega⟩)
  have s3 := go _ p3.1 (Or.inr ⟨p3.2.2.2, by omega⟩)
  have s4 := go _ p4.1 (Or.inr ⟨p4.2.2.2, by omega⟩)
  have pp : P'.pp y = P.pp y := s.2.1 1
  have pu : P'.pu y = P.pu y := s.2.1 2
  have pr : P'.pr y = P.pr y := s.2.1 3
  have pn : P'.pn y = P.pn y := s.1 1
  have pt : P'.pt y = P.pt y := s.1 0
  have pg : P'.pg y = P.pg y := s.1 2
  have k2 : P'.kd (P.pp y) = P.kd (P.pp y) := s2.2.2.1 0
  have k3 : P'.kd (P.pu y) = P.kd (P.pu y) := s3.2.2.1 0
  have k4 : P'.kd (P.pr y) = P.kd (P.pr y) := s4.2.2.1 0
  have a2 : P'.an (P.pp y) = P.an (P.pp y) := s2.2.2.1 1
  have a3 : P'.an (P.pu y) = P.an (P.pu y) := s3.2.2.1 1
  have a4 : P'.an (P.pr y) = P.an (P.pr y) := s4.2.2.1 1
  have o2 : P'.ow (P.pp y) = P.ow (P.pp y) := s2.2.2.1 9
  have o3 : P'.ow (P.pu y) = P.ow (P.pu y) := s3.2.2.1 9
  have o4 : P'.ow (P.pr y) = P.ow (P.pr y) := s4.2.2.1 9
  refine ⟨⟨m, d⟩, ?_, ?_, ?_, ?_, ?_, fun i i0 i1 => ?_⟩
  · rw [pp, k2, s2.2.2.2.2.2, o2]; exact ⟨s2.1, p2.2⟩
  · rw [pu, k3, s3.2.2.2.2.2, o3]; exact ⟨s3.1, p3.2⟩
  · rw [pr, k4, s4.2.2.2.2.2, o4]; exact ⟨s4.1, p4.2⟩
  · rw [pp, pu, pr, a2, a3, a4, pn]; exact p5
  · rw [pt, pg]; exact p6
  · rw [pn] at i1
    rw [pp, pu, pr, s2.2.2.2.2.1, s3.2.2.2.2.1, s4.2.2.2.2.1]; exact p7 i i0 i1
theorem PXC.els {f : Nat → Option Nat} (w : PXC x L P L' P') (h : ELS L P f) : ELS L' P' f := fun j z q => by
  obtain ⟨a, b⟩ := h j z q
  exact ⟨(w.1 z a).1, by rw [(w.1 z a).2.1]; exact b⟩
theorem PXC.old {z : Nat} (w : PXC x L P L' P') (m : z ∈ L') (k : P'.kd z < 40) : z ∈ L ∧ P.kd z = P'.kd z := by
  by_cases q : z ∈ L
  · exact ⟨q, (w.1 z q).2.1.symm⟩
  · have := w.2.2 z m q; omega
theorem GLF.pxc (h : GLF L P cO cI cZ ed) (w : PXC x L P L' P') (kx : P.kd x = 15) (p : PIK L' P' cI cZ x) : GLF L' P' cO cI cZ ed := by
  obtain ⟨⟨g1, g2, g3⟩, hr, hp, ho, hc⟩ := h
  refine ⟨⟨fun y m k => ?_, fun y m k => ?_, fun y m k k1 => ?_⟩, fun y m k => ?_, fun y m k => ?_, fun y m k => ?_, fun y m k => ?_⟩
  · obtain ⟨mL, e⟩ := w.old m (by omega)
    rw [k] at e
    have s := w.sm kx mL (by omega) (by omega)
    obtain ⟨a, b, c⟩ := g1 y mL e
    have ek : P'.ek y = P.ek y := s.2.1 8
    have lz : P'.lz y = P.lz y := s.1 0
    refine ⟨by rw [ek]; exact w.lok kx a, by rw [ek]; exact b, fun e1 i i0 i1 => ?_⟩
    rw [ek] at e1; rw [lz] at i1
    have g := a.2.2.2.2 i i0 i1
    rw [w.el kx ho mL e i0 i1, (w.1 _ g.2.1).2.2.1]; exact c e1 i i0 i1
  · obtain ⟨mL, e⟩ := w.old m (by omega)
    rw [k] at e
    have s := w.sm kx mL (by omega) (by omega)
    obtain ⟨⟨a1, a2, a3⟩, b⟩ := g2 y mL e
    have be : P'.be y = P.be y := s.2.1 3
    have f1 : P'.bf y = P.bf y := s.1 0
    have f2 : P'.bs y = P.bs y := s.1 1
    unfold GLB1
    rw [be, f1, f2, (w.1 _ a1).2.2.1]; exact ⟨⟨(w.1 _ a1).1, (w.1 _ a1).2.1.trans a2, a3⟩, b⟩
  · obtain ⟨mL, e⟩ := w.old m (by omega)
    rw [k] at e
    have s := w.sm kx mL (by omega) (by omega)
    have ek : P'.ek y = P.ek y := s.2.1 8
    have ro : P'.ro y = P.ro y := s.1 0
    rw [ro]; rw [ek] at k1; exact g3 y mL e k1
  · obtain ⟨mL, e⟩ := w.old m (by omega)
    rw [k] at e
    exact (w.sm kx mL (by omega) (by omega)).rok (hr y mL e)
  · obtain ⟨mL, e⟩ := w.old m (by omega)
    rw [k] at e
    by_cases n : y = x
    · rw [n]; exact p
    · exact w.pik kx n (hp y mL e)
  · obtain ⟨mL, e⟩ := w.old m (by omega)
    rw [k] at e
    have s := w.sm kx mL (by omega) (by omega)
    have le : P'.le y = P.le y := s.2.1 1
    have fl : P'.fl y = P.fl y := s.2.1 7
    have lz : P'.lz y = P.lz y := s.1 0
    rw [le, fl, lz]
    refine ⟨(ho y mL e).1, fun f => ?_⟩
    obtain ⟨a, b, c, d, g⟩ := (ho y mL e).2 f
    have s1 := w.sm kx a (by omega) (by omega)
    have an : P'.an (P.le y) = P.an (P.le y) := s1.2.1 1
    exact ⟨(w.1 _ a).1, (s1.2.1 0).trans b, (s1.2.1 9).trans c, by rw [s1.2.2.1]; exact w.els d, by rw [an, s1.2.2.2.2]; exact g⟩
  · obtain ⟨mL, e⟩ := w.old m (by omega)
    rw [k] at e
    have s := w.sm kx mL (by omega) (by omega)
    obtain ⟨⟨c1, c2, c3, c4⟩, c5, c6, c7, c8⟩ := hc y mL e
    have br : P'.br y = P.br y := s.2.1 2
    have bp : P'.bp y = P.bp y := s.2.1 1
    have a1 := w.1 _ c3
    have a2 := w.1 _ c7
    rw [br, bp]
    exact ⟨⟨a1.2.2.1.trans c1, a1.2.2.2.trans c2, a1.1, a1.2.1.trans c4⟩, a2.2.2.1.trans c5, a2.2.2.2.trans c6, a2.1, a2.2.1.trans c8⟩
theorem PXC.keg (h : GLF L P cO cI cZ ed) (w : PXC x L P L' P') (kx : P.kd x = 15) : KEG E L P L' P' := ⟨fun y m _ => ⟨(w.1 y m).1, (w.1 y m).2.1, (w.1 y m).2.2.1, fun k2 o2 => ⟨(w.1 y m).2.2.2.trans o2, fun _ => ⟨(w.sm kx m (by omega) (by omega)).1 0, fun i i0 i1 => w.el kx h.owa m k2 i0 i1⟩⟩, fun k2 => (w.sm kx m (by unfold PKD at k2; omega) (by unfold PKD at k2; omega)).sma⟩, fun y m k => by
  have s := w.sm kx m (by omega) (by omega)
  exact ⟨s.2.1 1, s.2.1 2, s.2.1 3⟩⟩
theorem PXC.kep (h : ALP L P cO cI cZ ed la) (w : PXC x L P L' P') (kx : P.kd x = 15) : KEP E L P L' P' la := by
  have g : KEG E L P L' P' := w.keg h.glf kx
  exact ⟨g.1, g.2, (w.sm kx h.lok.1 (by rw [h.lok.2.1]; decide) (by rw [h.lok.2.1]; decide)).1 0, fun i i0 i1 => w.el kx h.owa h.lok.1 h.lok.2.1 i0 i1⟩
theorem ALP.pxc (h : ALP L P cO cI cZ ed la) (w : PXC x L P L' P') (kx : P.kd x = 15) (p : PIK L' P' cI cZ x) (q : PRB P x (P.lz la) → PRB P' x (P.lz la)) : ALP L' P' cO cI cZ ed la := by
  have g := h.glf.pxc w kx p
  have ke : KEP [] L P L' P' la := w.kep h kx
  have sl := w.sm kx h.lok.1 (by rw [h.lok.2.1]; decide) (by rw [h.lok.2.1]; decide)
  have lz : P'.lz la = P.lz la := sl.1 0
  refine g.alp (w.1 la h.lok.1).1 ((sl.2.1 0).trans h.lok.2.1) ((sl.2.1 8).trans h.2.1.2.1) (by rw [lz]; exact h.1.1.2.1) (fun i i0 i1 => ?_) (fun i j i0 ij j1 => ?_) (fun y m j j0 j1 => ?_)
  · rw [lz] at i1 ⊢
    rw [ke.2.2.2 i i0 i1]
    have b := h.1.blk i0 i1
    have s := w.sm kx b.1.1 (by rw [b.1.2]; decide) (by rw [b.1.2]; decide)
    have f1 : P'.bf (P.el la i) = P.bf (P.el la i) := s.1 0
    have f2 : P'.bs (P.el la i) = P.bs (P.el la i) := s.1 1
    rw [f1, f2]; exact ⟨b.2.2.2.2.2.1, b.2.2.2.2.2.2.2⟩
  · rw [lz] at j1
    rw [ke.2.2.2 i i0 (by omega), ke.2.2.2 j (by omega) j1]; exact h.2.1.2.2.2 i j i0 ij j1
  · have m' := ke.back m
    have ib := h.inb m'
    have bp := (ke.2.1 y ib.1.1 ib.1.2).1
    have lb := ib.2.2.1
    have zb : P'.lz (P.bp y) = P.lz (P.bp y) := (w.sm kx lb.1 (by rw [lb.2.1]; decide) (by rw [lb.2.1]; decide)).1 0
    rw [bp, zb] at j1
    rw [bp, lz, w.el kx h.owa lb.1 lb.2.1 j0 j1]
    have b := h.2.2.1 y m' j j0 j1
    by_cases n : P.el (P.bp y) j = x
    · rw [n] at b ⊢; exact q b
    · have pk := h.at m' j0 j1
      have s := (w.2.1 _ pk.1.1 (fun q => by
        rcases q with q | q
        · exact n q
        · have := pk.1.2; omega)).2
      have s2 := (w.2.1 _ pk.2.1.1 (fun q => by
        rcases q with q | q
        · have := pk.2.1.2.1; rw [q] at this; omega
        · exact n (by rw [← pk.2.1.2.2.2]; exact q.1))).2
      exact b.same (s.1 1) (s.2.1 1) s2.2.2.2.1
end PXC9
