/-! join: the PHIs of a block with one PRED are replaced, its list made empty -/
/-- Q with the list l as it stands in P -/
def PO.rst (P Q : PO) (l : Nat) : PO := (fun f z => if z = l then P.1 f z else Q.1 f z, Q.2.1, fun a => if a = P.le l then P.2.2.1 a else Q.2.2.1 a, Q.2.2.2)
section RST9
variable {L : List Nat} {P P1 Q : PO} {cO cI cZ : ClassId} {ed l la x : Nat} {rp br bb : Int → Int} {b c i j k y : Int}
theorem rst_ref (w : LS1 l P P1) (s : STQ L P1 Q) : (P.rst Q l).2.1 = P.2.1 := s.1.1.trans w.1
theorem rst_oa (w : LS1 l P P1) (s : STQ L P1 Q) : (P.rst Q l).2.2.1 = P.2.2.1 := funext fun a => by
  show (if a = P.le l then P.2.2.1 a else Q.2.2.1 a) = P.2.2.1 a
  by_cases q : a = P.le l
  · rw [if_pos q]
  · rw [if_neg q, s.1.2.1]; exact w.2.2.2 a q
theorem rst_num (P Q : PO) (n : x ≠ l) (f : Nat) : (P.rst Q l).1 f x = Q.1 f x := if_neg n
theorem rst_lz (w : LS1 l P P1) (s : STQ L P1 Q) (k : P.kd x = 30) : (P.rst Q l).lz x = P.lz x := by
  show (if x = l then P.1 0 x else Q.1 0 x) = P.1 0 x
  by_cases q : x = l
  · rw [if_pos q]
  · rw [if_neg q]; exact (s.1.2.2 x ((w.kd x).trans k)).trans (w.2.2.1 x q 0)
theorem rst_el (w : LS1 l P P1) (s : STQ L P1 Q) (x : Nat) (k : Int) : (P.rst Q l).el x k = P.el x k := by
  unfold PO.el PO.oa PO.le; rw [rst_ref w s, rst_oa w s]
theorem rst_stq (w : LS1 l P P1) (s : STQ L P1 Q) (kl : P.kd l = 30) : STQ L P (P.rst Q l) := by
  have kd : ∀ z : Nat, P1.kd z = P.kd z := w.kd
  have pp : ∀ z : Nat, P1.pp z = P.pp z := fun z => by unfold PO.pp; rw [w.1]
  have ia : ∀ a : Nat, P1.ia a = P.ia a := fun a => by show P1.2.2.2.1 a = P.2.2.2.1 a; rw [w.2.1]
  refine ⟨⟨rst_ref w s, rst_oa w s, fun m k => rst_lz w s k⟩, fun z m k => ?_, fun z m k => ?_, fun z m k => ?_⟩
  · have n : z ≠ l := kd_ne k kl (by decide)
    have t := s.2.1 z m ((kd z).trans k)
    exact ⟨(rst_num P Q n 0).trans (t.1.trans (w.2.2.1 z n 0)), (rst_num P Q n 1).trans (t.2.trans (w.2.2.1 z n 1))⟩
  · have n : z ≠ l := kd_ne k kl (by decide)
    have t := s.2.2.1 z m ((kd z).trans k)
    rw [pp, ia] at t
    exact ⟨(rst_num P Q n 0).trans (t.1.trans (w.2.2.1 z n 0)), (rst_num P Q n 1).trans (t.2.1.trans (w.2.2.1 z n 1)), t.2.2⟩
  · have n : z ≠ l := kd_ne k kl (by decide)
    have t := s.2.2.2 z m ((kd z).trans k)
    exact ⟨(rst_num P Q n 0).trans (t.1.trans (w.2.2.1 z n 0)), (rst_num P Q n 1).trans (t.2.trans (w.2.2.1 z n 1))⟩
theorem rst_opr (w : LS1 l P P1) (s : STQ L P1 Q) (o : OPR9 L P1 Q rp br bb) (kl : P.kd l = 30) : OPR9 L P (P.rst Q l) rp br bb := by
  have kd : ∀ z : Nat, P1.kd z = P.kd z := w.kd
  have pu : ∀ z : Nat, P1.pu z = P.pu z := fun z => by unfold PO.pu; rw [w.1]
  have pr : ∀ z : Nat, P1.pr z = P.pr z := fun z => by unfold PO.pr; rw [w.1]
  have ia : ∀ a : Nat, P1.ia a = P.ia a := fun a => by show P1.2.2.2.1 a = P.2.2.2.1 a; rw [w.2.1]
  refine ⟨fun z m k => ?_, fun z m k i i0 i1 => ?_⟩
  · have n : z ≠ l := kd_ne k kl (by decide)
    have t := o.1 z m ((kd z).trans k)
    have e1 : (P.rst Q l).rA z = Q.rA z := rst_num P Q n _
    have e2 : (P.rst Q l).ra z = Q.ra z := rst_num P Q n _
    have e3 : (P.rst Q l).rB z = Q.rB z := rst_num P Q n _
    have e4 : (P.rst Q l).rb z = Q.rb z := rst_num P Q n _
    have f1 : P1.rA z = P.rA z := w.2.2.1 z n _
    have f2 : P1.ra z = P.ra z := w.2.2.1 z n _
    have f3 : P1.rB z = P.rB z := w.2.2.1 z n _
    have f4 : P1.rb z = P.rb z := w.2.2.1 z n _
    rw [e1, e2, e3, e4]
    rw [f1, f2, f3, f4] at t; exact t
  · have n : z ≠ l := kd_ne k kl (by decide)
    have pn : P1.pn z = P.pn z := w.2.2.1 z n 1
    have t := o.2 z m ((kd z).trans k) i i0 (by rw [pn]; exact i1)
    rw [pu, pr, ia, ia] at t; exact t
theorem ROK9.num {R : PO} (h : ROK9 Q x) (e : ∀ f : Nat, R.1 f x = Q.1 f x) : ROK9 R x := by
  have a : R.ro x = Q.ro x := e _
  have b : R.rt x = Q.rt x := e _
  have c : R.rg x = Q.rg x := e _
  have d1 : R.rA x = Q.rA x := e _
  have d2 : R.rB x = Q.rB x := e _
  have d3 : R.ra x = Q.ra x := e _
  have d4 : R.rb x = Q.rb x := e _
  unfold ROK9; rw [a, b, c, d1, d2, d3, d4]; exact h
theorem PIK.num {R : PO} (h : PIK L Q cI cZ x) (r : R.2.1 = Q.2.1) (r2 : R.2.2.2 = Q.2.2.2) (e : ∀ f : Nat, R.1 f x = Q.1 f x) : PIK L R cI cZ x := by
  have n1 : R.pn x = Q.pn x := e _
  have n2 : R.pt x = Q.pt x := e _
  have n3 : R.pg x = Q.pg x := e _
  have kd : ∀ z : Nat, R.kd z = Q.kd z := fun z => by unfold PO.kd; rw [r]
  have ow : ∀ z : Nat, R.ow z = Q.ow z := fun z => by unfold PO.ow; rw [r]
  have an : ∀ z : Nat, R.an z = Q.an z := fun z => by unfold PO.an; rw [r]
  have ac : ∀ z : Nat, R.ac z = Q.ac z := fun z => by unfold PO.ac; rw [r2]
  have ia : ∀ z : Nat, R.ia z = Q.ia z := fun z => by unfold PO.ia; rw [r2]
  have pp : R.pp x = Q.pp x := by unfold PO.pp; rw [r]
  have pu : R.pu x = Q.pu x := by unfold PO.pu; rw [r]
  have pr : R.pr x = Q.pr x := by unfold PO.pr; rw [r]
  unfold PIK
  rw [pp, pu, pr, n1, n2, n3]
  simp only [kd, ow, an, ac, ia]
  exact h
theorem rst_glf (w : LS1 l P P1) (s : STQ L P1 Q) (kl : P.kd l = 30) (aP : ALP L P cO cI cZ ed la) (aQ : ALP L Q cO cI cZ ed la) : GLF L (P.rst Q l) cO cI cZ ed := by
  have r1 := rst_ref w s
  have rQ : (P.rst Q l).2.1 = Q.2.1 := rfl
  have r2 := rst_oa w s
  have kd : ∀ z : Nat, (P.rst Q l).kd z = P.kd z := fun z => by unfold PO.kd; rw [r1]
  have kq : ∀ z : Nat, Q.kd z = P.kd z := fun z => by unfold PO.kd; rw [← rQ, r1]
  have ek : ∀ z : Nat, (P.rst Q l).ek z = P.ek z := fun z => by unfold PO.ek; rw [r1]
  have le : ∀ z : Nat, (P.rst Q l).le z = P.le z := fun z => by unfold PO.le; rw [r1]
  have an : ∀ z : Nat, (P.rst Q l).an z = P.an z := fun z => by unfold PO.an; rw [r1]
  have ow : ∀ z : Nat, (P.rst Q l).ow z = P.ow z := fun z => by unfold PO.ow; rw [r1]
  have fl : ∀ z : Nat, (P.rst Q l).fl z = P.fl z := fun z => by unfold PO.fl; rw [r1]
  have oa : ∀ z : Nat, (P.rst Q l).oa z = P.oa z := fun z => by unfold PO.oa; rw [r2]
  have el : ∀ (z : Nat) (k : Int), (P.rst Q l).el z k = P.el z k := fun z k => rst_el w s z k
  have acQ : ∀ m : Nat, m ∈ L → P.kd m = 30 → P.fl m = 1 → (P.rst Q l).ac (P.le m) = cO := fun m mm km fm => by
    have o := aQ.2.1.1 m mm ((kq m).trans km)
    have f1 : Q.fl m = 1 := by
      have t : Q.fl m = P.fl m := by unfold PO.fl; rw [← rQ, r1]
      rw [t]; exact fm
    have t := (o.2 f1).2.2.2.2.2.2.1
    have lq : Q.le m = P.le m := by unfold PO.le; rw [← rQ, r1]
    rw [lq] at t; exact t
  refine ⟨⟨fun m mm km => ?_, fun z m k => ?_, fun z m k n => ?_⟩, fun z m k => ?_, fun z m k => ?_, fun m mm km => ?_, fun z m k => ?_⟩
  · rw [kd] at km
    obtain ⟨a, b, c⟩ := aP.2.2.2.1 m mm km
    have lz := rst_lz w s km
    refine ⟨⟨a.1, by rw [kd]; exact km, by rw [lz]; exact a.2.2.1, ?_, fun i i0 i1 => ?_⟩, by rw [ek]; exact b, fun e i i0 i1 => ?_⟩
    · rw [lz]
      by_cases z0 : P.lz m = 0
      · exact Or.inl z0
      · rcases a.2.2.2.1 with q | q
        · exact Or.inl q
        · have fm := aP.2.1.1
          have f1 : P.fl m = 1 := OWA.fl1 aP.2.1.1 mm km z0
          rw [le, kd, an]
          exact Or.inr ⟨q.1, q.2.1, acQ m mm km f1, q.2.2.2⟩
    · rw [lz] at i1
      rw [le, oa, el, kd, ek]; exact a.2.2.2.2 i i0 i1
    · rw [ek] at e; rw [lz] at i1
      rw [el, ek]; exact c e i i0 i1
  · rw [kd] at k
    have t := aP.2.2.2.2.1 z m k
    have n : z ≠ l := kd_ne k kl (by decide)
    have u := (rst_stq w s kl).2.2.2 z m k
    have be : (P.rst Q l).be z = P.be z := by unfold PO.be; rw [r1]
    unfold GLB1
    rw [be, kd, ek, u.1, u.2]; exact t
  · rw [kd] at k; rw [ek] at n
    have u := (rst_stq w s kl).2.1 z m k
    rw [u.1]; exact aP.2.2.2.2.2 z m k n
  · rw [kd] at k
    have n : z ≠ l := kd_ne k kl (by decide)
    exact (aQ.1.1.2.2.2 z m ((kq z).trans k)).num (fun f => rst_num P Q n f)
  · rw [kd] at k
    have n : z ≠ l := kd_ne k kl (by decide)
    exact (aQ.1.2 z m ((kq z).trans k)).num rfl rfl (fun f => rst_num P Q n f)
  · rw [kd] at km
    have lz := rst_lz w s km
    obtain ⟨o1, o2⟩ := aP.2.1.1 m mm km
    rw [fl, lz, le]
    refine ⟨o1, fun f1 => ?_⟩
    obtain ⟨a, b, c, d, e1, e2, e3, e4⟩ := o2 f1
    refine ⟨a, by rw [kd]; exact b, by rw [ow]; exact c, ?_, by rw [an]; exact e1, by rw [an]; exact e2, acQ m mm km f1, by rw [an]; exact e4⟩
    rw [oa]
    intro j u eq
    obtain ⟨q1, q2⟩ := d j u eq
    exact ⟨q1, by rw [kd]; exact q2⟩
  · rw [kd] at k
    have t := aP.2.1.2.2.1 z m k
    have bp : (P.rst Q l).bp z = P.bp z := by unfold PO.bp; rw [r1]
    have br : (P.rst Q l).br z = P.br z := by unfold PO.br; rw [r1]
    rw [bp, br, ek, ek, ow, ow, kd, kd]; exact t
theorem rst_alp (w : LS1 l P P1) (s : STQ L P1 Q) (kl : P.kd l = 30) (aP : ALP L P cO cI cZ ed la) (aQ : ALP L Q cO cI cZ ed la) : ALP L (P.rst Q l) cO cI cZ ed la := by
  have r1 := rst_ref w s
  have kla := aP.lok.2.1
  have lz := rst_lz w s kla
  have st := rst_stq w s kl
  refine (rst_glf w s kl aP aQ).alp aP.lok.1 ?_ ?_ (by rw [lz]; exact aP.1.1.2.1) (fun i i0 i1 => ?_) (fun i j i0 ij j1 => ?_) (fun y m j j0 j1 => ?_)
  · unfold PO.kd; rw [r1]; exact kla
  · unfold PO.ek; rw [r1]; exact aP.2.1.2.1
  · rw [lz] at i1 ⊢
    rw [rst_el w s]
    have ib := aP.inb ⟨i, i0, i1, rfl⟩
    have u := st.2.2.2 _ ib.1.1 ib.1.2
    rw [u.1, u.2]; exact ⟨ib.2.2.2.2.2.1, ib.2.2.2.2.2.2.2⟩
  · rw [lz] at j1
    rw [rst_el w s, rst_el w s]; exact aP.2.1.2.2.2 i j i0 ij j1
  · obtain ⟨b, b0, b1, ey⟩ := m
    rw [lz] at b1
    rw [rst_el w s] at ey
    have ib := aP.inb ⟨b, b0, b1, rfl⟩
    have bp : (P.rst Q l).bp y = P.bp y := by unfold PO.bp; rw [r1]
    rw [bp, ey, rst_lz w s ib.2.2.1.2.1] at j1
    rw [bp, ey, rst_el w s, lz]
    have kp := aP.kphi b0 b1 j0 j1
    have u := st.2.2.1 _ kp.1 kp.2
    intro i i0 i1
    rw [u.2.1] at i1
    have pp : (P.rst Q l).pp (P.el (P.bp (P.el la b)) j) = P.pp (P.el (P.bp (P.el la b)) j) := by unfold PO.pp; rw [r1]
    rw [pp, u.2.2]; exact aP.2.2.1 _ ⟨b, b0, b1, rfl⟩ j j0 j1 i i0 i1
end RST9
