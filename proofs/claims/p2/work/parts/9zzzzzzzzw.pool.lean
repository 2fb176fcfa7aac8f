/-- objects have come, the others are as they were -/
def EXT9 (L : List Nat) (P : PO) (L' : List Nat) (P' : PO) : Prop := ∀ z : Nat, z ∈ L → z ∈ L' ∧ SM9 z P P'
/-- all that the pool keeps whatever the function is -/
def GLF (L : List Nat) (P : PO) (cO cI cZ : ClassId) (ed : Nat) : Prop := GLO L P cO ∧ (∀ q : Nat, q ∈ L → P.kd q = 17 → ROK9 P q) ∧ (∀ q : Nat, q ∈ L → P.kd q = 15 → PIK L P cI cZ q) ∧ OWA L P cO ed ∧ OWC L P
def OWA1 (L : List Nat) (P : PO) (cO : ClassId) (ed x : Nat) : Prop := (P.fl x ≠ 1 → P.lz x = 0 ∧ P.le x = ed) ∧ (P.fl x = 1 → P.le x ∈ L ∧ P.kd (P.le x) = 31 ∧ P.ow (P.le x) = x ∧ ELS L P (P.oa (P.le x)) ∧ 0 < P.an (P.le x) ∧ P.an (P.le x) ≤ 40000 ∧ P.ac (P.le x) = cO ∧ P.lz x ≤ P.an (P.le x))
def OWC1 (L : List Nat) (P : PO) (x : Nat) : Prop := (P.ek (P.br x) = 17 ∧ P.ow (P.br x) = x ∧ P.br x ∈ L ∧ P.kd (P.br x) = 30) ∧ P.ek (P.bp x) = 15 ∧ P.ow (P.bp x) = x ∧ P.bp x ∈ L ∧ P.kd (P.bp x) = 30
/-- what an object that comes must be -/
def NEW1 (L : List Nat) (P : PO) (cO cI cZ : ClassId) (ed z : Nat) : Prop := (P.kd z = 17 → ROK9 P z ∧ (P.ek z ≠ 1 → (P.ro z ≤ 14 ∨ P.ro z = 20 ∨ P.ro z = 21))) ∧ (P.kd z = 15 → PIK L P cI cZ z) ∧ (P.kd z = 30 → OWA1 L P cO ed z ∧ GLA1 L P cO z) ∧ (P.kd z = 12 → OWC1 L P z ∧ GLB1 L P z)
section EXT
variable {L L' : List Nat} {P P' : PO} {cO cI cZ : ClassId} {ed la x q : Nat}
theorem ALP.glf (h : ALP L P cO cI cZ ed la) : GLF L P cO cI cZ ed := ⟨h.2.2.2, h.1.1.2.2.2, h.1.2, h.2.1.1, h.2.1.2.2.1⟩
theorem EXT9.el {l : Nat} {i : Int} (e : EXT9 L P L' P') (o : OWA L P cO ed) (m : l ∈ L) (k : P.kd l = 30) (i0 : 0 ≤ i) (i1 : i < P.lz l) : P'.el l i = P.el l i := by
  have r := (o l m k).2 (o.fl1 m k (by omega))
  have s := (e _ r.1).2
  have le : P'.le l = P.le l := (e l m).2.2.1 1
  unfold PO.el; rw [le, s.2.2.1]
theorem EXT9.lok {l k : Nat} (e : EXT9 L P L' P') (ql : LOK L P cO k l) : LOK L' P' cO k l := by
  obtain ⟨ml, s⟩ := e l ql.1
  have z : P'.lz l = P.lz l := s.1 0
  have le : P'.le l = P.le l := s.2.1 1
  have q4 := ql.2.2.2.1
  refine ⟨ml, (s.2.1 0).trans ql.2.1, by rw [z]; exact ql.2.2.1, ?_, fun i i0 i1 => ?_⟩
  · rw [z, le]
    rcases q4 with d | ⟨d1, d2, d3, d4⟩
    · exact Or.inl d
    · obtain ⟨m1, s1⟩ := e _ d1
      have an : P'.an (P.le l) = P.an (P.le l) := s1.2.1 1
      have kd : P'.kd (P.le l) = P.kd (P.le l) := s1.2.1 0
      exact Or.inr ⟨m1, by rw [kd]; exact d2, by rw [s1.2.2.2.2]; exact d3, by rw [an]; exact d4⟩
  · rw [z] at i1
    rcases q4 with d | ⟨d1, _⟩
    · omega
    · obtain ⟨m1, s1⟩ := e _ d1
      obtain ⟨c1, c2, c3⟩ := ql.2.2.2.2 i i0 i1
      have el : P'.el l i = P.el l i := by unfold PO.el; rw [le, s1.2.2.1]
      obtain ⟨m2, s2⟩ := e _ c2
      rw [le, s1.2.2.1, el]
      exact ⟨c1, m2, (s2.2.1 0).trans c3⟩
theorem EXT9.pik {y : Nat} (e9 : EXT9 L P L' P') (p : PIK L P cI cZ y) : PIK L' P' cI cZ y := by
  obtain ⟨p1, p2, p3, p4, p5, p6, p7⟩ := p
  obtain ⟨m, s⟩ := e9 y p1.1
  have d : P'.kd y = 15 := (s.2.1 0).trans p1.2
  have s2 := e9 _ p2.1
  have s3 := e9 _ p3.1
  have s4 := e9 _ p4.1
  have pp : P'.pp y = P.pp y := s.2.1 1
  have pu : P'.pu y = P.pu y := s.2.1 2
  have pr : P'.pr y = P.pr y := s.2.1 3
  have pn : P'.pn y = P.pn y := s.1 1
  have pt : P'.pt y = P.pt y := s.1 0
  have pg : P'.pg y = P.pg y := s.1 2
  have k2 : P'.kd (P.pp y) = P.kd (P.pp y) := s2.2.2.1 0
  have k3 : P'.kd (P.pu y) = P.kd (P.pu y) := s3.2.2.1 0
  have k4 : P'.kd (P.pr y) = P.kd (P.pr y) := s4.2.2.1 0
  have a2 : P'.an (P.pp y) = P.an (P.pp y) := s2.2.2.1 1
  have a3 : P'.an (P.pu y) = P.an (P.pu y) := s3.2.2.1 1
  have a4 : P'.an (P.pr y) = P.an (P.pr y) := s4.2.2.1 1
  have o2 : P'.ow (P.pp y) = P.ow (P.pp y) := s2.2.2.1 9
  have o3 : P'.ow (P.pu y) = P.ow (P.pu y) := s3.2.2.1 9
  have o4 : P'.ow (P.pr y) = P.ow (P.pr y) := s4.2.2.1 9
  refine ⟨⟨m, d⟩, ?_, ?_, ?_, ?_, ?_, fun i i0 i1 => ?_⟩
  · rw [pp, k2, s2.2.2.2.2.2, o2]; exact ⟨s2.1, p2.2⟩
  · rw [pu, k3, s3.2.2.2.2.2, o3]; exact ⟨s3.1, p3.2⟩
  · rw [pr, k4, s4.2.2.2.2.2, o4]; exact ⟨s4.1, p4.2⟩
  · rw [pp, pu, pr, a2, a3, a4, pn]; exact p5
  · rw [pt, pg]; exact p6
  · rw [pn] at i1
    rw [pp, pu, pr, s2.2.2.2.2.1, s3.2.2.2.2.1, s4.2.2.2.2.1]; exact p7 i i0 i1
theorem EXT9.els {f : Nat → Option Nat} (e : EXT9 L P L' P') (h : ELS L P f) : ELS L' P' f := fun j z q => by
  obtain ⟨a, b⟩ := h j z q
  obtain ⟨m, s⟩ := e z a
  exact ⟨m, by show OBK (P'.2.1 0 z); rw [s.2.1 0]; exact b⟩
theorem GLF.ext (h : GLF L P cO cI cZ ed) (e : EXT9 L P L' P') (n : ∀ z : Nat, z ∈ L' → z ∉ L → NEW1 L' P' cO cI cZ ed z) : GLF L' P' cO cI cZ ed := by
  obtain ⟨⟨g1, g2, g3⟩, hr, hp, ho, hc⟩ := h
  refine ⟨⟨fun x m k => ?_, fun x m k => ?_, fun x m k k1 => ?_⟩, fun x m k => ?_, fun x m k => ?_, fun x m k => ?_, fun x m k => ?_⟩
  all_goals by_cases mL : x ∈ L
  · obtain ⟨m', s⟩ := e x mL
    rw [show P'.kd x = P.kd x from s.2.1 0] at k
    obtain ⟨a, b, c⟩ := g1 x mL k
    have ek : P'.ek x = P.ek x := s.2.1 8
    have lz : P'.lz x = P.lz x := s.1 0
    refine ⟨by rw [ek]; exact e.lok a, by rw [ek]; exact b, fun e1 i i0 i1 => ?_⟩
    rw [ek] at e1; rw [lz] at i1
    have g := a.2.2.2.2 i i0 i1
    have ee : P'.ek (P.el x i) = P.ek (P.el x i) := (e _ g.2.1).2.2.1 8
    rw [e.el ho mL k i0 i1, ee]; exact c e1 i i0 i1
  · exact ((n x m mL).2.2.1 k).2
  · obtain ⟨m', s⟩ := e x mL
    rw [show P'.kd x = P.kd x from s.2.1 0] at k
    obtain ⟨⟨a1, a2, a3⟩, b⟩ := g2 x mL k
    obtain ⟨m1, s1⟩ := e _ a1
    have be : P'.be x = P.be x := s.2.1 3
    have f1 : P'.bf x = P.bf x := s.1 0
    have f2 : P'.bs x = P.bs x := s.1 1
    have ek : P'.ek (P.be x) = P.ek (P.be x) := s1.2.1 8
    unfold GLB1
    rw [be, f1, f2, ek]; exact ⟨⟨m1, (s1.2.1 0).trans a2, a3⟩, b⟩
  · exact ((n x m mL).2.2.2 k).2
  · obtain ⟨m', s⟩ := e x mL
    rw [show P'.kd x = P.kd x from s.2.1 0] at k
    have ek : P'.ek x = P.ek x := s.2.1 8
    have ro : P'.ro x = P.ro x := s.1 0
    rw [ro]; rw [ek] at k1; exact g3 x mL k k1
  · exact ((n x m mL).1 k).2 k1
  · obtain ⟨m', s⟩ := e x mL
    rw [show P'.kd x = P.kd x from s.2.1 0] at k
    exact s.rok (hr x mL k)
  · exact ((n x m mL).1 k).1
  · obtain ⟨m', s⟩ := e x mL
    rw [show P'.kd x = P.kd x from s.2.1 0] at k
    exact e.pik (hp x mL k)
  · exact (n x m mL).2.1 k
  · obtain ⟨m', s⟩ := e x mL
    rw [show P'.kd x = P.kd x from s.2.1 0] at k
    have le : P'.le x = P.le x := s.2.1 1
    have fl : P'.fl x = P.fl x := s.2.1 7
    have lz : P'.lz x = P.lz x := s.1 0
    rw [le, fl, lz]
    refine ⟨(ho x mL k).1, fun f => ?_⟩
    obtain ⟨a, b, c, d, g⟩ := (ho x mL k).2 f
    obtain ⟨m1, s1⟩ := e _ a
    have an : P'.an (P.le x) = P.an (P.le x) := s1.2.1 1
    exact ⟨m1, (s1.2.1 0).trans b, (s1.2.1 9).trans c, by rw [s1.2.2.1]; exact e.els d, by rw [an, s1.2.2.2.2]; exact g⟩
  · exact ((n x m mL).2.2.1 k).1
  · obtain ⟨m', s⟩ := e x mL
    rw [show P'.kd x = P.kd x from s.2.1 0] at k
    obtain ⟨⟨c1, c2, c3, c4⟩, c5, c6, c7, c8⟩ := hc x mL k
    have br : P'.br x = P.br x := s.2.1 2
    have bp : P'.bp x = P.bp x := s.2.1 1
    obtain ⟨m1, s1⟩ := e _ c3
    obtain ⟨m2, s2⟩ := e _ c7
    rw [br, bp]
    exact ⟨⟨(s1.2.1 8).trans c1, (s1.2.1 9).trans c2, m1, (s1.2.1 0).trans c4⟩, (s2.2.1 8).trans c5, (s2.2.1 9).trans c6, m2, (s2.2.1 0).trans c8⟩
  · exact ((n x m mL).2.2.2 k).1
theorem EXT9.kep {E : List Nat} (e : EXT9 L P L' P') (h : ALP L P cO cI cZ ed la) : KEP E L P L' P' la := by
  have o : OWA L P cO ed := h.2.1.1
  refine ⟨fun y m k => ⟨(e y m).1, (e y m).2.2.1 0, (e y m).2.2.1 8, fun k2 o2 => ⟨((e y m).2.2.1 9).trans o2, fun _ => ⟨(e y m).2.1 0, fun i i0 i1 => e.el o m k2 i0 i1⟩⟩, fun _ => (e y m).2.sma⟩, fun y m k => ⟨(e y m).2.2.1 1, (e y m).2.2.1 2, (e y m).2.2.1 3⟩, (e la h.lok.1).2.1 0, fun i i0 i1 => e.el o h.lok.1 h.lok.2.1 i0 i1⟩
/-- a function of a healthy pool -/
theorem GLF.alp (h : GLF L P cO cI cZ ed) (m : la ∈ L) (k : P.kd la = 30) (e : P.ek la = 12) (z : P.lz la ≤ 300) (g : ∀ i : Int, 0 ≤ i → i < P.lz la → P.bf (P.el la i) < P.lz la ∧ P.bs (P.el la i) < P.lz la) (d : ∀ i j : Int, 0 ≤ i → i < j → j < P.lz la → P.el la i ≠ P.el la j) (b : PBK P la) : ALP L P cO cI cZ ed la := by
  obtain ⟨g0, hr, hp, ho, hc⟩ := h
  have lo := (g0.1 la m k).1
  rw [e] at lo
  refine ⟨⟨⟨lo, z, fun i i0 i1 => ?_, hr⟩, hp⟩, ⟨ho, e, hc, d⟩, b, g0⟩
  have q := lo.2.2.2.2 i i0 i1
  obtain ⟨⟨c1, c2, c3, c4⟩, c5, c6, c7, c8⟩ := hc _ q.2.1 q.2.2
  have l1 := (g0.1 _ c3 c4).1
  have l2 := (g0.1 _ c7 c8).1
  rw [c1] at l1; rw [c5] at l2
  obtain ⟨b1, b2⟩ := g0.2.1 _ q.2.1 q.2.2
  have gg := g i i0 i1
  exact ⟨⟨q.2.1, q.2.2⟩, l1, l2, ⟨b1.1, b1.2.1⟩, b2.1, gg.1, b2.2.2.1, gg.2⟩
theorem ALP.ext (h : ALP L P cO cI cZ ed la) (e : EXT9 L P L' P') (n : ∀ z : Nat, z ∈ L' → z ∉ L → NEW1 L' P' cO cI cZ ed z) : ALP L' P' cO cI cZ ed la := by
  have g := h.glf.ext e n
  have ke : KEP [] L P L' P' la := e.kep h
  obtain ⟨ml, sl⟩ := e la h.lok.1
  have lz : P'.lz la = P.lz la := sl.1 0
  refine g.alp ml ((sl.2.1 0).trans h.lok.2.1) ((sl.2.1 8).trans h.2.1.2.1) (by rw [lz]; exact h.1.1.2.1) (fun i i0 i1 => ?_) (fun i j i0 ij j1 => ?_) (fun y m j j0 j1 => ?_)
  · rw [lz] at i1 ⊢
    rw [ke.2.2.2 i i0 i1]
    have b := h.1.blk i0 i1
    have s := (e _ b.1.1).2
    have f1 : P'.bf (P.el la i) = P.bf (P.el la i) := s.1 0
    have f2 : P'.bs (P.el la i) = P.bs (P.el la i) := s.1 1
    rw [f1, f2]; exact ⟨b.2.2.2.2.2.1, b.2.2.2.2.2.2.2⟩
  · rw [lz] at j1
    rw [ke.2.2.2 i i0 (by omega), ke.2.2.2 j (by omega) j1]; exact h.2.1.2.2.2 i j i0 ij j1
  · have m' := ke.back m
    have ib := h.inb m'
    have bp := (ke.2.1 y ib.1.1 ib.1.2).1
    have lb := ib.2.2.1
    have zb : P'.lz (P.bp y) = P.lz (P.bp y) := (e _ lb.1).2.1 0
    rw [bp, zb] at j1
    rw [bp, lz, e.el h.2.1.1 lb.1 lb.2.1 j0 j1]
    have pk := h.at m' j0 j1
    have s := (e _ pk.1.1).2
    have s2 := (e _ pk.2.1.1).2
    exact (h.2.2.1 y m' j j0 j1).same (s.1 1) (s.2.1 1) s2.2.2.2.1
theorem GLF.rok (h : GLF L P cO cI cZ ed) (m : x ∈ L) (k : P.kd x = 17) : ROK9 P x := h.2.1 x m k
theorem GLF.pik (h : GLF L P cO cI cZ ed) (m : x ∈ L) (k : P.kd x = 15) : PIK L P cI cZ x := h.2.2.1 x m k
theorem OWA.of (h : OWA L P cO ed) (a : P'.2.1 = P.2.1) (b : P'.2.2.1 = P.2.2.1) (c : P'.2.2.2.2 = P.2.2.2.2) (z : ∀ l : Nat, P.kd l = 30 → P'.lz l = P.lz l) : OWA L P' cO ed := fun x m k => by
  have kd : P'.kd x = P.kd x := by show P'.2.1 0 x = P.2.1 0 x; rw [a]
  rw [kd] at k
  rw [z x k]
  have := h x m k
  unfold ELS PO.fl PO.kd PO.le PO.oa PO.ow PO.an PO.ac at *
  rw [a, b, c]; exact this
theorem OWC.of (h : OWC L P) (a : P'.2.1 = P.2.1) : OWC L P' := by
  unfold OWC PO.kd PO.ek PO.br PO.bp PO.ow at *; rw [a]; exact h
theorem GLF.row (h : GLF L P cO cI cZ ed) (w : RW1 x P P') (k : P.kd x = 17) (p : ROK9 P' x) (o : P.ek x ≠ 1 → (P'.ro x ≤ 14 ∨ P'.ro x = 20 ∨ P'.ro x = 21)) : GLF L P' cO cI cZ ed := by
  have r := w.rwd (Or.inl k)
  refine ⟨h.1.row w k o, fun q m d => ?_, fun q m d => ?_, h.2.2.2.1.of (by rw [w.1]) (by rw [w.1]) (by rw [w.1]) (fun l q => r.lz q), h.2.2.2.2.of (by rw [w.1])⟩
  · rw [r.kd] at d
    by_cases n : q = x
    · rw [n]; exact p
    · exact w.rok n (h.rok m d)
  · rw [r.kd] at d
    exact (h.pik m d).other w.ph1 (kd_ne d k (by decide))
theorem GLF.phi (h : GLF L P cO cI cZ ed) (w : PH1 x P P') (k : P.kd x = 15) (p : PIK L P' cI cZ x) : GLF L P' cO cI cZ ed := by
  have r := w.rwd k
  refine ⟨h.1.phi w k, fun q m d => ?_, fun q m d => ?_, h.2.2.2.1.of w.1.1 w.1.2.1 w.1.2.2 (fun l q => r.lz q), h.2.2.2.2.of w.1.1⟩
  · rw [r.kd] at d
    have n : q ≠ x := kd_ne d k (by decide)
    have b := h.rok m d
    unfold ROK9 PO.ro PO.rt PO.ra PO.rb PO.rA PO.rB PO.rg at *
    simp only [w.2.1 q n]; exact b
  · rw [r.kd] at d
    by_cases n : q = x
    · rw [n]; exact p
    · exact (h.pik m d).other w n
theorem GLF.goal (h : GLF L P cO cI cZ ed) (w : RW1 x P P') (k : P.kd x = 12) (g : 0 ≤ P'.bf x ∧ P'.bf x ≤ 299 ∧ 0 ≤ P'.bs x ∧ P'.bs x ≤ 299) : GLF L P' cO cI cZ ed := by
  have kk : ∀ y : Nat, P'.kd y = P.kd y := fun y => by show P'.2.1 0 y = P.2.1 0 y; rw [w.1]
  refine ⟨h.1.goal w k g, fun q m d => ?_, fun q m d => ?_, h.2.2.2.1.of (by rw [w.1]) (by rw [w.1]) (by rw [w.1]) (fun l q => w.2 l (kd_ne q k (by decide)) 0), h.2.2.2.2.of (by rw [w.1])⟩
  · rw [kk] at d
    exact w.rok (kd_ne d k (by decide)) (h.rok m d)
  · rw [kk] at d
    exact (h.pik m d).other w.ph1 (kd_ne d k (by decide))
theorem GLF.adc {l k9 : Nat} (h : GLF L P cO cI cZ ed) (ql : LOK L P cO k9 l) : ADC L P cO ed l := by
  have m := ql.1
  have k := ql.2.1
  by_cases f : P.fl l = 1
  · obtain ⟨a, b, c, d, e1, e2, e3, e4⟩ := (h.2.2.2.1 l m k).2 f
    exact Or.inl ⟨f, ⟨a, b, e3⟩, d, e4, e1, by omega⟩
  · exact Or.inr ⟨f, (h.2.2.2.1 l m k).1 f⟩
theorem GLF.add {k y : Nat} (h : GLF L P cO cI cZ ed) (w : GL1 x q L P L' P') (mx : x ∈ L) (kx : P.kd x = 30) (fx : P.fl x = 1 ∨ P.le x ∉ L) (ek : P.ek x = k) (my : y ∈ L) (ky : P.kd y = k) (z : P'.lz x = P.lz x + 1) (zb : P.lz x < 20000) (ac : P'.ac q = cO) (an0 : P.lz x + 1 ≤ P'.an q) (an1 : (P'.an q : Int) ≤ 40000) (els : ELS L' P' (P'.oa q)) (at9 : P'.oa q (P.lz x).toNat = some y) (old : ∀ j : Nat, (j : Int) < P.lz x → P'.oa q j = P.oa (P.le x) j) (e1 : k = 17 → P.ek y ≠ 1) : GLF L' P' cO cI cZ ed := by
  obtain ⟨g0, hr, hp, ho, hc⟩ := h
  have qx := (g0.1 x mx kx).1
  have sm : ∀ y : Nat, y ∈ L → P.kd y ≠ 31 → P.kd y ≠ 30 → y ∈ L' ∧ SM9 y P P' := fun y m k1 k2 => by
    have n := ho.nle mx kx fx m k1
    exact ⟨w.2.1 y m n, w.sm y m (fun e => k2 (by rw [e]; exact kx)) n⟩
  have bk : ∀ y : Nat, y ∈ L' → P'.kd y ≠ 30 → P'.kd y ≠ 31 → y ∈ L ∧ P.kd y = P'.kd y := fun y m k1 k2 => by
    obtain ⟨a, s⟩ := w.bk m (fun e => k1 (by rw [e]; exact w.1.2.2.1)) k2
    exact ⟨a, (s.2.1 0).symm⟩
  have nq : ∀ y : Nat, y ∈ L → P.kd y ≠ 31 → y ≠ q := fun y m k1 e => by
    have e2 := w.2.2.2.2 (by rw [← e]; exact m)
    exact ho.nle mx kx fx m k1 (e.trans e2)
  refine ⟨g0.add ho w mx kx fx ek my ky z zb ac an0 an1 at9 old e1, fun y m d => ?_, fun y m d => ?_, fun y m d => ?_, fun y m d => ?_⟩
  · obtain ⟨a, b⟩ := bk y m (by omega) (by omega)
    rw [d] at b
    exact (sm y a (by omega) (by omega)).2.rok (hr y a b)
  · obtain ⟨a, b⟩ := bk y m (by omega) (by omega)
    rw [d] at b
    have s := (sm y a (by omega) (by omega)).2
    obtain ⟨p1, p2, p3, p4, p5, p6, p7⟩ := hp y a b
    have s2 := sm _ p2.1 (by rw [p2.2.1]; decide) (by rw [p2.2.1]; decide)
    have s3 := sm _ p3.1 (by rw [p3.2.1]; decide) (by rw [p3.2.1]; decide)
    have s4 := sm _ p4.1 (by rw [p4.2.1]; decide) (by rw [p4.2.1]; decide)
    have pp : P'.pp y = P.pp y := s.2.1 1
    have pu : P'.pu y = P.pu y := s.2.1 2
    have pr : P'.pr y = P.pr y := s.2.1 3
    have pn : P'.pn y = P.pn y := s.1 1
    have pt : P'.pt y = P.pt y := s.1 0
    have pg : P'.pg y = P.pg y := s.1 2
    have k2 : P'.kd (P.pp y) = P.kd (P.pp y) := s2.2.2.1 0
    have k3 : P'.kd (P.pu y) = P.kd (P.pu y) := s3.2.2.1 0
    have k4 : P'.kd (P.pr y) = P.kd (P.pr y) := s4.2.2.1 0
    have a2 : P'.an (P.pp y) = P.an (P.pp y) := s2.2.2.1 1
    have a3 : P'.an (P.pu y) = P.an (P.pu y) := s3.2.2.1 1
    have a4 : P'.an (P.pr y) = P.an (P.pr y) := s4.2.2.1 1
    have o2 : P'.ow (P.pp y) = P.ow (P.pp y) := s2.2.2.1 9
    have o3 : P'.ow (P.pu y) = P.ow (P.pu y) := s3.2.2.1 9
    have o4 : P'.ow (P.pr y) = P.ow (P.pr y) := s4.2.2.1 9
    refine ⟨⟨m, d⟩, ?_, ?_, ?_, ?_, ?_, fun i i0 i1 => ?_⟩
    · rw [pp, k2, s2.2.2.2.2.2, o2]; exact ⟨s2.1, p2.2⟩
    · rw [pu, k3, s3.2.2.2.2.2, o3]; exact ⟨s3.1, p3.2⟩
    · rw [pr, k4, s4.2.2.2.2.2, o4]; exact ⟨s4.1, p4.2⟩
    · rw [pp, pu, pr, a2, a3, a4, pn]; exact p5
    · rw [pt, pg]; exact p6
    · rw [pn] at i1
      rw [pp, pu, pr, s2.2.2.2.2.1, s3.2.2.2.2.1, s4.2.2.2.2.1]; exact p7 i i0 i1
  · by_cases e : y = x
    · subst e
      refine ⟨fun f => absurd w.1.2.2.2.2.2.2.2.2 f, fun _ => ?_⟩
      rw [w.1.2.2.2.1]
      exact ⟨w.1.2.1, w.1.2.2.2.2.1, w.1.2.2.2.2.2.1, els, by have := qx.2.2.1; omega, by omega, ac, by rw [z]; exact an0⟩
    · have n2 : y ≠ q := fun e2 => by rw [e2, w.1.2.2.2.2.1] at d; omega
      have mL : y ∈ L := by
        rcases w.2.2.1 y m with e1 | e1 | e1
        · exact absurd e1 e
        · exact absurd e1 n2
        · exact e1
      have s := w.2.2.2.1 y e n2
      have kd : P.kd y = 30 := (s.2.1 0).symm.trans d
      have le : P'.le y = P.le y := s.2.1 1
      have fl : P'.fl y = P.fl y := s.2.1 7
      have lz : P'.lz y = P.lz y := s.1 0
      rw [le, fl, lz]
      refine ⟨(ho y mL kd).1, fun f => ?_⟩
      obtain ⟨a, b, c, d1, d2⟩ := (ho y mL kd).2 f
      have n3 : P.le y ≠ x := kd_ne b kx (by decide)
      have n4 : P.le y ≠ P.le x := fun e2 => by
        rcases fx with g | g
        · exact e (by rw [← c, e2, ((ho x mx kx).2 g).2.2.1])
        · exact g (by rw [← e2]; exact a)
      have s2 := w.sm _ a n3 n4
      have an : P'.an (P.le y) = P.an (P.le y) := s2.2.1 1
      refine ⟨w.2.1 _ a n4, (s2.2.1 0).trans b, (s2.2.1 9).trans c, ?_, by rw [an, s2.2.2.2.2]; exact d2⟩
      rw [s2.2.2.1]
      intro j z0 e0
      obtain ⟨f1, f2⟩ := d1 j z0 e0
      have nn := ho.nle mx kx fx f1 (by unfold OBK at f2; omega)
      exact ⟨w.2.1 _ f1 nn, by rw [w.kd kx f1 nn]; exact f2⟩
  · obtain ⟨a, b⟩ := bk y m (by omega) (by omega)
    rw [d] at b
    have s := sm y a (by omega) (by omega)
    have br : P'.br y = P.br y := s.2.2.1 2
    have bp : P'.bp y = P.bp y := s.2.2.1 1
    have go : ∀ l : Nat, l ∈ L → P.kd l = 30 → P'.ek l = P.ek l ∧ P'.ow l = P.ow l ∧ l ∈ L' ∧ P'.kd l = 30 := fun l ml kl => by
      by_cases e : l = x
      · rw [e]; exact ⟨w.1.2.2.2.2.2.2.2.1, w.1.2.2.2.2.2.2.1, w.1.1, w.1.2.2.1⟩
      · have t := w.2.2.2.1 l e (nq l ml (by omega))
        exact ⟨t.2.1 8, t.2.1 9, w.2.1 l ml (ho.nle mx kx fx ml (by omega)), (t.2.1 0).trans kl⟩
    obtain ⟨⟨c1, c2, c3, c4⟩, c5, c6, c7, c8⟩ := hc y a b
    obtain ⟨g1, g2, g3, g4⟩ := go _ c3 c4
    obtain ⟨g5, g6, g7, g8⟩ := go _ c7 c8
    rw [br, bp, g1, g2, g5, g6]
    exact ⟨⟨c1, c2, g3, g4⟩, c5, c6, g7, g8⟩
end EXT
section NEW9
variable {L L' : List Nat} {P P' : PO} {cO cI cZ : ClassId} {ed la x q : Nat}
/-- sums over the blocks' lists: only lists that are no block's have changed -/
theorem ALP.sum0 {E : List Nat} {g g' : Nat → Int} (h : ALP L P cO cI cZ ed la) (ke : KEP E L P L' P' la) (o : ∀ y : Nat, y ∈ L → P.kd y = 30 → P.ow y ≠ y → g' y = g y) (f : Nat) (hf : f = 1 ∨ f = 2) : sumI (fun i => g' (P'.2.1 f (P'.el la i))) (P'.lz la).toNat = sumI (fun i => g (P.2.1 f (P.el la i))) (P.lz la).toNat := by
  rw [ke.2.2.1]
  refine sumI_eq (fun i i0 i1 => ?_)
  have i2 : i < P.lz la := by omega
  have b := h.1.blk i0 i2
  have c := h.2.1.2.2.1 _ b.1.1 b.1.2
  have k := ke.2.1 _ b.1.1 b.1.2
  have nb : P.kd (P.el la i) = 12 := b.1.2
  rw [ke.2.2.2 i i0 i2]
  rcases hf with rfl | rfl
  · have e1 : P'.2.1 1 (P.el la i) = P.2.1 1 (P.el la i) := k.1
    rw [e1]
    exact o _ c.2.2.2.1 c.2.2.2.2 (fun e => kd_ne nb c.2.2.2.2 (by decide) (c.2.2.1.symm.trans e))
  · have e1 : P'.2.1 2 (P.el la i) = P.2.1 2 (P.el la i) := k.2.1
    rw [e1]
    exact o _ c.1.2.2.1 c.1.2.2.2 (fun e => kd_ne nb c.1.2.2.2 (by decide) (c.1.2.1.symm.trans e))
theorem ALP.tot0 {E : List Nat} (h : ALP L P cO cI cZ ed la) (ke : KEP E L P L' P' la) (o : ∀ y : Nat, y ∈ L → P.kd y = 30 → P.ow y ≠ y → P'.lz y = P.lz y) : P'.tot 2 la = P.tot 2 la ∧ P'.tot 1 la = P.tot 1 la := ⟨h.sum0 (g := P.lz) (g' := P'.lz) ke o 2 (Or.inr rfl), h.sum0 (g := P.lz) (g' := P'.lz) ke o 1 (Or.inl rfl)⟩
theorem ALP.cat0 {E : List Nat} (h : ALP L P cO cI cZ ed la) (ke : KEP E L P L' P' la) (o : ∀ y : Nat, y ∈ L → P.kd y = 30 → P.ow y ≠ y → P'.cap y = P.cap y) : P'.cat 2 la = P.cat 2 la ∧ P'.cat 1 la = P.cat 1 la := ⟨h.sum0 (g := P.cap) (g' := P'.cap) ke o 2 (Or.inr rfl), h.sum0 (g := P.cap) (g' := P'.cap) ke o 1 (Or.inl rfl)⟩
theorem EXT9.cap {y : Nat} (e : EXT9 L P L' P') (o : OWA L P cO ed) (m : y ∈ L) (k : P.kd y = 30) : P'.cap y = P.cap y := by
  have s := (e y m).2
  have fl : P'.fl y = P.fl y := s.2.1 7
  have le : P'.le y = P.le y := s.2.1 1
  unfold PO.cap
  rw [fl, le]
  split
  · rename_i f
    have an : P'.an (P.le y) = P.an (P.le y) := (e _ ((o y m k).2 f).1).2.2.1 1
    rw [an]
  · rfl
theorem EXT9.tot (e : EXT9 L P L' P') (h : ALP L P cO cI cZ ed la) : P'.tot 2 la = P.tot 2 la ∧ P'.tot 1 la = P.tot 1 la := h.tot0 (E := []) (e.kep h) (fun y m _ _ => (e y m).2.1 0)
theorem EXT9.cat (e : EXT9 L P L' P') (h : ALP L P cO cI cZ ed la) : P'.cat 2 la = P.cat 2 la ∧ P'.cat 1 la = P.cat 1 la := h.cat0 (E := []) (e.kep h) (fun y m k _ => e.cap h.2.1.1 m k)
/-- a new row: as it is made, e: it ends a block -/
def PO.mrow (P : PO) (x e : Nat) : PO := P.at9 x 17 (fun _ => 0) (fun k => if k = 8 then e else 0) (fun _ => none) (fun _ => 0) (P.ac x)
theorem pE_mrow (P : PO) (x e : Nat) : va_up (pE P) x (.inr (21, [.int 0, .int 0, .int 0, .int 0, .int 0, .int 0, .int 0])) = pE (P.mrow x e) := by
  have h := pE_at9 P x 17 (fun _ => 0) (fun k => if k = 8 then e else 0) (fun _ => none) (fun _ => 0) (P.ac x)
  rw [pE_row (at9_kd _ _ _ _ _ _ _ _)] at h
  have q : rowE ((P.mrow x e).ro x) ((P.mrow x e).rt x) ((P.mrow x e).ra x) ((P.mrow x e).rb x) ((P.mrow x e).rA x) ((P.mrow x e).rB x) ((P.mrow x e).rg x) = .inr (21, [.int 0, .int 0, .int 0, .int 0, .int 0, .int 0, .int 0]) := by
    simp [PO.mrow, PO.at9, PO.ro, PO.rt, PO.ra, PO.rb, PO.rA, PO.rB, PO.rg, rowE]; decide
  rw [← q]; exact h
theorem mrow_at (P : PO) (x e : Nat) : (P.mrow x e).kd x = 17 ∧ (P.mrow x e).ek x = e ∧ (P.mrow x e).ro x = 0 ∧ (P.mrow x e).rt x = 0 ∧ (P.mrow x e).ra x = 0 ∧ (P.mrow x e).rb x = 0 ∧ (P.mrow x e).rA x = 0 ∧ (P.mrow x e).rB x = 0 ∧ (P.mrow x e).rg x = 0 := by
  simp [PO.mrow, PO.at9, PO.kd, PO.ek, PO.ro, PO.rt, PO.ra, PO.rb, PO.rA, PO.rB, PO.rg]
theorem mrow_new (L : List Nat) (P : PO) (cO cI cZ : ClassId) (ed x e : Nat) : NEW1 L (P.mrow x e) cO cI cZ ed x := by
  obtain ⟨a, b, c, d, f, g, h, i, j⟩ := mrow_at P x e
  refine ⟨fun _ => ⟨ROK9.of (by omega) (by omega) (by omega) (by omega) (by omega) (by omega) (by omega) (rUA9 (by omega)) (rUB9 (by omega)), fun _ => by omega⟩, fun k => by omega, fun k => by omega, fun k => by omega⟩
/-- one object comes -/
theorem EXT9.one {x k : Nat} {i : Nat → Int} {n : Nat → Nat} {o : Nat → Option Nat} {a : Int → Int} {c : ClassId} (h : x ∉ L) : EXT9 L P (x :: L) (P.at9 x k i n o a c) := fun z m => ⟨List.mem_cons_of_mem _ m, SM9.at9 (fun e => h (by rw [← e]; exact m))⟩
theorem ALP.new1 (h : ALP L P cO cI cZ ed la) (e : EXT9 L P (x :: L) P') (k : NEW1 (x :: L) P' cO cI cZ ed x) : ALP (x :: L) P' cO cI cZ ed la := h.ext e (fun z m z0 => by
  rcases List.mem_cons.mp m with q | q
  · rw [q]; exact k
  · exact absurd q z0)
theorem GLF.new1 (h : GLF L P cO cI cZ ed) (e : EXT9 L P (x :: L) P') (k : NEW1 (x :: L) P' cO cI cZ ed x) : GLF (x :: L) P' cO cI cZ ed := h.ext e (fun z m z0 => by
  rcases List.mem_cons.mp m with q | q
  · rw [q]; exact k
  · exact absurd q z0)
end NEW9
