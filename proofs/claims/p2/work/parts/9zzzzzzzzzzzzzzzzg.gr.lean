/-! the whole pool, numbers up to 3,001: copies of what is known of GLF -/
def ROKR (P : PO) (q : Nat) : Prop := (0 ≤ P.ro q ∧ P.ro q ≤ 40) ∧ (0 ≤ P.rt q ∧ P.rt q ≤ 3001 ∧ (P.ek q = 1 → P.rt q ≤ 1001)) ∧ (-2147483648 ≤ P.ra q ∧ P.ra q ≤ 2147483647) ∧ (-2147483648 ≤ P.rb q ∧ P.rb q ≤ 2147483647) ∧ (0 ≤ P.rA q ∧ P.rA q ≤ 1) ∧ (0 ≤ P.rB q ∧ P.rB q ≤ 1) ∧ (0 ≤ P.rg q ∧ P.rg q ≤ 1) ∧ (rUsA (P.ro q) (P.rA q) = 0 ∨ (0 ≤ P.ra q ∧ P.ra q ≤ 3001)) ∧ (rUsB (P.ro q) (P.rB q) = 0 ∨ (0 ≤ P.rb q ∧ P.rb q ≤ 3001))
theorem RW1.rokR {x : Nat} {P P' : PO} (h : RW1 x P P') {q : Nat} (n : q ≠ x) (k : ROKR P q) : ROKR P' q := by
  unfold ROKR PO.ro PO.rt PO.ra PO.rb PO.rA PO.rB PO.rg PO.ek at *
  simp only [h.1, h.2 q n]; exact k
theorem RW1.allR {x : Nat} {P P' : PO} (h : RW1 x P P') {L : List Nat} (k : ∀ q : Nat, q ∈ L → P.kd q = 17 → ROKR P q) (r : ROKR P' x) : ∀ q : Nat, q ∈ L → P'.kd q = 17 → ROKR P' q := fun q m d => by
  by_cases e : q = x
  · rw [e]; exact r
  · exact h.rokR e (k q m ((congrArg (fun z : (Nat → Nat → Nat) × (Nat → Nat → Option Nat) × (Nat → Int → Int) × (Nat → ClassId) => z.1 0 q) h.1).symm.trans d))
theorem ROKR.of {P : PO} {q : Nat} (a : 0 ≤ P.ro q ∧ P.ro q ≤ 40) (b : 0 ≤ P.rt q ∧ P.rt q ≤ 3001 ∧ (P.ek q = 1 → P.rt q ≤ 1001)) (c : -2147483648 ≤ P.ra q ∧ P.ra q ≤ 2147483647) (d : -2147483648 ≤ P.rb q ∧ P.rb q ≤ 2147483647) (e : 0 ≤ P.rA q ∧ P.rA q ≤ 1) (f : 0 ≤ P.rB q ∧ P.rB q ≤ 1) (g : 0 ≤ P.rg q ∧ P.rg q ≤ 1) (h : rUsA (P.ro q) (P.rA q) = 0 ∨ (0 ≤ P.ra q ∧ P.ra q ≤ 3001)) (k : rUsB (P.ro q) (P.rB q) = 0 ∨ (0 ≤ P.rb q ∧ P.rb q ≤ 3001)) : ROKR P q := ⟨a, b, c, d, e, f, g, h, k⟩
theorem rUA9R {o r x : Int} (h : o = 20 ∨ o = 30 ∨ r = 0 ∨ (0 ≤ x ∧ x ≤ 3001)) : rUsA o r = 0 ∨ (0 ≤ x ∧ x ≤ 3001) := by
  have := rUsA_spec o r; omega
theorem rUB9R {o r x : Int} (h : o ≤ 0 ∨ 20 ≤ o ∨ r = 0 ∨ (0 ≤ x ∧ x ≤ 3001)) : rUsB o r = 0 ∨ (0 ≤ x ∧ x ≤ 3001) := by
  have := rUsB_spec o r; omega
def PIKR (L : List Nat) (P : PO) (cI cZ : ClassId) (x : Nat) : Prop := (x ∈ L ∧ P.kd x = 15) ∧ (P.pp x ∈ L ∧ P.kd (P.pp x) = 40 ∧ P.ac (P.pp x) = cI ∧ P.ow (P.pp x) = x) ∧ (P.pu x ∈ L ∧ P.kd (P.pu x) = 41 ∧ P.ac (P.pu x) = cI ∧ P.ow (P.pu x) = x) ∧ (P.pr x ∈ L ∧ P.kd (P.pr x) = 42 ∧ P.ac (P.pr x) = cZ ∧ P.ow (P.pr x) = x) ∧ (0 ≤ P.pn x ∧ P.pn x ≤ 300 ∧ P.pn x ≤ P.an (P.pp x) ∧ P.pn x ≤ P.an (P.pu x) ∧ P.pn x ≤ P.an (P.pr x) ∧ P.an (P.pp x) ≤ 1000 ∧ P.an (P.pu x) ≤ 1000 ∧ P.an (P.pr x) ≤ 1000 ∧ P.an (P.pu x) = P.an (P.pp x) ∧ P.an (P.pr x) = P.an (P.pp x) ∧ 4 ≤ P.an (P.pp x)) ∧ (0 ≤ P.pt x ∧ P.pt x ≤ 3001 ∧ 0 ≤ P.pg x ∧ P.pg x ≤ 1) ∧ ∀ k : Int, 0 ≤ k → k < P.pn x → True
theorem PIKR.of {L : List Nat} {P P' : PO} {cI cZ : ClassId} {x : Nat} (h : PIKR L P cI cZ x) (w : PH1 x P P') (n0 : 0 ≤ P'.pn x) (n1 : P'.pn x ≤ P.pn x) (t : 0 ≤ P'.pt x ∧ P'.pt x ≤ 3001 ∧ 0 ≤ P'.pg x ∧ P'.pg x ≤ 1) (e : ∀ i : Int, 0 ≤ i → i < P'.pn x → PEF P' x i) : PIKR L P' cI cZ x := by
  obtain ⟨⟨a1, a2⟩, b, c, d, m, _, _⟩ := h
  have k : ∀ y : Nat, P'.kd y = P.kd y := fun y => congrFun (congrFun w.1.1 0) y
  have pp : P'.pp x = P.pp x := congrFun (congrFun w.1.1 1) x
  have pu : P'.pu x = P.pu x := congrFun (congrFun w.1.1 2) x
  have pr : P'.pr x = P.pr x := congrFun (congrFun w.1.1 3) x
  have an : ∀ y : Nat, P'.an y = P.an y := fun y => congrFun (congrFun w.1.1 1) y
  have ow : ∀ y : Nat, P'.ow y = P.ow y := fun y => congrFun (congrFun w.1.1 9) y
  have ac : ∀ y : Nat, P'.ac y = P.ac y := fun y => congrFun w.1.2.2 y
  refine ⟨⟨a1, (k x).trans a2⟩, ?_, ?_, ?_, ?_, t, fun _ _ _ => trivial⟩
  · rw [pp, k, ac, ow]; exact b
  · rw [pu, k, ac, ow]; exact c
  · rw [pr, k, ac, ow]; exact d
  · rw [pp, pu, pr, an, an, an]; omega
theorem PIKR.other {L : List Nat} {P P' : PO} {cI cZ : ClassId} {x y : Nat} (h : PIKR L P cI cZ y) (w : PH1 x P P') (n : y ≠ x) : PIKR L P' cI cZ y := by
  obtain ⟨⟨a1, a2⟩, b, c, d, m, t, e⟩ := h
  have k : ∀ y : Nat, P'.kd y = P.kd y := fun y => congrFun (congrFun w.1.1 0) y
  have pp : P'.pp y = P.pp y := congrFun (congrFun w.1.1 1) y
  have pu : P'.pu y = P.pu y := congrFun (congrFun w.1.1 2) y
  have pr : P'.pr y = P.pr y := congrFun (congrFun w.1.1 3) y
  have an : ∀ y : Nat, P'.an y = P.an y := fun y => congrFun (congrFun w.1.1 1) y
  have ow : ∀ y : Nat, P'.ow y = P.ow y := fun y => congrFun (congrFun w.1.1 9) y
  have ac : ∀ y : Nat, P'.ac y = P.ac y := fun y => congrFun w.1.2.2 y
  have pn : P'.pn y = P.pn y := w.2.1 y n 1
  have pt : P'.pt y = P.pt y := w.2.1 y n 0
  have pg : P'.pg y = P.pg y := w.2.1 y n 2
  have ib : P'.ia (P.pp y) = P.ia (P.pp y) := w.2.2 _ (by rw [b.2.2.2]; exact n)
  have ic : P'.ia (P.pu y) = P.ia (P.pu y) := w.2.2 _ (by rw [c.2.2.2]; exact n)
  have id : P'.ia (P.pr y) = P.ia (P.pr y) := w.2.2 _ (by rw [d.2.2.2]; exact n)
  refine ⟨⟨a1, (k y).trans a2⟩, ?_, ?_, ?_, ?_, ?_, fun i i0 i1 => ?_⟩
  · rw [pp, k, ac, ow]; exact b
  · rw [pu, k, ac, ow]; exact c
  · rw [pr, k, ac, ow]; exact d
  · rw [pp, pu, pr, an, an, an, pn]; exact m
  · rw [pt, pg]; exact t
  · trivial
section GLR2
variable {L : List Nat} {P P' : PO} {cO cI cZ : ClassId} {ed la x : Nat}
theorem LS1.rokR {q : Nat} (w : LS1 x P P') (n : q ≠ x) (k : ROKR P q) : ROKR P' q := by
  unfold ROKR PO.ro PO.rt PO.ra PO.rb PO.rA PO.rB PO.rg PO.ek at *
  simp only [w.1, w.2.2.1 q n]; exact k
theorem LS1.pikR {q : Nat} (w : LS1 x P P') (n : q ≠ x) (k : PIKR L P cI cZ q) : PIKR L P' cI cZ q := by
  have e1 : P'.1 0 q = P.1 0 q := w.2.2.1 q n 0
  have e2 : P'.1 1 q = P.1 1 q := w.2.2.1 q n 1
  have e3 : P'.1 2 q = P.1 2 q := w.2.2.1 q n 2
  unfold PIKR PO.kd PO.pp PO.pu PO.pr PO.ac PO.ow PO.pn PO.an PO.pt PO.pg at *
  rw [w.1, w.2.1, e1, e2, e3]; exact k
end GLR2
section GLR3
variable {L L' : List Nat} {P P' : PO} {cO cI cZ : ClassId} {ed la x q : Nat}
theorem SM9.rokR {y : Nat} (s : SM9 y P P') (k : ROKR P y) : ROKR P' y := by
  unfold ROKR PO.ro PO.rt PO.ra PO.rb PO.rA PO.rB PO.rg PO.ek at *
  simp only [s.1, s.2.1]; exact k
end GLR3
def GLR (L : List Nat) (P : PO) (cO cI cZ : ClassId) (ed : Nat) : Prop := GLO L P cO ∧ (∀ q : Nat, q ∈ L → P.kd q = 17 → ROKR P q) ∧ (∀ q : Nat, q ∈ L → P.kd q = 15 → PIKR L P cI cZ q) ∧ OWA L P cO ed ∧ OWC L P
def NEWR (L : List Nat) (P : PO) (cO cI cZ : ClassId) (ed z : Nat) : Prop := (P.kd z = 17 → ROKR P z ∧ (P.ek z ≠ 1 → (P.ro z ≤ 14 ∨ P.ro z = 20 ∨ P.ro z = 21))) ∧ (P.kd z = 15 → PIKR L P cI cZ z) ∧ (P.kd z = 30 → OWA1 L P cO ed z ∧ GLA1 L P cO z) ∧ (P.kd z = 12 → OWC1 L P z ∧ GLB1 L P z)
section GLR5
variable {L L' : List Nat} {P P' : PO} {cO cI cZ : ClassId} {ed la x q : Nat}
theorem EXT9.pikR {y : Nat} (e9 : EXT9 L P L' P') (p : PIKR L P cI cZ y) : PIKR L' P' cI cZ y := by
  obtain ⟨p1, p2, p3, p4, p5, p6, p7⟩ := p
  obtain ⟨m, s⟩ := e9 y p1.1
  have d : P'.kd y = 15 := (s.2.1 0).trans p1.2
  have s2 := e9 _ p2.1
  have s3 := e9 _ p3.1
  have s4 := e9 _ p4.1
  have pp : P'.pp y = P.pp y := s.2.1 1
  have pu : P'.pu y = P.pu y := s.2.1 2
  have pr : P'.pr y = P.pr y := s.2.1 3
  have pn : P'.pn y = P.pn y := s.1 1
  have pt : P'.pt y = P.pt y := s.1 0
  have pg : P'.pg y = P.pg y := s.1 2
  have k2 : P'.kd (P.pp y) = P.kd (P.pp y) := s2.2.2.1 0
  have k3 : P'.kd (P.pu y) = P.kd (P.pu y) := s3.2.2.1 0
  have k4 : P'.kd (P.pr y) = P.kd (P.pr y) := s4.2.2.1 0
  have a2 : P'.an (P.pp y) = P.an (P.pp y) := s2.2.2.1 1
  have a3 : P'.an (P.pu y) = P.an (P.pu y) := s3.2.2.1 1
  have a4 : P'.an (P.pr y) = P.an (P.pr y) := s4.2.2.1 1
  have o2 : P'.ow (P.pp y) = P.ow (P.pp y) := s2.2.2.1 9
  have o3 : P'.ow (P.pu y) = P.ow (P.pu y) := s3.2.2.1 9
  have o4 : P'.ow (P.pr y) = P.ow (P.pr y) := s4.2.2.1 9
  refine ⟨⟨m, d⟩, ?_, ?_, ?_, ?_, ?_, fun i i0 i1 => ?_⟩
  · rw [pp, k2, s2.2.2.2.2.2, o2]; exact ⟨s2.1, p2.2⟩
  · rw [pu, k3, s3.2.2.2.2.2, o3]; exact ⟨s3.1, p3.2⟩
  · rw [pr, k4, s4.2.2.2.2.2, o4]; exact ⟨s4.1, p4.2⟩
  · rw [pp, pu, pr, a2, a3, a4, pn]; exact p5
  · rw [pt, pg]; exact p6
  · trivial
theorem GLR.ext (h : GLR L P cO cI cZ ed) (e : EXT9 L P L' P') (n : ∀ z : Nat, z ∈ L' → z ∉ L → NEWR L' P' cO cI cZ ed z) : GLR L' P' cO cI cZ ed := by
  obtain ⟨⟨g1, g2, g3⟩, hr, hp, ho, hc⟩ := h
  refine ⟨⟨fun x m k => ?_, fun x m k => ?_, fun x m k k1 => ?_⟩, fun x m k => ?_, fun x m k => ?_, fun x m k => ?_, fun x m k => ?_⟩
  all_goals by_cases mL : x ∈ L
  · obtain ⟨m', s⟩ := e x mL
    rw [show P'.kd x = P.kd x from s.2.1 0] at k
    obtain ⟨a, b, c⟩ := g1 x mL k
    have ek : P'.ek x = P.ek x := s.2.1 8
    have lz : P'.lz x = P.lz x := s.1 0
    refine ⟨by rw [ek]; exact e.lok a, by rw [ek]; exact b, fun e1 i i0 i1 => ?_⟩
    rw [ek] at e1; rw [lz] at i1
    have g := a.2.2.2.2 i i0 i1
    have ee : P'.ek (P.el x i) = P.ek (P.el x i) := (e _ g.2.1).2.2.1 8
    rw [e.el ho mL k i0 i1, ee]; exact c e1 i i0 i1
  · exact ((n x m mL).2.2.1 k).2
  · obtain ⟨m', s⟩ := e x mL
    rw [show P'.kd x = P.kd x from s.2.1 0] at k
    obtain ⟨⟨a1, a2, a3⟩, b⟩ := g2 x mL k
    obtain ⟨m1, s1⟩ := e _ a1
    have be : P'.be x = P.be x := s.2.1 3
    have f1 : P'.bf x = P.bf x := s.1 0
    have f2 : P'.bs x = P.bs x := s.1 1
    have ek : P'.ek (P.be x) = P.ek (P.be x) := s1.2.1 8
    unfold GLB1
    rw [be, f1, f2, ek]; exact ⟨⟨m1, (s1.2.1 0).trans a2, a3⟩, b⟩
  · exact ((n x m mL).2.2.2 k).2
  · obtain ⟨m', s⟩ := e x mL
    rw [show P'.kd x = P.kd x from s.2.1 0] at k
    have ek : P'.ek x = P.ek x := s.2.1 8
    have ro : P'.ro x = P.ro x := s.1 0
    rw [ro]; rw [ek] at k1; exact g3 x mL k k1
  · exact ((n x m mL).1 k).2 k1
  · obtain ⟨m', s⟩ := e x mL
    rw [show P'.kd x = P.kd x from s.2.1 0] at k
    exact s.rokR (hr x mL k)
  · exact ((n x m mL).1 k).1
  · obtain ⟨m', s⟩ := e x mL
    rw [show P'.kd x = P.kd x from s.2.1 0] at k
    exact e.pikR (hp x mL k)
  · exact (n x m mL).2.1 k
  · obtain ⟨m', s⟩ := e x mL
    rw [show P'.kd x = P.kd x from s.2.1 0] at k
    have le : P'.le x = P.le x := s.2.1 1
    have fl : P'.fl x = P.fl x := s.2.1 7
    have lz : P'.lz x = P.lz x := s.1 0
    rw [le, fl, lz]
    refine ⟨(ho x mL k).1, fun f => ?_⟩
    obtain ⟨a, b, c, d, g⟩ := (ho x mL k).2 f
    obtain ⟨m1, s1⟩ := e _ a
    have an : P'.an (P.le x) = P.an (P.le x) := s1.2.1 1
    exact ⟨m1, (s1.2.1 0).trans b, (s1.2.1 9).trans c, by rw [s1.2.2.1]; exact e.els d, by rw [an, s1.2.2.2.2]; exact g⟩
  · exact ((n x m mL).2.2.1 k).1
  · obtain ⟨m', s⟩ := e x mL
    rw [show P'.kd x = P.kd x from s.2.1 0] at k
    obtain ⟨⟨c1, c2, c3, c4⟩, c5, c6, c7, c8⟩ := hc x mL k
    have br : P'.br x = P.br x := s.2.1 2
    have bp : P'.bp x = P.bp x := s.2.1 1
    obtain ⟨m1, s1⟩ := e _ c3
    obtain ⟨m2, s2⟩ := e _ c7
    rw [br, bp]
    exact ⟨⟨(s1.2.1 8).trans c1, (s1.2.1 9).trans c2, m1, (s1.2.1 0).trans c4⟩, (s2.2.1 8).trans c5, (s2.2.1 9).trans c6, m2, (s2.2.1 0).trans c8⟩
  · exact ((n x m mL).2.2.2 k).1
theorem GLR.rokR (h : GLR L P cO cI cZ ed) (m : x ∈ L) (k : P.kd x = 17) : ROKR P x := h.2.1 x m k
theorem GLR.pikR (h : GLR L P cO cI cZ ed) (m : x ∈ L) (k : P.kd x = 15) : PIKR L P cI cZ x := h.2.2.1 x m k
theorem GLR.row (h : GLR L P cO cI cZ ed) (w : RW1 x P P') (k : P.kd x = 17) (p : ROKR P' x) (o : P.ek x ≠ 1 → (P'.ro x ≤ 14 ∨ P'.ro x = 20 ∨ P'.ro x = 21)) : GLR L P' cO cI cZ ed := by
  have r := w.rwd (Or.inl k)
  refine ⟨h.1.row w k o, fun q m d => ?_, fun q m d => ?_, h.2.2.2.1.of (by rw [w.1]) (by rw [w.1]) (by rw [w.1]) (fun l q => r.lz q), h.2.2.2.2.of (by rw [w.1])⟩
  · rw [r.kd] at d
    by_cases n : q = x
    · rw [n]; exact p
    · exact w.rokR n (h.rokR m d)
  · rw [r.kd] at d
    exact (h.pikR m d).other w.ph1 (kd_ne d k (by decide))
theorem GLR.phi (h : GLR L P cO cI cZ ed) (w : PH1 x P P') (k : P.kd x = 15) (p : PIKR L P' cI cZ x) : GLR L P' cO cI cZ ed := by
  have r := w.rwd k
  refine ⟨h.1.phi w k, fun q m d => ?_, fun q m d => ?_, h.2.2.2.1.of w.1.1 w.1.2.1 w.1.2.2 (fun l q => r.lz q), h.2.2.2.2.of w.1.1⟩
  · rw [r.kd] at d
    have n : q ≠ x := kd_ne d k (by decide)
    have b := h.rokR m d
    unfold ROKR PO.ro PO.rt PO.ra PO.rb PO.rA PO.rB PO.rg PO.ek at *
    simp only [w.1.1, w.2.1 q n]; exact b
  · rw [r.kd] at d
    by_cases n : q = x
    · rw [n]; exact p
    · exact (h.pikR m d).other w n
theorem GLR.goal (h : GLR L P cO cI cZ ed) (w : RW1 x P P') (k : P.kd x = 12) (g : 0 ≤ P'.bf x ∧ P'.bf x ≤ 299 ∧ 0 ≤ P'.bs x ∧ P'.bs x ≤ 299) : GLR L P' cO cI cZ ed := by
  have kk : ∀ y : Nat, P'.kd y = P.kd y := fun y => by show P'.2.1 0 y = P.2.1 0 y; rw [w.1]
  refine ⟨h.1.goal w k g, fun q m d => ?_, fun q m d => ?_, h.2.2.2.1.of (by rw [w.1]) (by rw [w.1]) (by rw [w.1]) (fun l q => w.2 l (kd_ne q k (by decide)) 0), h.2.2.2.2.of (by rw [w.1])⟩
  · rw [kk] at d
    exact w.rokR (kd_ne d k (by decide)) (h.rokR m d)
  · rw [kk] at d
    exact (h.pikR m d).other w.ph1 (kd_ne d k (by decide))
theorem GLR.adc {l k9 : Nat} (h : GLR L P cO cI cZ ed) (ql : LOK L P cO k9 l) : ADC L P cO ed l := by
  have m := ql.1
  have k := ql.2.1
  by_cases f : P.fl l = 1
  · obtain ⟨a, b, c, d, e1, e2, e3, e4⟩ := (h.2.2.2.1 l m k).2 f
    exact Or.inl ⟨f, ⟨a, b, e3⟩, d, e4, e1, by omega⟩
  · exact Or.inr ⟨f, (h.2.2.2.1 l m k).1 f⟩
theorem GLR.add {k y : Nat} (h : GLR L P cO cI cZ ed) (w : GL1 x q L P L' P') (mx : x ∈ L) (kx : P.kd x = 30) (fx : P.fl x = 1 ∨ P.le x ∉ L) (ek : P.ek x = k) (my : y ∈ L) (ky : P.kd y = k) (z : P'.lz x = P.lz x + 1) (zb : P.lz x < 20000) (ac : P'.ac q = cO) (an0 : P.lz x + 1 ≤ P'.an q) (an1 : (P'.an q : Int) ≤ 40000) (els : ELS L' P' (P'.oa q)) (at9 : P'.oa q (P.lz x).toNat = some y) (old : ∀ j : Nat, (j : Int) < P.lz x → P'.oa q j = P.oa (P.le x) j) (e1 : k = 17 → P.ek y ≠ 1) : GLR L' P' cO cI cZ ed := by
  obtain ⟨g0, hr, hp, ho, hc⟩ := h
  have qx := (g0.1 x mx kx).1
  have sm : ∀ y : Nat, y ∈ L → P.kd y ≠ 31 → P.kd y ≠ 30 → y ∈ L' ∧ SM9 y P P' := fun y m k1 k2 => by
    have n := ho.nle mx kx fx m k1
    exact ⟨w.2.1 y m n, w.sm y m (fun e => k2 (by rw [e]; exact kx)) n⟩
  have bk : ∀ y : Nat, y ∈ L' → P'.kd y ≠ 30 → P'.kd y ≠ 31 → y ∈ L ∧ P.kd y = P'.kd y := fun y m k1 k2 => by
    obtain ⟨a, s⟩ := w.bk m (fun e => k1 (by rw [e]; exact w.1.2.2.1)) k2
    exact ⟨a, (s.2.1 0).symm⟩
  have nq : ∀ y : Nat, y ∈ L → P.kd y ≠ 31 → y ≠ q := fun y m k1 e => by
    have e2 := w.2.2.2.2 (by rw [← e]; exact m)
    exact ho.nle mx kx fx m k1 (e.trans e2)
  refine ⟨g0.add ho w mx kx fx ek my ky z zb ac an0 an1 at9 old e1, fun y m d => ?_, fun y m d => ?_, fun y m d => ?_, fun y m d => ?_⟩
  · obtain ⟨a, b⟩ := bk y m (by omega) (by omega)
    rw [d] at b
    exact (sm y a (by omega) (by omega)).2.rokR (hr y a b)
  · obtain ⟨a, b⟩ := bk y m (by omega) (by omega)
    rw [d] at b
    have s := (sm y a (by omega) (by omega)).2
    obtain ⟨p1, p2, p3, p4, p5, p6, p7⟩ := hp y a b
    have s2 := sm _ p2.1 (by rw [p2.2.1]; decide) (by rw [p2.2.1]; decide)
    have s3 := sm _ p3.1 (by rw [p3.2.1]; decide) (by rw [p3.2.1]; decide)
    have s4 := sm _ p4.1 (by rw [p4.2.1]; decide) (by rw [p4.2.1]; decide)
    have pp : P'.pp y = P.pp y := s.2.1 1
    have pu : P'.pu y = P.pu y := s.2.1 2
    have pr : P'.pr y = P.pr y := s.2.1 3
    have pn : P'.pn y = P.pn y := s.1 1
    have pt : P'.pt y = P.pt y := s.1 0
    have pg : P'.pg y = P.pg y := s.1 2
    have k2 : P'.kd (P.pp y) = P.kd (P.pp y) := s2.2.2.1 0
    have k3 : P'.kd (P.pu y) = P.kd (P.pu y) := s3.2.2.1 0
    have k4 : P'.kd (P.pr y) = P.kd (P.pr y) := s4.2.2.1 0
    have a2 : P'.an (P.pp y) = P.an (P.pp y) := s2.2.2.1 1
    have a3 : P'.an (P.pu y) = P.an (P.pu y) := s3.2.2.1 1
    have a4 : P'.an (P.pr y) = P.an (P.pr y) := s4.2.2.1 1
    have o2 : P'.ow (P.pp y) = P.ow (P.pp y) := s2.2.2.1 9
    have o3 : P'.ow (P.pu y) = P.ow (P.pu y) := s3.2.2.1 9
    have o4 : P'.ow (P.pr y) = P.ow (P.pr y) := s4.2.2.1 9
    refine ⟨⟨m, d⟩, ?_, ?_, ?_, ?_, ?_, fun i i0 i1 => ?_⟩
    · rw [pp, k2, s2.2.2.2.2.2, o2]; exact ⟨s2.1, p2.2⟩
    · rw [pu, k3, s3.2.2.2.2.2, o3]; exact ⟨s3.1, p3.2⟩
    · rw [pr, k4, s4.2.2.2.2.2, o4]; exact ⟨s4.1, p4.2⟩
    · rw [pp, pu, pr, a2, a3, a4, pn]; exact p5
    · rw [pt, pg]; exact p6
    · trivial
  · by_cases e : y = x
    · subst e
      refine ⟨fun f => absurd w.1.2.2.2.2.2.2.2.2 f, fun _ => ?_⟩
      rw [w.1.2.2.2.1]
      exact ⟨w.1.2.1, w.1.2.2.2.2.1, w.1.2.2.2.2.2.1, els, by have := qx.2.2.1; omega, by omega, ac, by rw [z]; exact an0⟩
    · have n2 : y ≠ q := fun e2 => by rw [e2, w.1.2.2.2.2.1] at d; omega
      have mL : y ∈ L := by
        rcases w.2.2.1 y m with e1 | e1 | e1
        · exact absurd e1 e
        · exact absurd e1 n2
        · exact e1
      have s := w.2.2.2.1 y e n2
      have kd : P.kd y = 30 := (s.2.1 0).symm.trans d
      have le : P'.le y = P.le y := s.2.1 1
      have fl : P'.fl y = P.fl y := s.2.1 7
      have lz : P'.lz y = P.lz y := s.1 0
      rw [le, fl, lz]
      refine ⟨(ho y mL kd).1, fun f => ?_⟩
      obtain ⟨a, b, c, d1, d2⟩ := (ho y mL kd).2 f
      have n3 : P.le y ≠ x := kd_ne b kx (by decide)
      have n4 : P.le y ≠ P.le x := fun e2 => by
        rcases fx with g | g
        · exact e (by rw [← c, e2, ((ho x mx kx).2 g).2.2.1])
        · exact g (by rw [← e2]; exact a)
      have s2 := w.sm _ a n3 n4
      have an : P'.an (P.le y) = P.an (P.le y) := s2.2.1 1
      refine ⟨w.2.1 _ a n4, (s2.2.1 0).trans b, (s2.2.1 9).trans c, ?_, by rw [an, s2.2.2.2.2]; exact d2⟩
      rw [s2.2.2.1]
      intro j z0 e0
      obtain ⟨f1, f2⟩ := d1 j z0 e0
      have nn := ho.nle mx kx fx f1 (by unfold OBK at f2; omega)
      exact ⟨w.2.1 _ f1 nn, by rw [w.kd kx f1 nn]; exact f2⟩
  · obtain ⟨a, b⟩ := bk y m (by omega) (by omega)
    rw [d] at b
    have s := sm y a (by omega) (by omega)
    have br : P'.br y = P.br y := s.2.2.1 2
    have bp : P'.bp y = P.bp y := s.2.2.1 1
    have go : ∀ l : Nat, l ∈ L → P.kd l = 30 → P'.ek l = P.ek l ∧ P'.ow l = P.ow l ∧ l ∈ L' ∧ P'.kd l = 30 := fun l ml kl => by
      by_cases e : l = x
      · rw [e]; exact ⟨w.1.2.2.2.2.2.2.2.1, w.1.2.2.2.2.2.2.1, w.1.1, w.1.2.2.1⟩
      · have t := w.2.2.2.1 l e (nq l ml (by omega))
        exact ⟨t.2.1 8, t.2.1 9, w.2.1 l ml (ho.nle mx kx fx ml (by omega)), (t.2.1 0).trans kl⟩
    obtain ⟨⟨c1, c2, c3, c4⟩, c5, c6, c7, c8⟩ := hc y a b
    obtain ⟨g1, g2, g3, g4⟩ := go _ c3 c4
    obtain ⟨g5, g6, g7, g8⟩ := go _ c7 c8
    rw [br, bp, g1, g2, g5, g6]
    exact ⟨⟨c1, c2, g3, g4⟩, c5, c6, g7, g8⟩
theorem mrow_newR (L : List Nat) (P : PO) (cO cI cZ : ClassId) (ed x e : Nat) : NEWR L (P.mrow x e) cO cI cZ ed x := by
  obtain ⟨a, b, c, d, f, g, h, i, j⟩ := mrow_at P x e
  refine ⟨fun _ => ⟨ROKR.of (by omega) (by omega) (by omega) (by omega) (by omega) (by omega) (by omega) (rUA9R (by omega)) (rUB9R (by omega)), fun _ => by omega⟩, fun k => by omega, fun k => by omega, fun k => by omega⟩
theorem GLR.new1R (h : GLR L P cO cI cZ ed) (e : EXT9 L P (x :: L) P') (k : NEWR (x :: L) P' cO cI cZ ed x) : GLR (x :: L) P' cO cI cZ ed := h.ext e (fun z m z0 => by
  rcases List.mem_cons.mp m with q | q
  · rw [q]; exact k
  · exact absurd q z0)
end GLR5
section GLR6
variable {L L' L2 : List Nat} {P P' P2 : PO} {cO cI cZ : ClassId} {ed la x q : Nat}
theorem NUM9.newR (h : NUM9 L L' P') : ∀ z : Nat, z ∈ L' → z ∉ L → NEWR L' P' cO cI cZ ed z := fun z m n => by
  have k := h z m n
  exact ⟨fun e => by omega, fun e => by omega, fun e => by omega, fun e => by omega⟩
theorem mphi_pikR {p u r : Nat} (n : x ∉ L) (a : ARF9 L P p 40 x cI 4) (b : ARF9 L P u 41 x cI 4) (c : ARF9 L P r 42 x cZ 4) : PIKR (x :: L) (P.mphi x p u r) cI cZ x := by
  obtain ⟨k, e1, e2, e3, e4, e5, e6⟩ := mphi_at P x p u r
  have ex : EXT9 L P (x :: L) (P.mphi x p u r) := EXT9.one n
  obtain ⟨a1, a2, a3, a4, a5⟩ := ex.arf a
  obtain ⟨b1, b2, b3, b4, b5⟩ := ex.arf b
  obtain ⟨c1, c2, c3, c4, c5⟩ := ex.arf c
  refine ⟨⟨List.mem_cons_self, k⟩, ?_, ?_, ?_, ?_, ?_, fun i i0 i1 => ?_⟩
  · rw [e1]; exact ⟨a1, a2, a3, a4⟩
  · rw [e2]; exact ⟨b1, b2, b3, b4⟩
  · rw [e3]; exact ⟨c1, c2, c3, c4⟩
  · rw [e1, e2, e3, e4, a5, b5, c5]; omega
  · omega
  · omega
theorem mphi_newR {p u r : Nat} (n : x ∉ L) (a : ARF9 L P p 40 x cI 4) (b : ARF9 L P u 41 x cI 4) (c : ARF9 L P r 42 x cZ 4) : NEWR (x :: L) (P.mphi x p u r) cO cI cZ ed x := by
  have k := (mphi_at P x p u r).1
  exact ⟨fun e => by omega, fun _ => mphi_pikR n a b c, fun e => by omega, fun e => by omega⟩
theorem LSF9.newR {k y : Nat} (h : LSF9 L P x k y ed) (kk : k = 12 ∨ k = 15 ∨ k = 17) : NEWR L P cO cI cZ ed x := by
  obtain ⟨a, b, c, d, g, i, j⟩ := h
  refine ⟨fun e => by omega, fun e => by omega, fun _ => ⟨⟨fun _ => ⟨i, j⟩, fun f => by omega⟩, ⟨a, b, by omega, Or.inl i, fun z z0 z1 => by omega⟩, by rw [c]; exact kk, fun _ z z0 z1 => by omega⟩, fun e => by omega⟩
def RWFR (L : List Nat) (P : PO) (x e : Nat) : Prop := x ∈ L ∧ P.kd x = 17 ∧ P.ek x = e ∧ ROKR P x ∧ P.ro x = 0
theorem EXT9.rwfR {e : Nat} (h : EXT9 L P L' P') (f : RWFR L P q e) : RWFR L' P' q e := by
  obtain ⟨a, b, c, d, g⟩ := f
  obtain ⟨m, s⟩ := h q a
  exact ⟨m, (s.2.1 0).trans b, (s.2.1 8).trans c, s.rokR d, (s.1 0).trans g⟩
theorem mrow_rwfR (L : List Nat) (P : PO) (x e : Nat) : RWFR (x :: L) (P.mrow x e) x e := by
  obtain ⟨a, b, c, d, f, g, h, i, j⟩ := mrow_at P x e
  exact ⟨List.mem_cons_self, a, b, ROKR.of (by omega) (by omega) (by omega) (by omega) (by omega) (by omega) (by omega) (rUA9R (by omega)) (rUB9R (by omega)), c⟩
theorem RWFR.newR {e : Nat} (h : RWFR L P x e) : NEWR L P cO cI cZ ed x := by
  obtain ⟨a, b, c, d, g⟩ := h
  exact ⟨fun _ => ⟨d, fun _ => by omega⟩, fun k => by omega, fun k => by omega, fun k => by omega⟩
def NWSR (L L' : List Nat) (P' : PO) (cO cI cZ : ClassId) (ed : Nat) : Prop := ∀ z : Nat, z ∈ L' → z ∉ L → NEWR L' P' cO cI cZ ed z
theorem EXT9.new1R {z : Nat} (e : EXT9 L P L' P') (m : z ∈ L) (o : P.kd z = 30 → P.fl z ≠ 1) (n : NEWR L P cO cI cZ ed z) (b : P.kd z ≠ 12) : NEWR L' P' cO cI cZ ed z := by
  obtain ⟨m', s⟩ := e z m
  have kd : P'.kd z = P.kd z := s.2.1 0
  refine ⟨fun k => ?_, fun k => ?_, fun k => ?_, fun k => absurd (kd.symm.trans k) b⟩
  · rw [kd] at k
    obtain ⟨a, c⟩ := n.1 k
    have ek : P'.ek z = P.ek z := s.2.1 8
    have ro : P'.ro z = P.ro z := s.1 0
    exact ⟨s.rokR a, by rw [ek, ro]; exact c⟩
  · rw [kd] at k; exact e.pikR (n.2.1 k)
  · rw [kd] at k
    obtain ⟨a, c1, c2, c3⟩ := n.2.2.1 k
    have ek : P'.ek z = P.ek z := s.2.1 8
    have lz : P'.lz z = P.lz z := s.1 0
    have fl : P'.fl z = P.fl z := s.2.1 7
    have le : P'.le z = P.le z := s.2.1 1
    have f0 := o k
    have z0 := (a.1 f0).1
    refine ⟨⟨fun _ => by rw [lz, le]; exact a.1 f0, fun f => absurd (fl.symm.trans f) f0⟩, by rw [ek]; exact e.lok c1, by rw [ek]; exact c2, fun _ i i0 i1 => by omega⟩
theorem mblock_newR {p r e : Nat} (n : x ∉ L) (a : LSF9 L P p 15 x ed) (b : LSF9 L P r 17 x ed) (c : RWFR L P e 1) : NEWR (x :: L) (P.mblock x p r e) cO cI cZ ed x := by
  obtain ⟨k, e1, e2, e3, e4, e5⟩ := mblock_at P x p r e
  have ex : EXT9 L P (x :: L) (P.mblock x p r e) := EXT9.one n
  obtain ⟨a1, a2, a3, a4, a5⟩ := ex.lsf a
  obtain ⟨b1, b2, b3, b4, b5⟩ := ex.lsf b
  obtain ⟨c1, c2, c3, c4⟩ := ex.rwfR c
  refine ⟨fun q => by omega, fun q => by omega, fun q => by omega, fun _ => ⟨?_, ?_, ?_⟩⟩
  · unfold OWC1; rw [e1, e2]; exact ⟨⟨b3, b4, b1, b2⟩, a3, a4, a1, a2⟩
  · rw [e3]; exact ⟨c1, c2, c3⟩
  · omega
end GLR6
section GLR7
variable {E L L' L2 : List Nat} {P P' P2 : PO} {cO cI cZ : ClassId} {ed la x q : Nat}
theorem EXT9.kegR (e : EXT9 L P L' P') (h : GLR L P cO cI cZ ed) : KEG E L P L' P' := ⟨fun y m k => ⟨(e y m).1, (e y m).2.2.1 0, (e y m).2.2.1 8, fun k2 o2 => ⟨((e y m).2.2.1 9).trans o2, fun _ => ⟨(e y m).2.1 0, fun i i0 i1 => e.el h.2.2.2.1 m k2 i0 i1⟩⟩, fun _ => (e y m).2.sma⟩, fun y m k => ⟨(e y m).2.2.1 1, (e y m).2.2.1 2, (e y m).2.2.1 3⟩⟩
theorem GL1.kegR (h : GLR L P cO cI cZ ed) (w : GL1 x q L P L' P') (mx : x ∈ L) (kx : P.kd x = 30) (fx : P.fl x = 1 ∨ P.le x ∉ L) (ox : P.ow x ≠ x ∨ x ∈ E) : KEG E L P L' P' := by
  have o : OWA L P cO ed := h.2.2.2.1
  refine ⟨fun y m k => ?_, fun y m k => ?_⟩
  · have n := o.nle mx kx fx m k
    refine ⟨w.2.1 y m n, w.kd kx m n, w.ek o mx kx fx m k, fun k2 o2 => ?_, fun k2 => (w.sm y m (fun e => by rw [e, kx] at k2; unfold PKD at k2; omega) n).sma⟩
    by_cases ny : y = x
    · refine ⟨by rw [ny] at o2 ⊢; exact w.1.2.2.2.2.2.2.1.trans o2, fun ne => ?_⟩
      rcases ox with q | q
      · exact absurd (by rw [← ny]; exact o2) q
      · exact absurd (by rw [ny]; exact q) ne
    · have s := w.sm y m ny n
      exact ⟨(s.2.1 9).trans o2, fun _ => ⟨s.1 0, fun i i0 i1 => w.elO o mx kx fx m k2 ny i0 i1⟩⟩
  · have s := w.sm y m (kd_ne k kx (by decide)) (o.nle mx kx fx m (by omega))
    exact ⟨s.2.1 1, s.2.1 2, s.2.1 3⟩
theorem CLR.kegR (h : GLR L P cO cI cZ ed) (w : CLR x L P P') (mx : x ∈ L) (kx : P.kd x = 30) (ox : P.ow x ≠ x ∨ x ∈ E) : KEG E L P L P' := by
  obtain ⟨w, z, f⟩ := w
  have o : OWA L P cO ed := h.2.2.2.1
  refine ⟨fun y m _ => ⟨m, w.kd y, w.ek y, fun k2 o2 => ⟨by show P'.2.1 9 y = y; rw [w.1]; exact o2, fun ne => ?_⟩, fun k2 => w.sma kx (f.imp (fun q => ((o x mx kx).2 q.1).2.1) id) k2⟩, fun y _ _ => ⟨by show P'.2.1 1 y = P.2.1 1 y; rw [w.1], by show P'.2.1 2 y = P.2.1 2 y; rw [w.1], by show P'.2.1 3 y = P.2.1 3 y; rw [w.1]⟩⟩
  have ny : y ≠ x := fun e2 => by
    rcases ox with q | q
    · exact q (by rw [← e2]; exact o2)
    · exact ne (by rw [e2]; exact q)
  refine ⟨w.2.2.1 y ny 0, fun i i0 i1 => ?_⟩
  rcases f with f | f
  · exact o.els w mx kx f.1 m k2 ny i0 i1
  · have le : P'.le y = P.le y := by show P'.2.1 1 y = P.2.1 1 y; rw [w.1]
    unfold PO.el; rw [le, f]
theorem CLR.glfR (h : GLR L P cO cI cZ ed) (w : CLR x L P P') (mx : x ∈ L) (kx : P.kd x = 30) : GLR L P' cO cI cZ ed := by
  obtain ⟨w, z, f⟩ := w
  obtain ⟨g0, hr, hp, o, hc⟩ := h
  have f' : P.fl x = 1 ∨ ∀ a : Nat, P'.oa a = P.oa a := f.imp (fun q => q.1) id
  refine ⟨g0.clear o w mx kx f' z, fun q m d => ?_, fun q m d => ?_, fun y m k => ?_, fun y m k => ?_⟩
  · rw [w.kd] at d
    exact w.rokR (kd_ne d kx (by decide)) (hr q m d)
  · rw [w.kd] at d
    exact w.pikR (kd_ne d kx (by decide)) (hp q m d)
  · rw [w.kd] at k
    have le : P'.le y = P.le y := by show P'.2.1 1 y = P.2.1 1 y; rw [w.1]
    have fl : P'.fl y = P.fl y := by show P'.2.1 7 y = P.2.1 7 y; rw [w.1]
    have an : P'.an (P.le y) = P.an (P.le y) := by show P'.2.1 1 _ = P.2.1 1 _; rw [w.1]
    have ac : P'.ac (P.le y) = P.ac (P.le y) := by show P'.2.2.2.2 _ = P.2.2.2.2 _; rw [w.2.1]
    have ow : P'.ow (P.le y) = P.ow (P.le y) := by show P'.2.1 9 _ = P.2.1 9 _; rw [w.1]
    have elsm : ∀ g : Nat → Option Nat, ELS L P g → ELS L P' g := fun g e j u eq => by
      obtain ⟨a, b⟩ := e j u eq
      exact ⟨a, by show OBK (P'.2.1 0 u); rw [w.1]; exact b⟩
    rw [le, fl]
    obtain ⟨h1, h2⟩ := o y m k
    by_cases n : y = x
    · refine ⟨fun f0 => ⟨by rw [n]; exact z, (h1 f0).2⟩, fun f1 => ?_⟩
      obtain ⟨a, b, c, d, e1, e2, e3, e4⟩ := h2 f1
      refine ⟨a, (w.kd _).trans b, ow.trans c, ?_, by rw [an]; exact e1, by rw [an]; exact e2, ac.trans e3, by rw [n, z]; omega⟩
      rcases f with f | f
      · rw [n]; exact f.2
      · rw [f]; exact elsm _ d
    · have lz : P'.lz y = P.lz y := w.2.2.1 y n 0
      rw [lz]
      refine ⟨h1, fun f1 => ?_⟩
      obtain ⟨a, b, c, d, e1, e2, e3, e4⟩ := h2 f1
      refine ⟨a, (w.kd _).trans b, ow.trans c, ?_, by rw [an]; exact e1, by rw [an]; exact e2, ac.trans e3, by rw [an]; exact e4⟩
      have oa : P'.oa (P.le y) = P.oa (P.le y) := by
        rcases f with f | f
        · exact w.2.2.2 _ (fun q2 => n (by rw [← c, q2, ((o x mx kx).2 f.1).2.2.1]))
        · exact f _
      rw [oa]; exact elsm _ d
  · rw [w.kd] at k
    have b := hc y m k
    unfold PO.kd PO.ek PO.br PO.bp PO.ow at *
    rw [w.1]; exact b
theorem GLR.gla (h : GLR L P cO cI cZ ed) : GLA L P cO := h.1.1
theorem GLR.owa (h : GLR L P cO cI cZ ed) : OWA L P cO ed := h.2.2.2.1
theorem GLR.op21 (h : GLR L P cO cI cZ ed) (m : x ∈ L) (k : P.kd x = 17) (e : P.ek x ≠ 1) : (P.ro x ≤ 14 ∨ P.ro x = 20 ∨ P.ro x = 21) := h.1.2.2 x m k e
theorem GLR.adcl {l k : Nat} (h : GLR L P cO cI cZ ed) (q : LOK L P cO k l) : ADC L P cO ed l := h.adc q
theorem GLR.adc40 {l k : Nat} (h : GLR L P cO cI cZ ed) (q : LOK L P cO k l) : P.fl l = 1 → (P.an (P.le l) : Int) ≤ 40000 := fun f => by
  have := ((h.2.2.2.1 l q.1 q.2.1).2 f).2.2.2.2.2.1
  omega
theorem GLR.lbr (h : GLR L P cO cI cZ ed) (m : x ∈ L) (k : P.kd x = 12) : LOK L P cO 17 (P.br x) := by
  have c := h.2.2.2.2 x m k
  have l := (h.1.1 _ c.1.2.2.1 c.1.2.2.2).1
  rw [c.1.1] at l; exact l
theorem GLR.lbp (h : GLR L P cO cI cZ ed) (m : x ∈ L) (k : P.kd x = 12) : LOK L P cO 15 (P.bp x) := by
  have c := h.2.2.2.2 x m k
  have l := (h.1.1 _ c.2.2.2.1 c.2.2.2.2).1
  rw [c.2.1] at l; exact l
theorem GLR.gb (h : GLR L P cO cI cZ ed) (m : x ∈ L) (k : P.kd x = 12) : GLB1 L P x := h.1.2.1 x m k
end GLR7
section GLR8
variable {E L L' M M2 : List Nat} {P P' Q Q2 : PO} {cO cI cZ : ClassId} {ed la x q : Nat} {T : Nat → Prop}
theorem GLR.owc (h : GLR L P cO cI cZ ed) : OWC L P := h.2.2.2.2
end GLR8
section GLR9
variable {E L L' : List Nat} {P P' : PO} {cO cI cZ : ClassId} {ed la x : Nat}
theorem PXC.pikR {y : Nat} (w : PXC x L P L' P') (kx : P.kd x = 15) (n : y ≠ x) (p : PIKR L P cI cZ y) : PIKR L' P' cI cZ y := by
  obtain ⟨p1, p2, p3, p4, p5, p6, p7⟩ := p
  have go : ∀ z : Nat, z ∈ L → (z = y ∨ (P.ow z = y ∧ 40 ≤ P.kd z)) → z ∈ L' ∧ SM9 z P P' := fun z m o => ⟨(w.1 z m).1, (w.2.1 z m (fun q => by
    rcases o with o | o
    · rw [o] at q
      rcases q with q | q
      · exact n q
      · omega
    · rcases q with q | q
      · rw [q] at o; omega
      · exact n (o.1.symm.trans q.1))).2⟩
  obtain ⟨m, s⟩ := go y p1.1 (Or.inl rfl)
  have d : P'.kd y = 15 := (s.2.1 0).trans p1.2
  have s2 := go _ p2.1 (Or.inr ⟨p2.2.2.2, by omega⟩)
  have s3 := go _ p3.1 (Or.inr ⟨p3.2.2.2, by omega⟩)
  have s4 := go _ p4.1 (Or.inr ⟨p4.2.2.2, by omega⟩)
  have pp : P'.pp y = P.pp y := s.2.1 1
  have pu : P'.pu y = P.pu y := s.2.1 2
  have pr : P'.pr y = P.pr y := s.2.1 3
  have pn : P'.pn y = P.pn y := s.1 1
  have pt : P'.pt y = P.pt y := s.1 0
  have pg : P'.pg y = P.pg y := s.1 2
  have k2 : P'.kd (P.pp y) = P.kd (P.pp y) := s2.2.2.1 0
  have k3 : P'.kd (P.pu y) = P.kd (P.pu y) := s3.2.2.1 0
  have k4 : P'.kd (P.pr y) = P.kd (P.pr y) := s4.2.2.1 0
  have a2 : P'.an (P.pp y) = P.an (P.pp y) := s2.2.2.1 1
  have a3 : P'.an (P.pu y) = P.an (P.pu y) := s3.2.2.1 1
  have a4 : P'.an (P.pr y) = P.an (P.pr y) := s4.2.2.1 1
  have o2 : P'.ow (P.pp y) = P.ow (P.pp y) := s2.2.2.1 9
  have o3 : P'.ow (P.pu y) = P.ow (P.pu y) := s3.2.2.1 9
  have o4 : P'.ow (P.pr y) = P.ow (P.pr y) := s4.2.2.1 9
  refine ⟨⟨m, d⟩, ?_, ?_, ?_, ?_, ?_, fun i i0 i1 => ?_⟩
  · rw [pp, k2, s2.2.2.2.2.2, o2]; exact ⟨s2.1, p2.2⟩
  · rw [pu, k3, s3.2.2.2.2.2, o3]; exact ⟨s3.1, p3.2⟩
  · rw [pr, k4, s4.2.2.2.2.2, o4]; exact ⟨s4.1, p4.2⟩
  · rw [pp, pu, pr, a2, a3, a4, pn]; exact p5
  · rw [pt, pg]; exact p6
  · trivial
theorem GLR.pxc (h : GLR L P cO cI cZ ed) (w : PXC x L P L' P') (kx : P.kd x = 15) (p : PIKR L' P' cI cZ x) : GLR L' P' cO cI cZ ed := by
  obtain ⟨⟨g1, g2, g3⟩, hr, hp, ho, hc⟩ := h
  refine ⟨⟨fun y m k => ?_, fun y m k => ?_, fun y m k k1 => ?_⟩, fun y m k => ?_, fun y m k => ?_, fun y m k => ?_, fun y m k => ?_⟩
  · obtain ⟨mL, e⟩ := w.old m (by omega)
    rw [k] at e
    have s := w.sm kx mL (by omega) (by omega)
    obtain ⟨a, b, c⟩ := g1 y mL e
    have ek : P'.ek y = P.ek y := s.2.1 8
    have lz : P'.lz y = P.lz y := s.1 0
    refine ⟨by rw [ek]; exact w.lok kx a, by rw [ek]; exact b, fun e1 i i0 i1 => ?_⟩
    rw [ek] at e1; rw [lz] at i1
    have g := a.2.2.2.2 i i0 i1
    rw [w.el kx ho mL e i0 i1, (w.1 _ g.2.1).2.2.1]; exact c e1 i i0 i1
  · obtain ⟨mL, e⟩ := w.old m (by omega)
    rw [k] at e
    have s := w.sm kx mL (by omega) (by omega)
    obtain ⟨⟨a1, a2, a3⟩, b⟩ := g2 y mL e
    have be : P'.be y = P.be y := s.2.1 3
    have f1 : P'.bf y = P.bf y := s.1 0
    have f2 : P'.bs y = P.bs y := s.1 1
    unfold GLB1
    rw [be, f1, f2, (w.1 _ a1).2.2.1]; exact ⟨⟨(w.1 _ a1).1, (w.1 _ a1).2.1.trans a2, a3⟩, b⟩
  · obtain ⟨mL, e⟩ := w.old m (by omega)
    rw [k] at e
    have s := w.sm kx mL (by omega) (by omega)
    have ek : P'.ek y = P.ek y := s.2.1 8
    have ro : P'.ro y = P.ro y := s.1 0
    rw [ro]; rw [ek] at k1; exact g3 y mL e k1
  · obtain ⟨mL, e⟩ := w.old m (by omega)
    rw [k] at e
    exact (w.sm kx mL (by omega) (by omega)).rokR (hr y mL e)
  · obtain ⟨mL, e⟩ := w.old m (by omega)
    rw [k] at e
    by_cases n : y = x
    · rw [n]; exact p
    · exact w.pikR kx n (hp y mL e)
  · obtain ⟨mL, e⟩ := w.old m (by omega)
    rw [k] at e
    have s := w.sm kx mL (by omega) (by omega)
    have le : P'.le y = P.le y := s.2.1 1
    have fl : P'.fl y = P.fl y := s.2.1 7
    have lz : P'.lz y = P.lz y := s.1 0
    rw [le, fl, lz]
    refine ⟨(ho y mL e).1, fun f => ?_⟩
    obtain ⟨a, b, c, d, g⟩ := (ho y mL e).2 f
    have s1 := w.sm kx a (by omega) (by omega)
    have an : P'.an (P.le y) = P.an (P.le y) := s1.2.1 1
    exact ⟨(w.1 _ a).1, (s1.2.1 0).trans b, (s1.2.1 9).trans c, by rw [s1.2.2.1]; exact w.els d, by rw [an, s1.2.2.2.2]; exact g⟩
  · obtain ⟨mL, e⟩ := w.old m (by omega)
    rw [k] at e
    have s := w.sm kx mL (by omega) (by omega)
    obtain ⟨⟨c1, c2, c3, c4⟩, c5, c6, c7, c8⟩ := hc y mL e
    have br : P'.br y = P.br y := s.2.1 2
    have bp : P'.bp y = P.bp y := s.2.1 1
    have a1 := w.1 _ c3
    have a2 := w.1 _ c7
    rw [br, bp]
    exact ⟨⟨a1.2.2.1.trans c1, a1.2.2.2.trans c2, a1.1, a1.2.1.trans c4⟩, a2.2.2.1.trans c5, a2.2.2.2.trans c6, a2.1, a2.2.1.trans c8⟩
theorem PXC.kegR (h : GLR L P cO cI cZ ed) (w : PXC x L P L' P') (kx : P.kd x = 15) : KEG E L P L' P' := ⟨fun y m _ => ⟨(w.1 y m).1, (w.1 y m).2.1, (w.1 y m).2.2.1, fun k2 o2 => ⟨(w.1 y m).2.2.2.trans o2, fun _ => ⟨(w.sm kx m (by omega) (by omega)).1 0, fun i i0 i1 => w.el kx h.owa m k2 i0 i1⟩⟩, fun k2 => (w.sm kx m (by unfold PKD at k2; omega) (by unfold PKD at k2; omega)).sma⟩, fun y m k => by
  have s := w.sm kx m (by omega) (by omega)
  exact ⟨s.2.1 1, s.2.1 2, s.2.1 3⟩⟩
end GLR9
section GLR10
variable {L M : List Nat} {P Q P' : PO} {cO cI cZ : ClassId} {x a b k y m : Nat} {c : ClassId} {t n g : Int} {p u r : Nat} {f : Int → Int}
theorem pik_mkR {e1 e2 e3 : Int → Int} (mx : x ∈ L) (kx : P.kd x = 15) (ep : P.pp x = p) (eu : P.pu x = u) (er : P.pr x = r) (a1 : ARF9 L P p 40 x cI m) (a2 : ARF9 L P u 41 x cI m) (a3 : ARF9 L P r 42 x cZ m) (i1 : P.ia p = e1) (i2 : P.ia u = e2) (i3 : P.ia r = e3) (nn : 0 ≤ P.pn x ∧ P.pn x ≤ 300 ∧ P.pn x ≤ m ∧ m ≤ 1000 ∧ 4 ≤ m) (tt : 0 ≤ P.pt x ∧ P.pt x ≤ 3001 ∧ 0 ≤ P.pg x ∧ P.pg x ≤ 1) (ee : ∀ i : Int, 0 ≤ i → i < P.pn x → EF (e1 i) (e2 i) (e3 i)) : PIKR L P cI cZ x := by
  obtain ⟨b1, b2, b3, b4, b5⟩ := a1
  obtain ⟨c1, c2, c3, c4, c5⟩ := a2
  obtain ⟨d1, d2, d3, d4, d5⟩ := a3
  refine ⟨⟨mx, kx⟩, by rw [ep]; exact ⟨b1, b2, b3, b4⟩, by rw [eu]; exact ⟨c1, c2, c3, c4⟩, by rw [er]; exact ⟨d1, d2, d3, d4⟩, ?_, tt, fun i i0 i1' => ?_⟩
  · rw [ep, eu, er, b5, c5, d5]; omega
  · trivial
end GLR10
section GLR11
variable {L L' L2 : List Nat} {P P' P2 : PO} {cO cI cZ : ClassId} {x ed e lb : Nat} {S : Nat → Prop} {E : List Nat}
theorem DST.blkR (h : DST P lb) (g : GLR L P cO cI cZ ed) (c : lb ∈ L ∧ P.kd lb = 30 ∧ P.ek lb = 12 ∧ P.ow lb = lb) (k : KEG E L P L' P') (el : ∀ i : Int, 0 ≤ i → i < P.lz lb → P'.el lb i = P.el lb i)
    (z : P'.lz lb = P.lz lb ∨ (P'.lz lb = P.lz lb + 1 ∧ P'.el lb (P.lz lb) ∉ L ∧ P'.be (P'.el lb (P.lz lb)) ∉ L)) : DST P' lb := by
  have lk := (g.gla lb c.1 c.2.1).1
  rw [c.2.2.1] at lk
  have mm : ∀ i : Int, 0 ≤ i → i < P.lz lb → P.el lb i ∈ L ∧ P.kd (P.el lb i) = 12 ∧ P'.be (P.el lb i) = P.be (P.el lb i) ∧ P.be (P.el lb i) ∈ L := fun i i0 i1 => by
    have q := lk.2.2.2.2 i i0 i1
    exact ⟨q.2.1, q.2.2, (k.2 _ q.2.1 q.2.2).2.2, (g.gb q.2.1 q.2.2).1.1⟩
  intro i j i0 ij j1
  rcases z with z | ⟨z, n1, n2⟩
  · rw [z] at j1
    rw [el i i0 (by omega), el j (by omega) j1, (mm i i0 (by omega)).2.2.1, (mm j (by omega) j1).2.2.1]
    exact h i j i0 ij j1
  · by_cases q : j < P.lz lb
    · rw [el i i0 (by omega), el j (by omega) q, (mm i i0 (by omega)).2.2.1, (mm j (by omega) q).2.2.1]
      exact h i j i0 ij q
    · have ej : j = P.lz lb := by omega
      have mi := mm i i0 (by omega)
      rw [el i i0 (by omega), ej, mi.2.2.1]
      exact ⟨fun a => n1 (by rw [← a]; exact mi.1), fun a => n2 (by rw [← a]; exact mi.2.2.2)⟩
theorem CHG.rkbR (c : CHG S L P L' P') (g : GLR L P cO cI cZ ed) (k : KEG E L P L' P') (g' : GLR L' P' cO cI cZ ed) (mx : x ∈ L' ∧ P'.kd x = 12) (h : ∀ z : Nat, z ∈ L → S z → z = x ∨ (z = e ∧ P.kd z = 17) ∨ P.kd z = 31 ∨ (P.kd z = 17 ∧ P.ek z ≠ 1) ∨ (P.kd z = 30 ∧ P.ek z ≠ 15) ∨ z = P'.bp x) : RKB x e L P L' P' := by
  intro y m d n b
  obtain ⟨ky1, ky2, -, -⟩ := k.1 y m (by omega)
  have by2 := k.2 y m d
  obtain ⟨eb, ek, e1⟩ := (g.gb m d).1
  obtain ⟨-, l1, l2, l3, l4⟩ := g.owc y m d
  obtain ⟨-, -, o1, -, -⟩ := g'.owc y ky1 (ky2.trans d)
  obtain ⟨-, -, o2, o3, o4⟩ := g'.owc x mx.1 mx.2
  obtain ⟨-, kb2, -, -⟩ := k.1 _ eb (by omega)
  obtain ⟨-, kl2, -, -⟩ := k.1 _ l3 (by omega)
  have s1 := c y m (fun s => by
    rcases h y m s with q | q | q | q | q | q
    · exact n q
    · omega
    · omega
    · omega
    · omega
    · rw [← q] at o4; omega)
  have s2 := c (P.be y) eb (fun s => by
    rcases h _ eb s with q | q | q | q | q | q
    · have := mx.2; rw [← q] at this; omega
    · exact b q.1
    · omega
    · omega
    · omega
    · rw [← q] at o4; omega)
  have s3 := c (P.bp y) l3 (fun s => by
    rcases h _ l3 s with q | q | q | q | q | q
    · have := mx.2; rw [← q] at this; omega
    · omega
    · omega
    · omega
    · omega
    · rw [← q, ← by2.1] at o2; exact n (o1.symm.trans o2))
  exact ⟨⟨ky1, ky2.trans d⟩, s1.2.1 0, s1.2.1 1, s1.2.2.1 3, s1.2.2.1 1, s2.2.1 0, s3.2.1 0⟩
end GLR11
section GLR12
variable {E E2 L L' M M2 : List Nat} {P P' Q Q2 : PO} {cO cI cZ cB : ClassId} {ed la lb lr lx x e t y : Nat} {S : Nat → Prop} {n : Int}
theorem CB9.notR (c : CB9 la lb x n L P L' P') (g' : GLR L' P' cO cI cZ ed) (k : KEG E L P L' P') (m : y ∈ L) (d : P.kd y = 30) (o : P.ow y = y) (n1 : y ≠ la) (n2 : y ≠ lb) : ¬ (y = la ∨ y = lb ∨ y = P'.bp x ∨ y = P'.br x) := by
  obtain ⟨⟨xm, xk, _⟩, _⟩ := c
  have ym := k.mem m d (by decide)
  have yo : P'.ow y = y := ((k.1 y m (by omega)).2.2.2.1 d o).1
  obtain ⟨⟨_, w2, _, _⟩, _, w1, _, _⟩ := g'.owc x xm xk
  intro h
  rcases h with h | h | h | h
  · exact n1 h
  · exact n2 h
  · rw [← h, yo] at w1; rw [← w1] at xk; omega
  · rw [← h, yo] at w2; rw [← w2] at xk; omega
theorem EXT9.totGR (u : EXT9 L P L' P') (G : GLR L P cO cI cZ ed) (ca : la ∈ L ∧ P.kd la = 30 ∧ P.ek la = 12 ∧ P.ow la = la) : P'.tot 2 la = P.tot 2 la := by
  have lk := (G.gla la ca.1 ca.2.1).1
  rw [ca.2.2.1] at lk
  unfold PO.tot
  rw [show P'.lz la = P.lz la from (u la ca.1).2.1 0]
  refine sumI_eq (fun i i0 i1 => ?_)
  obtain ⟨_, ym, yk⟩ := lk.2.2.2.2 i i0 (by omega)
  show P'.lz (P'.br (P'.el la i)) = P.lz (P.br (P.el la i))
  rw [u.el G.owa ca.1 ca.2.1 i0 (by omega), show P'.br (P.el la i) = P.br (P.el la i) from (u _ ym).2.2.1 2]
  exact (u _ (G.owc _ ym yk).1.2.2.1).2.1 0
theorem DST.kegR (h : DST P lb) (g : GLR L P cO cI cZ ed) (c : lb ∈ L ∧ P.kd lb = 30 ∧ P.ek lb = 12 ∧ P.ow lb = lb) (k : KEG E L P L' P') (n : lb ∉ E) : DST P' lb := by
  have q := ((k.1 lb c.1 (by have := c.2.1; omega)).2.2.2.1 c.2.1 c.2.2.2).2 n
  exact h.blkR g c k q.2 (Or.inl q.1)
end GLR12
theorem GLR.cap40 {L : List Nat} {P : PO} {cO cI cZ : ClassId} {ed l k : Nat} (h : GLR L P cO cI cZ ed) (q : LOK L P cO k l) : P.cap l ≤ 40000 := by
  unfold PO.cap
  by_cases f : P.fl l = 1
  · rw [if_pos f]; exact h.adc40 q f
  · rw [if_neg f]; decide
theorem ROKR.n7 {P : PO} {q : Nat} (h : ROKR P q) : (0 ≤ P.ro q ∧ P.ro q ≤ 40) ∧ (0 ≤ P.rt q ∧ P.rt q ≤ 3001 ∧ (P.ek q = 1 → P.rt q ≤ 1001)) ∧ (-2147483648 ≤ P.ra q ∧ P.ra q ≤ 2147483647) ∧ (-2147483648 ≤ P.rb q ∧ P.rb q ≤ 2147483647) ∧ (0 ≤ P.rA q ∧ P.rA q ≤ 1) ∧ (0 ≤ P.rB q ∧ P.rB q ≤ 1) ∧ (0 ≤ P.rg q ∧ P.rg q ≤ 1) := ⟨h.1, h.2.1, h.2.2.1, h.2.2.2.1, h.2.2.2.2.1, h.2.2.2.2.2.1, h.2.2.2.2.2.2.1⟩
theorem ROKR.ub {P : PO} {q : Nat} {o r x : Int} (h : ROKR P q) (a : o = P.ro q) (b : r = P.rB q) (c : x = P.rb q) : rUsB o r = 0 ∨ (0 ≤ x ∧ x ≤ 3001) := by rw [a, b, c]; exact h.2.2.2.2.2.2.2.2
theorem uaZR {o r x : Int} (h : r = 0) : rUsA o r = 0 ∨ (0 ≤ x ∧ x ≤ 3001) := rUA9R (Or.inr (Or.inr (Or.inl h)))
theorem ubZR {o r x : Int} (h : r = 0) : rUsB o r = 0 ∨ (0 ≤ x ∧ x ≤ 3001) := rUB9R (Or.inr (Or.inr (Or.inl h)))
theorem ubGR {o r x : Int} (h : 20 ≤ o) : rUsB o r = 0 ∨ (0 ≤ x ∧ x ≤ 3001) := rUB9R (Or.inr (Or.inl h))
section GLR14
variable {L E : List Nat} {P P' P2 : PO} {cO cI cZ : ClassId} {ed x y : Nat} {i j : Int}
theorem LCH.kegR (w : LCH x L P P') (h : GLR L P cO cI cZ ed) (mx : x ∈ L) (kx : P.kd x = 30) (ox : P.ow x ≠ x ∨ x ∈ E) : KEG E L P L P' := by
  obtain ⟨w, f, _⟩ := w
  have o : OWA L P cO ed := h.2.2.2.1
  refine ⟨fun y m _ => ⟨m, w.kd y, w.ek y, fun k2 o2 => ⟨by show P'.2.1 9 y = y; rw [w.1]; exact o2, fun ne => ?_⟩, fun k2 => w.sma kx (Or.inl ((o x mx kx).2 f).2.1) k2⟩, fun y _ _ => ⟨by show P'.2.1 1 y = P.2.1 1 y; rw [w.1], by show P'.2.1 2 y = P.2.1 2 y; rw [w.1], by show P'.2.1 3 y = P.2.1 3 y; rw [w.1]⟩⟩
  have ny : y ≠ x := fun e2 => by
    rcases ox with q | q
    · exact q (by rw [← e2]; exact o2)
    · exact ne (by rw [e2]; exact q)
  exact ⟨w.2.2.1 y ny 0, fun i i0 i1 => o.els w mx kx f m k2 ny i0 i1⟩
theorem LCH.glfR (w : LCH x L P P') (h : GLR L P cO cI cZ ed) (mx : x ∈ L) (kx : P.kd x = 30) : GLR L P' cO cI cZ ed := by
  obtain ⟨w, f, els, ⟨z0, z1⟩, c⟩ := w
  obtain ⟨g0, hr, hp, o, hc⟩ := h
  have gla : GLA L P' cO := fun l m k => by
    rw [w.kd] at k
    obtain ⟨a, b, c'⟩ := g0.1 l m k
    by_cases n : l = x
    · subst n
      have le : P'.le l = P.le l := by show P'.2.1 1 l = P.2.1 1 l; rw [w.1]
      have an : P'.an (P.le l) = P.an (P.le l) := by show P'.2.1 1 _ = P.2.1 1 _; rw [w.1]
      have ac : P'.ac (P.le l) = P.ac (P.le l) := by show P'.2.2.2.2 _ = P.2.2.2.2 _; rw [w.2.1]
      obtain ⟨a1, a2, a3, a4, a5⟩ := a
      refine ⟨?_, by rw [w.ek]; exact b, fun e j j0 j1 => ?_⟩
      · rw [w.ek]
        refine ⟨a1, (w.kd l).trans a2, ⟨z0, by omega⟩, ?_, fun i i0 i1 => ?_⟩
        · rcases a4 with a4 | ⟨d1, d2, d3, d4, d5⟩
          · exact Or.inl (by omega)
          · rw [le, w.kd, an, ac]; exact Or.inr ⟨d1, d2, d3, by omega, d5⟩
        · rw [le, w.kd]; exact ⟨(c i i0 i1).1, (c i i0 i1).2.1, (c i i0 i1).2.2.1⟩
      · rw [w.ek] at e
        rw [w.ek]; exact (c j j0 j1).2.2.2 e
    · have z : P'.lz l = P.lz l := w.2.2.1 l n 0
      refine ⟨by rw [w.ek]; exact o.away w mx kx f a n, by rw [w.ek]; exact b, fun e j j0 j1 => ?_⟩
      rw [w.ek] at e; rw [z] at j1
      rw [w.ek, o.els w mx kx f m k n j0 j1]; exact c' e j j0 j1
  refine ⟨⟨gla, w.glbc g0 kx⟩, fun q m d => ?_, fun q m d => ?_, fun y m k => ?_, fun y m k => ?_⟩
  · rw [w.kd] at d
    exact w.rokR (kd_ne d kx (by decide)) (hr q m d)
  · rw [w.kd] at d
    exact w.pikR (kd_ne d kx (by decide)) (hp q m d)
  · rw [w.kd] at k
    have le : P'.le y = P.le y := by show P'.2.1 1 y = P.2.1 1 y; rw [w.1]
    have fl : P'.fl y = P.fl y := by show P'.2.1 7 y = P.2.1 7 y; rw [w.1]
    have an : P'.an (P.le y) = P.an (P.le y) := by show P'.2.1 1 _ = P.2.1 1 _; rw [w.1]
    have ac : P'.ac (P.le y) = P.ac (P.le y) := by show P'.2.2.2.2 _ = P.2.2.2.2 _; rw [w.2.1]
    have ow : P'.ow (P.le y) = P.ow (P.le y) := by show P'.2.1 9 _ = P.2.1 9 _; rw [w.1]
    rw [le, fl]
    obtain ⟨h1, h2⟩ := o y m k
    by_cases n : y = x
    · refine ⟨fun f0 => absurd (by rw [n]; exact f) f0, fun f1 => ?_⟩
      obtain ⟨a, b, c, d, e1, e2, e3, e4⟩ := h2 f1
      refine ⟨a, (w.kd _).trans b, ow.trans c, by rw [n]; exact els, by rw [an]; exact e1, by rw [an]; exact e2, ac.trans e3, ?_⟩
      rw [an, n]; rw [n] at e4; omega
    · have lz : P'.lz y = P.lz y := w.2.2.1 y n 0
      rw [lz]
      refine ⟨h1, fun f1 => ?_⟩
      obtain ⟨a, b, c, d, e1, e2, e3, e4⟩ := h2 f1
      refine ⟨a, (w.kd _).trans b, ow.trans c, ?_, by rw [an]; exact e1, by rw [an]; exact e2, ac.trans e3, by rw [an]; exact e4⟩
      have oa : P'.oa (P.le y) = P.oa (P.le y) := w.2.2.2 _ (fun q2 => n (by rw [← c, q2, ((o x mx kx).2 f).2.2.1]))
      rw [oa]
      intro j u eq
      obtain ⟨a, b⟩ := d j u eq
      exact ⟨a, by show OBK (P'.2.1 0 u); rw [w.1]; exact b⟩
  · rw [w.kd] at k
    have b := hc y m k
    unfold PO.kd PO.ek PO.br PO.bp PO.ow at *
    rw [w.1]; exact b
theorem LCH.setR (h : GLR L P cO cI cZ ed) (w : LS1 x P P') (mx : x ∈ L) (kx : P.kd x = 30) (f : P.fl x = 1) (z : P'.lz x = P.lz x) (els : ELS L P' (P'.oa (P.le x))) (up : P'.oa (P.le x) = va_up (P.oa (P.le x)) i.toNat (some y)) (i0 : 0 ≤ i) (my : y ∈ L) (ky : P.kd y = P.ek x) (ne : P.ek x = 17 → P.ek y ≠ 1) : LCH x L P P' := by
  obtain ⟨a, b, c⟩ := h.1.1 x mx kx
  have lz := a.2.2.1
  refine ⟨w, f, els, ⟨by omega, by omega⟩, fun j j0 j1 => ?_⟩
  have q := a.2.2.2.2 j j0 (by omega)
  rw [set_el w up i0 j0, up]
  unfold va_up
  by_cases e : j = i
  · rw [if_pos e, if_pos (by rw [e])]; exact ⟨rfl, my, ky, ne⟩
  · rw [if_neg e, if_neg (show ¬ j.toNat = i.toNat by omega)]; exact ⟨q.1, q.2.1, q.2.2, fun e2 => c e2 j j0 (by omega)⟩
theorem LCH.rmvR (h : GLR L P cO cI cZ ed) (w : LS1 x P P') (mx : x ∈ L) (kx : P.kd x = 30) (f : P.fl x = 1) (z : P'.lz x = P.lz x - 1) (zp : 0 < P.lz x) (els : ELS L P' (P'.oa (P.le x))) (r : RMV (P.oa (P.le x)) (P'.oa (P.le x)) i (P.lz x)) : LCH x L P P' := by
  obtain ⟨a, b, c⟩ := h.1.1 x mx kx
  have le : P'.le x = P.le x := by show P'.2.1 1 x = P.2.1 1 x; rw [w.1]
  refine ⟨w, f, els, ⟨by omega, by omega⟩, fun j j0 j1 => ?_⟩
  have q := (h.2.2.2.1.rmv w mx kx f z zp r a).2.2.2.2 j j0 j1
  rw [le, w.kd] at q
  refine ⟨q.1, q.2.1, q.2.2, fun e => ?_⟩
  rw [rmv_el9 w r j j0 (by omega)]
  exact c e _ (by split <;> omega) (by split <;> omega)
end GLR14
section GLR15
variable {L L' : List Nat} {P P' : PO} {cO cI cZ : ClassId} {ed x q z : Nat} {w : Nat → Int}
theorem PSI.gl1R (n1 : L.Nodup) (n2 : L'.Nodup) (h : GLR L P cO cI cZ ed) (g : GL1 x q L P L' P') (mx : x ∈ L) (kx : P.kd x = 30) (fx : P.fl x = 1 ∨ P.le x ∉ L) : PSI w L' P' = PSI w L P + w 5 * (LVS (P'.cap x) - LVS (P.cap x)) := by
  have ow := h.2.2.2.1
  have nq : ∀ z : Nat, z ∈ L → z ≠ P.le x → z ≠ q := fun z m n e => n (by rw [e]; exact g.2.2.2.2 (by rw [← e]; exact m))
  have le0 : ∀ z : Nat, z ∈ L → z = P.le x → P.fl x = 1 ∧ P.kd z = 31 ∧ P.ow z = x := fun z m e => by
    rcases fx with f | f
    · have o := (ow x mx kx).2 f
      rw [e]; exact ⟨f, o.2.1, o.2.2.1⟩
    · exact absurd (by rw [← e]; exact m) f
  have sm : ∀ z : Nat, z ∈ L → z ≠ x → z ≠ P.le x → SM9 z P P' := fun z m n1 n2 => g.2.2.2.1 z n1 (nq z m n2)
  have wt : ∀ z : Nat, z ∈ L → z ≠ x → z ≠ P.le x → WT9 w P' z = WT9 w P z := fun z m n1 n2 => by
    have s := sm z m n1 n2
    have k : P'.kd z = P.kd z := s.2.1 0
    by_cases k1 : P.kd z = 17
    · rw [WT9.row k1, WT9.row (k.trans k1)]
    · by_cases k2 : P.kd z = 15
      · have pk := (h.2.2.1 z m k2).2.1
        have np : P.pp z ≠ P.le x := fun e => by
          have o := le0 _ pk.1 e
          omega
        have nx : P.pp z ≠ x := fun e => by rw [e] at pk; omega
        have sp := sm (P.pp z) pk.1 nx np
        rw [WT9.phi k2, WT9.phi (k.trans k2), show P'.pp z = P.pp z from s.2.1 1, show P'.an (P.pp z) = P.an (P.pp z) from sp.2.1 1]
      · by_cases k3 : P.kd z = 12
        · rw [WT9.blk k3, WT9.blk (k.trans k3)]
        · by_cases k4 : P.kd z = 30
          · rw [WT9.list k4, WT9.list (k.trans k4)]
            have fl : P'.fl z = P.fl z := s.2.1 7
            have le : P'.le z = P.le z := s.2.1 1
            have c : P'.cap z = P.cap z := by
              unfold PO.cap
              rw [fl, le]
              by_cases f : P.fl z = 1
              · rw [if_pos f, if_pos f]
                have o := (ow z m k4).2 f
                have na : P.le z ≠ P.le x := fun e => by
                  have o2 := le0 _ o.1 e
                  exact n1 (o.2.2.1.symm.trans o2.2.2)
                have nx : P.le z ≠ x := fun e => by rw [e] at o; omega
                have sa := sm (P.le z) o.1 nx na
                rw [show P'.an (P.le z) = P.an (P.le z) from sa.2.1 1]
              · rw [if_neg f, if_neg f]
            rw [c]
          · rw [WT9.no ⟨k1, k2, k3, k4⟩, WT9.no (by rw [k]; exact ⟨k1, k2, k3, k4⟩)]
  have z31 : ∀ z : Nat, z ∈ L → z = P.le x → WT9 w P z = 0 := fun z m e => by
    have o := le0 z m e
    exact WT9.no ⟨by omega, by omega, by omega, by omega⟩
  have key := sumL_one (f := WT9 w P) (g := WT9 w P') n1 n2 mx g.1.1 (fun z m ne => by
    by_cases e : z = P.le x
    · exact Or.inl (z31 z m e)
    · exact Or.inr ⟨g.2.1 z m e, wt z m ne e⟩) (fun z m ne => by
    by_cases e : z = q
    · exact Or.inl (WT9.no (by rw [e, g.1.2.2.2.2.1]; exact ⟨by decide, by decide, by decide, by decide⟩))
    · have ml : z ∈ L := by
        rcases g.2.2.1 z m with k | k | k
        · exact absurd k ne
        · exact absurd k e
        · exact k
      by_cases e2 : z = P.le x
      · have o := le0 z ml e2
        have s := g.2.2.2.1 z ne e
        have k : P'.kd z = P.kd z := s.2.1 0
        exact Or.inl (WT9.no (by rw [k, o.2.1]; exact ⟨by decide, by decide, by decide, by decide⟩))
      · exact Or.inr ⟨ml, (wt z ml ne e2).symm⟩)
  unfold PSI
  rw [key, WT9.list kx, WT9.list g.1.2.2.1, Int.mul_sub]
  omega
theorem PSI.newR (n1 : L.Nodup) (n2 : L'.Nodup) (h : GLR L P cO cI cZ ed) (g : EXT9 L P L' P') (nx : x ∉ L) (mx : x ∈ L') (o : ∀ z : Nat, z ∈ L' → z ≠ x → z ∈ L ∨ WT9 w P' z = 0) : PSI w L' P' = PSI w L P + WT9 w P' x := by
  have ow := h.2.2.2.1
  have wt : ∀ z : Nat, z ∈ L → WT9 w P' z = WT9 w P z := fun z m => by
    have s := (g z m).2
    have k : P'.kd z = P.kd z := s.2.1 0
    by_cases k1 : P.kd z = 17
    · rw [WT9.row k1, WT9.row (k.trans k1)]
    · by_cases k2 : P.kd z = 15
      · have pk := (h.2.2.1 z m k2).2.1
        have sp := (g (P.pp z) pk.1).2
        rw [WT9.phi k2, WT9.phi (k.trans k2), show P'.pp z = P.pp z from s.2.1 1, show P'.an (P.pp z) = P.an (P.pp z) from sp.2.1 1]
      · by_cases k3 : P.kd z = 12
        · rw [WT9.blk k3, WT9.blk (k.trans k3)]
        · by_cases k4 : P.kd z = 30
          · rw [WT9.list k4, WT9.list (k.trans k4)]
            have fl : P'.fl z = P.fl z := s.2.1 7
            have le : P'.le z = P.le z := s.2.1 1
            have c : P'.cap z = P.cap z := by
              unfold PO.cap
              rw [fl, le]
              by_cases f : P.fl z = 1
              · rw [if_pos f, if_pos f]
                have o := (ow z m k4).2 f
                have sa := (g (P.le z) o.1).2
                rw [show P'.an (P.le z) = P.an (P.le z) from sa.2.1 1]
              · rw [if_neg f, if_neg f]
            rw [c]
          · rw [WT9.no ⟨k1, k2, k3, k4⟩, WT9.no (by rw [k]; exact ⟨k1, k2, k3, k4⟩)]
  unfold PSI
  exact sumL_new (f := WT9 w P) (g := WT9 w P') n1 n2 nx mx (fun z m => Or.inr ⟨(g z m).1, wt z m⟩) (fun z m ne => by
    rcases o z m ne with q | q
    · exact Or.inr ⟨q, (wt z q).symm⟩
    · exact Or.inl q)
end GLR15
section GLR16
variable {L L' : List Nat} {P P' : PO} {cO cI cZ : ClassId} {ed x q : Nat} {w : Nat → Int}
theorem LVA.gl1R (h : LVA L P) (g : GLR L P cO cI cZ ed) (r : GL1 x q L P L' P') (mx : x ∈ L) (kx : P.kd x = 30) (fx : P.fl x = 1 ∨ P.le x ∉ L) (n : LVC (P'.cap x) ∧ P'.cap x ≤ 6246) : LVA L' P' := fun z m k => by
  by_cases e : z = x
  · rw [e]; exact n
  · have zq : z ≠ q := fun k2 => by rw [k2, r.1.2.2.2.2.1] at k; omega
    have ml : z ∈ L := by
      rcases r.2.2.1 z m with y | y | y
      · exact absurd y e
      · exact absurd y zq
      · exact y
    have s := r.2.2.2.1 z e zq
    have k0 : P.kd z = 30 := (show P'.kd z = P.kd z from s.2.1 0).symm.trans k
    have fl : P'.fl z = P.fl z := s.2.1 7
    have le : P'.le z = P.le z := s.2.1 1
    have c : P'.cap z = P.cap z := by
      unfold PO.cap
      rw [fl, le]
      by_cases f : P.fl z = 1
      · rw [if_pos f, if_pos f]
        have o := (g.2.2.2.1 z ml k0).2 f
        have nx : P.le z ≠ x := fun k2 => by rw [k2] at o; omega
        have nq : P.le z ≠ q := fun k2 => by
          have lx := r.2.2.2.2 (by rw [← k2]; exact o.1)
          rcases fx with y | y
          · have o2 := (g.2.2.2.1 x mx kx).2 y
            exact e (by rw [← o.2.2.1, k2, lx]; exact o2.2.2.1)
          · exact y (by rw [← lx, ← k2]; exact o.1)
        have sa := r.2.2.2.1 (P.le z) nx nq
        rw [show P'.an (P.le z) = P.an (P.le z) from sa.2.1 1]
      · rw [if_neg f, if_neg f]
    rw [c]
    exact h z ml k0
theorem PSI.putR (n1 : L.Nodup) (n2 : L'.Nodup) (h : GLR L P cO cI cZ ed) (r : GL1 x q L P L' P') (mx : x ∈ L) (kx : P.kd x = 30) (fx : P.fl x = 1 ∨ P.le x ∉ L) (v : LVC (P.cap x)) (z : P.lz x ≤ 4164) (g : P.fl x = 1 → (P'.an (P'.le x) = P.an (P.le x) ∧ P.lz x ≠ P.an (P.le x)) ∨ (P.lz x = P.an (P.le x) ∧ (P'.an (P'.le x) : Int) = P.an (P.le x) + (P.an (P.le x) : Int) / 2)) (n : P.fl x ≠ 1 → P'.an (P'.le x) = 10) (a : ADC L P cO ed x) (c6 : P.cap x ≤ 6246) : PSI wSL L' P' = PSI wSL L P + P.gx x ∧ 40 * (P.gc x : Int) ≤ PSI wCE L' P' - PSI wCE L P ∧ LVC (P'.cap x) ∧ P'.cap x ≤ 6246 := by
  have f' : P'.fl x = 1 := r.1.2.2.2.2.2.2.2.2
  have c' := (P'.cap_spec x).1 f'
  have s := P.gx_spec x
  have t := groX_spec (P.lz x) (P.an (P.le x))
  have u := groC_spec (P.lz x) (P.an (P.le x))
  have p1 := PSI.gl1R (w := wSL) n1 n2 h r mx kx fx
  have p2 := PSI.gl1R (w := wCE) n1 n2 h r mx kx fx
  have w1 : wSL 5 = 1 := by decide
  have w2 : wCE 5 = 4 := by decide
  rw [w1] at p1
  rw [w2] at p2
  by_cases f : P.fl x = 1
  · have c := (P.cap_spec x).1 f
    have e := s.1 f
    rcases g f with ⟨y, k⟩ | ⟨y, k⟩
    · have z1 := t.2 k
      have z2 := u.2 k
      have cc : P'.cap x = P.cap x := by rw [c', y, ← c]
      rw [cc] at p1 p2 ⊢
      exact ⟨by omega, by omega, v, c6⟩
    · have z1 := t.1 y (by omega)
      have z2 := u.1 y
      have ps := a.pos f
      have g1 := LVC.grow v (by rw [c]; omega) (by rw [c]; omega)
      have cc : P'.cap x = P.cap x + P.cap x / 2 := by rw [c', k, ← c]
      have tn := LVC.ten v f ps
      rw [cc] at p1 p2 ⊢
      have g2 := g1.2
      exact ⟨by omega, by omega, g1.1, by omega⟩
  · have c := (P.cap_spec x).2 f
    have e := s.2 f
    have k := n f
    have cc : P'.cap x = 10 := by rw [c', k]; rfl
    have l0 : LVS 0 = 0 := by decide
    have l1 : LVS 10 = 10 := by decide
    rw [cc, c, l0, l1] at p1
    rw [cc, c, l0, l1] at p2
    rw [cc]
    exact ⟨by omega, by omega, LVC.first.1, by omega⟩
end GLR16
section GLR17
variable {L L' : List Nat} {P P' : PO} {cO cI cZ : ClassId} {ed x q : Nat}
theorem PSI.glsR (n1 : L.Nodup) (n2 : L'.Nodup) (h : GLR L P cO cI cZ ed) (r : GL1 x q L P L' P') (mx : x ∈ L) (kx : P.kd x = 30) (fx : P.fl x = 1 ∨ P.le x ∉ L) : PSI wSL L' P' = PSI wSL L P + (LVS (P'.cap x) - LVS (P.cap x)) ∧ PSI wCE L' P' = PSI wCE L P + 4 * (LVS (P'.cap x) - LVS (P.cap x)) := by
  have p1 := PSI.gl1R (w := wSL) n1 n2 h r mx kx fx
  have p2 := PSI.gl1R (w := wCE) n1 n2 h r mx kx fx
  have w1 : wSL 5 = 1 := by decide
  have w2 : wCE 5 = 4 := by decide
  rw [w1] at p1
  rw [w2] at p2
  exact ⟨by omega, p2⟩
end GLR17
section GLR0
variable {E L L' : List Nat} {P P' : PO} {cO cI cZ : ClassId} {ed la x : Nat} {o rr y : Int}
theorem OPQ.uaR (h : OPQ rr y) : rUsA o rr = 0 ∨ (0 ≤ y ∧ y ≤ 3001) := rUA9R (by have : rr = 0 ∨ (0 ≤ y ∧ y ≤ 1001) := h; omega)
theorem KEP.kegR (h : KEP E L P L' P' la) : KEG E L P L' P' := h.keg
theorem RWD.kegR (h : RWD P P') (L : List Nat) (k : P.kd la = 30) : KEG E L P L P' := h.keg L k
theorem RW1.kegR (h : RW1 x P P') (L : List Nat) (k : P.kd la = 30) (n : 9 ≤ P.kd x ∧ P.kd x ≠ 30) : KEG E L P L P' := h.keg L k n
theorem TXT.rw1R {q e : Nat} {cB : ClassId} (h : TXT L P cB e x) (w : RW1 q P P') (k : P.kd q = 17 ∨ P.kd q = 12) : TXT L P' cB e x := h.rw1 w k
/-- what is strong is weak -/
theorem ROK9.r (h : ROK9 P x) : ROKR P x := by
  obtain ⟨a, b, c, d, e, f, g, i, j⟩ := h
  refine ⟨a, by omega, c, d, e, f, g, ?_, ?_⟩
  · rcases i with i | i
    · exact Or.inl i
    · exact Or.inr (by omega)
  · rcases j with j | j
    · exact Or.inl j
    · exact Or.inr (by omega)
theorem PIK.r (h : PIK L P cI cZ x) : PIKR L P cI cZ x := by
  obtain ⟨a, b, c, d, e, f, g⟩ := h
  exact ⟨a, b, c, d, e, by omega, fun _ _ _ => trivial⟩
theorem GLF.r (h : GLF L P cO cI cZ ed) : GLR L P cO cI cZ ed := ⟨h.1, fun q m k => (h.2.1 q m k).r, fun q m k => (h.2.2.1 q m k).r, h.2.2.2⟩
theorem ALP.glr (h : ALP L P cO cI cZ ed la) : GLR L P cO cI cZ ed := h.glf.r
theorem ALP.glfR (h : ALP L P cO cI cZ ed la) : GLR L P cO cI cZ ed := h.glf.r
theorem ALP.rokR (h : ALP L P cO cI cZ ed la) (m : x ∈ L) (k : P.kd x = 17) : ROKR P x := (h.rok m k).r
theorem ALP.pikR (h : ALP L P cO cI cZ ed la) (m : x ∈ L) (k : P.kd x = 15) : PIKR L P cI cZ x := (h.pik m k).r
theorem NEW1.r {z : Nat} (h : NEW1 L P cO cI cZ ed z) : NEWR L P cO cI cZ ed z := ⟨fun k => ⟨(h.1 k).1.r, (h.1 k).2⟩, fun k => (h.2.1 k).r, h.2.2⟩
theorem NWS.r (h : NWS L L' P' cO cI cZ ed) : NWSR L L' P' cO cI cZ ed := fun z m n => (h z m n).r
/-- strong again where every row and every PHI is -/
theorem GLR.glf (h : GLR L P cO cI cZ ed) (a : ∀ q : Nat, q ∈ L → P.kd q = 17 → ROK9 P q) (b : ∀ q : Nat, q ∈ L → P.kd q = 15 → PIK L P cI cZ q) : GLF L P cO cI cZ ed := ⟨h.1, a, b, h.2.2.2⟩
theorem PIKR.s (h : PIKR L P cI cZ x) (t : P.pt x ≤ 1001) (q : ∀ k : Int, 0 ≤ k → k < P.pn x → PEF P x k) : PIK L P cI cZ x := by
  obtain ⟨a, b, c, d, e, f, g⟩ := h
  exact ⟨a, b, c, d, e, by omega, fun k k0 k1 => q k k0 k1⟩
theorem GLR.glfR (h : GLR L P cO cI cZ ed) : GLR L P cO cI cZ ed := h
/-- objects have come: lengths of lists -/
theorem LVA.extR (h : LVA L P) (g : GLR L P cO cI cZ ed) (e : EXT9 L P L' P') (n : ∀ z : Nat, z ∈ L' → z ∉ L → P'.kd z = 30 → P'.cap z = 0) : LVA L' P' := fun z m k => by
  by_cases mL : z ∈ L
  · have s := (e z mL).2
    have kd : P.kd z = 30 := (s.2.1 0).symm.trans k
    rw [e.cap g.owa mL kd]; exact h z mL kd
  · rw [n z m mL k]; exact ⟨Or.inl rfl, by decide⟩
/-- a row has come: what it weighs -/
theorem PSI.nrowR (n2 : (x :: L).Nodup) (g : GLR L P cO cI cZ ed) (e : EXT9 L P (x :: L) P') (k : P'.kd x = 17) : PSI wSL (x :: L) P' = PSI wSL L P + 7 ∧ PSI wCE (x :: L) P' = PSI wCE L P + 40 := by
  obtain ⟨nx, n1⟩ := List.nodup_cons.mp n2
  have o : ∀ (w : Nat → Int) (z : Nat), z ∈ x :: L → z ≠ x → z ∈ L ∨ WT9 w P' z = 0 := fun w z m n => Or.inl ((List.mem_cons.mp m).resolve_left n)
  have a := PSI.newR (w := wSL) n1 n2 g e nx (List.mem_cons_self) (o wSL)
  have b := PSI.newR (w := wCE) n1 n2 g e nx (List.mem_cons_self) (o wCE)
  rw [WT9.row k] at a b
  exact ⟨a, b⟩
/-- objects have come: the others weigh what they did -/
theorem EXT9.wtR {w : Nat → Int} {z : Nat} (h : GLR L P cO cI cZ ed) (g : EXT9 L P L' P') (m : z ∈ L) : WT9 w P' z = WT9 w P z := by
  have ow := h.2.2.2.1
  have s := (g z m).2
  have k : P'.kd z = P.kd z := s.2.1 0
  by_cases k1 : P.kd z = 17
  · rw [WT9.row k1, WT9.row (k.trans k1)]
  · by_cases k2 : P.kd z = 15
    · have pk := (h.2.2.1 z m k2).2.1
      have sp := (g (P.pp z) pk.1).2
      rw [WT9.phi k2, WT9.phi (k.trans k2), show P'.pp z = P.pp z from s.2.1 1, show P'.an (P.pp z) = P.an (P.pp z) from sp.2.1 1]
    · by_cases k3 : P.kd z = 12
      · rw [WT9.blk k3, WT9.blk (k.trans k3)]
      · by_cases k4 : P.kd z = 30
        · rw [WT9.list k4, WT9.list (k.trans k4)]
          have fl : P'.fl z = P.fl z := s.2.1 7
          have le : P'.le z = P.le z := s.2.1 1
          have c : P'.cap z = P.cap z := by
            unfold PO.cap
            rw [fl, le]
            by_cases f : P.fl z = 1
            · rw [if_pos f, if_pos f]
              have o := (ow z m k4).2 f
              have sa := (g (P.le z) o.1).2
              rw [show P'.an (P.le z) = P.an (P.le z) from sa.2.1 1]
            · rw [if_neg f, if_neg f]
          rw [c]
        · rw [WT9.no ⟨k1, k2, k3, k4⟩, WT9.no (by rw [k]; exact ⟨k1, k2, k3, k4⟩)]
theorem PSI.restR {w : Nat → Int} (h : GLR L P cO cI cZ ed) (g : EXT9 L P L' P') : sumL (WT9 w P') L = PSI w L P := sumL_congr L (fun _ m => g.wtR h m)
end GLR0
