section PARK9
variable {L L' E : List Nat} {P P' : PO} {F : Nat → Prop} {cO cI cZ : ClassId} {ed x z : Nat}
theorem GLR.unparkW (h : GLR L P cO cI cZ ed) (c : FCL L P F) (k : KEG E L (P.park F) L' P') (g : GLR L' P' cO cI cZ ed) : GLR L' (P'.unp P L F) cO cI cZ ed := by
  obtain ⟨⟨h1, h2, h3⟩, hr, hp, ho, hc⟩ := h
  obtain ⟨⟨g1, g2, g3⟩, gr, gp, go, gc⟩ := g
  have lez : ∀ y : Nat, y ∈ L → ¬ F y → P.kd y = 30 → P.fl y = 1 → ¬ F (P.le y) := fun y m f e l w => by
    obtain ⟨a, b, d, _⟩ := (ho y m e).2 l
    have q := c.2.2.2.1 _ a w (by omega) (by rw [b]; unfold K89; omega)
    rw [d] at q; exact f q
  refine ⟨⟨fun y m e => ?_, fun y m e => ?_, fun y m e e1 => ?_⟩, fun y m e => ?_, fun y m e => ?_, fun y m e => ?_, fun y m e => ?_⟩
  all_goals by_cases w : y ∈ L ∧ ¬ F y
  all_goals first | rw [unp_in w] at e | rw [unp_out w] at e
  · obtain ⟨⟨a1, a2, a3, a4, a5⟩, b, d⟩ := h1 y w.1 e
    obtain ⟨s1, s2, s3, s4⟩ := k.unpd w.1 w.2 (by rw [e]; unfold K89; omega)
    have ek : (P'.unp P L F).ek y = P.ek y := s2 8
    have lz : (P'.unp P L F).lz y = P.lz y := s1 0
    have le : (P'.unp P L F).le y = P.le y := s2 1
    have la : P.lz y ≠ 0 → (P.le y ∈ L' ∧ (P'.unp P L F).kd (P.le y) = 31) ∧ SMA (P.le y) (P.park F) P' := fun z0 => by
      have fl := ho.fl1 w.1 e z0
      obtain ⟨q1, q2, _⟩ := (ho y w.1 e).2 fl
      have nf := lez y w.1 w.2 e fl
      have u := k.unp q1 (Or.inr nf)
      exact ⟨⟨u.1, u.2.1.trans q2⟩, k.unpd q1 nf (by rw [q2]; unfold K89; omega)⟩
    have el : ∀ i : Int, 0 ≤ i → i < P.lz y → (P'.unp P L F).el y i = P.el y i := fun i i0 i1 => by
      have q := (la (by omega)).2.2.2.1
      show ((P'.oa (P'.le y)) i.toNat).getD 0 = _
      rw [show P'.le y = P.le y from s2 1, q]; rfl
    refine ⟨⟨m, (unp_in w).trans e, by rw [lz]; exact a3, ?_, fun i i0 i1 => ?_⟩, by rw [ek]; exact b, fun e17 i i0 i1 => ?_⟩
    · rw [lz, le]
      by_cases z0 : P.lz y = 0
      · exact Or.inl z0
      · rcases a4 with a4 | ⟨l1, l2, l3, l4⟩
        · exact Or.inl a4
        · obtain ⟨u1, u2⟩ := la z0
          have an : (P'.unp P L F).an (P.le y) = P.an (P.le y) := u2.2.1 1
          have ac : (P'.unp P L F).ac (P.le y) = P.ac (P.le y) := u2.2.2.2
          exact Or.inr ⟨u1.1, u1.2, by rw [ac]; exact l3, by rw [an]; exact l4⟩
    · rw [lz] at i1
      obtain ⟨e1, e2, e3⟩ := a5 i i0 i1
      rw [el i i0 i1, le, ek]
      have q := (la (by omega)).2.2.2.1
      have u := k.unp e2 (Or.inl (by rw [e3]; omega))
      exact ⟨by show P'.oa (P.le y) _ = _; rw [q]; exact e1, u.1, u.2.1.trans e3⟩
    · rw [lz] at i1; rw [ek] at e17
      obtain ⟨e1, e2, e3⟩ := a5 i i0 i1
      rw [el i i0 i1]
      have u := k.unp e2 (Or.inl (by rw [e3]; omega))
      show P'.ek _ ≠ 1
      rw [u.2.2]; exact d e17 i i0 i1
  · obtain ⟨⟨a1, a2, a3, a4, a5⟩, b, d⟩ := g1 y m e
    refine ⟨⟨m, (unp_out w).trans e, a3, ?_, fun i i0 i1 => ?_⟩, b, d⟩
    · rcases a4 with a4 | ⟨l1, l2, l3⟩
      · exact Or.inl a4
      · exact Or.inr ⟨l1, (unp_out (k.unpk l2 (by unfold K89; omega))).trans l2, l3⟩
    · obtain ⟨e1, e2, e3⟩ := a5 i i0 i1
      exact ⟨e1, e2, (unp_out (k.unpk e3 (by unfold K89; omega))).trans e3⟩
  · obtain ⟨⟨b1, b2, b3⟩, b4⟩ := h2 y w.1 e
    obtain ⟨s1, s2, s3, s4⟩ := k.unpd w.1 w.2 (by rw [e]; unfold K89; omega)
    have be : (P'.unp P L F).be y = P.be y := s2 3
    have bf : (P'.unp P L F).bf y = P.bf y := s1 0
    have bs : (P'.unp P L F).bs y = P.bs y := s1 1
    have u := k.unp b1 (Or.inl (by omega))
    refine ⟨?_, by rw [bf, bs]; exact b4⟩
    rw [be]
    exact ⟨u.1, u.2.1.trans b2, u.2.2.trans b3⟩
  · obtain ⟨⟨b1, b2, b3⟩, b4⟩ := g2 y m e
    exact ⟨⟨b1, (unp_out (k.unpk b2 (by unfold K89; omega))).trans b2, b3⟩, b4⟩
  · obtain ⟨s1, s2, s3, s4⟩ := k.unpd w.1 w.2 (by rw [e]; unfold K89; omega)
    have ro : (P'.unp P L F).ro y = P.ro y := s1 0
    have ek : (P'.unp P L F).ek y = P.ek y := s2 8
    rw [ek] at e1
    rw [ro]; exact h3 y w.1 e e1
  · exact g3 y m e e1
  · obtain ⟨s1, s2, s3, s4⟩ := k.unpd w.1 w.2 (by rw [e]; unfold K89; omega)
    have q := hr y w.1 e
    have ek8 : (P'.unp P L F).2.1 8 y = P.2.1 8 y := s2 8
    unfold ROKR PO.ro PO.rt PO.ra PO.rb PO.rA PO.rB PO.rg PO.ek at *
    show _ ∧ _
    simp only [show (P'.unp P L F).1 = P'.1 from rfl, s1, ek8]; exact q
  · exact (gr y m e)
  · obtain ⟨a, ⟨b1, b2, b3, b4⟩, ⟨c1, c2, c3, c4⟩, ⟨d1, d2, d3, d4⟩, p5, p6, p7⟩ := hp y w.1 e
    obtain ⟨s1, s2, s3, s4⟩ := k.unpd w.1 w.2 (by rw [e]; unfold K89; omega)
    have nf : ∀ z : Nat, z ∈ L → P.ow z = y → (P.kd z = 40 ∨ P.kd z = 41 ∨ P.kd z = 42) → ¬ F z := fun z mz oz kz fz => w.2 (by rw [← oz]; exact c.2.2.2.1 z mz fz (by omega) (by unfold K89; omega))
    have n1 := nf _ b1 b4 (by omega)
    have n2 := nf _ c1 c4 (by omega)
    have n3 := nf _ d1 d4 (by omega)
    have t1 := k.unpd b1 n1 (by rw [b2]; unfold K89; omega)
    have t2 := k.unpd c1 n2 (by rw [c2]; unfold K89; omega)
    have t3 := k.unpd d1 n3 (by rw [d2]; unfold K89; omega)
    have u1 := k.unp b1 (Or.inr n1)
    have u2 := k.unp c1 (Or.inr n2)
    have u3 := k.unp d1 (Or.inr n3)
    have pp : (P'.unp P L F).pp y = P.pp y := s2 1
    have pu : (P'.unp P L F).pu y = P.pu y := s2 2
    have pr : (P'.unp P L F).pr y = P.pr y := s2 3
    have pn : (P'.unp P L F).pn y = P.pn y := s1 1
    have pt : (P'.unp P L F).pt y = P.pt y := s1 0
    have pg : (P'.unp P L F).pg y = P.pg y := s1 2
    have a1 : (P'.unp P L F).an (P.pp y) = P.an (P.pp y) := t1.2.1 1
    have a2 : (P'.unp P L F).an (P.pu y) = P.an (P.pu y) := t2.2.1 1
    have a3 : (P'.unp P L F).an (P.pr y) = P.an (P.pr y) := t3.2.1 1
    refine ⟨⟨m, (unp_in w).trans e⟩, ?_, ?_, ?_, ?_, ?_, fun _ _ _ => trivial⟩
    · rw [pp]; exact ⟨u1.1, u1.2.1.trans b2, t1.2.2.2.trans b3, (t1.2.1 9).trans b4⟩
    · rw [pu]; exact ⟨u2.1, u2.2.1.trans c2, t2.2.2.2.trans c3, (t2.2.1 9).trans c4⟩
    · rw [pr]; exact ⟨u3.1, u3.2.1.trans d2, t3.2.2.2.trans d3, (t3.2.1 9).trans d4⟩
    · rw [pp, pu, pr, a1, a2, a3, pn]; exact p5
    · rw [pt, pg]; exact p6
  · obtain ⟨a, ⟨b1, b2, b3⟩, ⟨c1, c2, c3⟩, ⟨d1, d2, d3⟩, p5, p6, p7⟩ := (gp y m e)
    exact ⟨⟨m, (unp_out w).trans e⟩, ⟨b1, (unp_out (k.unpk b2 (by unfold K89; omega))).trans b2, b3⟩, ⟨c1, (unp_out (k.unpk c2 (by unfold K89; omega))).trans c2, c3⟩, ⟨d1, (unp_out (k.unpk d2 (by unfold K89; omega))).trans d2, d3⟩, p5, p6, p7⟩
  · obtain ⟨q1, q2⟩ := ho y w.1 e
    obtain ⟨s1, s2, s3, s4⟩ := k.unpd w.1 w.2 (by rw [e]; unfold K89; omega)
    have lz : (P'.unp P L F).lz y = P.lz y := s1 0
    have le : (P'.unp P L F).le y = P.le y := s2 1
    have fl : (P'.unp P L F).fl y = P.fl y := s2 7
    rw [lz, le, fl]
    refine ⟨q1, fun f => ?_⟩
    obtain ⟨a, b, d, e4, e5, e6, e7, e8⟩ := q2 f
    have nf := lez y w.1 w.2 e f
    have u := k.unp a (Or.inr nf)
    obtain ⟨t1, t2, t3, t4⟩ := k.unpd a nf (by rw [b]; unfold K89; omega)
    have an : (P'.unp P L F).an (P.le y) = P.an (P.le y) := t2 1
    refine ⟨u.1, u.2.1.trans b, (t2 9).trans d, fun j x q => ?_, by rw [an]; exact e5, by rw [an]; exact e6, t4.trans e7, by rw [an]; exact e8⟩
    have q' : P.oa (P.le y) j = some x := by
      have q9 : P'.oa (P.le y) j = some x := q
      rw [t3] at q9; exact q9
    obtain ⟨x1, x2⟩ := e4 j x q'
    have v := k.unp x1 (Or.inl (by unfold OBK at x2; omega))
    exact ⟨v.1, by rw [v.2.1]; exact x2⟩
  · obtain ⟨q1, q2⟩ := go y m e
    refine ⟨q1, fun f => ?_⟩
    obtain ⟨a, b, d, e4, e5⟩ := q2 f
    refine ⟨a, (unp_out (k.unpk b (by unfold K89; omega))).trans b, d, fun j x q => ?_, e5⟩
    obtain ⟨x1, x2⟩ := e4 j x q
    refine ⟨x1, ?_⟩
    by_cases v : x ∈ L ∧ ¬ F x
    · rw [unp_in v]
      have qk := park_out (P := P) v.2
      have r := (k.1 x v.1 (fun u => pkk_not (P.kd x) (by rw [← qk, u]; unfold K89; omega))).2.1
      rw [r, qk] at x2
      exact pkk_obk.mpr x2
    · rw [unp_out v]; exact x2
  · obtain ⟨⟨c1, c2, c3, c4⟩, c5, c6, c7, c8⟩ := hc y w.1 e
    obtain ⟨s1, s2, s3, s4⟩ := k.unpd w.1 w.2 (by rw [e]; unfold K89; omega)
    have nb : ∀ l : Nat, l ∈ L → P.kd l = 30 → P.ow l = y → ¬ F l := fun l ml kl ol fl => by
      rcases c.2.2.2.2 l ml fl kl with q | q
      · have : l = y := q.symm.trans ol
        rw [this] at kl; omega
      · rw [ol] at q; exact w.2 q
    have n1 := nb _ c3 c4 c2
    have n2 := nb _ c7 c8 c6
    have t1 := k.unpd c3 n1 (by rw [c4]; unfold K89; omega)
    have t2 := k.unpd c7 n2 (by rw [c8]; unfold K89; omega)
    have u1 := k.unp c3 (Or.inr n1)
    have u2 := k.unp c7 (Or.inr n2)
    have br : (P'.unp P L F).br y = P.br y := s2 2
    have bp : (P'.unp P L F).bp y = P.bp y := s2 1
    rw [br, bp]
    exact ⟨⟨(t1.2.1 8).trans c1, (t1.2.1 9).trans c2, u1.1, u1.2.1.trans c4⟩, (t2.2.1 8).trans c5, (t2.2.1 9).trans c6, u2.1, u2.2.1.trans c8⟩
  · obtain ⟨⟨c1, c2, c3, c4⟩, c5, c6, c7, c8⟩ := gc y m e
    exact ⟨⟨c1, c2, c3, (unp_out (k.unpk c4 (by unfold K89; omega))).trans c4⟩, c5, c6, c7, (unp_out (k.unpk c8 (by unfold K89; omega))).trans c8⟩
end PARK9
/-- the whole pool put down, whatever its function is now -/
def ATZB (L : List Nat) (Q : PO) (cO cI cZ : ClassId) (ed la lb lr lp : Nat) (n p : Int) : Prop := (GLR L Q cO cI cZ ed ∧ LVA L Q ∧ CLF L Q la 12) ∧ (CLF L Q lb 12 ∧ CLF L Q lr 17 ∧ CLF L Q lp 15 ∧ lb ≠ la) ∧ (DSL Q lr ∧ DSL Q lp ∧ 0 ≤ n ∧ n ≤ Q.lz lr ∧ 0 ≤ p ∧ p ≤ Q.lz lp ∧ Q.lz lr ≤ 4164 ∧ Q.lz lp ≤ 4164)
def ATZ (L : List Nat) (P : PO) (cO cI cZ : ClassId) (ed la lb lr lp : Nat) (n p : Int) : Prop := ∃ g : Nat → Nat, pE (P.kin g) = pE P ∧ (∀ z : Nat, z ∈ L → 43 ≤ P.kd z → g z = P.kd z) ∧ ATZB L (P.kin g) cO cI cZ ed la lb lr lp n p
section ATP9
variable {L L' E : List Nat} {P P' Q Q' : PO} {F : Nat → Prop} {cO cI cZ : ClassId} {ed la lb lr lp x z : Nat} {n p n' p' s c s' c' : Int} {l j : Nat}
theorem ATB.atzb (h : ATB L Q cO cI cZ ed la lb lr lp n p s c) : ATZB L Q cO cI cZ ed la lb lr lp n p := ⟨⟨h.1.1, h.1.2.2, h.1.2.1.1⟩, h.2.1, h.2.2.2.1⟩
theorem ATW.atz (h : ATW L P cO cI cZ ed la lb lr lp n p s c) : ATZ L P cO cI cZ ed la lb lr lp n p := by
  obtain ⟨g, e, t, b⟩ := h
  exact ⟨g, e, t, b.atzb⟩
theorem ATT.kegw (h : ATT L P cO cI cZ ed la lb lr lp n p s c) (a : GLR L' P' cO cI cZ ed) (ga : CLF L' P' la 12) (v' : LVA L' P') (k : KEG E L P L' P') : ATZ L' P' cO cI cZ ed la lb lr lp n p := by
  obtain ⟨Q, F, rfl, fc, ⟨fla, flb, flr, flp⟩, ⟨u1, u2⟩, ⟨g, f, v⟩, ⟨c1, c2, c3, ne⟩, _, ⟨d1, d2, n0, n9, p0, p9, l1, l2⟩, ps, pc⟩ := h
  have b1 := c1.upk flb g fc k
  have b2 := c2.upk flr g fc k
  have b3 := c3.upk flp g fc k
  have hB : ATZB L' (P'.unp Q L F) cO cI cZ ed la lb lr lp n p := by
    refine ⟨⟨g.unparkW fc k a, v.unp v' g fc k, ?_⟩, ⟨b1.1, b2.1, b3.1, ne⟩, ⟨fun i j i0 ij j1 => ?_, fun i j i0 ij j1 => ?_, n0, by rw [show (P'.unp Q L F).lz lr = P'.lz lr from rfl, b2.2.1]; exact n9, p0, by rw [show (P'.unp Q L F).lz lp = P'.lz lp from rfl, b3.2.1]; exact p9, by rw [show (P'.unp Q L F).lz lr = P'.lz lr from rfl, b2.2.1]; exact l1, by rw [show (P'.unp Q L F).lz lp = P'.lz lp from rfl, b3.2.1]; exact l2⟩⟩
    · have w : ¬ (la ∈ L ∧ ¬ F la) := fun q => q.2 fla
      exact ⟨ga.1, (unp_out w).trans ga.2.1, ga.2.2.1, ga.2.2.2⟩
    · have e : (P'.unp Q L F).lz lr = Q.lz lr := b2.2.1
      rw [e] at j1
      show P'.el lr i ≠ P'.el lr j
      rw [b2.2.2 i i0 (by omega), b2.2.2 j (by omega) j1]; exact d1 i j i0 ij j1
    · have e : (P'.unp Q L F).lz lp = Q.lz lp := b3.2.1
      rw [e] at j1
      show P'.el lp i ≠ P'.el lp j
      rw [b3.2.2 i i0 (by omega), b3.2.2 j (by omega) j1]; exact d2 i j i0 ij j1
  refine ⟨_, funext (pE_unp k), fun z m kz => ?_, hB⟩
  show (P'.unp Q L F).kd z = _
  by_cases w : z ∈ L ∧ ¬ F z
  · have e := park_out (P := Q) w.2
    have q := (k.1 z w.1 (fun v => pkk_not (Q.kd z) (by rw [← e, v]; unfold K89; omega))).2.1
    rw [unp_in w, q, e]
    have t := pkk_cases (Q.kd z)
    rw [q, e] at kz
    omega
  · exact unp_out w
end ATP9
theorem ZRI.nu {P Q : PO} {la : Nat} {n : Int} {Z : Int → Prop} (h : ZRI P Q la n Z) (l0 : 0 < P.lz la) (z0 : 0 ≤ P.lz (P.br (P.el la 0))) : n ≤ Q.lz (Q.br (Q.el la 0)) ∧ ∀ j r : Int, 0 ≤ j → j < n → ¬ RUS Q (Q.el (Q.br (Q.el la 0)) j) r := by
  have w := h.2.1 0 (Int.le_refl 0) l0
  have v := h.2.2.2.1
  rw [w.1, w.2.1.2.1]
  refine ⟨by omega, fun j r j0 j1 u => ?_⟩
  have c := (v.2.2 j j0 j1).1
  rcases u with u | u
  · exact u.1 c.1
  · exact u.1 c.2
section GLC9
variable {L L' L0 : List Nat} {P P' : PO} {cO cI cZ : ClassId} {ed la x : Nat}
theorem PIKR.sub9 (h : PIKR L P cI cZ x) (s : SUB9 L0 L P) : PIKR L0 P cI cZ x := ⟨⟨s.2 _ h.1.1 (by rw [h.1.2]; decide), h.1.2⟩, ⟨s.2 _ h.2.1.1 (by rw [h.2.1.2.1]; decide), h.2.1.2⟩, ⟨s.2 _ h.2.2.1.1 (by rw [h.2.2.1.2.1]; decide), h.2.2.1.2⟩, ⟨s.2 _ h.2.2.2.1.1 (by rw [h.2.2.2.1.2.1]; decide), h.2.2.2.1.2⟩, h.2.2.2.2⟩
theorem GLR.sub9 (h : GLR L P cO cI cZ ed) (s : SUB9 L0 L P) : GLR L0 P cO cI cZ ed := ⟨h.1.sub s, fun q m k => h.2.1 q (s.1 q m) k, fun q m k => (h.2.2.1 q (s.1 q m) k).sub9 s, h.2.2.2.1.sub s, h.2.2.2.2.sub s⟩
theorem GLR.chx {k : Nat} (h : GLR L P cO cI cZ ed) (c : CHX k L P L' P') (hk : 43 ≤ k) : GLR L' P' cO cI cZ ed := (h.sub9 (CHX.low L P)).ext (c.ext hk) (fun z m n => by
  have w : 43 ≤ P'.kd z := by
    by_cases q : z ∈ L
    · have e : P'.kd z = P.kd z := (c.1 z q).2.2.1 0
      rw [e]
      by_cases g : P.kd z < 43
      · exact absurd (List.mem_filter.mpr ⟨q, by simpa using g⟩) n
      · omega
    · exact c.2 z m q
  exact ⟨fun k => by omega, fun k => by omega, fun k => by omega, fun k => by omega⟩)
theorem GLR.chxk {E : List Nat} {k : Nat} (h : GLR L P cO cI cZ ed) (c : CHX k L P L' P') (hk : 43 ≤ k) : KEG E L P L' P' := by
  have w : KEG E _ P L' P' := (c.ext hk).kegR (h.sub9 (CHX.low L P))
  refine ⟨fun y m q => ?_, fun y m q => w.2 y ((CHX.low L P).2 y m (by omega)) q⟩
  by_cases r : P.kd y < 43
  · exact w.1 y ((CHX.low L P).2 y m r) q
  · exact ⟨(c.1 y m).1, (c.1 y m).2.2.1 0, (c.1 y m).2.2.1 8, fun q2 => absurd q2 (by omega), fun k2 => by unfold PKD at k2; omega⟩
end GLC9
theorem PIKR.of9 {L : List Nat} {P P' : PO} {cI cZ : ClassId} {x : Nat} (h : PIKR L P cI cZ x) (w : PH1 x P P') (n0 : 0 ≤ P'.pn x) (n1 : P'.pn x ≤ P.pn x) (t : 0 ≤ P'.pt x ∧ P'.pt x ≤ 3001 ∧ 0 ≤ P'.pg x ∧ P'.pg x ≤ 1) : PIKR L P' cI cZ x := by
  obtain ⟨⟨a1, a2⟩, b, c, d, m, _, _⟩ := h
  have k : ∀ y : Nat, P'.kd y = P.kd y := fun y => congrFun (congrFun w.1.1 0) y
  have pp : P'.pp x = P.pp x := congrFun (congrFun w.1.1 1) x
  have pu : P'.pu x = P.pu x := congrFun (congrFun w.1.1 2) x
  have pr : P'.pr x = P.pr x := congrFun (congrFun w.1.1 3) x
  have an : ∀ y : Nat, P'.an y = P.an y := fun y => congrFun (congrFun w.1.1 1) y
  have ow : ∀ y : Nat, P'.ow y = P.ow y := fun y => congrFun (congrFun w.1.1 9) y
  have ac : ∀ y : Nat, P'.ac y = P.ac y := fun y => congrFun w.1.2.2 y
  refine ⟨⟨a1, (k x).trans a2⟩, ?_, ?_, ?_, ?_, t, fun _ _ _ => trivial⟩
  · rw [pp, k, ac, ow]; exact b
  · rw [pu, k, ac, ow]; exact c
  · rw [pr, k, ac, ow]; exact d
  · rw [pp, pu, pr, an, an, an]; omega
