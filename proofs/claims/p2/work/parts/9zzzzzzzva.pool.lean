section ADD9
variable {L L' : List Nat} {P P' : PO} {cO cI cZ : ClassId} {ed la x q : Nat}
/-- no object but a row of objects is a list's row -/
theorem ALP.nle {y : Nat} (h : ALP L P cO cI cZ ed la) (mx : x ∈ L) (kx : P.kd x = 30) (fx : P.fl x = 1 ∨ P.le x ∉ L) (m : y ∈ L) (k : P.kd y ≠ 31) : y ≠ P.le x := fun e => by
  rcases fx with f | f
  · exact k (by rw [e]; exact ((h.2.1.1 x mx kx).2 f).2.1)
  · exact f (by rw [← e]; exact m)
/-- a list's own row is no other's -/
theorem ALP.rle {l k : Nat} (h : ALP L P cO cI cZ ed la) (mx : x ∈ L) (kx : P.kd x = 30) (fx : P.fl x = 1 ∨ P.le x ∉ L) (ql : LOK L P cO k l) (z : P.lz l ≠ 0) (n : l ≠ x) : P.le l ∈ L ∧ P.le l ≠ x ∧ P.le l ≠ P.le x := by
  obtain ⟨a, b, c, _⟩ := (h.2.1.1 l ql.1 ql.2.1).2 (h.fl1 ql z)
  refine ⟨a, kd_ne b kx (by decide), fun e => ?_⟩
  rcases fx with f | f
  · exact n (by rw [← c, e, ((h.2.1.1 x mx kx).2 f).2.2.1])
  · exact f (by rw [← e]; exact a)
theorem GL1.kep {E : List Nat} (h : ALP L P cO cI cZ ed la) (w : GL1 x q L P L' P') (mx : x ∈ L) (kx : P.kd x = 30) (fx : P.fl x = 1 ∨ P.le x ∉ L) (e : P.ek x ≠ 12) (ox : P.ow x ≠ x ∨ x ∈ E) : KEP E L P L' P' la := by
  have nl : la ≠ x := fun q => e (by rw [← q]; exact h.2.1.2.1)
  have sl := w.sm la h.lok.1 nl (h.nle mx kx fx h.lok.1 (by rw [h.lok.2.1]; decide))
  have o : OWA L P cO ed := h.2.1.1
  refine ⟨fun y m k => ?_, fun y m k => ?_, sl.1 0, fun i i0 i1 => w.elO o mx kx fx h.lok.1 h.lok.2.1 nl i0 i1⟩
  · have n := h.nle mx kx fx m k
    refine ⟨w.2.1 y m n, w.kd kx m n, w.ek o mx kx fx m k, fun k2 o2 => ?_, fun k2 => (w.sm y m (fun e => by rw [e, kx] at k2; unfold PKD at k2; omega) n).sma⟩
    by_cases ny : y = x
    · refine ⟨by rw [ny] at o2 ⊢; exact w.1.2.2.2.2.2.2.1.trans o2, fun ne => ?_⟩
      rcases ox with q | q
      · exact absurd (by rw [← ny]; exact o2) q
      · exact absurd (by rw [ny]; exact q) ne
    · have s := w.sm y m ny n
      exact ⟨(s.2.1 9).trans o2, fun _ => ⟨s.1 0, fun i i0 i1 => w.elO o mx kx fx m k2 ny i0 i1⟩⟩
  · have s := w.sm y m (kd_ne k kx (by decide)) (h.nle mx kx fx m (by omega))
    exact ⟨s.2.1 1, s.2.1 2, s.2.1 3⟩
theorem GL1.lok {l k : Nat} (h : ALP L P cO cI cZ ed la) (w : GL1 x q L P L' P') (mx : x ∈ L) (kx : P.kd x = 30) (fx : P.fl x = 1 ∨ P.le x ∉ L) (ql : LOK L P cO k l) (n : l ≠ x) (k31 : k ≠ 31) : LOK L' P' cO k l := by
  have nl := h.nle mx kx fx ql.1 (by rw [ql.2.1]; decide)
  have sl := w.sm l ql.1 n nl
  have z : P'.lz l = P.lz l := sl.1 0
  have le : P'.le l = P.le l := sl.2.1 1
  refine ⟨w.2.1 l ql.1 nl, (sl.2.1 0).trans ql.2.1, by rw [z]; exact ql.2.2.1, ?_, fun i i0 i1 => ?_⟩
  · rw [z, le]
    by_cases z0 : P.lz l = 0
    · exact Or.inl z0
    · obtain ⟨a, b, c⟩ := h.rle mx kx fx ql z0 n
      have s := w.sm _ a b c
      rcases ql.2.2.2.1 with d | ⟨_, d2, d3, d4⟩
      · exact Or.inl d
      · have an : P'.an (P.le l) = P.an (P.le l) := s.2.1 1
        have kd : P'.kd (P.le l) = P.kd (P.le l) := s.2.1 0
        exact Or.inr ⟨w.2.1 _ a c, by rw [kd]; exact d2, by rw [s.2.2.2.2]; exact d3, by rw [an]; exact d4⟩
  · rw [z] at i1
    obtain ⟨a, b, c⟩ := h.rle mx kx fx ql (by omega) n
    have s := w.sm _ a b c
    obtain ⟨d1, d2, d3⟩ := ql.2.2.2.2 i i0 i1
    have el : P'.el l i = P.el l i := by unfold PO.el; rw [le, s.2.2.1]
    have ne := h.nle mx kx fx d2 (by rw [d3]; exact k31)
    rw [le, s.2.2.1, el]
    exact ⟨d1, w.2.1 _ d2 ne, (w.kd kx d2 ne).trans d3⟩
theorem GL1.self {k y : Nat} (h : ALP L P cO cI cZ ed la) (w : GL1 x q L P L' P') (mx : x ∈ L) (kx : P.kd x = 30) (fx : P.fl x = 1 ∨ P.le x ∉ L) (qx : LOK L P cO k x) (k31 : k ≠ 31) (my : y ∈ L) (ky : P.kd y = k) (z : P'.lz x = P.lz x + 1) (zb : P.lz x < 20000) (ac : P'.ac q = cO) (an0 : P.lz x + 1 ≤ P'.an q) (an1 : (P'.an q : Int) ≤ 40000) (at9 : P'.oa q (P.lz x).toNat = some y) (old : ∀ j : Nat, (j : Int) < P.lz x → P'.oa q j = P.oa (P.le x) j) : LOK L' P' cO k x := by
  have le : P'.le x = q := w.1.2.2.2.1
  refine ⟨w.1.1, w.1.2.2.1, by have := qx.2.2.1; omega, ?_, fun i i0 i1 => ?_⟩
  · rw [le, z]; exact Or.inr ⟨w.1.2.1, w.1.2.2.2.2.1, ac, an0, by omega⟩
  · rw [z] at i1
    by_cases e : i = P.lz x
    · subst e
      have el : P'.el x (P.lz x) = y := by unfold PO.el; rw [le, at9]; rfl
      have ne := h.nle mx kx fx my (by rw [ky]; exact k31)
      rw [el, le, at9]
      exact ⟨rfl, w.2.1 _ my ne, (w.kd kx my ne).trans ky⟩
    · have o := old i.toNat (by omega)
      obtain ⟨d1, d2, d3⟩ := qx.2.2.2.2 i i0 (by omega)
      rw [d1] at o
      have el : P'.el x i = P.el x i := by
        have : P'.el x i = ((P'.oa (P'.le x)) i.toNat).getD 0 := rfl
        rw [this, le, o]; rfl
      have ne := h.nle mx kx fx d2 (by rw [d3]; exact k31)
      rw [el, le, o]
      exact ⟨rfl, w.2.1 _ d2 ne, (w.kd kx d2 ne).trans d3⟩
theorem SM9.rok {y : Nat} (s : SM9 y P P') (k : ROK9 P y) : ROK9 P' y := by
  unfold ROK9 PO.ro PO.rt PO.ra PO.rb PO.rA PO.rB PO.rg at *
  simp only [s.1]; exact k
/-- one more in a block's list -/
theorem ALP.add {k y : Nat} (h : ALP L P cO cI cZ ed la) (w : GL1 x q L P L' P') (mx : x ∈ L) (kx : P.kd x = 30) (fx : P.fl x = 1 ∨ P.le x ∉ L) (ek : P.ek x = k) (k12 : k = 17 ∨ k = 15) (qx : LOK L P cO k x) (my : y ∈ L) (ky : P.kd y = k) (z : P'.lz x = P.lz x + 1) (zb : P.lz x < 20000) (ac : P'.ac q = cO) (an0 : P.lz x + 1 ≤ P'.an q) (an1 : (P'.an q : Int) ≤ 40000) (els : ELS L' P' (P'.oa q)) (at9 : P'.oa q (P.lz x).toNat = some y) (old : ∀ j : Nat, (j : Int) < P.lz x → P'.oa q j = P.oa (P.le x) j) (pb : k = 15 → PRB P y (P.lz la)) (e1 : k = 17 → P.ek y ≠ 1) : ALP L' P' cO cI cZ ed la := by
  have ke : KEP [x] L P L' P' la := w.kep h mx kx fx (by omega) (Or.inr (by simp))
  have nl : la ≠ x := fun e => by have := h.2.1.2.1; rw [e] at this; omega
  have lo : ∀ (k' l : Nat), LOK L P cO k' l → k' ≠ 31 → P.ek l = k' → LOK L' P' cO k' l := fun k' l ql n31 e => by
    by_cases n : l = x
    · rw [n] at ql e ⊢
      have kk : k' = k := by rw [← e, ek]
      rw [kk]
      exact w.self h mx kx fx qx (by omega) my ky z zb ac an0 an1 at9 old
    · exact w.lok h mx kx fx ql n n31
  have sm : ∀ y : Nat, y ∈ L → P.kd y ≠ 31 → P.kd y ≠ 30 → y ∈ L' ∧ SM9 y P P' := fun y m k1 k2 => by
    have n := h.nle mx kx fx m k1
    exact ⟨w.2.1 y m n, w.sm y m (fun e => k2 (by rw [e]; exact kx)) n⟩
  have bk : ∀ y : Nat, y ∈ L' → P'.kd y ≠ 30 → P'.kd y ≠ 31 → y ∈ L ∧ P.kd y = P'.kd y := fun y m k1 k2 => by
    have n1 : y ≠ x := fun e => k1 (by rw [e]; exact w.1.2.2.1)
    have n2 : y ≠ q := fun e => k2 (by rw [e]; exact w.1.2.2.2.2.1)
    rcases w.2.2.1 y m with e | e | e
    · exact absurd e n1
    · exact absurd e n2
    · exact ⟨e, ((w.2.2.2.1 y n1 n2).2.1 0).symm⟩
  have nq : ∀ y : Nat, y ∈ L → P.kd y ≠ 31 → y ≠ q := fun y m k1 e => by
    have e2 := w.2.2.2.2 (by rw [← e]; exact m)
    exact h.nle mx kx fx m k1 (e.trans e2)
  have prb : ∀ y : Nat, y ∈ L → P.kd y = 15 → ∀ n : Int, PRB P y n → PRB P' y n := fun y m k1 n b => by
    have s := (sm y m (by omega) (by omega)).2
    have p := h.pik m k1
    have s2 := (sm _ p.2.1.1 (by rw [p.2.1.2.1]; decide) (by rw [p.2.1.2.1]; decide)).2
    exact b.same (s.1 1) (s.2.1 1) s2.2.2.2.1
  refine ⟨⟨⟨lo 12 la h.lok (by decide) h.2.1.2.1, by rw [ke.2.2.1]; exact h.1.1.2.1, fun j j0 j1 => ?_, fun y m d => ?_⟩, fun y m d => ?_⟩, ⟨fun y m d => ?_, ?_, fun y m d => ?_, fun i j a b c => ?_⟩, fun y m j j0 j1 => ?_, h.2.2.2.add h.2.1.1 w mx kx fx ek my ky z zb ac an0 an1 at9 old e1⟩
  · rw [ke.2.2.1] at j1 ⊢
    rw [ke.2.2.2 j j0 j1]
    obtain ⟨a, b, c, d, f⟩ := h.1.blk j0 j1
    have s := sm _ a.1 (by rw [a.2]; decide) (by rw [a.2]; decide)
    have o := h.2.1.2.2.1 _ a.1 a.2
    have br : P'.br (P.el la j) = P.br (P.el la j) := s.2.2.1 2
    have bp : P'.bp (P.el la j) = P.bp (P.el la j) := s.2.2.1 1
    have be : P'.be (P.el la j) = P.be (P.el la j) := s.2.2.1 3
    have se := sm _ d.1 (by rw [d.2]; decide) (by rw [d.2]; decide)
    have f1 : P'.bf (P.el la j) = P.bf (P.el la j) := s.2.1 0
    have f2 : P'.bs (P.el la j) = P.bs (P.el la j) := s.2.1 1
    refine ⟨⟨s.1, (s.2.2.1 0).trans a.2⟩, by rw [br]; exact lo 17 _ b (by decide) o.1.1, by rw [bp]; exact lo 15 _ c (by decide) o.2.1, by rw [be]; exact ⟨se.1, (se.2.2.1 0).trans d.2⟩, by rw [f1, f2]; exact f⟩
  · obtain ⟨a, b⟩ := bk y m (by omega) (by omega)
    rw [d] at b
    exact (sm y a (by omega) (by omega)).2.rok (h.rok a b)
  · obtain ⟨a, b⟩ := bk y m (by omega) (by omega)
    rw [d] at b
    have s := (sm y a (by omega) (by omega)).2
    obtain ⟨p1, p2, p3, p4, p5, p6, p7⟩ := h.pik a b
    have s2 := sm _ p2.1 (by rw [p2.2.1]; decide) (by rw [p2.2.1]; decide)
    have s3 := sm _ p3.1 (by rw [p3.2.1]; decide) (by rw [p3.2.1]; decide)
    have s4 := sm _ p4.1 (by rw [p4.2.1]; decide) (by rw [p4.2.1]; decide)
    have pp : P'.pp y = P.pp y := s.2.1 1
    have pu : P'.pu y = P.pu y := s.2.1 2
    have pr : P'.pr y = P.pr y := s.2.1 3
    have pn : P'.pn y = P.pn y := s.1 1
    have pt : P'.pt y = P.pt y := s.1 0
    have pg : P'.pg y = P.pg y := s.1 2
    have k2 : P'.kd (P.pp y) = P.kd (P.pp y) := s2.2.2.1 0
    have k3 : P'.kd (P.pu y) = P.kd (P.pu y) := s3.2.2.1 0
    have k4 : P'.kd (P.pr y) = P.kd (P.pr y) := s4.2.2.1 0
    have a2 : P'.an (P.pp y) = P.an (P.pp y) := s2.2.2.1 1
    have a3 : P'.an (P.pu y) = P.an (P.pu y) := s3.2.2.1 1
    have a4 : P'.an (P.pr y) = P.an (P.pr y) := s4.2.2.1 1
    have o2 : P'.ow (P.pp y) = P.ow (P.pp y) := s2.2.2.1 9
    have o3 : P'.ow (P.pu y) = P.ow (P.pu y) := s3.2.2.1 9
    have o4 : P'.ow (P.pr y) = P.ow (P.pr y) := s4.2.2.1 9
    refine ⟨⟨m, d⟩, ?_, ?_, ?_, ?_, ?_, fun i i0 i1 => ?_⟩
    · rw [pp, k2, s2.2.2.2.2.2, o2]; exact ⟨s2.1, p2.2⟩
    · rw [pu, k3, s3.2.2.2.2.2, o3]; exact ⟨s3.1, p3.2⟩
    · rw [pr, k4, s4.2.2.2.2.2, o4]; exact ⟨s4.1, p4.2⟩
    · rw [pp, pu, pr, a2, a3, a4, pn]; exact p5
    · rw [pt, pg]; exact p6
    · rw [pn] at i1
      rw [pp, pu, pr, s2.2.2.2.2.1, s3.2.2.2.2.1, s4.2.2.2.2.1]; exact p7 i i0 i1
  · by_cases e : y = x
    · subst e
      refine ⟨fun f => absurd w.1.2.2.2.2.2.2.2.2 f, fun _ => ?_⟩
      rw [w.1.2.2.2.1]
      exact ⟨w.1.2.1, w.1.2.2.2.2.1, w.1.2.2.2.2.2.1, els, by have := qx.2.2.1; omega, by omega, ac, by rw [z]; exact an0⟩
    · have n2 : y ≠ q := fun e2 => by rw [e2, w.1.2.2.2.2.1] at d; omega
      have mL : y ∈ L := by
        rcases w.2.2.1 y m with e1 | e1 | e1
        · exact absurd e1 e
        · exact absurd e1 n2
        · exact e1
      have s := w.2.2.2.1 y e n2
      have kd : P.kd y = 30 := (s.2.1 0).symm.trans d
      have le : P'.le y = P.le y := s.2.1 1
      have fl : P'.fl y = P.fl y := s.2.1 7
      have lz : P'.lz y = P.lz y := s.1 0
      rw [le, fl, lz]
      refine ⟨(h.2.1.1 y mL kd).1, fun f => ?_⟩
      obtain ⟨a, b, c, d1, d2⟩ := (h.2.1.1 y mL kd).2 f
      have n3 : P.le y ≠ x := kd_ne b kx (by decide)
      have n4 : P.le y ≠ P.le x := fun e2 => by
        rcases fx with g | g
        · exact e (by rw [← c, e2, ((h.2.1.1 x mx kx).2 g).2.2.1])
        · exact g (by rw [← e2]; exact a)
      have s2 := w.sm _ a n3 n4
      have an : P'.an (P.le y) = P.an (P.le y) := s2.2.1 1
      refine ⟨w.2.1 _ a n4, (s2.2.1 0).trans b, (s2.2.1 9).trans c, ?_, by rw [an, s2.2.2.2.2]; exact d2⟩
      rw [s2.2.2.1]
      intro j z0 e0
      obtain ⟨f1, f2⟩ := d1 j z0 e0
      have nn := h.nle mx kx fx f1 (by unfold OBK at f2; omega)
      exact ⟨w.2.1 _ f1 nn, by rw [w.kd kx f1 nn]; exact f2⟩
  · have s := w.sm la h.lok.1 nl (h.nle mx kx fx h.lok.1 (by rw [h.lok.2.1]; decide))
    exact (s.2.1 8).trans h.2.1.2.1
  · obtain ⟨a, b⟩ := bk y m (by omega) (by omega)
    rw [d] at b
    have s := sm y a (by omega) (by omega)
    have br : P'.br y = P.br y := s.2.2.1 2
    have bp : P'.bp y = P.bp y := s.2.2.1 1
    have go : ∀ l : Nat, l ∈ L → P.kd l = 30 → P'.ek l = P.ek l ∧ P'.ow l = P.ow l ∧ l ∈ L' ∧ P'.kd l = 30 := fun l ml kl => by
      by_cases e : l = x
      · rw [e]; exact ⟨w.1.2.2.2.2.2.2.2.1, w.1.2.2.2.2.2.2.1, w.1.1, w.1.2.2.1⟩
      · have t := w.2.2.2.1 l e (nq l ml (by omega))
        exact ⟨t.2.1 8, t.2.1 9, w.2.1 l ml (h.nle mx kx fx ml (by omega)), (t.2.1 0).trans kl⟩
    obtain ⟨⟨c1, c2, c3, c4⟩, c5, c6, c7, c8⟩ := h.2.1.2.2.1 y a b
    obtain ⟨g1, g2, g3, g4⟩ := go _ c3 c4
    obtain ⟨g5, g6, g7, g8⟩ := go _ c7 c8
    rw [br, bp, g1, g2, g5, g6]
    exact ⟨⟨c1, c2, g3, g4⟩, c5, c6, g7, g8⟩
  · rw [ke.2.2.1] at c
    rw [ke.2.2.2 i a (by omega), ke.2.2.2 j (by omega) c]; exact h.2.1.2.2.2 i j a b c
  · have m' := ke.back m
    have ib := h.inb m'
    have bp := (ke.2.1 y ib.1.1 ib.1.2).1
    have lb := ib.2.2.1
    have ob := (h.2.1.2.2.1 y ib.1.1 ib.1.2).2.1
    rw [bp] at j1 ⊢
    rw [ke.2.2.1]
    have old9 : ∀ i : Int, 0 ≤ i → i < P.lz (P.bp y) → P'.el (P.bp y) i = P.el (P.bp y) i → PRB P' (P'.el (P.bp y) i) (P.lz la) := fun i i0 i1 e => by
      have pk := h.at m' i0 i1
      rw [e]; exact prb _ pk.1.1 pk.1.2 _ (h.2.2.1 y m' i i0 i1)
    by_cases n : P.bp y = x
    · rw [n] at j1 ob lb old9 ⊢
      have k15 : k = 15 := by rw [← ek, ob]
      have le : P'.le x = q := w.1.2.2.2.1
      by_cases e : j = P.lz x
      · have el : P'.el x j = _ := rfl
        have el2 : P'.el x j = ((P'.oa (P'.le x)) j.toNat).getD 0 := rfl
        rw [el2, le, e, at9]
        exact prb _ my (by rw [ky]; exact k15) _ (pb k15)
      · refine old9 j j0 (by omega) ?_
        have o := old j.toNat (by omega)
        have e1 : P'.el x j = ((P'.oa (P'.le x)) j.toNat).getD 0 := rfl
        have e2 : P.el x j = ((P.oa (P.le x)) j.toNat).getD 0 := rfl
        rw [e1, e2, le, o]
    · have t := w.2.2.2.1 _ n (nq _ lb.1 (by rw [lb.2.1]; decide))
      have lz : P'.lz (P.bp y) = P.lz (P.bp y) := t.1 0
      rw [lz] at j1
      refine old9 j j0 j1 ?_
      obtain ⟨a, b, c⟩ := h.rle mx kx fx lb (by omega) n
      have s := w.sm _ a b c
      have le : P'.le (P.bp y) = P.le (P.bp y) := t.2.1 1
      unfold PO.el; rw [le, s.2.2.1]
theorem GL1.lz {y : Nat} (w : GL1 x q L P L' P') (h : ALP L P cO cI cZ ed la) (mx : x ∈ L) (kx : P.kd x = 30) (fx : P.fl x = 1 ∨ P.le x ∉ L) (m : y ∈ L) (k : P.kd y = 30) (n : y ≠ x) : P'.lz y = P.lz y := (w.sm y m n (h.nle mx kx fx m (by omega))).1 0
end ADD9
theorem va_T_notin {ty : FieldType} {t N : Nat} {f : Nat → Value} {A : Nat → Prop} {U : State} {H : Heap} {X : va_W} {L : List Nat} {g : Nat → va_E} (hT : va_T ty t N f A U H) (hD : va_D A (X ++ va_pl L g)) : t ∉ L := fun m => by
  obtain ⟨q0, h⟩ := va_pl_get (X := X) (f := g) m
  obtain ⟨_, _, _, _, _, _, _, n⟩ := hT
  exact n (hD.2 q0 _ h)
/-- what a list must be to take one more -/
def ADC (L : List Nat) (P : PO) (cO : ClassId) (ed xl : Nat) : Prop := (P.fl xl = 1 ∧ (P.le xl ∈ L ∧ P.kd (P.le xl) = 31 ∧ P.ac (P.le xl) = cO) ∧ ELS L P (P.oa (P.le xl)) ∧ P.lz xl ≤ P.an (P.le xl) ∧ 0 < P.an (P.le xl) ∧ (P.an (P.le xl) : Int) ≤ 40000) ∨ (P.fl xl ≠ 1 ∧ P.lz xl = 0 ∧ P.le xl = ed)
theorem ALP.adc {L : List Nat} {P : PO} {cO cI cZ : ClassId} {ed la l k : Nat} (h : ALP L P cO cI cZ ed la) (q : LOK L P cO k l) : ADC L P cO ed l := by
  by_cases f : P.fl l = 1
  · obtain ⟨a, b, c, d, e1, e2, e3, e4⟩ := (h.2.1.1 l q.1 q.2.1).2 f
    exact Or.inl ⟨f, ⟨a, b, e3⟩, d, e4, e1, by omega⟩
  · exact Or.inr ⟨f, (h.2.1.1 l q.1 q.2.1).1 f⟩
theorem ALP.adc40 {L : List Nat} {P : PO} {cO cI cZ : ClassId} {ed la l k : Nat} (h : ALP L P cO cI cZ ed la) (q : LOK L P cO k l) : P.fl l = 1 → (P.an (P.le l) : Int) ≤ 40000 := fun f => by
  have := ((h.2.1.1 l q.1 q.2.1).2 f).2.2.2.2.2.1
  omega
