/-- a block of the function -/
def INB (P : PO) (la x : Nat) : Prop := ∃ i : Int, 0 ≤ i ∧ i < P.lz la ∧ x = P.el la i
/-- what stays over every change but one of the function's list of blocks: objects and their kinds, the blocks' lists, the function's blocks -/
def KEP (L : List Nat) (P : PO) (L' : List Nat) (P' : PO) (la : Nat) : Prop := (∀ y : Nat, y ∈ L → P.kd y ≠ 31 → y ∈ L' ∧ P'.kd y = P.kd y) ∧ (∀ x : Nat, x ∈ L → P.kd x = 12 → P'.bp x = P.bp x ∧ P'.br x = P.br x ∧ P'.be x = P.be x) ∧ P'.lz la = P.lz la ∧ ∀ i : Int, 0 ≤ i → i < P.lz la → P'.el la i = P.el la i
theorem KEP.refl (L : List Nat) (P : PO) (la : Nat) : KEP L P L P la := ⟨fun _ h _ => ⟨h, rfl⟩, fun _ _ _ => ⟨rfl, rfl, rfl⟩, rfl, fun _ _ _ => rfl⟩
theorem KEP.trans {L L' L'' : List Nat} {P P' P'' : PO} {la : Nat} (h : KEP L P L' P' la) (k : KEP L' P' L'' P'' la) : KEP L P L'' P'' la := by
  obtain ⟨a, b, c, d⟩ := h
  obtain ⟨a', b', c', d'⟩ := k
  refine ⟨fun y m n => ?_, fun x m n => ?_, c'.trans c, fun i i0 i1 => (d' i i0 (by rw [c]; exact i1)).trans (d i i0 i1)⟩
  · obtain ⟨e, f⟩ := a y m n
    obtain ⟨g, j⟩ := a' y e (by rw [f]; exact n)
    exact ⟨g, j.trans f⟩
  · obtain ⟨e, f⟩ := a x m (by omega)
    obtain ⟨p, q, r⟩ := b x m n
    obtain ⟨p', q', r'⟩ := b' x e (f.trans n)
    exact ⟨p'.trans p, q'.trans q, r'.trans r⟩
theorem KEP.mem {L L' : List Nat} {P P' : PO} {la y k : Nat} (h : KEP L P L' P' la) (m : y ∈ L) (e : P.kd y = k) (n : k ≠ 31) : y ∈ L' ∧ P'.kd y = k := by
  obtain ⟨a, b⟩ := h.1 y m (by rw [e]; exact n)
  exact ⟨a, b.trans e⟩
theorem KEP.inb {L L' : List Nat} {P P' : PO} {la x : Nat} (h : KEP L P L' P' la) (i : INB P la x) : INB P' la x := by
  obtain ⟨j, a, b, c⟩ := i
  exact ⟨j, a, by rw [h.2.2.1]; exact b, by rw [h.2.2.2 j a b]; exact c⟩
theorem KEP.bp {L L' : List Nat} {P P' : PO} {la x q : Nat} (h : KEP L P L' P' la) (m : x ∈ L) (k : P.kd x = 12) (e : P.bp x = q) : P'.bp x = q := (h.2.1 x m k).1.trans e
theorem KEP.br {L L' : List Nat} {P P' : PO} {la x q : Nat} (h : KEP L P L' P' la) (m : x ∈ L) (k : P.kd x = 12) (e : P.br x = q) : P'.br x = q := (h.2.1 x m k).2.1.trans e
theorem KEP.be {L L' : List Nat} {P P' : PO} {la x q : Nat} (h : KEP L P L' P' la) (m : x ∈ L) (k : P.kd x = 12) (e : P.be x = q) : P'.be x = q := (h.2.1 x m k).2.2.trans e
theorem RWD.kep {P P' : PO} (h : RWD P P') (L : List Nat) {la : Nat} (k : P.kd la = 30) : KEP L P L P' la := ⟨fun y m _ => ⟨m, h.kd y⟩, fun x _ _ => ⟨h.bp x, h.br x, h.be x⟩, h.lz k, fun i _ _ => h.el la i⟩
/-- numbers of blocks may have changed too -/
theorem RW1.kep {x : Nat} {P P' : PO} (h : RW1 x P P') (L : List Nat) {la : Nat} (k : P.kd la = 30) (n : P.kd x ≠ 30) : KEP L P L P' la := by
  have e : la ≠ x := fun e => n (by rw [← e]; exact k)
  refine ⟨fun y m _ => ⟨m, by show P'.2.1 0 y = P.2.1 0 y; rw [h.1]⟩, fun y _ _ => ⟨by show P'.2.1 1 y = P.2.1 1 y; rw [h.1], by show P'.2.1 2 y = P.2.1 2 y; rw [h.1], by show P'.2.1 3 y = P.2.1 3 y; rw [h.1]⟩, h.2 la e 0, fun i _ _ => ?_⟩
  show ((P'.2.2.1 (P'.2.1 1 la)) i.toNat).getD 0 = ((P.2.2.1 (P.2.1 1 la)) i.toNat).getD 0
  rw [h.1]
/-- what a list is to hold -/
def PO.ek (P : PO) (x : Nat) : Nat := P.2.1 8 x
/-- each list has a row of its own, and what its rows hold is in the pool -/
def OWN9 (L : List Nat) (P : PO) (la : Nat) : Prop := (∀ x : Nat, x ∈ L → P.kd x = 30 → P.le x ∈ L → P.kd (P.le x) = 31 ∧ P.ow (P.le x) = x ∧ ELS L P (P.oa (P.le x)) ∧ 0 < P.an (P.le x)) ∧ P.ek la = 12 ∧ ∀ x : Nat, x ∈ L → P.kd x = 12 → P.ek (P.br x) = 17 ∧ P.ek (P.bp x) = 15
theorem OWN9.of {L : List Nat} {P P' : PO} {la : Nat} (h : OWN9 L P la) (a : P'.2.1 = P.2.1) (b : P'.2.2.1 = P.2.2.1) : OWN9 L P' la := by
  unfold OWN9 ELS PO.kd PO.le PO.oa PO.ow PO.an PO.ek PO.br PO.bp at *
  rw [a, b]; exact h
/-- PREDs of the function's PHIs are its blocks -/
def PBK (P : PO) (la : Nat) : Prop := ∀ x : Nat, INB P la x → ∀ j : Int, 0 ≤ j → j < P.lz (P.bp x) → PRB P (P.el (P.bp x) j) (P.lz la)
theorem PRB.same {P P' : PO} {z : Nat} {n : Int} (a : P'.pn z = P.pn z) (b : P'.pp z = P.pp z) (c : P'.ia (P.pp z) = P.ia (P.pp z)) (h : PRB P z n) : PRB P' z n := fun i i0 i1 => by
  rw [b, c]; exact h i i0 (by rw [← a]; exact i1)
/-- a function with all that the pool keeps -/
def ALP (L : List Nat) (P : PO) (cO cI cZ : ClassId) (la : Nat) : Prop := ALLK L P cO cI cZ la ∧ OWN9 L P la ∧ PBK P la
section ALP9
variable {L : List Nat} {P P' : PO} {cO cI cZ : ClassId} {la x : Nat}
theorem ALP.lok (h : ALP L P cO cI cZ la) : LOK L P cO 12 la := h.1.1.1
theorem ALP.inb (h : ALP L P cO cI cZ la) (i : INB P la x) : BOK L P cO (P.lz la) x := by
  obtain ⟨j, a, b, c⟩ := i
  rw [c]; exact h.1.blk a b
theorem ALP.rok (h : ALP L P cO cI cZ la) (m : x ∈ L) (k : P.kd x = 17) : ROK9 P x := h.1.1.2.2.2 x m k
theorem ALP.pik (h : ALP L P cO cI cZ la) (m : x ∈ L) (k : P.kd x = 15) : PIK L P cI cZ x := h.1.2 x m k
theorem KEP.back {L' : List Nat} (h : KEP L P L' P' la) (i : INB P' la x) : INB P la x := by
  obtain ⟨j, a, b, c⟩ := i
  rw [h.2.2.1] at b
  exact ⟨j, a, b, by rw [c, h.2.2.2 j a b]⟩
/-- the PHI at a place of a block's list -/
theorem ALP.at (h : ALP L P cO cI cZ la) (i : INB P la x) {j : Int} (j0 : 0 ≤ j) (j1 : j < P.lz (P.bp x)) : PIK L P cI cZ (P.el (P.bp x) j) := by
  have q := (h.inb i).2.2.1.2.2.2.2 j j0 j1
  exact h.pik q.2.1 q.2.2
theorem ALP.phi (h : ALP L P cO cI cZ la) (w : PH1 x P P') (k : P.kd x = 15) (p : PIK L P' cI cZ x) (q : PRQ x P P') : ALP L P' cO cI cZ la := by
  have r := w.rwd k
  refine ⟨h.1.phi w k p, h.2.1.of w.1.1 w.1.2.1, fun y m j j0 j1 => ?_⟩
  have m' := (r.kep L h.lok.2.1).back m
  have lb := (h.inb m').2.2.1
  rw [r.bp, r.lz lb.2.1] at j1
  rw [r.bp, r.el, r.lz h.lok.2.1]
  have b := h.2.2 y m' j j0 j1
  by_cases e : P.el (P.bp y) j = x
  · rw [e] at b ⊢; exact q _ b
  · have pk := h.at m' j0 j1
    exact b.same (w.2.1 _ e 1) (congrFun (congrFun w.1.1 1) _) (w.2.2 _ (by rw [pk.2.1.2.2.2]; exact e))
theorem ALP.row (h : ALP L P cO cI cZ la) (w : RW1 x P P') (k : P.kd x = 17) (p : ROK9 P' x) : ALP L P' cO cI cZ la := by
  have r := w.rwd (Or.inl k)
  refine ⟨h.1.row w k p, h.2.1.of (by rw [w.1]) (by rw [w.1]), fun y m j j0 j1 => ?_⟩
  have m' := (r.kep L h.lok.2.1).back m
  have lb := (h.inb m').2.2.1
  rw [r.bp, r.lz lb.2.1] at j1
  rw [r.bp, r.el, r.lz h.lok.2.1]
  have b := h.2.2 y m' j j0 j1
  have pk := h.at m' j0 j1
  exact b.same (w.2 _ (kd_ne pk.1.2 k (by decide)) 1) (by show P'.2.1 1 _ = P.2.1 1 _; rw [w.1]) (by show P'.2.2.2.1 _ = P.2.2.2.1 _; rw [w.1])
theorem RW1.lok {k l : Nat} (h : RW1 x P P') (n : P.kd x ≠ 30) (q : LOK L P cO k l) : LOK L P' cO k l := by
  have e : l ≠ x := fun e => n (by rw [← e]; exact q.2.1)
  have z : P'.lz l = P.lz l := h.2 l e 0
  have r : ∀ i : Int, P'.el l i = P.el l i := fun i => by
    show ((P'.2.2.1 (P'.2.1 1 l)) i.toNat).getD 0 = ((P.2.2.1 (P.2.1 1 l)) i.toNat).getD 0
    rw [h.1]
  unfold LOK at *
  rw [z]; simp only [r]
  unfold PO.kd PO.le PO.an PO.ac PO.oa at *
  rw [h.1]; exact q
/-- a block's goals set anew -/
theorem ALP.goal (h : ALP L P cO cI cZ la) (w : RW1 x P P') (k : P.kd x = 12) (g : INB P la x → 0 ≤ P'.bf x ∧ P'.bf x < P.lz la ∧ 0 ≤ P'.bs x ∧ P'.bs x < P.lz la) : ALP L P' cO cI cZ la := by
  have kk : ∀ y : Nat, P'.kd y = P.kd y := fun y => by show P'.2.1 0 y = P.2.1 0 y; rw [w.1]
  have nl : la ≠ x := fun e => by have := h.1.1.1.2.1; rw [e] at this; omega
  have zl : P'.lz la = P.lz la := w.2 la nl 0
  have el : ∀ i : Int, P'.el la i = P.el la i := fun i => by
    show ((P'.2.2.1 (P'.2.1 1 la)) i.toNat).getD 0 = ((P.2.2.1 (P.2.1 1 la)) i.toNat).getD 0
    rw [w.1]
  refine ⟨⟨⟨w.lok (by omega) h.1.1.1, by rw [zl]; exact h.1.1.2.1, fun i i0 i1 => ?_, fun q m d => ?_⟩, fun q m d => ?_⟩, h.2.1.of (by rw [w.1]) (by rw [w.1]), fun y m j j0 j1 => ?_⟩
  · rw [zl] at i1
    obtain ⟨a, b, c, d, e⟩ := h.1.blk i0 i1
    have br : P'.br (P.el la i) = P.br (P.el la i) := by show P'.2.1 2 _ = P.2.1 2 _; rw [w.1]
    have bp : P'.bp (P.el la i) = P.bp (P.el la i) := by show P'.2.1 1 _ = P.2.1 1 _; rw [w.1]
    have be : P'.be (P.el la i) = P.be (P.el la i) := by show P'.2.1 3 _ = P.2.1 3 _; rw [w.1]
    rw [el, zl]
    refine ⟨⟨a.1, (kk _).trans a.2⟩, by rw [br]; exact w.lok (by omega) b, by rw [bp]; exact w.lok (by omega) c, by rw [be, kk]; exact d, ?_⟩
    by_cases q : P.el la i = x
    · have := g ⟨i, i0, i1, q.symm⟩
      rw [q]; omega
    · have f1 : P'.bf (P.el la i) = P.bf (P.el la i) := w.2 _ q 0
      have f2 : P'.bs (P.el la i) = P.bs (P.el la i) := w.2 _ q 1
      rw [f1, f2]; exact e
  · have d' : P.kd q = 17 := (kk q).symm.trans d
    exact w.rok (fun e => by rw [e] at d'; omega) (h.rok m d')
  · have d' : P.kd q = 15 := (kk q).symm.trans d
    exact (h.pik m d').other w.ph1 (fun e => by rw [e] at d'; omega)
  · have ke := w.kep L h.lok.2.1 (by omega)
    have m' := ke.back m
    have ib := h.inb m'
    have bp := (ke.2.1 y ib.1.1 ib.1.2).1
    have lb := ib.2.2.1
    have lz : P'.lz (P.bp y) = P.lz (P.bp y) := w.2 _ (kd_ne lb.2.1 k (by decide)) 0
    have eb : P'.el (P.bp y) j = P.el (P.bp y) j := by
      show ((P'.2.2.1 (P'.2.1 1 _)) j.toNat).getD 0 = ((P.2.2.1 (P.2.1 1 _)) j.toNat).getD 0
      rw [w.1]
    rw [bp, lz] at j1
    rw [bp, eb, zl]
    have pk := h.at m' j0 j1
    exact (h.2.2 y m' j j0 j1).same (w.2 _ (kd_ne pk.1.2 k (by decide)) 1) (by show P'.2.1 1 _ = P.2.1 1 _; rw [w.1]) (by show P'.2.2.2.1 _ = P.2.2.2.1 _; rw [w.1])
/-- what a list needs to be changed -/
theorem ALP.own {l k : Nat} (h : ALP L P cO cI cZ la) (q : LOK L P cO k l) (z : P.lz l ≠ 0) : (P.le l ∈ L ∧ P.kd (P.le l) = 31 ∧ P.ac (P.le l) = cO) ∧ ELS L P (P.oa (P.le l)) ∧ (P.lz l ≤ P.an (P.le l) ∧ (P.an (P.le l) : Int) ≤ 100000 ∧ 0 < P.an (P.le l)) := by
  rcases q.2.2.2.1 with e | ⟨a, b, c, d, e⟩
  · exact absurd e z
  · obtain ⟨_, _, f, g⟩ := h.2.1.1 l q.1 q.2.1 a
    exact ⟨⟨a, b, c⟩, f, d, e, g⟩
/-- one taken out of a list -/
theorem LS1.kd (w : LS1 x P P') (y : Nat) : P'.kd y = P.kd y := by show P'.2.1 0 y = P.2.1 0 y; rw [w.1]
theorem ALP.away {l k : Nat} (h : ALP L P cO cI cZ la) (w : LS1 x P P') (mx : x ∈ L) (kx : P.kd x = 30) (lx : P.le x ∈ L) (q : LOK L P cO k l) (n : l ≠ x) : LOK L P' cO k l := by
  have le : P'.le l = P.le l := by show P'.2.1 1 l = P.2.1 1 l; rw [w.1]
  have z : P'.lz l = P.lz l := w.2.2.1 l n 0
  have oa : P.lz l = 0 ∨ P'.oa (P.le l) = P.oa (P.le l) := by
    rcases q.2.2.2.1 with e | ⟨a, b, c, d, e⟩
    · exact Or.inl e
    · refine Or.inr (w.2.2.2 _ (fun q2 => n ?_))
      rw [← (h.2.1.1 l q.1 q.2.1 a).2.1, q2, (h.2.1.1 x mx kx lx).2.1]
  obtain ⟨a, b, c, d, e⟩ := q
  refine ⟨a, (w.kd l).trans b, by rw [z]; exact c, ?_, fun i i0 i1 => ?_⟩
  · rw [z, le]
    have an : P'.an (P.le l) = P.an (P.le l) := by show P'.2.1 1 _ = P.2.1 1 _; rw [w.1]
    have ac : P'.ac (P.le l) = P.ac (P.le l) := by show P'.2.2.2.2 _ = P.2.2.2.2 _; rw [w.2.1]
    rw [w.kd, an, ac]; exact d
  · rw [z] at i1
    rcases oa with o | o
    · omega
    · have el : P'.el l i = P.el l i := by unfold PO.el; rw [le, o]
      rw [le, o, el, w.kd]; exact e i i0 i1
theorem rmv_el {l : Nat} {i j : Int} (w : LS1 l P P') (r : RMV (P.oa (P.le l)) (P'.oa (P.le l)) i (P.lz l)) (j0 : 0 ≤ j) (j1 : j + 1 < P.lz l) : P'.oa (P.le l) j.toNat = P.oa (P.le l) (if j < i then j else j + 1).toNat := by
  have h := r j.toNat
  split
  · exact h.1 (by omega)
  · rw [h.2 (by omega) (by omega)]; congr 1; omega
theorem ALP.rmv {l k : Nat} {i : Int} (h : ALP L P cO cI cZ la) (w : LS1 x P P') (mx : x ∈ L) (kx : P.kd x = 30) (lx : P.le x ∈ L) (z1 : P'.lz x = P.lz x - 1) (zp : 0 < P.lz x) (r : RMV (P.oa (P.le x)) (P'.oa (P.le x)) i (P.lz x)) (q : LOK L P cO k l) : LOK L P' cO k l := by
  by_cases n : l = x
  · subst n
    have le : P'.le l = P.le l := by show P'.2.1 1 l = P.2.1 1 l; rw [w.1]
    obtain ⟨a, b, c, d, e⟩ := q
    refine ⟨a, (w.kd l).trans b, by omega, ?_, fun j j0 j1 => ?_⟩
    · rcases d with d | ⟨d1, d2, d3, d4, d5⟩
      · omega
      · have an : P'.an (P.le l) = P.an (P.le l) := by show P'.2.1 1 _ = P.2.1 1 _; rw [w.1]
        have ac : P'.ac (P.le l) = P.ac (P.le l) := by show P'.2.2.2.2 _ = P.2.2.2.2 _; rw [w.2.1]
        rw [le, w.kd, an, ac]
        exact Or.inr ⟨d1, d2, d3, by omega, d5⟩
    · have g := rmv_el w r j0 (by omega)
      have m := e (if j < i then j else j + 1) (by split <;> omega) (by split <;> omega)
      rw [m.1] at g
      have el : P'.el l j = P.el l (if j < i then j else j + 1) := by
        have : P'.el l j = ((P'.oa (P'.le l)) j.toNat).getD 0 := rfl
        rw [this, le, g]; rfl
      rw [le, g, el, w.kd]
      exact ⟨rfl, m.2⟩
  · exact h.away w mx kx lx q n
theorem ALP.lskep (h : ALP L P cO cI cZ la) (w : LS1 x P P') (mx : x ∈ L) (kx : P.kd x = 30) (lx : P.le x ∈ L) (e : P.ek x ≠ 12) : KEP L P L P' la := by
  have n : la ≠ x := fun q => e (by rw [← q]; exact h.2.1.2.1)
  have le : P'.le la = P.le la := by show P'.2.1 1 la = P.2.1 1 la; rw [w.1]
  refine ⟨fun y m _ => ⟨m, w.kd y⟩, fun y _ _ => ⟨by show P'.2.1 1 y = P.2.1 1 y; rw [w.1], by show P'.2.1 2 y = P.2.1 2 y; rw [w.1], by show P'.2.1 3 y = P.2.1 3 y; rw [w.1]⟩, w.2.2.1 la n 0, fun i i0 i1 => ?_⟩
  have r := h.lok.row i0 i1
  have o : P'.oa (P.le la) = P.oa (P.le la) := w.2.2.2 _ (fun q2 => n (by rw [← (h.2.1.1 la h.lok.1 h.lok.2.1 r.1).2.1, q2, (h.2.1.1 x mx kx lx).2.1]))
  unfold PO.el; rw [le, o]
theorem LS1.rok {q : Nat} (w : LS1 x P P') (n : q ≠ x) (k : ROK9 P q) : ROK9 P' q := by
  unfold ROK9 PO.ro PO.rt PO.ra PO.rb PO.rA PO.rB PO.rg at *
  simp only [w.2.2.1 q n]; exact k
theorem LS1.pik {q : Nat} (w : LS1 x P P') (n : q ≠ x) (k : PIK L P cI cZ q) : PIK L P' cI cZ q := by
  have e1 : P'.1 0 q = P.1 0 q := w.2.2.1 q n 0
  have e2 : P'.1 1 q = P.1 1 q := w.2.2.1 q n 1
  have e3 : P'.1 2 q = P.1 2 q := w.2.2.1 q n 2
  unfold PIK PO.kd PO.pp PO.pu PO.pr PO.ac PO.ow PO.pn PO.an PO.pt PO.pg PO.ia at *
  rw [w.1, w.2.1, e1, e2, e3]; exact k
theorem LS1.own (h : OWN9 L P la) (w : LS1 x P P') (mx : x ∈ L) (kx : P.kd x = 30) (lx : P.le x ∈ L) (els : ELS L P' (P'.oa (P.le x))) : OWN9 L P' la := by
  have le : ∀ y : Nat, P'.le y = P.le y := fun y => by show P'.2.1 1 y = P.2.1 1 y; rw [w.1]
  refine ⟨fun y m k l => ?_, by show P'.2.1 8 la = 12; rw [w.1]; exact h.2.1, fun y m k => ?_⟩
  · rw [w.kd] at k
    rw [le] at l ⊢
    obtain ⟨a, b, c, d⟩ := h.1 y m k l
    refine ⟨(w.kd _).trans a, by show P'.2.1 9 _ = y; rw [w.1]; exact b, ?_, by show 0 < P'.2.1 1 _; rw [w.1]; exact d⟩
    by_cases q : y = x
    · rw [q]; exact els
    · have o : P'.oa (P.le y) = P.oa (P.le y) := w.2.2.2 _ (fun q2 => q (by rw [← b, q2, (h.1 x mx kx lx).2.1]))
      rw [o]
      intro j z e
      obtain ⟨f, g⟩ := c j z e
      exact ⟨f, by show OBK (P'.2.1 0 z); rw [w.1]; exact g⟩
  · rw [w.kd] at k
    show P'.2.1 8 (P'.2.1 2 y) = 17 ∧ P'.2.1 8 (P'.2.1 1 y) = 15
    rw [w.1]; exact h.2.2 y m k
theorem ALP.remove {i : Int} (h : ALP L P cO cI cZ la) (w : LS1 x P P') (mx : x ∈ L) (kx : P.kd x = 30) (lx : P.le x ∈ L) (e : P.ek x ≠ 12) (z1 : P'.lz x = P.lz x - 1) (zp : 0 < P.lz x) (els : ELS L P' (P'.oa (P.le x))) (r : RMV (P.oa (P.le x)) (P'.oa (P.le x)) i (P.lz x)) : ALP L P' cO cI cZ la := by
  have k := h.lskep w mx kx lx e
  refine ⟨⟨⟨h.rmv w mx kx lx z1 zp r h.lok, by rw [k.2.2.1]; exact h.1.1.2.1, fun j j0 j1 => ?_, fun q m d => ?_⟩, fun q m d => ?_⟩, LS1.own h.2.1 w mx kx lx els, fun y m j j0 j1 => ?_⟩
  · rw [k.2.2.1] at j1 ⊢
    rw [k.2.2.2 j j0 j1]
    obtain ⟨a, b, c, d, f⟩ := h.1.blk j0 j1
    obtain ⟨g1, g2, g3⟩ := k.2.1 _ a.1 a.2
    have n : P.el la j ≠ x := kd_ne a.2 kx (by decide)
    refine ⟨⟨a.1, (w.kd _).trans a.2⟩, by rw [g2]; exact h.rmv w mx kx lx z1 zp r b, by rw [g1]; exact h.rmv w mx kx lx z1 zp r c, by rw [g3, w.kd]; exact d, ?_⟩
    have f1 : P'.bf (P.el la j) = P.bf (P.el la j) := w.2.2.1 _ n 0
    have f2 : P'.bs (P.el la j) = P.bs (P.el la j) := w.2.2.1 _ n 1
    rw [f1, f2]; exact f
  · rw [w.kd] at d
    exact w.rok (kd_ne d kx (by decide)) (h.rok m d)
  · rw [w.kd] at d
    exact w.pik (kd_ne d kx (by decide)) (h.pik m d)
  · have m' := k.back m
    have ib := h.inb m'
    have bp := (k.2.1 y ib.1.1 ib.1.2).1
    have lb := ib.2.2.1
    rw [bp] at j1 ⊢
    rw [k.2.2.1]
    have go : ∀ i : Int, 0 ≤ i → i < P.lz (P.bp y) → PRB P' (P.el (P.bp y) i) (P.lz la) := fun i i0 i1 => by
      have pk := h.at m' i0 i1
      exact (h.2.2 y m' i i0 i1).same (w.2.2.1 _ (kd_ne pk.1.2 kx (by decide)) 1) (by show P'.2.1 1 _ = P.2.1 1 _; rw [w.1]) (by show P'.2.2.2.1 _ = P.2.2.2.1 _; rw [w.2.1])
    have le : P'.le (P.bp y) = P.le (P.bp y) := by show P'.2.1 1 _ = P.2.1 1 _; rw [w.1]
    by_cases n : P.bp y = x
    · rw [n, z1] at j1
      have g := rmv_el w r j0 (by omega)
      have el : P'.el (P.bp y) j = P.el (P.bp y) (if j < i then j else j + 1) := by
        unfold PO.el; rw [le, n, g]
      rw [el]
      exact go _ (by split <;> omega) (by rw [n]; split <;> omega)
    · have lz : P'.lz (P.bp y) = P.lz (P.bp y) := w.2.2.1 _ n 0
      rw [lz] at j1
      have q := h.away w mx kx lx lb n
      have el : P'.el (P.bp y) j = P.el (P.bp y) j := by
        rcases lb.2.2.2.1 with e0 | ⟨a, _⟩
        · omega
        · have o : P'.oa (P.le (P.bp y)) = P.oa (P.le (P.bp y)) := w.2.2.2 _ (fun q2 => n (by rw [← (h.2.1.1 _ lb.1 lb.2.1 a).2.1, q2, (h.2.1.1 x mx kx lx).2.1]))
          unfold PO.el; rw [le, o]
      rw [el]; exact go j j0 j1
end ALP9
