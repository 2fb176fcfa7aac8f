/-- what a list holds; of a row: 1, it ends a block -/
def PO.ek (P : PO) (x : Nat) : Nat := P.2.1 8 x
/-- has a list a row of its own -/
def PO.fl (P : PO) (x : Nat) : Nat := P.2.1 7 x
def OWA (L : List Nat) (P : PO) (cO : ClassId) (ed : Nat) : Prop := ∀ x : Nat, x ∈ L → P.kd x = 30 → (P.fl x ≠ 1 → P.lz x = 0 ∧ P.le x = ed) ∧ (P.fl x = 1 → P.le x ∈ L ∧ P.kd (P.le x) = 31 ∧ P.ow (P.le x) = x ∧ ELS L P (P.oa (P.le x)) ∧ 0 < P.an (P.le x) ∧ P.an (P.le x) ≤ 40000 ∧ P.ac (P.le x) = cO ∧ P.lz x ≤ P.an (P.le x))
def OWC (L : List Nat) (P : PO) : Prop := ∀ x : Nat, x ∈ L → P.kd x = 12 → (P.ek (P.br x) = 17 ∧ P.ow (P.br x) = x ∧ P.br x ∈ L ∧ P.kd (P.br x) = 30) ∧ P.ek (P.bp x) = 15 ∧ P.ow (P.bp x) = x ∧ P.bp x ∈ L ∧ P.kd (P.bp x) = 30
/-- each list of the pool holds its kind -/
def GLA1 (L : List Nat) (P : PO) (cO : ClassId) (x : Nat) : Prop := LOK L P cO (P.ek x) x ∧ (P.ek x = 12 ∨ P.ek x = 15 ∨ P.ek x = 17) ∧ (P.ek x = 17 → ∀ i : Int, 0 ≤ i → i < P.lz x → P.ek (P.el x i) ≠ 1)
def GLA (L : List Nat) (P : PO) (cO : ClassId) : Prop := ∀ x : Nat, x ∈ L → P.kd x = 30 → GLA1 L P cO x
def GLB1 (L : List Nat) (P : PO) (x : Nat) : Prop := (P.be x ∈ L ∧ P.kd (P.be x) = 17 ∧ P.ek (P.be x) = 1) ∧ (0 ≤ P.bf x ∧ P.bf x ≤ 299 ∧ 0 ≤ P.bs x ∧ P.bs x ≤ 299)
def GLB (L : List Nat) (P : PO) : Prop := ∀ x : Nat, x ∈ L → P.kd x = 12 → GLB1 L P x
def GLC (L : List Nat) (P : PO) : Prop := ∀ q : Nat, q ∈ L → P.kd q = 17 → P.ek q ≠ 1 → (P.ro q ≤ 14 ∨ P.ro q = 20 ∨ P.ro q = 21)
def GLO (L : List Nat) (P : PO) (cO : ClassId) : Prop := GLA L P cO ∧ GLB L P ∧ GLC L P
section GLO9
variable {L L' : List Nat} {P P' : PO} {cO cI cZ : ClassId} {ed x q : Nat}
theorem RWD.ek (w : RWD P P') (y : Nat) : P'.ek y = P.ek y := by show P'.2.1 8 y = P.2.1 8 y; rw [w.1.1]
theorem GLO.rwd (h : GLO L P cO) (w : RWD P P') (c : GLC L P') : GLO L P' cO := by
  refine ⟨fun x m k => ?_, fun x m k => ?_, c⟩
  · rw [w.kd] at k
    obtain ⟨a, b, d⟩ := h.1 x m k
    refine ⟨by rw [w.ek]; exact w.lok a, by rw [w.ek]; exact b, fun e i i0 i1 => ?_⟩
    rw [w.ek] at e; rw [w.lz k] at i1
    rw [w.el, w.ek]; exact d e i i0 i1
  · rw [w.kd] at k
    obtain ⟨a, b⟩ := h.2.1 x m k
    unfold GLB1
    rw [w.be, w.kd, w.ek, w.bf k, w.bs k]; exact ⟨a, b⟩
theorem GLO.row (h : GLO L P cO) (w : RW1 x P P') (k : P.kd x = 17) (o : P.ek x ≠ 1 → (P'.ro x ≤ 14 ∨ P'.ro x = 20 ∨ P'.ro x = 21)) : GLO L P' cO := by
  have r := w.rwd (Or.inl k)
  refine h.rwd r (fun q m d e => ?_)
  rw [r.kd] at d; rw [r.ek] at e
  by_cases n : q = x
  · rw [n] at e ⊢; exact o e
  · have : P'.ro q = P.ro q := w.2 q n 0
    rw [this]; exact h.2.2 q m d e
theorem GLO.phi (h : GLO L P cO) (w : PH1 x P P') (k : P.kd x = 15) : GLO L P' cO := by
  have r := w.rwd k
  refine h.rwd r (fun q m d e => ?_)
  rw [r.kd] at d; rw [r.ek] at e
  have : P'.ro q = P.ro q := w.2.1 q (kd_ne d k (by decide)) 0
  rw [this]; exact h.2.2 q m d e
theorem RW1.lok {k l : Nat} (h : RW1 x P P') (n : P.kd x ≠ 30) (q : LOK L P cO k l) : LOK L P' cO k l := by
  have e : l ≠ x := fun e => n (by rw [← e]; exact q.2.1)
  have z : P'.lz l = P.lz l := h.2 l e 0
  have r : ∀ i : Int, P'.el l i = P.el l i := fun i => by
    show ((P'.2.2.1 (P'.2.1 1 l)) i.toNat).getD 0 = ((P.2.2.1 (P.2.1 1 l)) i.toNat).getD 0
    rw [h.1]
  unfold LOK at *
  rw [z]; simp only [r]
  unfold PO.kd PO.le PO.an PO.ac PO.oa at *
  rw [h.1]; exact q
/-- a block's goals set anew -/
theorem GLO.goal (h : GLO L P cO) (w : RW1 x P P') (k : P.kd x = 12) (g : 0 ≤ P'.bf x ∧ P'.bf x ≤ 299 ∧ 0 ≤ P'.bs x ∧ P'.bs x ≤ 299) : GLO L P' cO := by
  have kk : ∀ y : Nat, P'.kd y = P.kd y := fun y => by show P'.2.1 0 y = P.2.1 0 y; rw [w.1]
  have ee : ∀ y : Nat, P'.ek y = P.ek y := fun y => by show P'.2.1 8 y = P.2.1 8 y; rw [w.1]
  refine ⟨fun y m d => ?_, fun y m d => ?_, fun y m d e => ?_⟩
  · rw [kk] at d
    have ny : y ≠ x := kd_ne d k (by decide)
    obtain ⟨a, b, c⟩ := h.1 y m d
    have z : P'.lz y = P.lz y := w.2 y ny 0
    have el : ∀ i : Int, P'.el y i = P.el y i := fun i => by
      show ((P'.2.2.1 (P'.2.1 1 y)) i.toNat).getD 0 = ((P.2.2.1 (P.2.1 1 y)) i.toNat).getD 0
      rw [w.1]
    refine ⟨by rw [ee]; exact w.lok (by omega) a, by rw [ee]; exact b, fun e i i0 i1 => ?_⟩
    rw [ee] at e; rw [z] at i1
    rw [el, ee]; exact c e i i0 i1
  · rw [kk] at d
    obtain ⟨a, b⟩ := h.2.1 y m d
    have be : P'.be y = P.be y := by show P'.2.1 3 y = P.2.1 3 y; rw [w.1]
    refine ⟨by rw [be, kk, ee]; exact a, ?_⟩
    by_cases n : y = x
    · rw [n]; exact g
    · have f1 : P'.bf y = P.bf y := w.2 y n 0
      have f2 : P'.bs y = P.bs y := w.2 y n 1
      rw [f1, f2]; exact b
  · rw [kk] at d; rw [ee] at e
    have : P'.ro y = P.ro y := w.2 y (kd_ne d k (by decide)) 0
    rw [this]; exact h.2.2 y m d e
theorem OWA.fl1 {l : Nat} (h : OWA L P cO ed) (m : l ∈ L) (k : P.kd l = 30) (z : P.lz l ≠ 0) : P.fl l = 1 := by
  by_cases f : P.fl l = 1
  · exact f
  · exact absurd ((h l m k).1 f).1 z
theorem LS1.kd (w : LS1 x P P') (y : Nat) : P'.kd y = P.kd y := by show P'.2.1 0 y = P.2.1 0 y; rw [w.1]
theorem OWA.away {l k : Nat} (h : OWA L P cO ed) (w : LS1 x P P') (mx : x ∈ L) (kx : P.kd x = 30) (lx : P.fl x = 1) (q : LOK L P cO k l) (n : l ≠ x) : LOK L P' cO k l := by
  have le : P'.le l = P.le l := by show P'.2.1 1 l = P.2.1 1 l; rw [w.1]
  have z : P'.lz l = P.lz l := w.2.2.1 l n 0
  have oa : P.lz l = 0 ∨ P'.oa (P.le l) = P.oa (P.le l) := by
    rcases q.2.2.2.1 with e | ⟨a, b, c, d, e⟩
    · exact Or.inl e
    · by_cases z0 : P.lz l = 0
      · exact Or.inl z0
      · refine Or.inr (w.2.2.2 _ (fun q2 => n ?_))
        rw [← ((h l q.1 q.2.1).2 (h.fl1 q.1 q.2.1 z0)).2.2.1, q2, ((h x mx kx).2 lx).2.2.1]
  obtain ⟨a, b, c, d, e⟩ := q
  refine ⟨a, (w.kd l).trans b, by rw [z]; exact c, ?_, fun i i0 i1 => ?_⟩
  · rw [z, le]
    have an : P'.an (P.le l) = P.an (P.le l) := by show P'.2.1 1 _ = P.2.1 1 _; rw [w.1]
    have ac : P'.ac (P.le l) = P.ac (P.le l) := by show P'.2.2.2.2 _ = P.2.2.2.2 _; rw [w.2.1]
    rw [w.kd, an, ac]; exact d
  · rw [z] at i1
    rcases oa with o | o
    · omega
    · have el : P'.el l i = P.el l i := by unfold PO.el; rw [le, o]
      rw [le, o, el, w.kd]; exact e i i0 i1
theorem rmv_el {l : Nat} {i j : Int} (w : LS1 l P P') (r : RMV (P.oa (P.le l)) (P'.oa (P.le l)) i (P.lz l)) (j0 : 0 ≤ j) (j1 : j + 1 < P.lz l) : P'.oa (P.le l) j.toNat = P.oa (P.le l) (if j < i then j else j + 1).toNat := by
  have h := r j.toNat
  split
  · exact h.1 (by omega)
  · rw [h.2 (by omega) (by omega)]; congr 1; omega
theorem OWA.rmv {l k : Nat} {i : Int} (h : OWA L P cO ed) (w : LS1 x P P') (mx : x ∈ L) (kx : P.kd x = 30) (lx : P.fl x = 1) (z1 : P'.lz x = P.lz x - 1) (zp : 0 < P.lz x) (r : RMV (P.oa (P.le x)) (P'.oa (P.le x)) i (P.lz x)) (q : LOK L P cO k l) : LOK L P' cO k l := by
  by_cases n : l = x
  · subst n
    have le : P'.le l = P.le l := by show P'.2.1 1 l = P.2.1 1 l; rw [w.1]
    obtain ⟨a, b, c, d, e⟩ := q
    refine ⟨a, (w.kd l).trans b, by omega, ?_, fun j j0 j1 => ?_⟩
    · rcases d with d | ⟨d1, d2, d3, d4, d5⟩
      · omega
      · have an : P'.an (P.le l) = P.an (P.le l) := by show P'.2.1 1 _ = P.2.1 1 _; rw [w.1]
        have ac : P'.ac (P.le l) = P.ac (P.le l) := by show P'.2.2.2.2 _ = P.2.2.2.2 _; rw [w.2.1]
        rw [le, w.kd, an, ac]
        exact Or.inr ⟨d1, d2, d3, by omega, d5⟩
    · have g := rmv_el w r j0 (by omega)
      have m := e (if j < i then j else j + 1) (by split <;> omega) (by split <;> omega)
      rw [m.1] at g
      have el : P'.el l j = P.el l (if j < i then j else j + 1) := by
        have : P'.el l j = ((P'.oa (P'.le l)) j.toNat).getD 0 := rfl
        rw [this, le, g]; rfl
      rw [le, g, el, w.kd]
      exact ⟨rfl, m.2⟩
  · exact h.away w mx kx lx q n
theorem LS1.ek (w : LS1 x P P') (y : Nat) : P'.ek y = P.ek y := by show P'.2.1 8 y = P.2.1 8 y; rw [w.1]
/-- another list's places stay -/
theorem OWA.els {l : Nat} {i : Int} (h : OWA L P cO ed) (w : LS1 x P P') (mx : x ∈ L) (kx : P.kd x = 30) (lx : P.fl x = 1) (ml : l ∈ L) (kl : P.kd l = 30) (n : l ≠ x) (i0 : 0 ≤ i) (i1 : i < P.lz l) : P'.el l i = P.el l i := by
  have le : P'.le l = P.le l := by show P'.2.1 1 l = P.2.1 1 l; rw [w.1]
  have o : P'.oa (P.le l) = P.oa (P.le l) := w.2.2.2 _ (fun q2 => n (by rw [← ((h l ml kl).2 (h.fl1 ml kl (by omega))).2.2.1, q2, ((h x mx kx).2 lx).2.2.1]))
  unfold PO.el; rw [le, o]
theorem LS1.glbc (h : GLO L P cO) (w : LS1 x P P') (kx : P.kd x = 30) : GLB L P' ∧ GLC L P' := by
  refine ⟨fun y m d => ?_, fun y m d e => ?_⟩
  · rw [w.kd] at d
    have ny : y ≠ x := kd_ne d kx (by decide)
    obtain ⟨a, b⟩ := h.2.1 y m d
    have be : P'.be y = P.be y := by show P'.2.1 3 y = P.2.1 3 y; rw [w.1]
    have f1 : P'.bf y = P.bf y := w.2.2.1 y ny 0
    have f2 : P'.bs y = P.bs y := w.2.2.1 y ny 1
    unfold GLB1
    rw [be, w.kd, w.ek, f1, f2]; exact ⟨a, b⟩
  · rw [w.kd] at d; rw [w.ek] at e
    have : P'.ro y = P.ro y := w.2.2.1 y (kd_ne d kx (by decide)) 0
    rw [this]; exact h.2.2 y m d e
theorem GLO.remove {i : Int} (h : GLO L P cO) (o : OWA L P cO ed) (w : LS1 x P P') (mx : x ∈ L) (kx : P.kd x = 30) (lx : P.fl x = 1) (z1 : P'.lz x = P.lz x - 1) (zp : 0 < P.lz x) (r : RMV (P.oa (P.le x)) (P'.oa (P.le x)) i (P.lz x)) : GLO L P' cO := by
  refine ⟨fun l m k => ?_, w.glbc h kx⟩
  rw [w.kd] at k
  obtain ⟨a, b, c⟩ := h.1 l m k
  refine ⟨by rw [w.ek]; exact o.rmv w mx kx lx z1 zp r a, by rw [w.ek]; exact b, fun e j j0 j1 => ?_⟩
  rw [w.ek] at e
  by_cases n : l = x
  · subst n
    rw [z1] at j1
    have g := rmv_el w r j0 (by omega)
    have le : P'.le l = P.le l := by show P'.2.1 1 l = P.2.1 1 l; rw [w.1]
    have el : P'.el l j = P.el l (if j < i then j else j + 1) := by unfold PO.el; rw [le, g]
    rw [w.ek, el]
    exact c e _ (by split <;> omega) (by split <;> omega)
  · have z : P'.lz l = P.lz l := w.2.2.1 l n 0
    rw [z] at j1
    rw [w.ek, o.els w mx kx lx m k n j0 j1]; exact c e j j0 j1
/-- a list made empty -/
theorem GLO.clear (h : GLO L P cO) (o : OWA L P cO ed) (w : LS1 x P P') (mx : x ∈ L) (kx : P.kd x = 30) (f : P.fl x = 1 ∨ ∀ a : Nat, P'.oa a = P.oa a) (z1 : P'.lz x = 0) : GLO L P' cO := by
  refine ⟨fun l m k => ?_, w.glbc h kx⟩
  rw [w.kd] at k
  obtain ⟨a, b, c⟩ := h.1 l m k
  by_cases n : l = x
  · subst n
    exact ⟨by rw [w.ek]; exact ⟨m, (w.kd l).trans k, by omega, Or.inl z1, fun i i0 i1 => by omega⟩, by rw [w.ek]; exact b, fun _ i i0 i1 => by omega⟩
  · have z : P'.lz l = P.lz l := w.2.2.1 l n 0
    have le : P'.le l = P.le l := by show P'.2.1 1 l = P.2.1 1 l; rw [w.1]
    rcases f with f | f
    · refine ⟨by rw [w.ek]; exact o.away w mx kx f a n, by rw [w.ek]; exact b, fun e j j0 j1 => ?_⟩
      rw [w.ek] at e; rw [z] at j1
      rw [w.ek, o.els w mx kx f m k n j0 j1]; exact c e j j0 j1
    · have el : ∀ i : Int, P'.el l i = P.el l i := fun i => by unfold PO.el; rw [le, f]
      have an : P'.an (P.le l) = P.an (P.le l) := by show P'.2.1 1 _ = P.2.1 1 _; rw [w.1]
      have ac : P'.ac (P.le l) = P.ac (P.le l) := by show P'.2.2.2.2 _ = P.2.2.2.2 _; rw [w.2.1]
      refine ⟨?_, by rw [w.ek]; exact b, fun e j j0 j1 => ?_⟩
      · obtain ⟨a1, a2, a3, a4, a5⟩ := a
        rw [w.ek]
        refine ⟨a1, (w.kd l).trans a2, by rw [z]; exact a3, by rw [z, le, w.kd, an, ac]; exact a4, fun i i0 i1 => ?_⟩
        rw [z] at i1
        rw [le, f, el, w.kd]; exact a5 i i0 i1
      · rw [w.ek] at e; rw [z] at j1
        rw [w.ek, el]; exact c e j j0 j1
theorem OWA.nle {y : Nat} (h : OWA L P cO ed) (mx : x ∈ L) (kx : P.kd x = 30) (fx : P.fl x = 1 ∨ P.le x ∉ L) (m : y ∈ L) (k : P.kd y ≠ 31) : y ≠ P.le x := fun e => by
  rcases fx with f | f
  · exact k (by rw [e]; exact ((h x mx kx).2 f).2.1)
  · exact f (by rw [← e]; exact m)
/-- a list's own row is no other's -/
theorem OWA.rle {l : Nat} (h : OWA L P cO ed) (mx : x ∈ L) (kx : P.kd x = 30) (fx : P.fl x = 1 ∨ P.le x ∉ L) (ml : l ∈ L) (kl : P.kd l = 30) (z : P.lz l ≠ 0) (n : l ≠ x) : P.le l ∈ L ∧ P.le l ≠ x ∧ P.le l ≠ P.le x := by
  obtain ⟨a, b, c, _⟩ := (h l ml kl).2 (h.fl1 ml kl z)
  refine ⟨a, kd_ne b kx (by decide), fun e => ?_⟩
  rcases fx with f | f
  · exact n (by rw [← c, e, ((h x mx kx).2 f).2.2.1])
  · exact f (by rw [← e]; exact a)
theorem GL1.kd {y : Nat} (w : GL1 x q L P L' P') (kx : P.kd x = 30) (m : y ∈ L) (n : y ≠ P.le x) : P'.kd y = P.kd y := by
  by_cases e : y = x
  · rw [e]; exact w.1.2.2.1.trans kx.symm
  · exact (w.sm y m e n).2.1 0
theorem GL1.lokO {l k : Nat} (h : OWA L P cO ed) (w : GL1 x q L P L' P') (mx : x ∈ L) (kx : P.kd x = 30) (fx : P.fl x = 1 ∨ P.le x ∉ L) (ql : LOK L P cO k l) (n : l ≠ x) (k31 : k ≠ 31) : LOK L' P' cO k l := by
  have nl := h.nle mx kx fx ql.1 (by rw [ql.2.1]; decide)
  have sl := w.sm l ql.1 n nl
  have z : P'.lz l = P.lz l := sl.1 0
  have le : P'.le l = P.le l := sl.2.1 1
  refine ⟨w.2.1 l ql.1 nl, (sl.2.1 0).trans ql.2.1, by rw [z]; exact ql.2.2.1, ?_, fun i i0 i1 => ?_⟩
  · rw [z, le]
    by_cases z0 : P.lz l = 0
    · exact Or.inl z0
    · obtain ⟨a, b, c⟩ := h.rle mx kx fx ql.1 ql.2.1 z0 n
      have s := w.sm _ a b c
      rcases ql.2.2.2.1 with d | ⟨_, d2, d3, d4⟩
      · exact Or.inl d
      · have an : P'.an (P.le l) = P.an (P.le l) := s.2.1 1
        have kd : P'.kd (P.le l) = P.kd (P.le l) := s.2.1 0
        exact Or.inr ⟨w.2.1 _ a c, by rw [kd]; exact d2, by rw [s.2.2.2.2]; exact d3, by rw [an]; exact d4⟩
  · rw [z] at i1
    obtain ⟨a, b, c⟩ := h.rle mx kx fx ql.1 ql.2.1 (by omega) n
    have s := w.sm _ a b c
    obtain ⟨d1, d2, d3⟩ := ql.2.2.2.2 i i0 i1
    have el : P'.el l i = P.el l i := by unfold PO.el; rw [le, s.2.2.1]
    have ne := h.nle mx kx fx d2 (by rw [d3]; exact k31)
    rw [le, s.2.2.1, el]
    exact ⟨d1, w.2.1 _ d2 ne, (w.kd kx d2 ne).trans d3⟩
theorem GL1.selfO {k y : Nat} (h : OWA L P cO ed) (w : GL1 x q L P L' P') (mx : x ∈ L) (kx : P.kd x = 30) (fx : P.fl x = 1 ∨ P.le x ∉ L) (qx : LOK L P cO k x) (k31 : k ≠ 31) (my : y ∈ L) (ky : P.kd y = k) (z : P'.lz x = P.lz x + 1) (zb : P.lz x < 20000) (ac : P'.ac q = cO) (an0 : P.lz x + 1 ≤ P'.an q) (an1 : (P'.an q : Int) ≤ 40000) (at9 : P'.oa q (P.lz x).toNat = some y) (old : ∀ j : Nat, (j : Int) < P.lz x → P'.oa q j = P.oa (P.le x) j) : LOK L' P' cO k x := by
  have le : P'.le x = q := w.1.2.2.2.1
  refine ⟨w.1.1, w.1.2.2.1, by have := qx.2.2.1; omega, ?_, fun i i0 i1 => ?_⟩
  · rw [le, z]; exact Or.inr ⟨w.1.2.1, w.1.2.2.2.2.1, ac, an0, by omega⟩
  · rw [z] at i1
    by_cases e : i = P.lz x
    · subst e
      have el : P'.el x (P.lz x) = y := by unfold PO.el; rw [le, at9]; rfl
      have ne := h.nle mx kx fx my (by rw [ky]; exact k31)
      rw [el, le, at9]
      exact ⟨rfl, w.2.1 _ my ne, (w.kd kx my ne).trans ky⟩
    · have o := old i.toNat (by omega)
      obtain ⟨d1, d2, d3⟩ := qx.2.2.2.2 i i0 (by omega)
      rw [d1] at o
      have el : P'.el x i = P.el x i := by
        have : P'.el x i = ((P'.oa (P'.le x)) i.toNat).getD 0 := rfl
        rw [this, le, o]; rfl
      have ne := h.nle mx kx fx d2 (by rw [d3]; exact k31)
      rw [el, le, o]
      exact ⟨rfl, w.2.1 _ d2 ne, (w.kd kx d2 ne).trans d3⟩
theorem GL1.ek (w : GL1 x q L P L' P') (h : OWA L P cO ed) (mx : x ∈ L) (kx : P.kd x = 30) (fx : P.fl x = 1 ∨ P.le x ∉ L) {y : Nat} (m : y ∈ L) (k : P.kd y ≠ 31) : P'.ek y = P.ek y := by
  by_cases e : y = x
  · rw [e]; exact w.1.2.2.2.2.2.2.2.1
  · exact (w.sm y m e (h.nle mx kx fx m k)).2.1 8
theorem GL1.elO {l : Nat} {i : Int} (w : GL1 x q L P L' P') (h : OWA L P cO ed) (mx : x ∈ L) (kx : P.kd x = 30) (fx : P.fl x = 1 ∨ P.le x ∉ L) (ml : l ∈ L) (kl : P.kd l = 30) (n : l ≠ x) (i0 : 0 ≤ i) (i1 : i < P.lz l) : P'.el l i = P.el l i := by
  obtain ⟨a, b, c⟩ := h.rle mx kx fx ml kl (by omega) n
  have s := w.sm _ a b c
  have le : P'.le l = P.le l := (w.sm l ml n (h.nle mx kx fx ml (by omega))).2.1 1
  unfold PO.el; rw [le, s.2.2.1]
theorem GL1.bk {y : Nat} (w : GL1 x q L P L' P') (m : y ∈ L') (k1 : y ≠ x) (k2 : P'.kd y ≠ 31) : y ∈ L ∧ SM9 y P P' := by
  have n2 : y ≠ q := fun e => k2 (by rw [e]; exact w.1.2.2.2.2.1)
  rcases w.2.2.1 y m with e | e | e
  · exact absurd e k1
  · exact absurd e n2
  · exact ⟨e, w.2.2.2.1 y k1 n2⟩
theorem GLO.add {k y : Nat} (h : GLO L P cO) (o : OWA L P cO ed) (w : GL1 x q L P L' P') (mx : x ∈ L) (kx : P.kd x = 30) (fx : P.fl x = 1 ∨ P.le x ∉ L) (ek : P.ek x = k) (my : y ∈ L) (ky : P.kd y = k) (z : P'.lz x = P.lz x + 1) (zb : P.lz x < 20000) (ac : P'.ac q = cO) (an0 : P.lz x + 1 ≤ P'.an q) (an1 : (P'.an q : Int) ≤ 40000) (at9 : P'.oa q (P.lz x).toNat = some y) (old : ∀ j : Nat, (j : Int) < P.lz x → P'.oa q j = P.oa (P.le x) j) (e1 : k = 17 → P.ek y ≠ 1) : GLO L' P' cO := by
  have k31 : k ≠ 31 := by have := (h.1 x mx kx).2.1; omega
  refine ⟨fun l m d => ?_, fun l m d => ?_, fun l m d e => ?_⟩
  · by_cases n : l = x
    · subst n
      obtain ⟨a, b, c⟩ := h.1 l mx kx
      have e8 := w.ek o mx kx fx mx (by omega)
      refine ⟨by rw [e8, ek]; rw [ek] at a; exact w.selfO o mx kx fx a k31 my ky z zb ac an0 an1 at9 old, by rw [e8]; exact b, fun e i i0 i1 => ?_⟩
      rw [e8] at e; rw [z] at i1
      have le : P'.le l = q := w.1.2.2.2.1
      by_cases ei : i = P.lz l
      · have el : P'.el l i = y := by unfold PO.el; rw [le, ei, at9]; rfl
        rw [el, w.ek o mx kx fx my (by omega)]; exact e1 (by omega)
      · have oo := old i.toNat (by omega)
        have el : P'.el l i = P.el l i := by unfold PO.el; rw [le, oo]
        have g := a.2.2.2.2 i i0 (by omega)
        rw [el, w.ek o mx kx fx g.2.1 (by rw [g.2.2]; omega)]; exact c e i i0 (by omega)
    · obtain ⟨ml, s⟩ := w.bk m n (by omega)
      have kl : P.kd l = 30 := (s.2.1 0).symm.trans d
      obtain ⟨a, b, c⟩ := h.1 l ml kl
      have e8 : P'.ek l = P.ek l := s.2.1 8
      have zz : P'.lz l = P.lz l := s.1 0
      refine ⟨by rw [e8]; exact w.lokO o mx kx fx a n (by omega), by rw [e8]; exact b, fun e i i0 i1 => ?_⟩
      rw [e8] at e; rw [zz] at i1
      have g := a.2.2.2.2 i i0 i1
      rw [w.elO o mx kx fx ml kl n i0 i1, w.ek o mx kx fx g.2.1 (by rw [g.2.2]; omega)]; exact c e i i0 i1
  · obtain ⟨ml, s⟩ := w.bk m (fun e => by rw [e, w.1.2.2.1] at d; omega) (by omega)
    have kl : P.kd l = 12 := (s.2.1 0).symm.trans d
    obtain ⟨⟨a1, a2, a3⟩, b⟩ := h.2.1 l ml kl
    have be : P'.be l = P.be l := s.2.1 3
    have f1 : P'.bf l = P.bf l := s.1 0
    have f2 : P'.bs l = P.bs l := s.1 1
    have ne := o.nle mx kx fx a1 (by omega)
    unfold GLB1
    rw [be, f1, f2, w.ek o mx kx fx a1 (by omega)]
    exact ⟨⟨w.2.1 _ a1 ne, (w.kd kx a1 ne).trans a2, a3⟩, b⟩
  · obtain ⟨ml, s⟩ := w.bk m (fun e => by rw [e, w.1.2.2.1] at d; omega) (by omega)
    have kl : P.kd l = 17 := (s.2.1 0).symm.trans d
    have e8 : P'.ek l = P.ek l := s.2.1 8
    have ro : P'.ro l = P.ro l := s.1 0
    rw [ro]; rw [e8] at e; exact h.2.2 l ml kl e
end GLO9
