/-! rows and PHIs that are resolved -/
def RSA9 (P Q : PO) (rp br bb : Int → Int) (x : Nat) : Prop := (rUsA (P.ro x) (P.rA x) = 0 → Q.rA x = P.rA x ∧ Q.ra x = P.ra x) ∧ (rUsA (P.ro x) (P.rA x) ≠ 0 → Q.rA x = 0 ∨ (CHQ rp br bb (P.ra x) (Q.ra x) ∧ rp (Q.ra x) = 0))
def RSB9 (P Q : PO) (rp br bb : Int → Int) (x : Nat) : Prop := (rUsB (P.ro x) (P.rB x) = 0 → Q.rB x = P.rB x ∧ Q.rb x = P.rb x) ∧ (rUsB (P.ro x) (P.rB x) ≠ 0 → Q.rB x = 0 ∨ (CHQ rp br bb (P.rb x) (Q.rb x) ∧ rp (Q.rb x) = 0))
/-- operands of a PHI: the first d are resolved -/
def RSF (fz fu gz gu rp br bb : Int → Int) (n d : Int) : Prop := ∀ i : Int, 0 ≤ i → i < n → (i < d → (fz i = 0 → gz i = 0) ∧ (gz i = 0 ∨ (fz i ≠ 0 ∧ CHQ rp br bb (fu i) (gu i) ∧ rp (gu i) = 0))) ∧ (d ≤ i → gz i = fz i ∧ gu i = fu i)
def RSP9 (P Q : PO) (rp br bb : Int → Int) (x : Nat) : Prop := RSF (P.ia (P.pr x)) (P.ia (P.pu x)) (Q.ia (P.pr x)) (Q.ia (P.pu x)) rp br bb (P.pn x) (P.pn x) ∧ Q.ia (P.pp x) = P.ia (P.pp x)
/-- nothing that it uses has been replaced -/
def RZR (Q : PO) (rp : Int → Int) (x : Nat) : Prop := (rUsA (Q.ro x) (Q.rA x) = 0 ∨ rp (Q.ra x) = 0) ∧ (rUsB (Q.ro x) (Q.rB x) = 0 ∨ rp (Q.rb x) = 0)
def RZP (Q : PO) (rp : Int → Int) (x : Nat) : Prop := ∀ i : Int, 0 ≤ i → i < Q.pn x → Q.ia (Q.pr x) i = 0 ∨ rp (Q.ia (Q.pu x) i) = 0
section EQV7
variable {L : List Nat} {P Q Q' : PO} {cO cI cZ : ClassId} {ed x z la : Nat} {rp br bb fz fu gz gu : Int → Int} {n d y v : Int}
theorem RSA9.no (h : rUsA (P.ro x) (P.rA x) = 0) (e1 : Q.rA x = P.rA x) (e2 : Q.ra x = P.ra x) : RSA9 P Q rp br bb x := ⟨fun _ => ⟨e1, e2⟩, fun q => absurd h q⟩
theorem RSA9.gone (h : rUsA (P.ro x) (P.rA x) ≠ 0) (e1 : Q.rA x = 0) : RSA9 P Q rp br bb x := ⟨fun q => absurd q h, fun _ => Or.inl e1⟩
theorem RSA9.reg (h : rUsA (P.ro x) (P.rA x) ≠ 0) (e : Q.ra x = y) (c : CHQ rp br bb (P.ra x) y) (q : rp y = 0) : RSA9 P Q rp br bb x := ⟨fun q => absurd q h, fun _ => Or.inr (by rw [e]; exact ⟨c, q⟩)⟩
theorem RSA9.same (h : RSA9 P Q rp br bb x) (e1 : Q'.rA x = Q.rA x) (e2 : Q'.ra x = Q.ra x) : RSA9 P Q' rp br bb x := by unfold RSA9; rw [e1, e2]; exact h
theorem RSB9.no (h : rUsB (P.ro x) (P.rB x) = 0) (e1 : Q.rB x = P.rB x) (e2 : Q.rb x = P.rb x) : RSB9 P Q rp br bb x := ⟨fun _ => ⟨e1, e2⟩, fun q => absurd h q⟩
theorem RSB9.gone (h : rUsB (P.ro x) (P.rB x) ≠ 0) (e1 : Q.rB x = 0) : RSB9 P Q rp br bb x := ⟨fun q => absurd q h, fun _ => Or.inl e1⟩
theorem RSB9.reg (h : rUsB (P.ro x) (P.rB x) ≠ 0) (e : Q.rb x = y) (c : CHQ rp br bb (P.rb x) y) (q : rp y = 0) : RSB9 P Q rp br bb x := ⟨fun q => absurd q h, fun _ => Or.inr (by rw [e]; exact ⟨c, q⟩)⟩
theorem RSF.first (fz fu rp br bb : Int → Int) (n : Int) : RSF fz fu fz fu rp br bb n 0 := fun i i0 i1 => ⟨fun q => by omega, fun _ => ⟨rfl, rfl⟩⟩
theorem RSF.skip (h : RSF fz fu gz gu rp br bb n d) (d0 : 0 ≤ d) (d1 : d < n) (q : gz d = 0) : RSF fz fu gz gu rp br bb n (d + 1) := fun i i0 i1 => ⟨fun s => by
  by_cases e : i = d
  · rw [e]; exact ⟨fun _ => q, Or.inl q⟩
  · exact (h i i0 i1).1 (by omega), fun s => (h i i0 i1).2 (by omega)⟩
theorem RSF.gone (h : RSF fz fu gz gu rp br bb n d) (w : Int) : RSF fz fu (zup gz d 0) (zup gu d w) rp br bb n (d + 1) := fun i i0 i1 => ⟨fun s => by
  by_cases e : i = d
  · rw [e, zup_eq]; exact ⟨fun _ => rfl, Or.inl rfl⟩
  · rw [zup_ne _ _ e, zup_ne _ _ e]; exact (h i i0 i1).1 (by omega), fun s => by
  rw [zup_ne _ _ (by omega), zup_ne _ _ (by omega)]; exact (h i i0 i1).2 (by omega)⟩
theorem RSF.reg (h : RSF fz fu gz gu rp br bb n d) (d0 : 0 ≤ d) (d1 : d < n) (f : gz d ≠ 0) (c : CHQ rp br bb (gu d) y) (q : rp y = 0) : RSF fz fu (zup gz d 1) (zup gu d y) rp br bb n (d + 1) := fun i i0 i1 => ⟨fun s => by
  by_cases e : i = d
  · have t := (h d d0 d1).2 (Int.le_refl d)
    rw [t.1] at f
    rw [t.2] at c
    rw [e, zup_eq, zup_eq]
    exact ⟨fun z => absurd z f, Or.inr ⟨f, c, q⟩⟩
  · rw [zup_ne _ _ e, zup_ne _ _ e]; exact (h i i0 i1).1 (by omega), fun s => by
  rw [zup_ne _ _ (by omega), zup_ne _ _ (by omega)]; exact (h i i0 i1).2 (by omega)⟩
theorem RSF.full (h : RSF fz fu gz gu rp br bb n d) (q : n ≤ d) : RSF fz fu gz gu rp br bb n n := fun i i0 i1 => ⟨fun _ => (h i i0 i1).1 (by omega), fun s => by omega⟩
/-- one row is resolved: where its operands came from -/
theorem OPR9.row (o : OPR9 L P Q rp br bb) (w : RW1 x Q Q') (kx : Q.kd x = 17) (s : STQ L P Q) (ra : RSA9 Q Q' rp br bb x) (rb : RSB9 Q Q' rp br bb x) : OPR9 L P Q' rp br bb := by
  refine ⟨fun z m k => ?_, fun z m k i i0 i1 => ?_⟩
  · by_cases e : z = x
    · rw [e] at m k ⊢
      have o1 := o.1 x m k
      refine ⟨fun q => ?_, fun q => ?_⟩
      · by_cases u : rUsA (Q.ro x) (Q.rA x) = 0
        · have t := ra.1 u
          rw [t.1] at q
          rw [t.2]; exact o1.1 q
        · have t := (ra.2 u).resolve_left q
          have us := rUsA_spec (Q.ro x) (Q.rA x)
          have t2 := o1.1 (by omega)
          exact ⟨t2.1, t2.2.trans t.1⟩
      · by_cases u : rUsB (Q.ro x) (Q.rB x) = 0
        · have t := rb.1 u
          rw [t.1] at q
          rw [t.2]; exact o1.2 q
        · have t := (rb.2 u).resolve_left q
          have us := rUsB_spec (Q.ro x) (Q.rB x)
          have t2 := o1.2 (by omega)
          exact ⟨t2.1, t2.2.trans t.1⟩
    · have f2 : Q'.ra z = Q.ra z := w.2 z e 2
      have f3 : Q'.rb z = Q.rb z := w.2 z e 3
      have f4 : Q'.rA z = Q.rA z := w.2 z e 4
      have f5 : Q'.rB z = Q.rB z := w.2 z e 5
      rw [f2, f3, f4, f5]; exact o.1 z m k
  · have ia : Q'.2.2.2.1 = Q.2.2.2.1 := by rw [w.1]
    show Q'.2.2.2.1 (P.pr z) i ≠ 0 → P.ia (P.pr z) i ≠ 0 ∧ CHQ rp br bb (P.ia (P.pu z) i) (Q'.2.2.2.1 (P.pu z) i)
    rw [ia]; exact o.2 z m k i i0 i1
theorem OPR9.phi (o : OPR9 L P Q rp br bb) (w : PH1 x Q Q') (kx : Q.kd x = 15) (s : STQ L P Q) (rs : RSP9 Q Q' rp br bb x) (pn : Q.pn x = P.pn x) (g : ∀ z : Nat, z ∈ L → P.kd z = 15 → PIK L P cI cZ z) : OPR9 L P Q' rp br bb := by
  refine ⟨fun z m k => ?_, fun z m k i i0 i1 q => ?_⟩
  · have e : z ≠ x := fun e => by rw [s.kd, ← e] at kx; omega
    have f2 : Q'.ra z = Q.ra z := w.2.1 z e 2
    have f3 : Q'.rb z = Q.rb z := w.2.1 z e 3
    have f4 : Q'.rA z = Q.rA z := w.2.1 z e 4
    have f5 : Q'.rB z = Q.rB z := w.2.1 z e 5
    rw [f2, f3, f4, f5]; exact o.1 z m k
  · by_cases e : z = x
    · rw [e] at m k i1 q ⊢
      have r := rs.1
      rw [s.pr, s.pu, pn] at r
      have t := ((r i i0 i1).1 i1).2.resolve_left q
      have t2 := o.2 x m k i i0 i1 t.1
      exact ⟨t2.1, t2.2.trans t.2.1⟩
    · have pk := g z m k
      have ow : ∀ a : Nat, P.ow a = z → Q'.ia a = Q.ia a := fun a h => w.2.2 a (by
        have : Q.ow a = P.ow a := by unfold PO.ow; rw [s.1.1]
        rw [this, h]; exact e)
      rw [ow _ pk.2.2.2.1.2.2.2] at q
      rw [ow _ pk.2.2.1.2.2.2]
      exact o.2 z m k i i0 i1 q
theorem RZR.of (ra : RSA9 P Q rp br bb x) (rb : RSB9 P Q rp br bb x) (o : Q.ro x = P.ro x) : RZR Q rp x := by
  unfold RZR
  rw [o]
  constructor
  · by_cases u : rUsA (P.ro x) (P.rA x) = 0
    · have t := ra.1 u
      rw [t.1]; exact Or.inl u
    · rcases ra.2 u with t | t
      · have us := rUsA_spec (P.ro x) (Q.rA x)
        exact Or.inl (by omega)
      · exact Or.inr t.2
  · by_cases u : rUsB (P.ro x) (P.rB x) = 0
    · have t := rb.1 u
      rw [t.1]; exact Or.inl u
    · rcases rb.2 u with t | t
      · have us := rUsB_spec (P.ro x) (Q.rB x)
        exact Or.inl (by omega)
      · exact Or.inr t.2
theorem RZR.keep (h : RZR Q rp z) (w : RW1 x Q Q') (r : RZR Q' rp x) : RZR Q' rp z := by
  by_cases e : z = x
  · rw [e]; exact r
  · have f0 : Q'.ro z = Q.ro z := w.2 z e 0
    have f2 : Q'.ra z = Q.ra z := w.2 z e 2
    have f3 : Q'.rb z = Q.rb z := w.2 z e 3
    have f4 : Q'.rA z = Q.rA z := w.2 z e 4
    have f5 : Q'.rB z = Q.rB z := w.2 z e 5
    unfold RZR
    rw [f0, f2, f3, f4, f5]; exact h
theorem RZR.keepp (h : RZR Q rp z) (w : PH1 x Q Q') (n : z ≠ x) : RZR Q' rp z := by
  have f0 : Q'.ro z = Q.ro z := w.2.1 z n 0
  have f2 : Q'.ra z = Q.ra z := w.2.1 z n 2
  have f3 : Q'.rb z = Q.rb z := w.2.1 z n 3
  have f4 : Q'.rA z = Q.rA z := w.2.1 z n 4
  have f5 : Q'.rB z = Q.rB z := w.2.1 z n 5
  unfold RZR
  rw [f0, f2, f3, f4, f5]; exact h
theorem RZP.of (r : RSP9 P Q rp br bb x) (w : PH1 x P Q) (n : Q.pn x = P.pn x) : RZP Q rp x := fun i i0 i1 => by
  rw [n] at i1
  have e1 : Q.pr x = P.pr x := by unfold PO.pr; rw [w.1.1]
  have e2 : Q.pu x = P.pu x := by unfold PO.pu; rw [w.1.1]
  rw [e1, e2]
  rcases ((r.1 i i0 i1).1 i1).2 with t | t
  · exact Or.inl t
  · exact Or.inr t.2.2
theorem RZP.keep (h : RZP Q rp z) (w : PH1 x Q Q') (r : RZP Q' rp x) (pk : PIK L Q cI cZ z) : RZP Q' rp z := by
  by_cases e : z = x
  · rw [e]; exact r
  · have f1 : Q'.pn z = Q.pn z := w.2.1 z e 1
    have e1 : Q'.pr z = Q.pr z := by unfold PO.pr; rw [w.1.1]
    have e2 : Q'.pu z = Q.pu z := by unfold PO.pu; rw [w.1.1]
    intro i i0 i1
    rw [f1] at i1
    rw [e1, e2, w.2.2 _ (by rw [pk.2.2.2.1.2.2.2]; exact e), w.2.2 _ (by rw [pk.2.2.1.2.2.2]; exact e)]
    exact h i i0 i1
theorem RZP.keepr (h : RZP Q rp z) (w : RW1 x Q Q') (n : z ≠ x) : RZP Q' rp z := by
  have f1 : Q'.pn z = Q.pn z := w.2 z n 1
  intro i i0 i1
  rw [f1] at i1
  show Q'.2.2.2.1 (Q'.2.1 3 z) i = 0 ∨ rp (Q'.2.2.2.1 (Q'.2.1 2 z) i) = 0
  rw [w.1]; exact h i i0 i1
/-- i blocks are resolved; of the next j PHIs, k rows -/
def RVI (P Q : PO) (rp : Int → Int) (la : Nat) (i j k : Int) : Prop := ∀ b : Int, 0 ≤ b → b < P.lz la → (b < i → (∀ m : Int, 0 ≤ m → m < P.lz (P.bp (P.el la b)) → RZP Q rp (P.el (P.bp (P.el la b)) m)) ∧ (∀ m : Int, 0 ≤ m → m < P.lz (P.br (P.el la b)) → RZR Q rp (P.el (P.br (P.el la b)) m)) ∧ RZR Q rp (P.be (P.el la b))) ∧ (b = i → (∀ m : Int, 0 ≤ m → m < j → m < P.lz (P.bp (P.el la b)) → RZP Q rp (P.el (P.bp (P.el la b)) m)) ∧ ∀ m : Int, 0 ≤ m → m < k → m < P.lz (P.br (P.el la b)) → RZR Q rp (P.el (P.br (P.el la b)) m))
theorem RVI.first (P Q : PO) (rp : Int → Int) (la : Nat) : RVI P Q rp la 0 0 0 := fun b b0 b1 => ⟨fun q => by omega, fun _ => ⟨fun m m0 m1 => by omega, fun m m0 m1 => by omega⟩⟩
theorem RVI.up {i j k : Int} (h : RVI P Q rp la i j k) (a : ALP L P cO cI cZ ed la) (fp : ∀ z : Nat, z ∈ L → P.kd z = 15 → RZP Q rp z → RZP Q' rp z) (fr : ∀ z : Nat, z ∈ L → P.kd z = 17 → RZR Q rp z → RZR Q' rp z) : RVI P Q' rp la i j k := fun b b0 b1 => ⟨fun q => ⟨fun m m0 m1 => fp _ (a.kphi b0 b1 m0 m1).1 (a.kphi b0 b1 m0 m1).2 (((h b b0 b1).1 q).1 m m0 m1), fun m m0 m1 => fr _ (a.krow b0 b1 m0 m1).1 (a.krow b0 b1 m0 m1).2 (((h b b0 b1).1 q).2.1 m m0 m1), fr _ (a.kend b0 b1).1 (a.kend b0 b1).2.1 ((h b b0 b1).1 q).2.2⟩, fun q => ⟨fun m m0 m1 m2 => fp _ (a.kphi b0 b1 m0 m2).1 (a.kphi b0 b1 m0 m2).2 (((h b b0 b1).2 q).1 m m0 m1 m2), fun m m0 m1 m2 => fr _ (a.krow b0 b1 m0 m2).1 (a.krow b0 b1 m0 m2).2 (((h b b0 b1).2 q).2 m m0 m1 m2)⟩⟩
theorem RVI.phi {i j : Int} (h : RVI P Q rp la i j 0) (r : RZP Q rp (P.el (P.bp (P.el la i)) j)) : RVI P Q rp la i (j + 1) 0 := fun b b0 b1 => ⟨(h b b0 b1).1, fun q => ⟨fun m m0 m1 m2 => by
  by_cases e : m = j
  · rw [e, q]; exact r
  · exact ((h b b0 b1).2 q).1 m m0 (by omega) m2, fun m m0 m1 => by omega⟩⟩
theorem RVI.row {i j k : Int} (h : RVI P Q rp la i j k) (r : RZR Q rp (P.el (P.br (P.el la i)) k)) : RVI P Q rp la i j (k + 1) := fun b b0 b1 => ⟨(h b b0 b1).1, fun q => ⟨((h b b0 b1).2 q).1, fun m m0 m1 m2 => by
  by_cases e : m = k
  · rw [e, q]; exact r
  · exact ((h b b0 b1).2 q).2 m m0 (by omega) m2⟩⟩
theorem RVI.next {i j k : Int} (h : RVI P Q rp la i j k) (r : RZR Q rp (P.be (P.el la i))) (zj : P.lz (P.bp (P.el la i)) ≤ j) (zk : P.lz (P.br (P.el la i)) ≤ k) : RVI P Q rp la (i + 1) 0 0 := fun b b0 b1 => ⟨fun q => by
  by_cases e : b = i
  · have w := (h b b0 b1).2 e
    rw [e] at w ⊢
    exact ⟨fun m m0 m1 => w.1 m m0 (by omega) m1, fun m m0 m1 => w.2 m m0 (by omega) m1, r⟩
  · exact (h b b0 b1).1 (by omega), fun _ => ⟨fun m m0 m1 => by omega, fun m m0 m1 => by omega⟩⟩
end EQV7
section EQV6
variable {L : List Nat} {P P0 P2 : PO} {cO cI cZ : ClassId} {ed x y l la : Nat} {i k : Int}
theorem STQ.itr (s2 : STQ L P P2) (s0 : STQ L P P0) (hy : y = P2.el la i) (hl : P0.br y = l) (ex : x = P0.el l k) : x = P.el (P.br (P.el la i)) k := by rw [ex, s0.el, ← hl, s0.brq, hy, s2.el]
theorem STQ.itp (s2 : STQ L P P2) (s0 : STQ L P P0) (hy : y = P2.el la i) (hl : P0.bp y = l) (ex : x = P0.el l k) : x = P.el (P.bp (P.el la i)) k := by rw [ex, s0.el, ← hl, s0.bp, hy, s2.el]
theorem STQ.ite (s2 : STQ L P P2) (s0 : STQ L P P0) (hy : y = P2.el la i) (hl : P0.be y = x) : x = P.be (P.el la i) := by rw [← hl, s0.be, hy, s2.el]
theorem STQ.lzlr (s2 : STQ L P P2) (s0 : STQ L P P0) (hy : y = P2.el la i) (hl : P0.br y = l) (a : ALP L P cO cI cZ ed la) (i0 : 0 ≤ i) (i1 : i < P.lz la) : P0.lz l = P.lz (P.br (P.el la i)) := by rw [← hl, s0.brq, hy, s2.el]; exact s0.1.2.2 _ (a.inb ⟨i, i0, i1, rfl⟩).2.1.2.1
theorem STQ.lzlp (s2 : STQ L P P2) (s0 : STQ L P P0) (hy : y = P2.el la i) (hl : P0.bp y = l) (a : ALP L P cO cI cZ ed la) (i0 : 0 ≤ i) (i1 : i < P.lz la) : P0.lz l = P.lz (P.bp (P.el la i)) := by rw [← hl, s0.bp, hy, s2.el]; exact s0.1.2.2 _ (a.inb ⟨i, i0, i1, rfl⟩).2.2.1.2.1
end EQV6
/-- flags are as they were -/
def FLQ (L : List Nat) (P Q : PO) : Prop := (∀ z : Nat, z ∈ L → P.kd z = 17 → Q.rg z = P.rg z) ∧ ∀ z : Nat, z ∈ L → P.kd z = 15 → Q.pg z = P.pg z
section EQV5
variable {L : List Nat} {P Q Q' : PO} {x : Nat}
theorem FLQ.refl (L : List Nat) (P : PO) : FLQ L P P := ⟨fun _ _ _ => rfl, fun _ _ _ => rfl⟩
theorem FLQ.row (h : FLQ L P Q) (s : STQ L P Q) (w : RW1 x Q Q') (kx : Q.kd x = 17) (g : Q'.rg x = Q.rg x) : FLQ L P Q' := ⟨fun z m k => by
  by_cases e : z = x
  · rw [e] at m k ⊢; exact g.trans (h.1 x m k)
  · exact (w.2 z e 6).trans (h.1 z m k), fun z m k => (w.2 z (fun e => by rw [s.kd, ← e] at kx; omega) 2).trans (h.2 z m k)⟩
theorem FLQ.phi (h : FLQ L P Q) (s : STQ L P Q) (w : PH1 x Q Q') (kx : Q.kd x = 15) (g : Q'.pg x = Q.pg x) : FLQ L P Q' := ⟨fun z m k => (w.2.1 z (fun e => by rw [s.kd, ← e] at kx; omega) 6).trans (h.1 z m k), fun z m k => by
  by_cases e : z = x
  · rw [e] at m k ⊢; exact g.trans (h.2 x m k)
  · exact (w.2.1 z e 2).trans (h.2 z m k)⟩
end EQV5
