/-! marks of what is wanted, flags of what is gone -/
/-- marks come, none goes -/
def MKG (a c : Int → Int) : Prop := ∀ r : Int, a r ≠ 0 → c r ≠ 0
/-- z = 0: no mark has come -/
def MKZ (z : Int) (a c : Int → Int) : Prop := z = 0 → ∀ r : Int, c r ≠ 0 → a r ≠ 0
/-- what a row uses is marked -/
def URM (P : PO) (c : Int → Int) (x : Nat) : Prop := (rUsA (P.ro x) (P.rA x) = 0 ∨ c (P.ra x) ≠ 0) ∧ (rUsB (P.ro x) (P.rB x) = 0 ∨ c (P.rb x) ≠ 0)
def WNT (P : PO) (a : Int → Int) (x : Nat) : Prop := P.ro x = 21 ∨ rStop (P.ro x) (P.rB x) (P.rb x) ≠ 0 ∨ (rSets (P.ro x) ≠ 0 ∧ a (P.rt x) ≠ 0)
def NIS (z : Int) (P : PO) (a : Int → Int) (x : Nat) : Prop := z = 0 → ¬ WNT P a x
def DRC (P : PO) (a c : Int → Int) (x : Nat) : Prop := WNT P a x → URM P c x
def DPH9 (P : PO) (a c : Int → Int) (x : Nat) (k : Int) : Prop := a (P.pt x) ≠ 0 → ∀ i : Int, 0 ≤ i → i < k → i < P.pn x → P.ia (P.pr x) i = 0 ∨ c (P.ia (P.pu x) i) ≠ 0
/-- of a block: its end, its rows from j on, its first k PHIs -/
def DBK (P : PO) (a c : Int → Int) (y : Nat) (j k : Int) : Prop := URM P c (P.be y) ∧ (∀ i : Int, j ≤ i → 0 ≤ i → i < P.lz (P.br y) → DRC P a c (P.el (P.br y) i)) ∧ ∀ i : Int, 0 ≤ i → i < k → i < P.lz (P.bp y) → DPH9 P a c (P.el (P.bp y) i) (P.pn (P.el (P.bp y) i))
/-- all blocks behind d -/
def DDV (P : PO) (la : Nat) (a c : Int → Int) (d : Int) : Prop := ∀ b : Int, 0 ≤ b → d < b → b < P.lz la → DBK P a c (P.el la b) 0 (P.lz (P.bp (P.el la b)))
def DCI (z : Int) (P : PO) (la : Nat) (c : Int → Int) : Prop := z = 0 → DDV P la c c (-1)
/-- only flags have changed -/
def GNE (P Q : PO) : Prop := Q.2 = P.2 ∧ ∀ (z f : Nat), (P.kd z = 17 → f ≠ 6) → (P.kd z = 15 → f ≠ 2) → Q.1 f z = P.1 f z
def BIF (z : Int) (p : Prop) : Prop := z ≠ 0 ↔ p
def GPH (P Q : PO) (c : Int → Int) (x : Nat) : Prop := Q.pg x ≠ 0 ↔ c (P.pt x) = 0
def GRO (P Q : PO) (c : Int → Int) (x : Nat) : Prop := Q.rg x ≠ 0 ↔ (rSets (P.ro x) ≠ 0 ∧ c (P.rt x) = 0 ∧ P.ro x ≠ 20 ∧ rStop (P.ro x) (P.rB x) (P.rb x) = 0)
def GFB (P Q : PO) (c : Int → Int) (y : Nat) (j k : Int) : Prop := (∀ i : Int, 0 ≤ i → i < j → i < P.lz (P.bp y) → GPH P Q c (P.el (P.bp y) i)) ∧ ∀ i : Int, 0 ≤ i → i < k → i < P.lz (P.br y) → GRO P Q c (P.el (P.br y) i)
def GFV (P Q : PO) (c : Int → Int) (la : Nat) (d j k : Int) : Prop := ∀ b : Int, 0 ≤ b → b < P.lz la → (b < d → GFB P Q c (P.el la b) (P.lz (P.bp (P.el la b))) (P.lz (P.br (P.el la b)))) ∧ (b = d → GFB P Q c (P.el la b) j k)
/-- something went that nothing left uses -/
def SWD (P Q : PO) (la : Nat) : Prop := ∃ (gp gr : Nat → Int) (N : Int → Prop), SWG P Q la gp gr ∧ NDD P la gp gr N
section DED9
variable {L : List Nat} {P Q Q' : PO} {cO cI cZ : ClassId} {ed x y l la : Nat} {a c e : Int → Int} {z u v d i j k r : Int} {p : Prop}
theorem MKG.refl (a : Int → Int) : MKG a a := fun _ h => h
theorem MKG.trans (h : MKG a c) (g : MKG c e) : MKG a e := fun r q => g r (h r q)
theorem MKG.up (h : r ≠ 0) : MKG a (zup a i r) := fun s q => by
  by_cases w : s = i
  · rw [w, zup_eq]; exact h
  · rw [zup_ne _ _ w]; exact q
theorem MKZ.one (h : z ≠ 0) : MKZ z a c := fun q => absurd q h
theorem MKZ.same (z : Int) (a : Int → Int) : MKZ z a a := fun _ _ q => q
theorem MKZ.trans (h : MKZ u a c) (g : MKZ v c e) (hu : u = 0) (hv : v = 0) : MKZ z a e := fun _ r q => h hu r (g hv r q)
theorem MKZ.up (h : a i ≠ 0) : MKZ z a (zup a i r) := fun _ s q => by
  by_cases w : s = i
  · rw [w]; exact h
  · rw [zup_ne _ _ w] at q; exact q
theorem URM.up (h : URM P a x) (g : MKG a c) : URM P c x := ⟨h.1.imp id (fun q => g _ q), h.2.imp id (fun q => g _ q)⟩
theorem WNT.up (h : WNT P a x) (g : MKG a c) : WNT P c x := h.imp id (fun q => q.imp id (fun t => ⟨t.1, g _ t.2⟩))
theorem NIS.one (h : z ≠ 0) : NIS z P a x := fun q => absurd q h
theorem NIS.no (o : P.ro x ≠ 21) (s : rStop (P.ro x) (P.rB x) (P.rb x) = 0) (t : rSets (P.ro x) = 0 ∨ a (P.rt x) = 0) : NIS z P a x := fun _ w => by
  rcases w with w | w | w
  · exact o w
  · exact w s
  · rcases t with t | t
    · exact w.1 t
    · exact w.2 t
theorem DRC.up (h : DRC P a c x) (g : MKG c e) : DRC P a e x := fun w => (h w).up g
theorem DRC.no (h : NIS z P c x) (q : z = 0) (g : MKG a c) : DRC P a e x := fun w => absurd (w.up g) (h q)
theorem DRC.yes (h : URM P c x) : DRC P a c x := fun _ => h
theorem DPH9.up (h : DPH9 P a c x k) (g : MKG c e) : DPH9 P a e x k := fun w i i0 i1 i2 => (h w i i0 i1 i2).imp id (fun q => g _ q)
theorem DPH9.none (P : PO) (a c : Int → Int) (x : Nat) : DPH9 P a c x 0 := fun _ i i0 i1 => by omega
theorem DPH9.skip (h : DPH9 P a c x k) (q : P.ia (P.pr x) k = 0) : DPH9 P a c x (k + 1) := fun w i i0 i1 i2 => by
  by_cases t : i = k
  · rw [t]; exact Or.inl q
  · exact h w i i0 (by omega) i2
theorem DPH9.put (h : DPH9 P a c x k) (g : MKG c e) (q : e (P.ia (P.pu x) k) ≠ 0) : DPH9 P a e x (k + 1) := fun w i i0 i1 i2 => by
  by_cases t : i = k
  · rw [t]; exact Or.inr q
  · exact (h w i i0 (by omega) i2).imp id (fun q => g _ q)
theorem DPH9.full (h : DPH9 P a c x k) (q : P.pn x ≤ k) : DPH9 P a c x (P.pn x) := fun w i i0 _ i2 => h w i i0 (by omega) i2
theorem DPH9.not (g : MKG a c) (q : c (P.pt x) = 0) : DPH9 P a e x k := fun w => absurd q (g _ w)
theorem DBK.up (h : DBK P a c y j k) (g : MKG c e) : DBK P a e y j k := ⟨h.1.up g, fun i i0 i1 i2 => (h.2.1 i i0 i1 i2).up g, fun i i0 i1 i2 => (h.2.2 i i0 i1 i2).up g⟩
theorem DBK.first (h : URM P c x) (ex : P.be y = x) (q : P.lz (P.br y) ≤ j) : DBK P a c y j 0 := ⟨by rw [ex]; exact h, fun i i0 i1 i2 => by omega, fun i i0 i1 i2 => by omega⟩
theorem DBK.row (h : DBK P a c y (j + 1) 0) (g : MKG c e) (el : P.br y = l) (ex : x = P.el l j) (q : DRC P a e x) : DBK P a e y j 0 := by
  have w := h.up g
  refine ⟨w.1, fun i i0 i1 i2 => ?_, w.2.2⟩
  by_cases t : i = j
  · rw [t, el, ← ex]; exact q
  · exact w.2.1 i (by omega) i1 i2
theorem DBK.phi (h : DBK P a c y 0 k) (el : P.bp y = l) (ex : x = P.el l k) (q : DPH9 P a c x (P.pn x)) : DBK P a c y 0 (k + 1) := by
  refine ⟨h.1, h.2.1, fun i i0 i1 i2 => ?_⟩
  by_cases t : i = k
  · rw [t, el, ← ex]; exact q
  · exact h.2.2 i i0 (by omega) i2
theorem DBK.to (h : DBK P a c y j k) (q : j = i) : DBK P a c y i k := by rw [← q]; exact h
theorem DDV.first (q : P.lz la ≤ d + 1) : DDV P la a c d := fun b b0 b1 b2 => by omega
theorem DDV.up (h : DDV P la a c d) (g : MKG c e) : DDV P la a e d := fun b b0 b1 b2 => (h b b0 b1 b2).up g
theorem DDV.step (h : DDV P la a c d) (ex : x = P.el la d) (w : DBK P a c x 0 k) (q : P.lz (P.bp x) ≤ k) : DDV P la a c (d - 1) := fun b b0 b1 b2 => by
  by_cases t : b = d
  · rw [t, ← ex]; exact ⟨w.1, w.2.1, fun i i0 i1 i2 => w.2.2 i i0 (by omega) i2⟩
  · exact h b b0 (by omega) b2
theorem DDV.done (h : DDV P la a c d) (q : d < 0) (m : MKZ z a c) : DCI z P la c := fun e b b0 b1 b2 => by
  have w := h b b0 (by omega) b2
  have g := m e
  exact ⟨w.1, fun i i0 i1 i2 t => w.2.1 i i0 i1 i2 (t.imp id (fun q => q.imp id (fun s => ⟨s.1, g _ s.2⟩))), fun i i0 i1 i2 t => w.2.2 i i0 i1 i2 (g _ t)⟩
theorem DCI.one (h : z ≠ 0) : DCI z P la c := fun q => absurd q h
theorem GNE.refl (P : PO) : GNE P P := ⟨rfl, fun _ _ _ _ => rfl⟩
theorem GNE.kd (h : GNE P Q) (x : Nat) : Q.kd x = P.kd x := by unfold PO.kd; rw [h.1]
theorem GNE.el (h : GNE P Q) (l : Nat) (k : Int) : Q.el l k = P.el l k := by unfold PO.el PO.oa PO.le; rw [h.1]
theorem GNE.bp (h : GNE P Q) (x : Nat) : Q.bp x = P.bp x := by unfold PO.bp; rw [h.1]
theorem GNE.br (h : GNE P Q) (x : Nat) : Q.br x = P.br x := by unfold PO.br; rw [h.1]
theorem GNE.lz (h : GNE P Q) (k : P.kd l = 30) : Q.lz l = P.lz l := h.2 l 0 (fun q => by omega) (fun q => by omega)
theorem GNE.row (h : GNE P Q) (kx : P.kd x = 17) : Q.ro x = P.ro x ∧ Q.rt x = P.rt x ∧ Q.rB x = P.rB x ∧ Q.rb x = P.rb x := ⟨h.2 x 0 (fun _ => by decide) (fun q => by omega), h.2 x 1 (fun _ => by decide) (fun q => by omega), h.2 x 5 (fun _ => by decide) (fun q => by omega), h.2 x 3 (fun _ => by decide) (fun q => by omega)⟩
theorem GNE.phi (h : GNE P Q) (kx : P.kd x = 15) : Q.pt x = P.pt x := h.2 x 0 (fun q => by omega) (fun _ => by decide)
theorem GNE.nsg (h : GNE P Q) : NSG P Q := ⟨by rw [h.1], by rw [h.1], fun z f _ n1 n2 => h.2 z f n1 n2⟩
theorem GNE.put (h : GNE P Q) (t : Nat) (kx : (Q.kd x = 17 ∧ t = 6) ∨ (Q.kd x = 15 ∧ t = 2)) (q : Q' = Q.rw9 t x v) : GNE P Q' := by
  subst q
  refine ⟨h.1, fun z f n1 n2 => ?_⟩
  show (if z = x then (if f = t then v else Q.1 f z) else Q.1 f z) = P.1 f z
  by_cases w : z = x
  · rw [if_pos w]
    have nf : f ≠ t := fun e => by
      rw [w, ← h.kd] at n1 n2
      rcases kx with k | k
      · exact n1 k.1 (by rw [e]; exact k.2)
      · exact n2 k.1 (by rw [e]; exact k.2)
    rw [if_neg nf]; exact h.2 z f n1 n2
  · rw [if_neg w]; exact h.2 z f n1 n2
theorem BIF.yes (h : z ≠ 0) (q : p) : BIF z p := ⟨fun _ => q, fun _ => h⟩
theorem BIF.no (h : z = 0) (q : ¬ p) : BIF z p := ⟨fun w => absurd h w, fun w => absurd w q⟩
theorem rw9_same (Q : PO) (t x : Nat) (v : Int) : (Q.rw9 t x v).1 t x = v := by show (if x = x then (if t = t then v else Q.1 t x) else Q.1 t x) = v; rw [if_pos rfl, if_pos rfl]
theorem rw9_away (Q : PO) {t x y : Nat} (v : Int) (n : y ≠ x) (f : Nat) : (Q.rw9 t x v).1 f y = Q.1 f y := if_neg n
theorem GFV.first (P Q : PO) (c : Int → Int) (la : Nat) : GFV P Q c la 0 0 0 := fun b b0 b1 => ⟨fun q => by omega, fun _ => ⟨fun i i0 i1 => by omega, fun i i0 i1 => by omega⟩⟩
/-- a PHI's flag is set -/
theorem GFV.phi (h : GFV P Q c la d j 0) (g : GNE P Q) (al : ALP L P cO cI cZ ed la) (kx : Q.kd x = 15) (ex : x = Q.el l j) (el : Q.bp y = l) (ey : y = P.el la d) (d0 : 0 ≤ d) (d1 : d < P.lz la) (j0 : 0 ≤ j) (q : Q' = Q.rw9 2 x v) (bv : BIF v (c (Q.pt x) = 0)) : GFV P Q' c la d (j + 1) 0 := by
  subst q
  have ph : ∀ w : Nat, P.kd w = 15 → (w = x ∨ GPH P Q c w) → GPH P (Q.rw9 2 x v) c w := fun w kw s => by
    by_cases t : w = x
    · rw [t]
      unfold GPH
      rw [show (Q.rw9 2 x v).pg x = v from rw9_same Q 2 x v, ← g.phi (by rw [← g.kd]; exact kx)]
      exact bv
    · unfold GPH
      rw [show (Q.rw9 2 x v).pg w = Q.pg w from rw9_away Q v t 2]
      exact s.resolve_left t
  have ro : ∀ w : Nat, P.kd w = 17 → GRO P Q c w → GRO P (Q.rw9 2 x v) c w := fun w kw s => by
    unfold GRO
    rw [show (Q.rw9 2 x v).rg w = Q.rg w from rw9_away Q v (fun e => by rw [e, ← g.kd] at kw; omega) 6]
    exact s
  intro b b0 b1
  obtain ⟨h1, h2⟩ := h b b0 b1
  refine ⟨fun s => ⟨fun i i0 i1 i2 => ph _ (al.kphi b0 b1 i0 i2).2 (Or.inr ((h1 s).1 i i0 i1 i2)), fun i i0 i1 i2 => ro _ (al.krow b0 b1 i0 i2).2 ((h1 s).2 i i0 i1 i2)⟩, fun s => ⟨fun i i0 i1 i2 => ?_, fun i i0 i1 i2 => by omega⟩⟩
  refine ph _ (al.kphi b0 b1 i0 i2).2 ?_
  by_cases t : i = j
  · refine Or.inl ?_
    rw [t, s, ← ey, ← g.bp, el, ← g.el]; exact ex.symm
  · exact Or.inr ((h2 s).1 i i0 (by omega) i2)
theorem GFV.rows (h : GFV P Q c la d j 0) (q : P.lz (P.bp (P.el la d)) ≤ j) : GFV P Q c la d 40000 0 := fun b b0 b1 => ⟨(h b b0 b1).1, fun s => ⟨fun i i0 _ i2 => ((h b b0 b1).2 s).1 i i0 (by rw [s] at i2; omega) i2, fun i i0 i1 => by omega⟩⟩
theorem GFV.row (h : GFV P Q c la d 40000 k) (g : GNE P Q) (al : ALP L P cO cI cZ ed la) (kx : Q.kd x = 17) (ex : x = Q.el l k) (el : Q.br y = l) (ey : y = P.el la d) (d0 : 0 ≤ d) (d1 : d < P.lz la) (k0 : 0 ≤ k) (q : Q' = Q.rw9 6 x v) (bv : BIF v (rSets (Q.ro x) ≠ 0 ∧ c (Q.rt x) = 0 ∧ Q.ro x ≠ 20 ∧ rStop (Q.ro x) (Q.rB x) (Q.rb x) = 0)) : GFV P Q' c la d 40000 (k + 1) := by
  subst q
  have ro : ∀ w : Nat, P.kd w = 17 → (w = x ∨ GRO P Q c w) → GRO P (Q.rw9 6 x v) c w := fun w kw s => by
    by_cases t : w = x
    · rw [t]
      unfold GRO
      obtain ⟨g0, g1, g5, g3⟩ := g.row (x := x) (by rw [← g.kd]; exact kx)
      rw [show (Q.rw9 6 x v).rg x = v from rw9_same Q 6 x v, ← g0, ← g1, ← g5, ← g3]
      exact bv
    · unfold GRO
      rw [show (Q.rw9 6 x v).rg w = Q.rg w from rw9_away Q v t 6]
      exact s.resolve_left t
  have ph : ∀ w : Nat, P.kd w = 15 → GPH P Q c w → GPH P (Q.rw9 6 x v) c w := fun w kw s => by
    unfold GPH
    rw [show (Q.rw9 6 x v).pg w = Q.pg w from rw9_away Q v (fun e => by rw [e, ← g.kd] at kw; omega) 2]
    exact s
  intro b b0 b1
  obtain ⟨h1, h2⟩ := h b b0 b1
  refine ⟨fun s => ⟨fun i i0 i1 i2 => ph _ (al.kphi b0 b1 i0 i2).2 ((h1 s).1 i i0 i1 i2), fun i i0 i1 i2 => ro _ (al.krow b0 b1 i0 i2).2 (Or.inr ((h1 s).2 i i0 i1 i2))⟩, fun s => ⟨fun i i0 i1 i2 => ph _ (al.kphi b0 b1 i0 i2).2 ((h2 s).1 i i0 i1 i2), fun i i0 i1 i2 => ?_⟩⟩
  refine ro _ (al.krow b0 b1 i0 i2).2 ?_
  by_cases t : i = k
  · refine Or.inl ?_
    rw [t, s, ← ey, ← g.br, el, ← g.el]; exact ex.symm
  · exact Or.inr ((h2 s).2 i i0 (by omega) i2)
theorem GFV.next (h : GFV P Q c la d 40000 k) (al : ALP L P cO cI cZ ed la) (q : P.lz (P.br (P.el la d)) ≤ k) : GFV P Q c la (d + 1) 0 0 := fun b b0 b1 => ⟨fun s => by
  by_cases t : b = d
  · have w := (h b b0 b1).2 t
    have bk := (al.inb ⟨b, b0, b1, rfl⟩).2.2.1.2.2.1
    exact ⟨fun i i0 i1 i2 => w.1 i i0 (by omega) i2, fun i i0 i1 i2 => w.2 i i0 (by rw [t] at i2; omega) i2⟩
  · exact (h b b0 b1).1 (by omega), fun _ => ⟨fun i i0 i1 => by omega, fun i i0 i1 => by omega⟩⟩
/-- what is marked is closed, what is not is gone -/
theorem NDD.of (h : DDV P la c c (-1)) (g : GFV P Q c la d j k) (q : P.lz la ≤ d) (al : ALP L P cO cI cZ ed la) : NDD P la Q.pg Q.rg (fun r => c r ≠ 0) := fun b b0 b1 => by
  have w := h b b0 (by omega) b1
  have f := (g b b0 b1).1 (by omega)
  refine ⟨fun k k0 k1 => ⟨fun s t => t ((f.1 k k0 k1 k1).mp s), fun s i i0 i1 => w.2.2 k k0 k1 k1 (fun t => (f.1 k k0 k1 k1).mpr t s) i i0 i1 i1⟩, fun k k0 k1 => ⟨fun s _ t => t ((f.2 k k0 k1 k1).mp s).2.1, fun s => ?_⟩, w.1.1, w.1.2⟩
  have kx := al.krow b0 b1 k0 k1
  have o := al.op21 kx.1 kx.2 (al.erow b0 b1 k0 k1)
  have ss := rSets_spec (P.ro (P.el (P.br (P.el la b)) k))
  have ua := rUsA_spec (P.ro (P.el (P.br (P.el la b)) k)) (P.rA (P.el (P.br (P.el la b)) k))
  have ub := rUsB_spec (P.ro (P.el (P.br (P.el la b)) k)) (P.rB (P.el (P.br (P.el la b)) k))
  by_cases i20 : P.ro (P.el (P.br (P.el la b)) k) = 20
  · exact ⟨Or.inl (by omega), Or.inl (by omega)⟩
  · refine w.2.1 k k0 k0 k1 ?_
    by_cases i21 : P.ro (P.el (P.br (P.el la b)) k) = 21
    · exact Or.inl i21
    · by_cases st : rStop (P.ro (P.el (P.br (P.el la b)) k)) (P.rB (P.el (P.br (P.el la b)) k)) (P.rb (P.el (P.br (P.el la b)) k)) = 0
      · refine Or.inr (Or.inr ⟨by omega, fun t => ?_⟩)
        exact (f.2 k k0 k1 k1).mpr ⟨by omega, t, i20, st⟩ s
      · exact Or.inr (Or.inl st)
theorem GNE.swd (h : GNE P Q) (s : SWE Q Q' la) (w : DDV P la c c (-1)) (g : GFV P Q c la d j k) (q : P.lz la ≤ d) (al : ALP L P cO cI cZ ed la) : SWD P Q' la := ⟨Q.pg, Q.rg, _, s.swg h.nsg (by rw [h.1]) (fun l kl => h.lz kl) al, NDD.of w g q al⟩
end DED9
section DED8
variable {L : List Nat} {P Q : PO} {cO cI cZ : ClassId} {ed y l la : Nat} {d : Int}
theorem GNE.lzr (g : GNE P Q) (al : ALP L P cO cI cZ ed la) (ey : y = P.el la d) (d0 : 0 ≤ d) (d1 : d < P.lz la) (el : Q.br y = l) : Q.lz l = P.lz (P.br (P.el la d)) := by rw [← el, g.br, ey]; exact g.lz (al.inb ⟨d, d0, d1, rfl⟩).2.1.2.1
theorem GNE.lzp (g : GNE P Q) (al : ALP L P cO cI cZ ed la) (ey : y = P.el la d) (d0 : 0 ≤ d) (d1 : d < P.lz la) (el : Q.bp y = l) : Q.lz l = P.lz (P.bp (P.el la d)) := by rw [← el, g.bp, ey]; exact g.lz (al.inb ⟨d, d0, d1, rfl⟩).2.2.1.2.1
end DED8
