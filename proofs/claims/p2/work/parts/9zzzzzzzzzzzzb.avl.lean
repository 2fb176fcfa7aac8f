/-! what is used has been set, whichever way was come: by a witness A (register, block: it has been set where the block begins) -/
def SPH (P : PO) (la : Nat) (b r : Int) : Prop := ∃ k : Int, 0 ≤ k ∧ k < P.lz (P.bp (P.el la b)) ∧ P.pt (P.el (P.bp (P.el la b)) k) = r
/-- a row in front of place j sets r -/
def SRW (P : PO) (la : Nat) (b j r : Int) : Prop := ∃ k : Int, 0 ≤ k ∧ k < j ∧ k < P.lz (P.br (P.el la b)) ∧ rSets (P.ro (P.el (P.br (P.el la b)) k)) ≠ 0 ∧ P.rt (P.el (P.br (P.el la b)) k) = r
def SIB (P : PO) (la : Nat) (b r : Int) : Prop := SPH P la b r ∨ SRW P la b (P.lz (P.br (P.el la b))) r
def AVT (P : PO) (la : Nat) (A : Int → Int → Prop) (b j r : Int) : Prop := A r b ∨ SPH P la b r ∨ SRW P la b j r
def AVW (P : PO) (la : Nat) (A : Int → Int → Prop) : Prop := (∀ r : Int, ¬ A r 0) ∧ ∀ r p b : Int, 0 ≤ p → p < P.lz la → EDG P la p b → A r b → A r p ∨ SIB P la p r
def URA (P : PO) (la : Nat) (A : Int → Int → Prop) (b j : Int) (x : Nat) : Prop := (rUsA (P.ro x) (P.rA x) = 0 ∨ AVT P la A b j (P.ra x)) ∧ (rUsB (P.ro x) (P.rB x) = 0 ∨ AVT P la A b j (P.rb x))
def UPA9 (P : PO) (la : Nat) (A : Int → Int → Prop) (x : Nat) : Prop := ∀ i : Int, 0 ≤ i → i < P.pn x → P.ia (P.pr x) i = 0 ∨ (A (P.ia (P.pu x) i) (P.ia (P.pp x) i) ∨ SIB P la (P.ia (P.pp x) i) (P.ia (P.pu x) i))
def AVU (P : PO) (la : Nat) (A : Int → Int → Prop) : Prop := ∀ b : Int, 0 ≤ b → b < P.lz la → (∀ k : Int, 0 ≤ k → k < P.lz (P.bp (P.el la b)) → UPA9 P la A (P.el (P.bp (P.el la b)) k)) ∧ (∀ j : Int, 0 ≤ j → j < P.lz (P.br (P.el la b)) → URA P la A b j (P.el (P.br (P.el la b)) j)) ∧ URA P la A b (P.lz (P.br (P.el la b))) (P.be (P.el la b))
def AVL (P : PO) (la : Nat) : Prop := ∃ A : Int → Int → Prop, AVW P la A ∧ AVU P la A
/-- each register is set once -/
def SNG (P : PO) (la : Nat) : Prop := (∀ b c j k : Int, 0 ≤ b → b < P.lz la → 0 ≤ c → c < P.lz la → 0 ≤ j → j < P.lz (P.bp (P.el la b)) → 0 ≤ k → k < P.lz (P.bp (P.el la c)) → P.pt (P.el (P.bp (P.el la b)) j) = P.pt (P.el (P.bp (P.el la c)) k) → b = c ∧ j = k) ∧ (∀ b c j k : Int, 0 ≤ b → b < P.lz la → 0 ≤ c → c < P.lz la → 0 ≤ j → j < P.lz (P.br (P.el la b)) → 0 ≤ k → k < P.lz (P.br (P.el la c)) → rSets (P.ro (P.el (P.br (P.el la b)) j)) ≠ 0 → rSets (P.ro (P.el (P.br (P.el la c)) k)) ≠ 0 → P.rt (P.el (P.br (P.el la b)) j) = P.rt (P.el (P.br (P.el la c)) k) → b = c ∧ j = k) ∧ ∀ b c j k : Int, 0 ≤ b → b < P.lz la → 0 ≤ c → c < P.lz la → 0 ≤ j → j < P.lz (P.bp (P.el la b)) → 0 ≤ k → k < P.lz (P.br (P.el la c)) → rSets (P.ro (P.el (P.br (P.el la c)) k)) ≠ 0 → P.pt (P.el (P.bp (P.el la b)) j) ≠ P.rt (P.el (P.br (P.el la c)) k)
section AVL9
variable {L : List Nat} {P Q : PO} {cO cI cZ : ClassId} {ed x la : Nat} {A : Int → Int → Prop} {b c j k p r n : Int}
theorem SRW.mono (h : SRW P la b j r) (a : j ≤ k) : SRW P la b k r := by
  obtain ⟨i, i0, i1, i2⟩ := h
  exact ⟨i, i0, by omega, i2⟩
theorem SRW.all (h : SRW P la b j r) : SRW P la b (P.lz (P.br (P.el la b))) r := by
  obtain ⟨i, i0, i1, i2, i3⟩ := h
  exact ⟨i, i0, i2, i2, i3⟩
theorem SIB.setr (h : SIB P la b r) (b0 : 0 ≤ b) (b1 : b < P.lz la) : SETR P la r := by
  rcases h with ⟨k, k0, k1, e⟩ | ⟨k, k0, _, k1, s, e⟩
  · exact Or.inl ⟨b, k, b0, b1, k0, k1, e⟩
  · exact Or.inr ⟨b, k, b0, b1, k0, k1, s, e⟩
theorem AVT.sib (h : AVT P la A b j r) : A r b ∨ SIB P la b r := by
  rcases h with h | h | h
  · exact Or.inl h
  · exact Or.inr (Or.inl h)
  · exact Or.inr (Or.inr h.all)
theorem EDG.rng (a : ALP L P cO cI cZ ed la) (p0 : 0 ≤ p) (p1 : p < P.lz la) (e : EDG P la p b) : 0 ≤ b ∧ b < P.lz la := by
  have bk := (a.inb ⟨p, p0, p1, rfl⟩).2.2.2.2
  obtain ⟨k, _, _, k2⟩ := e
  have rw9 := rWay_spec (P.bf (P.el la p)) (P.bs (P.el la p)) k
  exact ⟨by omega, by omega⟩
/-- what a block begins with has been set somewhere -/
theorem AVW.setr (h : AVW P la A) (n : ALR P la) (a : ALP L P cO cI cZ ed la) (b0 : 0 ≤ b) (b1 : b < P.lz la) (q : A r b) : SETR P la r := Classical.byContradiction fun ns => by
  have key := n b b0 b1 (fun c => ¬ A r c ∧ 0 ≤ c ∧ c < P.lz la) (fun _ => ⟨h.1 r, by omega, by omega⟩) (fun p c s e _ => by
    have w := EDG.rng a s.2.1 s.2.2 e
    refine ⟨fun t => ?_, w⟩
    rcases h.2 r p c s.2.1 s.2.2 e t with u | u
    · exact s.1 u
    · exact ns (u.setr s.2.1 s.2.2))
  exact key.1 q
theorem AVT.setr (h : AVW P la A) (n : ALR P la) (a : ALP L P cO cI cZ ed la) (b0 : 0 ≤ b) (b1 : b < P.lz la) (q : AVT P la A b j r) : SETR P la r := by
  rcases q.sib with w | w
  · exact h.setr n a b0 b1 w
  · exact w.setr b0 b1
theorem AVL.usd (h : AVL P la) (n : ALR P la) (c : CMP P la) (a : ALP L P cO cI cZ ed la) : USD P la := by
  obtain ⟨A, w, u⟩ := h
  intro b b0 b1
  obtain ⟨u1, u2, u3⟩ := u b b0 b1
  refine ⟨fun k k0 k1 i i0 i1 => ?_, fun k k0 k1 => ⟨(u2 k k0 k1).1.imp id (fun q => AVT.setr w n a b0 b1 q), (u2 k k0 k1).2.imp id (fun q => AVT.setr w n a b0 b1 q)⟩, ⟨u3.1.imp id (fun q => AVT.setr w n a b0 b1 q), u3.2.imp id (fun q => AVT.setr w n a b0 b1 q)⟩, ?_⟩
  · refine (u1 k k0 k1 i i0 i1).imp id (fun q => ?_)
    have kx := a.kphi b0 b1 k0 k1
    have pk := a.pik kx.1 kx.2
    have e := pk.2.2.2.2.2.2 i i0 i1
    have pb := a.2.2.1 _ ⟨b, b0, b1, rfl⟩ k k0 k1 i i0 i1
    rcases q with q | q
    · exact w.setr n a e.1.1 pb q
    · exact q.setr e.1.1 pb
  · have q := (c.2.1 b b0 b1).2
    have s := rSets_spec (P.ro (P.be (P.el la b)))
    omega
/-! a function seen by its parts -/
theorem FNE.edgr {a c : Int} (v : FNE P Q la) (a0 : 0 ≤ a) (a1 : a < P.lz la) (e : EDG Q la a c) : EDG P la a c := by
  obtain ⟨eb, wb⟩ := v.2 a a0 a1
  have e0 : Q.ro (P.be (P.el la a)) = P.ro (P.be (P.el la a)) := wb.2.2.2 0
  obtain ⟨k, k0, k1, k2⟩ := e
  rw [eb, wb.1.2.2.1, e0, wb.1.2.2.2.1, wb.1.2.2.2.2] at k1
  rw [eb, wb.1.2.2.2.1, wb.1.2.2.2.2] at k2
  exact ⟨k, k0, k1, k2⟩
theorem SPH.fne (h : SPH P la b r) (v : FNE P Q la) (b0 : 0 ≤ b) (b1 : b < P.lz la) : SPH Q la b r := by
  obtain ⟨eb, wb⟩ := v.2 b b0 b1
  obtain ⟨k, k0, k1, e⟩ := h
  have q := wb.2.1.2 k k0 k1
  exact ⟨k, k0, by rw [eb, wb.1.1, wb.2.1.1]; exact k1, by rw [eb, wb.1.1, q.1]; exact (q.2.1 0).trans e⟩
theorem SRW.fne (h : SRW P la b j r) (v : FNE P Q la) (b0 : 0 ≤ b) (b1 : b < P.lz la) : SRW Q la b j r := by
  obtain ⟨eb, wb⟩ := v.2 b b0 b1
  obtain ⟨k, k0, kj, k1, s, e⟩ := h
  have q := wb.2.2.1.2 k k0 k1
  have e0 : Q.ro (P.el (P.br (P.el la b)) k) = P.ro (P.el (P.br (P.el la b)) k) := q.2 0
  exact ⟨k, k0, kj, by rw [eb, wb.1.2.1, wb.2.2.1.1]; exact k1, by rw [eb, wb.1.2.1, q.1, e0]; exact s, by rw [eb, wb.1.2.1, q.1]; exact (q.2 1).trans e⟩
theorem FNE.nr (v : FNE P Q la) (b0 : 0 ≤ b) (b1 : b < P.lz la) : Q.lz (Q.br (Q.el la b)) = P.lz (P.br (P.el la b)) := by
  obtain ⟨eb, wb⟩ := v.2 b b0 b1
  rw [eb, wb.1.2.1, wb.2.2.1.1]
theorem SIB.fne (h : SIB P la b r) (v : FNE P Q la) (b0 : 0 ≤ b) (b1 : b < P.lz la) : SIB Q la b r := by
  rcases h with h | h
  · exact Or.inl (h.fne v b0 b1)
  · refine Or.inr ?_
    rw [v.nr b0 b1]; exact h.fne v b0 b1
theorem AVT.fne (h : AVT P la A b j r) (v : FNE P Q la) (b0 : 0 ≤ b) (b1 : b < P.lz la) : AVT Q la A b j r := h.imp id (fun q => q.imp (fun t => t.fne v b0 b1) (fun t => t.fne v b0 b1))
theorem URA.fne (h : URA P la A b j x) (v : FNE P Q la) (b0 : 0 ≤ b) (b1 : b < P.lz la) (e : ∀ f : Nat, Q.1 f x = P.1 f x) : URA Q la A b j x := by
  have a0 : Q.ro x = P.ro x := e 0
  have a2 : Q.ra x = P.ra x := e 2
  have a3 : Q.rb x = P.rb x := e 3
  have a4 : Q.rA x = P.rA x := e 4
  have a5 : Q.rB x = P.rB x := e 5
  unfold URA
  rw [a0, a2, a3, a4, a5]
  exact ⟨h.1.imp id (fun q => q.fne v b0 b1), h.2.imp id (fun q => q.fne v b0 b1)⟩
theorem AVL.fne (h : AVL P la) (v : FNE P Q la) (a : ALP L P cO cI cZ ed la) : AVL Q la := by
  obtain ⟨A, w, u⟩ := h
  refine ⟨A, ⟨w.1, fun r p b p0 p1 e q => ?_⟩, fun b b0 b1 => ?_⟩
  · rw [v.1] at p1
    exact (w.2 r p b p0 p1 (v.edgr p0 p1 e) q).imp id (fun t => t.fne v p0 p1)
  · rw [v.1] at b1
    obtain ⟨eb, wb⟩ := v.2 b b0 b1
    obtain ⟨u1, u2, u3⟩ := u b b0 b1
    rw [eb, wb.1.1, wb.1.2.1, wb.1.2.2.1, wb.2.1.1, wb.2.2.1.1]
    refine ⟨fun k k0 k1 i i0 i1 => ?_, fun k k0 k1 => ?_, u3.fne v b0 b1 wb.2.2.2⟩
    · obtain ⟨q1, q2⟩ := wb.2.1.2 k k0 k1
      rw [q1] at i1 ⊢
      have e1 : Q.pn (P.el (P.bp (P.el la b)) k) = P.pn (P.el (P.bp (P.el la b)) k) := q2.1 1
      rw [e1] at i1
      rw [q2.2.1.2.2, q2.2.1.2.1, q2.2.1.1, q2.2.2.2.2, q2.2.2.2.1, q2.2.2.1]
      have kx := a.kphi b0 b1 k0 k1
      have ee := (a.pik kx.1 kx.2).2.2.2.2.2.2 i i0 i1
      exact (u1 k k0 k1 i i0 i1).imp id (fun q => q.imp id (fun t => t.fne v ee.1.1 (a.2.2.1 _ ⟨b, b0, b1, rfl⟩ k k0 k1 i i0 i1)))
    · obtain ⟨q1, q2⟩ := wb.2.2.1.2 k k0 k1
      rw [q1]; exact (u2 k k0 k1).fne v b0 b1 q2
theorem SNG.fne (h : SNG P la) (v : FNE P Q la) : SNG Q la := by
  obtain ⟨z, w⟩ := v
  have ph : ∀ b k : Int, 0 ≤ b → b < P.lz la → 0 ≤ k → k < Q.lz (Q.bp (Q.el la b)) → k < P.lz (P.bp (P.el la b)) ∧ Q.pt (Q.el (Q.bp (Q.el la b)) k) = P.pt (P.el (P.bp (P.el la b)) k) := fun b k b0 b1 k0 k1 => by
    obtain ⟨eb, wb⟩ := w b b0 b1
    rw [eb, wb.1.1, wb.2.1.1] at k1
    have q := wb.2.1.2 k k0 k1
    exact ⟨k1, by rw [eb, wb.1.1, q.1]; exact q.2.1 0⟩
  have rw9 : ∀ b k : Int, 0 ≤ b → b < P.lz la → 0 ≤ k → k < Q.lz (Q.br (Q.el la b)) → k < P.lz (P.br (P.el la b)) ∧ Q.rt (Q.el (Q.br (Q.el la b)) k) = P.rt (P.el (P.br (P.el la b)) k) ∧ Q.ro (Q.el (Q.br (Q.el la b)) k) = P.ro (P.el (P.br (P.el la b)) k) := fun b k b0 b1 k0 k1 => by
    obtain ⟨eb, wb⟩ := w b b0 b1
    rw [eb, wb.1.2.1, wb.2.2.1.1] at k1
    have q := wb.2.2.1.2 k k0 k1
    exact ⟨k1, by rw [eb, wb.1.2.1, q.1]; exact q.2 1, by rw [eb, wb.1.2.1, q.1]; exact q.2 0⟩
  refine ⟨fun b c j k b0 b1 c0 c1 j0 j1 k0 k1 e => ?_, fun b c j k b0 b1 c0 c1 j0 j1 k0 k1 s t e => ?_, fun b c j k b0 b1 c0 c1 j0 j1 k0 k1 t e => ?_⟩ <;> rw [z] at b1 c1
  · obtain ⟨j2, ej⟩ := ph b j b0 b1 j0 j1
    obtain ⟨k2, ek⟩ := ph c k c0 c1 k0 k1
    rw [ej, ek] at e
    exact h.1 b c j k b0 b1 c0 c1 j0 j2 k0 k2 e
  · obtain ⟨j2, ej, oj⟩ := rw9 b j b0 b1 j0 j1
    obtain ⟨k2, ek, ok⟩ := rw9 c k c0 c1 k0 k1
    rw [ej, ek] at e
    rw [oj] at s
    rw [ok] at t
    exact h.2.1 b c j k b0 b1 c0 c1 j0 j2 k0 k2 s t e
  · obtain ⟨j2, ej⟩ := ph b j b0 b1 j0 j1
    obtain ⟨k2, ek, ok⟩ := rw9 c k c0 c1 k0 k1
    rw [ej, ek] at e
    rw [ok] at t
    exact h.2.2 b c j k b0 b1 c0 c1 j0 j2 k0 k2 t e
theorem CMP.fne (h : CMP P la) (v : FNE P Q la) (z1 : 0 < P.lz la) : CMP Q la := by
  obtain ⟨z, w⟩ := v
  obtain ⟨e0, w0⟩ := w 0 (by omega) z1
  refine ⟨by rw [e0, w0.1.1, w0.2.1.1]; exact h.1, fun b b0 b1 => ?_, fun p b p0 p1 b0 b1 n g i i0 i1 => ?_⟩
  · rw [z] at b1
    obtain ⟨eb, wb⟩ := w b b0 b1
    have e : Q.ro (P.be (P.el la b)) = P.ro (P.be (P.el la b)) := wb.2.2.2 0
    rw [eb, wb.1.1, wb.2.1.1, wb.1.2.2.1, e]; exact h.2.1 b b0 b1
  · rw [z] at p1 b1
    obtain ⟨eb, wb⟩ := w b b0 b1
    obtain ⟨ep, wp⟩ := w p p0 p1
    have e : Q.ro (P.be (P.el la p)) = P.ro (P.be (P.el la p)) := wp.2.2.2 0
    rw [eb, wb.1.1, wb.2.1.1] at i1
    rw [ep, wp.1.2.2.1, e] at n
    rw [ep, wp.1.2.2.1, e, wp.1.2.2.2.1, wp.1.2.2.2.2] at g
    obtain ⟨k, k0, k1, k2⟩ := h.2.2 p b p0 p1 b0 b1 n g i i0 i1
    have q := wb.2.1.2 i i0 i1
    have n1 : Q.pn (P.el (P.bp (P.el la b)) i) = P.pn (P.el (P.bp (P.el la b)) i) := q.2.1 1
    rw [eb, wb.1.1, q.1]
    exact ⟨k, k0, by rw [n1]; exact k1, by rw [q.2.2.1.1, q.2.2.2.1]; exact k2⟩
end AVL9
