/-! loops: ways, rows that set nothing, and what the lists of a function may still come to cost -/
section GAP9
variable {L L' : List Nat} {P P1 Q R : PO} {cO cI cZ : ClassId} {ed la l l0 q0 x : Nat} {c d j p : Int} {E : List Nat}
theorem RSB.mvd (h : MVD L P L' Q la c j p x) (a : ALP L P cO cI cZ ed la) : RSB P Q la := fun b k b0 b1 k0 k1 o => by
  rw [h.2.1.1] at b1
  have w := h.row a b0 b1 k0 k1
  refine ⟨_, _, w.1, w.2.1, w.2.2, ?_⟩
  rw [w.2.2] at o
  rw [show Q.ro _ = P.ro _ from h.rown a w.1.1 w.1.2 w.2.1.1 w.2.1.2 0] at o
  exact o
/-- ways as before, no more IFs and PHIs, rows that set nothing as before -/
def EWR (P Q : PO) (la : Nat) : Prop := EDY P Q la ∧ WYR P Q la ∧ RSB P Q la
theorem EWR.refl (P : PO) (la : Nat) : EWR P P la := ⟨EDY.refl _ _, WYR.refl _ _, RSB.refl _ _⟩
theorem EWR.trans (h : EWR P Q la) (k : EWR Q R la) (a : ALP L R cO cI cZ ed la) : EWR P R la := ⟨h.1.trans k.1, h.2.1.trans k.2.1 a, h.2.2.trans k.2.2⟩
theorem EWR.fne (v : FNE P Q la) : EWR P Q la := ⟨v.edy, WYR.fne v, RSB.fne v⟩
theorem EWR.mvd (h : MVD L P L' Q la c j p x) (a : ALP L P cO cI cZ ed la) : EWR P Q la := ⟨h.edy a, WYR.mvd h a, RSB.mvd h a⟩
/-- what a list of ROWS of an SSA function may still cost (its row comes to 1234 at most) -/
def GC9 (c : Int) : Int := if c ≤ 1234 then 3690 - LVS c else 0
def PO.gap (P : PO) (la : Nat) : Int := sumI (fun i => GC9 (P.cap (P.br (P.el la i)))) (P.lz la).toNat
theorem GC9.grow {c : Int} (h : LVC c) (k : c ≤ 1200) (c0 : 0 < c) : LVS (c + c / 2) + GC9 (c + c / 2) = LVS c + GC9 c := by
  unfold LVC at h
  rcases h with e | e | e | e | e | e | e | e | e | e | e | e | e | e | e | e | e | e <;> first | omega | (subst e; decide)
theorem GC9.top {c : Int} (h : LVC c) : 0 ≤ GC9 c ∧ GC9 c ≤ 3690 := by
  unfold LVC at h
  rcases h with e | e | e | e | e | e | e | e | e | e | e | e | e | e | e | e | e | e <;> (subst e; decide)
theorem GC9.put (r : GL1 x q0 L P L' Q) (a : ADC L P cO ed x) (h : LVC (P.cap x)) (z : P.lz x ≤ 1200) (g : P.fl x = 1 → (Q.an (Q.le x) = P.an (P.le x) ∧ P.lz x ≠ P.an (P.le x)) ∨ (P.lz x = P.an (P.le x) ∧ (Q.an (Q.le x) : Int) = P.an (P.le x) + (P.an (P.le x) : Int) / 2)) (n : P.fl x ≠ 1 → Q.an (Q.le x) = 10) : LVS (Q.cap x) + GC9 (Q.cap x) = LVS (P.cap x) + GC9 (P.cap x) := by
  have cq := (Q.cap_spec x).1 (show Q.fl x = 1 from r.1.2.2.2.2.2.2.2.2)
  by_cases f : P.fl x = 1
  · have cp := (P.cap_spec x).1 f
    rcases g f with v | v
    · rw [cq, cp, v.1]
    · rw [cq, v.2, ← cp]
      have := a.pos f
      exact GC9.grow h (by omega) (by omega)
  · rw [cq, (P.cap_spec x).2 f, n f]
    decide
theorem gap_nn (v : LVA L P) (a : ALP L P cO cI cZ ed la) : 0 ≤ P.gap la ∧ P.gap la ≤ 1107000 := by
  have w : ∀ i : Int, 0 ≤ i → i < P.lz la → 0 ≤ GC9 (P.cap (P.br (P.el la i))) ∧ GC9 (P.cap (P.br (P.el la i))) ≤ 3690 := fun i i0 i1 => by
    have ib := a.inb ⟨i, i0, i1, rfl⟩
    exact GC9.top (v _ ib.2.1.1 ib.2.1.2.1).1
  have z := a.lok.2.2.1
  have z3 := a.1.1.2.1
  have h1 := sumI_cle (f := fun i => GC9 (P.cap (P.br (P.el la i)))) (c := 3690) (P.lz la).toNat (fun i i0 i1 => (w i i0 (by omega)).2)
  have h2 := sumI_cle (f := fun i => - GC9 (P.cap (P.br (P.el la i)))) (c := 0) (P.lz la).toNat (fun i i0 i1 => by have := (w i i0 (by omega)).1; show - _ ≤ (0 : Int); omega)
  have h3 : ∀ n : Nat, sumI (fun i => - GC9 (P.cap (P.br (P.el la i)))) n = - sumI (fun i => GC9 (P.cap (P.br (P.el la i)))) n := fun n => by
    induction n with
    | zero => rfl
    | succ n ih => unfold sumI; rw [ih]; omega
  rw [h3] at h2
  unfold PO.gap
  omega
/-- a row goes out of one list and to the end of another -/
theorem gap_mv (a : ALP L P cO cI cZ ed la) (a1 : ALP L P1 cO cI cZ ed la) (e1 : P1.2.1 = P.2.1) (v : GL1 l0 q0 L P1 L' Q) (m0 : l0 ∈ L) (k0 : P1.kd l0 = 30) (fx : P1.fl l0 = 1 ∨ P1.le l0 ∉ L) (ke : KEP E L P L' Q la) (p0 : 0 ≤ p) (p1 : p < P.lz la) (el : P.br (P.el la p) = l0) (g : LVS (Q.cap l0) + GC9 (Q.cap l0) = LVS (P1.cap l0) + GC9 (P1.cap l0)) : Q.gap la + LVS (Q.cap l0) = P.gap la + LVS (P.cap l0) := by
  rw [cap_same e1] at g
  have s := (a.sums (g := fun y => GC9 (P.cap y)) (g' := fun y => GC9 (Q.cap y)) (d := GC9 (Q.cap l0) - GC9 (P.cap l0)) ke ⟨p, p0, p1, rfl⟩ 2 (Or.inr rfl) el (by show GC9 (Q.cap l0) = GC9 (P.cap l0) + (GC9 (Q.cap l0) - GC9 (P.cap l0)); omega) (fun y m k n => by
    show GC9 (Q.cap y) = GC9 (P.cap y)
    rw [v.cap a1 m0 k0 fx m (by unfold PO.kd; rw [e1]; exact k) n, cap_same e1])).1
  unfold PO.gap
  have s2 : sumI (fun i => GC9 (Q.cap (Q.br (Q.el la i)))) (Q.lz la).toNat = sumI (fun i => GC9 (P.cap (P.br (P.el la i)))) (P.lz la).toNat + (GC9 (Q.cap l0) - GC9 (P.cap l0)) := s
  omega
theorem gap_ext (e : EXT9 L P L' Q) (a : ALP L P cO cI cZ ed la) : Q.gap la = P.gap la := by
  have s := a.sum0 (g := fun y => GC9 (P.cap y)) (g' := fun y => GC9 (Q.cap y)) (E := []) (e.kep a) (fun y m k _ => by show GC9 (Q.cap y) = GC9 (P.cap y); rw [e.cap a.2.1.1 m k]) 2 (Or.inr rfl)
  exact s
theorem gap_chx {k : Nat} (c : CHX k L P L' Q) (a : ALP L P cO cI cZ ed la) (hk : 43 ≤ k) : Q.gap la = P.gap la := gap_ext (c.ext hk) (a.sub (CHX.low L P))
end GAP9
/-- what Flow's rows may still cost, for functions of at most 180 blocks -/
def TBC (n : Nat) : Nat := if n < 180 then (92701 + 1002 * (300 - (n : Int))).toNat else 0
theorem TBC.lt {n : Nat} (h : n < 180) : (TBC n : Int) = 92701 + 1002 * (300 - (n : Int)) := by
  unfold TBC
  rw [if_pos h]
  omega
theorem TBC.ge {n : Nat} (h : ¬ n < 180) : TBC n = 0 := by
  unfold TBC
  rw [if_neg h]
