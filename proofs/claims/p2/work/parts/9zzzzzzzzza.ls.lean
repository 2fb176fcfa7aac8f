/-- what f holds, g holds too -/
def HSB (f g : Int → Int) (n : Int) : Prop := ∀ i : Int, 0 ≤ i → i < n → ∃ k : Int, 0 ≤ k ∧ k < n ∧ g k = f i
/-- .. but at j, for what is v -/
def HSH (f g : Int → Int) (n j v : Int) : Prop := ∀ i : Int, 0 ≤ i → i < n → f i = v ∨ ∃ k : Int, 0 ≤ k ∧ k < n ∧ k ≠ j ∧ g k = f i
theorem HSB.refl (f : Int → Int) (n : Int) : HSB f f n := fun i i0 i1 => ⟨i, i0, i1, rfl⟩
theorem HSB.hole {f g : Int → Int} {n : Int} (h : HSB f g n) (j : Int) : HSH f g n j (g j) := fun i i0 i1 => by
  obtain ⟨k, k0, k1, e⟩ := h i i0 i1
  by_cases q : k = j
  · exact Or.inl (by rw [← e, q])
  · exact Or.inr ⟨k, k0, k1, q, e⟩
theorem HSH.shift {f g : Int → Int} {n j v : Int} (h : HSH f g n j v) (j0 : 0 < j) (j1 : j < n) : HSH f (zup g j (g (j - 1))) n (j - 1) v := fun i i0 i1 => by
  rcases h i i0 i1 with q | ⟨k, k0, k1, kj, e⟩
  · exact Or.inl q
  · by_cases q : k = j - 1
    · exact Or.inr ⟨j, by omega, j1, by omega, by rw [zup_eq, ← q]; exact e⟩
    · exact Or.inr ⟨k, k0, k1, q, by rw [zup_ne _ _ (by omega)]; exact e⟩
theorem HSH.fill {f g : Int → Int} {n j v : Int} (h : HSH f g n j v) (j0 : 0 ≤ j) (j1 : j < n) : HSB f (zup g j v) n := fun i i0 i1 => by
  rcases h i i0 i1 with q | ⟨k, k0, k1, kj, e⟩
  · exact ⟨j, j0, j1, by rw [zup_eq]; exact q.symm⟩
  · exact ⟨k, k0, k1, by rw [zup_ne _ _ (by omega)]; exact e⟩
/-- a PHI keeps its operands' PREDs -/
def HPK (P P' : PO) (x : Nat) : Prop := ∀ p : Int, HPP P x p → HPP P' x p
/-- bounds of a function's blocks -/
def LBD (P : PO) (la : Nat) (B R : Int) : Prop := ∀ x : Nat, INB P la x → P.lz (P.bp x) ≤ B ∧ P.lz (P.br x) ≤ R ∧ ∀ j : Int, 0 ≤ j → j < P.lz (P.bp x) → P.pn (P.el (P.bp x) j) ≤ 62
section LST9
variable {L : List Nat} {P P' : PO} {la xp : Nat} {cO cI cZ : ClassId} {ed : Nat} {B R : Int}
theorem PH1.inb (w : PH1 xp P P') (k : P.kd xp = 15) (A : ALP L P cO cI cZ ed la) {x : Nat} (h : INB P' la x) : INB P la x := by
  obtain ⟨i, i0, i1, e⟩ := h
  have r := w.rwd k
  rw [r.lz A.lok.2.1] at i1
  rw [r.el] at e
  exact ⟨i, i0, i1, e⟩
theorem LBD.phi (h : LBD P la B R) (A : ALP L P cO cI cZ ed la) (w : PH1 xp P P') (k : P.kd xp = 15) (n : P'.pn xp = P.pn xp) : LBD P' la B R := fun x q => by
  have r := w.rwd k
  have q' := w.inb k A q
  obtain ⟨b1, b2, b3⟩ := h x q'
  have bx := A.inb q'
  rw [r.bp, r.br, r.lz bx.2.2.1.2.1, r.lz bx.2.1.2.1]
  refine ⟨b1, b2, fun j j0 j1 => ?_⟩
  rw [r.el]
  by_cases e : P.el (P.bp x) j = xp
  · rw [e, n, ← e]; exact b3 j j0 j1
  · rw [show P'.pn (P.el (P.bp x) j) = P.pn (P.el (P.bp x) j) from w.2.1 _ e 1]; exact b3 j j0 j1
theorem CMP.phi (h : CMP P la) (A : ALP L P cO cI cZ ed la) (w : PH1 xp P P') (k : P.kd xp = 15) (z : 1 ≤ P.lz la) (n : HPK P P' xp) : CMP P' la := by
  have r := w.rwd k
  have lz : P'.lz la = P.lz la := r.lz A.lok.2.1
  have bb : ∀ b : Int, 0 ≤ b → b < P.lz la → BOK L P cO (P.lz la) (P.el la b) := fun b b0 b1 => A.inb ⟨b, b0, b1, rfl⟩
  obtain ⟨h1, h2, h3⟩ := h
  have op : ∀ b : Int, 0 ≤ b → b < P.lz la → P'.ro (P.be (P.el la b)) = P.ro (P.be (P.el la b)) := fun b b0 b1 => w.2.1 _ (kd_ne (bb b b0 b1).2.2.2.1.2 k (by decide)) 0
  refine ⟨?_, fun b b0 b1 => ?_, fun p b p0 p1 b0 b1 u v i i0 i1 => ?_⟩
  · rw [r.el, r.bp, r.lz (bb 0 (by omega) (by omega)).2.2.1.2.1]; exact h1
  · rw [lz] at b1
    rw [r.el, r.bp, r.be, r.lz (bb b b0 b1).2.2.1.2.1, op b b0 b1]; exact h2 b b0 b1
  · rw [lz] at p1 b1
    rw [r.el, r.be, op p p0 p1] at u
    rw [r.el, r.be, op p p0 p1, r.bf (bb p p0 p1).1.2, r.bs (bb p p0 p1).1.2] at v
    rw [r.el, r.bp, r.lz (bb b b0 b1).2.2.1.2.1] at i1
    rw [r.el la, r.bp, r.el]
    have q := h3 p b p0 p1 b0 b1 u v i i0 i1
    by_cases e : P.el (P.bp (P.el la b)) i = xp
    · rw [e] at q ⊢; exact n p q
    · obtain ⟨m, m0, m1, m2⟩ := q
      have ly := (bb b b0 b1).2.2.1.2.2.2.2 i i0 i1
      have pk := A.pik ly.2.1 ly.2.2
      have e1 : P'.pp (P.el (P.bp (P.el la b)) i) = P.pp (P.el (P.bp (P.el la b)) i) := by show P'.2.1 1 _ = P.2.1 1 _; rw [w.1.1]
      have e2 := w.2.2 (P.pp (P.el (P.bp (P.el la b)) i)) (by rw [pk.2.1.2.2.2]; exact e)
      refine ⟨m, m0, by rw [show P'.pn (P.el (P.bp (P.el la b)) i) = P.pn (P.el (P.bp (P.el la b)) i) from w.2.1 _ e 1]; exact m1, ?_⟩
      rw [e1, e2]; exact m2
end LST9
