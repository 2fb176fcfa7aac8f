/-! what does not look at the order of the operands of PHIs -/
/-- bounds of a function's blocks -/
def LBX (P : PO) (la : Nat) (B R : Int) : Prop := ∀ x : Nat, INB P la x → P.lz (P.bp x) ≤ B ∧ P.lz (P.br x) ≤ R ∧ ∀ j : Int, 0 ≤ j → j < P.lz (P.bp x) → P.pn (P.el (P.bp x) j) ≤ 60
section SRT7
variable {L : List Nat} {P Q R : PO} {cO cI cZ : ClassId} {ed la x : Nat} {B Z : Int}
theorem SRT.eq (s : SRT L P Q) : ∃ d : Nat → Int → Int, Q = (P.1, P.2.1, P.2.2.1, d, P.2.2.2.2) := ⟨Q.2.2.2.1, by
  obtain ⟨⟨e1, e2, e3, e4⟩, _⟩ := s
  rw [← e1, ← e2, ← e3, ← e4]⟩
theorem LBX.srt (h : LBX P la B Z) (s : SRT L P Q) : LBX Q la B Z := by
  obtain ⟨d, rfl⟩ := s.eq
  exact h
theorem PLF.srt (h : PLF P la) (s : SRT L P Q) : PLF Q la := by
  obtain ⟨d, rfl⟩ := s.eq
  exact h
theorem GN0.srt (h : GN0 P la) (s : SRT L P Q) : GN0 Q la := by
  obtain ⟨d, rfl⟩ := s.eq
  exact h
theorem EWR.srt (s : SRT L P Q) : EWR P Q la := by
  obtain ⟨d, rfl⟩ := s.eq
  exact EWR.refl P la
theorem CMP.srt (h : CMP P la) (s : SRT L P Q) (al : ALP L P cO cI cZ ed la) : CMP Q la := by
  have r := s.2
  have kp : ∀ b i : Int, 0 ≤ b → b < P.lz la → 0 ≤ i → i < P.lz (P.bp (P.el la b)) → PRM P Q (P.el (P.bp (P.el la b)) i) := fun b i b0 b1 i0 i1 => r _ (al.kphi b0 b1 i0 i1).1 (al.kphi b0 b1 i0 i1).2
  obtain ⟨d, rfl⟩ := s.eq
  exact ⟨h.1, h.2.1, fun p b p0 p1 b0 b1 u v i i0 i1 => (kp b i b0 b1 i0 i1).hpp rfl rfl (h.2.2 p b p0 p1 b0 b1 u v i i0 i1)⟩
theorem LBX.lbd (h : LBX P la B Z) (b : INB P la x) : P.lz (P.bp x) ≤ B ∧ P.lz (P.br x) ≤ Z ∧ ∀ j : Int, 0 ≤ j → j < P.lz (P.bp x) → P.pn (P.el (P.bp x) j) ≤ 60 := h x b
end SRT7
