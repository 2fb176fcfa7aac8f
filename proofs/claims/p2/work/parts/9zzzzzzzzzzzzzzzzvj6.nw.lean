/-! what has come with a row or a PHI of a Code: it and rows of numbers or of objects -/
section NWO9
variable {L L' Lm : List Nat} {P P' Pm : PO} {cO cI cZ : ClassId} {ed x l q y : Nat}
def NWO (x : Nat) (L : List Nat) (P : PO) (L' : List Nat) (P' : PO) : Prop := ∀ z : Nat, z ∈ L' → (z ∈ L → P'.kd z = P.kd z) ∧ (z ∉ L → z = x ∨ 31 ≤ P'.kd z)
/-- a list's row is as it was, or it is the first, or it was full -/
def LGW (l : Nat) (P P' : PO) : Prop := P'.cap l = P.cap l ∨ P'.cap l = 10 ∨ (P.lz l = P.cap l ∧ P'.cap l = P.cap l + P.cap l / 2)
def NWP (x l : Nat) (L : List Nat) (P : PO) (L' : List Nat) (P' : PO) : Prop := NWO x L P L' P' ∧ (x ∈ L → P'.pp x = P.pp x) ∧ (x ∉ L → P'.an (P'.pp x) = 4) ∧ LGW l P P'
theorem LGW.of (g : GL1 l q L P L' P') (a : P.fl l = 1 → (P'.an (P'.le l) = P.an (P.le l) ∧ P.lz l ≠ P.an (P.le l)) ∨ (P.lz l = P.an (P.le l) ∧ (P'.an (P'.le l) : Int) = P.an (P.le l) + (P.an (P.le l) : Int) / 2)) (b : P.fl l ≠ 1 → P'.an (P'.le l) = 10) : LGW l P P' := by
  have f' : P'.fl l = 1 := g.1.2.2.2.2.2.2.2.2
  unfold LGW PO.cap
  rw [if_pos f']
  by_cases f : P.fl l = 1
  · rw [if_pos f]
    rcases a f with q | q
    · exact Or.inl (by rw [q.1])
    · exact Or.inr (Or.inr ⟨q.1, q.2⟩)
  · exact Or.inr (Or.inl (by rw [b f]; rfl))
theorem LGW.to {P1 P9 : PO} (h : LGW l P P') (c : P.cap l = P1.cap l) (z : P.lz l = P1.lz l) (c' : P9.cap l = P'.cap l) : LGW l P1 P9 := by unfold LGW at *; omega
theorem NWO.rw (e : P'.2 = P.2) : NWO x L P L P' := fun z m => ⟨fun _ => by unfold PO.kd; rw [e], fun n => absurd m n⟩
theorem NWO.rw2 (h : NWO x L P L' Pm) (e : P'.2 = Pm.2) : NWO x L P L' P' := fun z m => by
  have k : P'.kd z = Pm.kd z := by unfold PO.kd; rw [e]
  rw [k]; exact h z m
theorem NWO.ext (h : EXT9 L P L' P') (n : ∀ z : Nat, z ∈ L' → z ∉ L → z = x ∨ 31 ≤ P'.kd z) : NWO x L P L' P' := fun z m => ⟨fun m0 => (h z m0).2.2.1 0, n z m⟩
theorem NWO.gl (h : NWO x L P Lm Pm) (s : ∀ z : Nat, z ∈ L → z ∈ Lm) (o : OWA Lm Pm cO ed) (g : GL1 l q Lm Pm L' P') (ml : l ∈ Lm) (kl : Pm.kd l = 30) (fx : Pm.fl l = 1 ∨ Pm.le l ∉ Lm) : NWO x L P L' P' := fun z m => by
  have kq : P'.kd q = 31 := g.1.2.2.2.2.1
  have kl' : P'.kd l = 30 := g.1.2.2.1
  by_cases e1 : z = l
  · rw [e1]
    refine ⟨fun m0 => ?_, fun n0 => ?_⟩
    · rw [kl', ← (h l ml).1 m0, kl]
    · rcases (h l ml).2 n0 with a | a
      · exact Or.inl a
      · rw [kl] at a; omega
  by_cases e2 : z = q
  · rw [e2]
    refine ⟨fun m0 => ?_, fun _ => Or.inr (by rw [kq]; decide)⟩
    have mq := s q m0
    have eq9 := g.2.2.2.2 mq
    have f1 : Pm.fl l = 1 := by
      rcases fx with f | f
      · exact f
      · exact absurd (by rw [← eq9]; exact mq) f
    have k31 := ((o l ml kl).2 f1).2.1
    rw [← eq9] at k31
    rw [kq, ← (h q mq).1 m0, k31]
  · have mm : z ∈ Lm := by
      rcases g.2.2.1 z m with a | a | a
      · exact absurd a e1
      · exact absurd a e2
      · exact a
    have k : P'.kd z = Pm.kd z := (g.2.2.2.1 z e1 e2).2.1 0
    rw [k]; exact h z mm
theorem NWP.rw (e : P'.2 = P.2) (m : x ∈ L) : NWP x l L P L P' := ⟨NWO.rw e, fun _ => by unfold PO.pp; rw [e], fun n => absurd m n, Or.inl (by unfold PO.cap PO.fl PO.an PO.le; rw [e])⟩
theorem NWP.an4 (G : GLR Lm Pm cO cI cZ ed) (g : GL1 l q Lm Pm L' P') (ml : l ∈ Lm) (kl : Pm.kd l = 30) (fx : Pm.fl l = 1 ∨ Pm.le l ∉ Lm) (my : y ∈ Lm) (ky : Pm.kd y = 15) (a : Pm.an (Pm.pp y) = 4) {P9 : PO} (e : P9.2 = P'.2) : P9.an (P9.pp y) = 4 := by
  have p := G.pikR my ky
  have s1 := g.sm y my (fun e => by rw [e] at ky; omega) (G.owa.nle ml kl fx my (by omega))
  have s2 := g.sm (Pm.pp y) p.2.1.1 (fun e => by have k := p.2.1.2.1; rw [e] at k; omega) (G.owa.nle ml kl fx p.2.1.1 (by rw [p.2.1.2.1]; decide))
  have t1 : P9.pp y = Pm.pp y := by show P9.2.1 1 y = Pm.2.1 1 y; rw [e]; exact s1.2.1 1
  rw [t1]
  show P9.2.1 1 (Pm.pp y) = 4
  rw [e, show P'.2.1 1 (Pm.pp y) = Pm.2.1 1 (Pm.pp y) from s2.2.1 1]; exact a
end NWO9
