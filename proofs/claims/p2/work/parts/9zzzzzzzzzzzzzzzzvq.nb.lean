/-! what has come with a block of a Code; how long its lists' rows are -/
section NBK9
variable {L L' L1 L2 Lm : List Nat} {P P' P1 P2 Pm : PO} {X Y : Nat → Prop} {cO cI cZ : ClassId} {ed x l q y la lb : Nat}
def NBS (X : Nat → Prop) (L : List Nat) (P : PO) (L' : List Nat) (P' : PO) : Prop := (∀ z : Nat, z ∈ L → z ∈ L' ∨ P.kd z = 31) ∧ ∀ z : Nat, z ∈ L' → (z ∈ L → P'.kd z = P.kd z) ∧ (z ∉ L → X z ∨ 31 ≤ P'.kd z)
theorem NBS.refl (X : Nat → Prop) (L : List Nat) (P : PO) : NBS X L P L P := ⟨fun _ m => Or.inl m, fun z m => ⟨fun _ => rfl, fun n => absurd m n⟩⟩
theorem NBS.ext1 (e : EXT9 L P L' P') (n : ∀ z : Nat, z ∈ L' → z ∉ L → X z) : NBS X L P L' P' := ⟨fun z m => Or.inl (e z m).1, fun z m => ⟨fun m0 => (e z m0).2.2.1 0, fun k => Or.inl (n z m k)⟩⟩
theorem NBS.ext2 (h : NBS X L P Lm Pm) (s : EXT9 L P Lm Pm) (e : EXT9 Lm Pm L' P') (n : ∀ z : Nat, z ∈ L' → z ∉ Lm → X z) : NBS X L P L' P' := by
  refine ⟨fun z m => Or.inl (e z (s z m).1).1, fun z m => ⟨fun m0 => ?_, fun k => ?_⟩⟩
  · exact ((e z (s z m0).1).2.2.1 0).trans ((s z m0).2.2.1 0)
  · by_cases mm : z ∈ Lm
    · have kz : P'.kd z = Pm.kd z := (e z mm).2.2.1 0
      rw [kz]; exact (h.2 z mm).2 k
    · exact Or.inl (n z m mm)
theorem NBS.nat (h : NBS X L P Lm Pm) (e : P'.2.1 = Pm.2.1) : NBS X L P Lm P' := ⟨h.1, fun z m => by
  have k : P'.kd z = Pm.kd z := by unfold PO.kd; rw [e]
  rw [k]; exact h.2 z m⟩
theorem NBS.gl (h : NBS X L P Lm Pm) (o : OWA Lm Pm cO ed) (g : GL1 l q Lm Pm L' P') (ml : l ∈ Lm) (kl : Pm.kd l = 30) (fx : Pm.fl l = 1 ∨ Pm.le l ∉ Lm) : NBS X L P L' P' := by
  have kq : P'.kd q = 31 := g.1.2.2.2.2.1
  have kl' : P'.kd l = 30 := g.1.2.2.1
  have le31 : Pm.le l ∈ Lm → Pm.kd (Pm.le l) = 31 := fun m => by
    rcases fx with f | f
    · exact ((o l ml kl).2 f).2.1
    · exact absurd m f
  refine ⟨fun z m => ?_, fun z m => ?_⟩
  · rcases h.1 z m with mm | k
    · by_cases e : z = Pm.le l
      · right
        have k := le31 (by rw [← e]; exact mm)
        rw [← e] at k
        rw [← (h.2 z mm).1 m]; exact k
      · exact Or.inl (g.2.1 z mm e)
    · exact Or.inr k
  · by_cases e1 : z = l
    · rw [e1]
      refine ⟨fun m0 => ?_, fun n0 => ?_⟩
      · rw [kl', ← (h.2 l ml).1 m0, kl]
      · rcases (h.2 l ml).2 n0 with a | a
        · exact Or.inl a
        · rw [kl] at a; omega
    by_cases e2 : z = q
    · rw [e2]
      refine ⟨fun m0 => ?_, fun _ => Or.inr (by rw [kq]; decide)⟩
      rcases h.1 q m0 with mq | k
      · have eq9 := g.2.2.2.2 mq
        have k31 := le31 (by rw [← eq9]; exact mq)
        rw [← eq9] at k31
        rw [kq, ← (h.2 q mq).1 m0, k31]
      · rw [kq, k]
    · have mm : z ∈ Lm := by
        rcases g.2.2.1 z m with a | a | a
        · exact absurd a e1
        · exact absurd a e2
        · exact a
      have k : P'.kd z = Pm.kd z := (g.2.2.2.1 z e1 e2).2.1 0
      rw [k]; exact h.2 z mm
def NBK (x : Nat) (L : List Nat) (P : PO) (L' : List Nat) (P' : PO) : Prop := ∀ z : Nat, z ∈ L' → (z ∈ L → P'.kd z = P.kd z) ∧ (z ∉ L → (z = x ∨ z = P'.bp x ∨ z = P'.br x ∨ z = P'.be x) ∨ 31 ≤ P'.kd z)
theorem NBS.fin (h : NBS X L P L' P') (f : ∀ z : Nat, X z → z = x ∨ z = P'.bp x ∨ z = P'.br x ∨ z = P'.be x) : NBK x L P L' P' := fun z m => ⟨(h.2 z m).1, fun n => ((h.2 z m).2 n).imp (f z) id⟩
def CPB (la lb : Nat) (L1 : List Nat) (P1 : PO) (L' : List Nat) (P' : PO) : Prop := ∀ l : Nat, l ∈ L1 → P1.kd l = 30 → l ≠ la → l ≠ lb → (l ∈ L' ∧ P'.kd l = 30) ∧ P'.cap l = P1.cap l
theorem CPB.refl (la lb : Nat) (L : List Nat) (P : PO) : CPB la lb L P L P := fun _ m k _ _ => ⟨⟨m, k⟩, rfl⟩
theorem CPB.ext (h : CPB la lb L P Lm Pm) (o : OWA Lm Pm cO ed) (e : EXT9 Lm Pm L' P') : CPB la lb L P L' P' := fun l m k a b => by
  have r := h l m k a b
  exact ⟨⟨(e l r.1.1).1, ((e l r.1.1).2.2.1 0).trans r.1.2⟩, (e.cap o r.1.1 r.1.2).trans r.2⟩
theorem CPB.nat (h : CPB la lb L P Lm Pm) (e : P'.2.1 = Pm.2.1) : CPB la lb L P Lm P' := fun l m k a b => by
  have r := h l m k a b
  exact ⟨⟨r.1.1, by unfold PO.kd; rw [e]; exact r.1.2⟩, by rw [← r.2]; unfold PO.cap PO.fl PO.an PO.le; rw [e]⟩
theorem CPB.gl (h : CPB la lb L P Lm Pm) (o : OWA Lm Pm cO ed) (g : GL1 x q Lm Pm L' P') (e : x = la ∨ x = lb) (mx : x ∈ Lm) (kx : Pm.kd x = 30) (fx : Pm.fl x = 1 ∨ Pm.le x ∉ Lm) : CPB la lb L P L' P' := fun l m k a b => by
  have r := h l m k a b
  have n : l ≠ x := fun t => by rcases e with e | e; exact a (t.trans e); exact b (t.trans e)
  have nl := o.nle mx kx fx r.1.1 (by rw [r.1.2]; decide)
  exact ⟨⟨g.2.1 l r.1.1 nl, ((g.sm l r.1.1 n nl).2.1 0).trans r.1.2⟩, (GL1.capO o g mx kx fx r.1.1 r.1.2 n).trans r.2⟩
def CPB9 (la lb x : Nat) (L : List Nat) (P P' : PO) : Prop := (LGW la P P' ∧ LGW lb P P') ∧ (∀ l : Nat, l ∈ L → P.kd l = 30 → l ≠ la → l ≠ lb → P'.cap l = P.cap l) ∧ (x ∉ L → P'.cap (P'.bp x) = 0 ∧ P'.cap (P'.br x) = 0)
theorem CPB.old (h : CPB la lb L1 P1 L' P') (e : EXT9 L P L1 P1) (o : OWA L P cO ed) (m : l ∈ L) (k : P.kd l = 30) (a : l ≠ la) (b : l ≠ lb) : P'.cap l = P.cap l := (h l (e l m).1 (((e l m).2.2.1 0).trans k) a b).2.trans (e.cap o m k)
end NBK9
