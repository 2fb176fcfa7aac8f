/-! a function of which nothing has changed -/
/-- nothing that the function holds is in S -/
def NHD9 (S : Nat → Prop) (P : PO) (la : Nat) : Prop := (¬ S la ∧ ¬ S (P.le la)) ∧ ∀ b : Int, 0 ≤ b → b < P.lz la → (¬ S (P.el la b) ∧ ¬ S (P.be (P.el la b))) ∧ (¬ S (P.bp (P.el la b)) ∧ (0 < P.lz (P.bp (P.el la b)) → ¬ S (P.le (P.bp (P.el la b)))) ∧ ∀ k : Int, 0 ≤ k → k < P.lz (P.bp (P.el la b)) → ¬ S (P.el (P.bp (P.el la b)) k) ∧ ¬ S (P.pp (P.el (P.bp (P.el la b)) k)) ∧ ¬ S (P.pu (P.el (P.bp (P.el la b)) k)) ∧ ¬ S (P.pr (P.el (P.bp (P.el la b)) k))) ∧ ¬ S (P.br (P.el la b)) ∧ (0 < P.lz (P.br (P.el la b)) → ¬ S (P.le (P.br (P.el la b)))) ∧ ∀ k : Int, 0 ≤ k → k < P.lz (P.br (P.el la b)) → ¬ S (P.el (P.br (P.el la b)) k)
section FNC9
variable {L L' : List Nat} {P P' : PO} {cO cI cZ : ClassId} {ed la x lr : Nat} {S T : Nat → Prop}
theorem NHD9.wk (h : NHD9 S P la) (a : ALP L P cO cI cZ ed la) (l0 : 0 < P.lz la) (k : ∀ z : Nat, z ∈ L → T z → S z) : NHD9 T P la := by
  obtain ⟨⟨h1, h2⟩, h3⟩ := h
  have row : ∀ (q l : Nat), LOK L P cO q l → 0 < P.lz l → P.le l ∈ L := fun q l lk z => (lk.row (i := 0) (Int.le_refl 0) z).1
  refine ⟨⟨fun t => h1 (k _ a.lok.1 t), fun t => h2 (k _ (row 12 la a.lok l0) t)⟩, fun b b0 b1 => ?_⟩
  obtain ⟨⟨p1, p2⟩, ⟨q1, q2, q3⟩, r1, r2, r3⟩ := h3 b b0 b1
  have bk := a.inb ⟨b, b0, b1, rfl⟩
  refine ⟨⟨fun t => p1 (k _ bk.1.1 t), fun t => p2 (k _ bk.2.2.2.1.1 t)⟩, ⟨fun t => q1 (k _ bk.2.2.1.1 t), fun z t => q2 z (k _ (row 15 _ bk.2.2.1 z) t), fun j j0 j1 => ?_⟩, fun t => r1 (k _ bk.2.1.1 t), fun z t => r2 z (k _ (row 17 _ bk.2.1 z) t), fun j j0 j1 t => r3 j j0 j1 (k _ (a.krow b0 b1 j0 j1).1 t)⟩
  have kx := a.kphi b0 b1 j0 j1
  have pk := a.pik kx.1 kx.2
  obtain ⟨u1, u2, u3, u4⟩ := q3 j j0 j1
  exact ⟨fun t => u1 (k _ kx.1 t), fun t => u2 (k _ pk.2.1.1 t), fun t => u3 (k _ pk.2.2.1.1 t), fun t => u4 (k _ pk.2.2.2.1.1 t)⟩
theorem CHG.fne (c : CHG S L P L' P') (h : ALP L P cO cI cZ ed la) (l0 : 0 < P.lz la) (n : NHD9 S P la) : FNE P P' la := by
  have sm : ∀ z : Nat, z ∈ L → ¬ S z → SM9 z P P' := fun z m q => (c z m q).2
  have el : ∀ (q l : Nat) (i : Int), LOK L P cO q l → ¬ S l → (0 < P.lz l → ¬ S (P.le l)) → 0 ≤ i → i < P.lz l → P'.el l i = P.el l i := fun q l i lk s1 s2 i0 i1 => by
    have le : P'.le l = P.le l := (sm l lk.1 s1).2.1 1
    have oa := (sm _ (lk.row i0 i1).1 (s2 (by omega))).2.2.1
    unfold PO.el
    rw [le, oa]
  refine ⟨(sm la h.lok.1 n.1.1).1 0, fun b b0 b1 => ⟨el 12 la b h.lok n.1.1 (fun _ => n.1.2) b0 b1, ?_⟩⟩
  have bk := h.inb ⟨b, b0, b1, rfl⟩
  obtain ⟨⟨p1, p2⟩, ⟨q1, q2, q3⟩, r1, r2, r3⟩ := n.2 b b0 b1
  have s := sm _ bk.1.1 p1
  refine ⟨⟨s.2.1 1, s.2.1 2, s.2.1 3, s.1 0, s.1 1⟩, ⟨(sm _ bk.2.2.1.1 q1).1 0, fun k k0 k1 => ⟨el 15 _ k bk.2.2.1 q1 q2 k0 k1, ?_⟩⟩, ⟨(sm _ bk.2.1.1 r1).1 0, fun k k0 k1 => ⟨el 17 _ k bk.2.1 r1 r2 k0 k1, (sm _ (h.krow b0 b1 k0 k1).1 (r3 k k0 k1)).1⟩⟩, (sm _ bk.2.2.2.1.1 p2).1⟩
  have kx := h.kphi b0 b1 k0 k1
  have pk := h.pik kx.1 kx.2
  obtain ⟨u1, u2, u3, u4⟩ := q3 k k0 k1
  have t := sm _ kx.1 u1
  exact ⟨t.1, ⟨t.2.1 1, t.2.1 2, t.2.1 3⟩, (sm _ pk.2.1.1 u2).2.2.2.1, (sm _ pk.2.2.1.1 u3).2.2.2.1, (sm _ pk.2.2.2.1.1 u4).2.2.2.1⟩
end FNC9
