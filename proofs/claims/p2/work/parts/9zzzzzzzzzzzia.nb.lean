/-! what a function keeps when its registers become others -/
section SSK9
variable {P Q P' : PO} {la x z : Nat} {g : Int → Int} {b i j k r : Int} {L L' : List Nat} {cO cI cZ : ClassId} {ed : Nat}
theorem ALP.fnx (h : ALP L P cO cI cZ ed la) (c : EXT9 L P L' P') : FNE P P' la := by
  have el : ∀ (q l : Nat) (i : Int), LOK L P cO q l → 0 ≤ i → i < P.lz l → P'.el l i = P.el l i := fun q l i lk i0 i1 => by
    have le : P'.le l = P.le l := (c l lk.1).2.2.1 1
    have oa := (c _ (lk.row i0 i1).1).2.2.2.1
    unfold PO.el
    rw [le, oa]
  refine ⟨(c la h.lok.1).2.1 0, fun b b0 b1 => ⟨el 12 la b h.lok b0 b1, ?_⟩⟩
  have bk := h.inb ⟨b, b0, b1, rfl⟩
  have s := c _ bk.1.1
  refine ⟨⟨s.2.2.1 1, s.2.2.1 2, s.2.2.1 3, s.2.1 0, s.2.1 1⟩, ⟨(c _ bk.2.2.1.1).2.1 0, fun k k0 k1 => ⟨el 15 _ k bk.2.2.1 k0 k1, ?_⟩⟩, ⟨(c _ bk.2.1.1).2.1 0, fun k k0 k1 => ⟨el 17 _ k bk.2.1 k0 k1, (c _ (bk.2.1.2.2.2.2 k k0 k1).2.1).2.1⟩⟩, (c _ bk.2.2.2.1.1).2.1⟩
  have q := (bk.2.2.1.2.2.2.2 k k0 k1).2
  have w := h.pik q.1 q.2
  have t := c _ q.1
  exact ⟨t.2.1, ⟨t.2.2.1 1, t.2.2.1 2, t.2.2.1 3⟩, (c _ w.2.1.1).2.2.2.2.1, (c _ w.2.2.1.1).2.2.2.2.1, (c _ w.2.2.2.1.1).2.2.2.2.1⟩
theorem VST.kd (h : VST P la i j r z) (a : ALP L P cO cI cZ ed la) : P.kd z = 15 ∨ P.kd z = 17 := by
  rcases h with ⟨c, m, c0, c1, k0, k1, e, q⟩ | ⟨c, m, c0, c1, k0, k1, e, q⟩ | ⟨c, c0, c1, e, q⟩
  · rw [e]; exact Or.inl (a.kphi c0 c1 k0 k1).2
  · rw [e]; exact Or.inr (a.krow c0 c1 k0 k1).2
  · rw [e]; exact Or.inr (a.kend c0 c1).2.1
/-- the structure of a block stays -/
theorem UNV.blk (h : UNV P Q (VST P la i j r)) (a : ALP L P cO cI cZ ed la) (b0 : 0 ≤ b) (b1 : b < P.lz la) : Q.el la b = P.el la b ∧ (Q.bp (P.el la b) = P.bp (P.el la b) ∧ Q.br (P.el la b) = P.br (P.el la b) ∧ Q.be (P.el la b) = P.be (P.el la b)) ∧ (Q.bf (P.el la b) = P.bf (P.el la b) ∧ Q.bs (P.el la b) = P.bs (P.el la b)) ∧ Q.lz (P.bp (P.el la b)) = P.lz (P.bp (P.el la b)) ∧ Q.lz (P.br (P.el la b)) = P.lz (P.br (P.el la b)) := by
  have bk := a.inb ⟨b, b0, b1, rfl⟩
  have nv : ¬ VST P la i j r (P.el la b) := fun q => by
    have k := q.kd a
    rw [bk.1.2] at k
    omega
  exact ⟨h.el _ _, ⟨h.bp _, h.br _, h.be _⟩, ⟨h.2.1 _ nv 0, h.2.1 _ nv 1⟩, h.1.2.2 _ bk.2.2.1.2.1, h.1.2.2 _ bk.2.1.2.1⟩
theorem NDR.unv (n : NDR P la) (h : UNV P Q (VST P la i j r)) (a : ALP L P cO cI cZ ed la) : NDR Q la := by
  have z : Q.lz la = P.lz la := h.1.2.2 _ a.lok.2.1
  refine ⟨fun b c j k b0 b1 c0 c1 j0 j1 k0 k1 e => ?_, fun b c j k b0 b1 c0 c1 j0 j1 k0 k1 e => ?_, fun b c b0 b1 c0 c1 e => ?_⟩ <;> rw [z] at b1 c1 <;> obtain ⟨eb, wb, _, ub⟩ := h.blk a b0 b1 <;> obtain ⟨ec, wc, _, uc⟩ := h.blk a c0 c1
  · rw [eb, wb.2.1, ub.2] at j1
    rw [ec, wc.2.1, uc.2] at k1
    rw [eb, ec, wb.2.1, wc.2.1, h.el, h.el] at e
    exact n.1 b c j k b0 b1 c0 c1 j0 j1 k0 k1 e
  · rw [eb, wb.1, ub.1] at j1
    rw [ec, wc.1, uc.1] at k1
    rw [eb, ec, wb.1, wc.1, h.el, h.el] at e
    exact n.2.1 b c j k b0 b1 c0 c1 j0 j1 k0 k1 e
  · rw [eb, ec, wb.2.2, wc.2.2] at e
    exact n.2.2 b c b0 b1 c0 c1 e
/-- all of the function -/
theorem VST.aphi9 (b0 : 0 ≤ b) (b1 : b < P.lz la) (k0 : 0 ≤ k) (k1 : k < P.lz (P.bp (P.el la b))) : VST P la (P.lz la) 0 0 (P.el (P.bp (P.el la b)) k) := Or.inl ⟨b, k, b0, b1, k0, k1, rfl, Or.inl b1⟩
theorem VST.arow9 (b0 : 0 ≤ b) (b1 : b < P.lz la) (k0 : 0 ≤ k) (k1 : k < P.lz (P.br (P.el la b))) : VST P la (P.lz la) 0 0 (P.el (P.br (P.el la b)) k) := Or.inr (Or.inl ⟨b, k, b0, b1, k0, k1, rfl, Or.inl b1⟩)
theorem VST.aend9 (b0 : 0 ≤ b) (b1 : b < P.lz la) : VST P la (P.lz la) 0 0 (P.be (P.el la b)) := Or.inr (Or.inr ⟨b, b0, b1, rfl, b1⟩)
theorem SETR.unv (s : SETR P la r) (h : UNV P Q (VST P la (P.lz la) 0 0)) (d : DON P Q g (VST P la (P.lz la) 0 0)) (a : ALP L P cO cI cZ ed la) : SETR Q la (g r) := by
  have z : Q.lz la = P.lz la := h.1.2.2 _ a.lok.2.1
  rcases s with ⟨b, k, b0, b1, k0, k1, e⟩ | ⟨b, k, b0, b1, k0, k1, s, e⟩
  · obtain ⟨eb, wb, _, ub⟩ := h.blk a b0 b1
    have q := (d _ (VST.aphi9 b0 b1 k0 k1)).2 (a.kphi b0 b1 k0 k1).2
    refine Or.inl ⟨b, k, b0, by rw [z]; exact b1, k0, ?_, ?_⟩
    · rw [eb, wb.1, ub.1]; exact k1
    · rw [eb, wb.1, h.el, q.2.1, e]
  · obtain ⟨eb, wb, _, ub⟩ := h.blk a b0 b1
    have q := (d _ (VST.arow9 b0 b1 k0 k1)).1 (a.krow b0 b1 k0 k1).2
    refine Or.inr ⟨b, k, b0, by rw [z]; exact b1, k0, ?_, ?_, ?_⟩
    · rw [eb, wb.2.1, ub.2]; exact k1
    · rw [eb, wb.2.1, h.el, q.1.1]; exact s
    · rw [eb, wb.2.1, h.el, q.2.2.2.2 s, e]
theorem URW.unv (u : URW P la x) (q : RNR P Q g x) (h : UNV P Q (VST P la (P.lz la) 0 0)) (d : DON P Q g (VST P la (P.lz la) 0 0)) (a : ALP L P cO cI cZ ed la) : URW Q la x := by
  obtain ⟨⟨q0, q4, q5⟩, qa, qb, _⟩ := q
  unfold URW
  rw [q0, q4, q5]
  constructor
  · by_cases e : rUsA (P.ro x) (P.rA x) = 0
    · exact Or.inl e
    · rcases u.1 with w | w
      · exact absurd w e
      · rw [qa.2 e]; exact Or.inr (w.unv h d a)
  · by_cases e : rUsB (P.ro x) (P.rB x) = 0
    · exact Or.inl e
    · rcases u.2 with w | w
      · exact absurd w e
      · rw [qb.2 e]; exact Or.inr (w.unv h d a)
theorem USD.unv (u : USD P la) (h : UNV P Q (VST P la (P.lz la) 0 0)) (d : DON P Q g (VST P la (P.lz la) 0 0)) (a : ALP L P cO cI cZ ed la) : USD Q la := fun b b0 b1 => by
  rw [h.1.2.2 _ a.lok.2.1] at b1
  obtain ⟨eb, wb, _, ub⟩ := h.blk a b0 b1
  obtain ⟨u1, u2, u3, u4⟩ := u b b0 b1
  rw [eb, wb.1, wb.2.1, wb.2.2, ub.1, ub.2]
  have qe := (d _ (VST.aend9 b0 b1)).1 (a.kend b0 b1).2.1
  refine ⟨fun k k0 k1 i i0 i1 => ?_, fun k k0 k1 => ?_, u3.unv qe h d a, by rw [qe.1.1]; exact u4⟩
  · have q := (d _ (VST.aphi9 b0 b1 k0 k1)).2 (a.kphi b0 b1 k0 k1).2
    rw [h.el] at i1 ⊢
    rw [q.1] at i1
    obtain ⟨_, e2, e3, _⟩ := q.2.2 i i0 i1
    rw [h.pr, h.pu, e2]
    by_cases e : P.ia (P.pr (P.el (P.bp (P.el la b)) k)) i = 0
    · exact Or.inl e
    · rcases u1 k k0 k1 i i0 i1 with w | w
      · exact absurd w e
      · rw [(e3 i1).2 e]; exact Or.inr (w.unv h d a)
  · rw [h.el]
    exact (u2 k k0 k1).unv ((d _ (VST.arow9 b0 b1 k0 k1)).1 (a.krow b0 b1 k0 k1).2) h d a
theorem ALR.unv (n : ALR P la) (h : UNV P Q (VST P la (P.lz la) 0 0)) (d : DON P Q g (VST P la (P.lz la) 0 0)) (a : ALP L P cO cI cZ ed la) : ALR Q la := fun b b0 b1 => by
  rw [h.1.2.2 _ a.lok.2.1] at b1
  have key := n b b0 b1 (fun c => RCH Q la (-1) c ∧ 0 ≤ c ∧ c < P.lz la) (fun _ => ⟨RCH.zero (by decide), by omega, by omega⟩) (fun p q s e ne => by
    obtain ⟨eb, wb, fb, ub⟩ := h.blk a s.2.1 s.2.2
    have qe := (d _ (VST.aend9 s.2.1 s.2.2)).1 (a.kend s.2.1 s.2.2).2.1
    have bk := (a.inb ⟨p, s.2.1, s.2.2, rfl⟩).2.2.2.2
    obtain ⟨k, k0, k1, k2⟩ := e
    have rw9 := rWay_spec (P.bf (P.el la p)) (P.bs (P.el la p)) k
    refine ⟨s.1.step ⟨k, k0, ?_, ?_⟩ ne, by omega, by omega⟩
    · rw [eb, wb.2.2, qe.1.1, fb.1, fb.2]; exact k1
    · rw [eb, fb.1, fb.2]; exact k2)
  exact key.1
theorem NST.unv (h : UNV P Q (VST P la (P.lz la) 0 0)) (d : DON P Q g (VST P la (P.lz la) 0 0)) (a : ALP L P cO cI cZ ed la) : NST Q la = NST P la := by
  unfold NST
  rw [h.1.2.2 _ a.lok.2.1]
  refine sumI_eq (fun b b0 b1 => ?_)
  have b2 : b < P.lz la := by omega
  obtain ⟨eb, wb, _, ub⟩ := h.blk a b0 b2
  unfold WSB
  rw [eb, wb.1, wb.2.1, ub.1, ub.2]
  have e : CSR Q (P.el la b) (P.lz (P.br (P.el la b))) = CSR P (P.el la b) (P.lz (P.br (P.el la b))) := sumI_eq (fun k k0 k1 => by
    have k2 : k < P.lz (P.br (P.el la b)) := by omega
    have q := (d _ (VST.arow9 b0 b2 k0 k2)).1 (a.krow b0 b2 k0 k2).2
    rw [wb.2.1, h.el, q.1.1])
  rw [e]
end SSK9
