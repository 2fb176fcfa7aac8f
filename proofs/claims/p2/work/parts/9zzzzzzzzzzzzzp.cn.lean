/-! where all is closed, what is used in a block that is come to is told -/
def TDB (P : PO) (la : Nat) (A : Int → Int → Prop) (st : Int → Int) (b : Int) : Prop := (∀ r : Int, A r b → st r ≠ 0) ∧ (∀ k : Int, 0 ≤ k → k < P.lz (P.bp (P.el la b)) → st (P.pt (P.el (P.bp (P.el la b)) k)) ≠ 0) ∧ ∀ j : Int, 0 ≤ j → j < P.lz (P.br (P.el la b)) → rSets (P.ro (P.el (P.br (P.el la b)) j)) ≠ 0 → st (P.rt (P.el (P.br (P.el la b)) j)) ≠ 0
section TDB9
variable {L : List Nat} {P : PO} {cO cI cZ : ClassId} {ed x la : Nat} {A : Int → Int → Prop} {st nm op gn : Int → Int} {b j p r : Int}
theorem RFS.pos (z : rSets (P.ro x) ≠ 0) (r0 : 0 ≤ P.ro x) (ua : rUsA (P.ro x) (P.rA x) = 0 ∨ st (P.ra x) ≠ 0) (ub : rUsB (P.ro x) (P.rB x) = 0 ∨ st (P.rb x) ≠ 0) : RFS P st nm x ≠ 0 := by
  have zs := rSets_spec (P.ro x)
  have sa := rUsA_spec (P.ro x) (P.rA x)
  have sb := rUsB_spec (P.ro x) (P.rB x)
  unfold RFS FRS9
  by_cases o : P.ro x = 20
  · rw [if_pos o]; decide
  rw [if_neg o]
  have c : ¬ (SOF st (P.rA x) (P.ra x) = 0 ∨ (if P.ro x = 0 then 1 else SOF st (P.rB x) (P.rb x)) = 0) := fun q => by
    rcases q with q | q
    · unfold SOF at q
      by_cases g : P.rA x = 0
      · rw [if_pos g] at q; omega
      · rw [if_neg g] at q
        rcases ua with u | u
        · omega
        · exact u q
    · by_cases o0 : P.ro x = 0
      · rw [if_pos o0] at q; omega
      · rw [if_neg o0] at q
        unfold SOF at q
        by_cases g : P.rB x = 0
        · rw [if_pos g] at q; omega
        · rw [if_neg g] at q
          rcases ub with u | u
          · omega
          · exact u q
  rw [if_neg c]
  by_cases c2 : SOF st (P.rA x) (P.ra x) = 2 ∨ (if P.ro x = 0 then 1 else SOF st (P.rB x) (P.rb x)) = 2
  · rw [if_pos c2]; decide
  · rw [if_neg c2]
    by_cases c3 : lg_cmp (LKV (P.ro x) (NOF nm (P.rA x) (P.ra x)) (if P.ro x = 0 then 0 else NOF nm (P.rB x) (P.rb x))) (lI 4294967296) = 0
    · rw [if_pos c3]; decide
    · rw [if_neg c3]; decide
theorem TDB.avt (h : TDB P la A st b) (t : AVT P la A b j r) : st r ≠ 0 := by
  rcases t with t | ⟨k, k0, k1, e⟩ | ⟨k, k0, _, k1, z, e⟩
  · exact h.1 r t
  · rw [← e]; exact h.2.1 k k0 k1
  · rw [← e]; exact h.2.2 k k0 k1 z
theorem TDB.sib (h : TDB P la A st b) (t : A r b ∨ SIB P la b r) : st r ≠ 0 := by
  rcases t with t | ⟨k, k0, k1, e⟩ | ⟨k, k0, _, k1, z, e⟩
  · exact h.1 r t
  · rw [← e]; exact h.2.1 k k0 k1
  · rw [← e]; exact h.2.2 k k0 k1 z
theorem told_rows (al : ALP L P cO cI cZ ed la) (b0 : 0 ≤ b) (b1 : b < P.lz la) (ha : ∀ r : Int, A r b → st r ≠ 0) (hp : ∀ k : Int, 0 ≤ k → k < P.lz (P.bp (P.el la b)) → st (P.pt (P.el (P.bp (P.el la b)) k)) ≠ 0) (u : ∀ j : Int, 0 ≤ j → j < P.lz (P.br (P.el la b)) → URA P la A b j (P.el (P.br (P.el la b)) j)) (cl : CLB P la st nm op gn b) : ∀ n : Nat, ∀ j : Int, 0 ≤ j → j < n → j < P.lz (P.br (P.el la b)) → rSets (P.ro (P.el (P.br (P.el la b)) j)) ≠ 0 → st (P.rt (P.el (P.br (P.el la b)) j)) ≠ 0
  | 0, j, j0, j1, _, _ => by omega
  | n + 1, j, j0, j1, j2, z => by
    have ih := told_rows al b0 b1 ha hp u cl n
    by_cases q : j < n
    · exact ih j j0 q j2 z
    have at9 : ∀ r : Int, AVT P la A b j r → st r ≠ 0 := fun r t => by
      rcases t with t | ⟨k, k0, k1, e⟩ | ⟨k, k0, kj, k1, s, e⟩
      · exact ha r t
      · rw [← e]; exact hp k k0 k1
      · rw [← e]; exact ih k k0 (by omega) k1 s
    have kr := al.krow b0 b1 j0 j2
    have rk := al.1.1.2.2.2 _ kr.1 kr.2
    exact cl.2.1 j j0 j2 z (RFS.pos z rk.1.1 ((u j j0 j2).1.imp id (at9 _)) ((u j j0 j2).2.imp id (at9 _)))
/-- all that a block that is come to begins with, and all that it sets, is told -/
theorem told_all (cn : CNV P la st nm op gn) (cl : CLS P la st nm op gn) (s : SSP P la) (al : ALP L P cO cI cZ ed la) (w : AVW P la A) (v : AVU P la A) (b0 : 0 ≤ b) (b1 : b < P.lz la) (g : gn b ≠ 0) : TDB P la A st b := by
  obtain ⟨cn1, cn2, cn3, cn4⟩ := cn
  have l3 := al.1.1.2.1
  have key := cn3.2 b b0 b1 g (fun c => (0 ≤ c ∧ c < P.lz la ∧ gn c ≠ 0) ∧ TDB P la A st c) ⟨⟨Int.le_refl _, s.1, cn3.1⟩, by
    have z := s.2.1.1
    have h1 : ∀ r : Int, A r 0 → st r ≠ 0 := fun r q => absurd q (w.1 r)
    have h2 : ∀ k : Int, 0 ≤ k → k < P.lz (P.bp (P.el la 0)) → st (P.pt (P.el (P.bp (P.el la 0)) k)) ≠ 0 := fun k k0 k1 => by omega
    exact ⟨h1, h2, fun j j0 j1 q => told_rows al (Int.le_refl 0) s.1 h1 h2 (v 0 (Int.le_refl 0) s.1).2.1 (cl 0 (Int.le_refl 0) s.1 cn3.1) (j.toNat + 1) j j0 (by omega) j1 q⟩⟩ (fun p c y p0 p1 c0 c1 o => by
    obtain ⟨gp, gc, wy⟩ := cn4 p c p0 p1 c0 c1 o
    have ed : EDG P la p c := by
      rcases wy with wy | wy
      · exact EDG.yaw (by omega) (Or.inl wy.2.symm)
      · rcases wy.2.2 with t | t
        · exact EDG.yaw (by omega) (Or.inl t.1.symm)
        · exact EDG.yaw (by omega) (Or.inr ⟨by omega, t.1.symm⟩)
    have h1 : ∀ r : Int, A r c → st r ≠ 0 := fun r q => y.2.sib (w.2 r p c p0 p1 ed q)
    have h2 : ∀ k : Int, 0 ≤ k → k < P.lz (P.bp (P.el la c)) → st (P.pt (P.el (P.bp (P.el la c)) k)) ≠ 0 := fun k k0 k1 => by
      have wy2 := ed.way
      obtain ⟨i, i0, i1, ei⟩ := s.2.1.2.2 p c p0 p1 c0 c1 wy2.1 wy2.2 k k0 k1
      refine (cl c c0 c1 gc).1 k k0 k1 (FPA.pos cn1 i0 (by rw [ei]; exact o) ?_ _ (by omega))
      have us := (v c c0 c1).1 k k0 k1 i i0 i1
      unfold SOF
      by_cases q : P.ia (P.pr (P.el (P.bp (P.el la c)) k)) i = 0
      · rw [if_pos q]; decide
      · rw [if_neg q]
        rcases us with us | us
        · exact absurd us q
        · rw [ei] at us; exact y.2.sib us
    exact ⟨⟨c0, c1, gc⟩, h1, h2, fun j j0 j1 q => told_rows al c0 c1 h1 h2 (v c c0 c1).2.1 (cl c c0 c1 gc) (j.toNat + 1) j j0 (by omega) j1 q⟩)
  exact key.2
end TDB9
/-! known: what is told stands as a number -/
def KNA (P Q : PO) (st nm : Int → Int) (x : Nat) : Prop := (rUsA (P.ro x) (P.rA x) ≠ 0 ∧ st (P.ra x) = 1 ∧ Q.rA x = 0 ∧ Q.ra x = nm (P.ra x)) ∨ (¬ (rUsA (P.ro x) (P.rA x) ≠ 0 ∧ st (P.ra x) = 1) ∧ Q.rA x = P.rA x ∧ Q.ra x = P.ra x)
def KNB (P Q : PO) (st nm : Int → Int) (x : Nat) : Prop := (rUsB (P.ro x) (P.rB x) ≠ 0 ∧ st (P.rb x) = 1 ∧ Q.rB x = 0 ∧ Q.rb x = nm (P.rb x)) ∨ (¬ (rUsB (P.ro x) (P.rB x) ≠ 0 ∧ st (P.rb x) = 1) ∧ Q.rB x = P.rB x ∧ Q.rb x = P.rb x)
def KNR (P Q : PO) (st nm : Int → Int) (x : Nat) : Prop := (Q.ro x = P.ro x ∧ Q.rt x = P.rt x ∧ Q.rg x = P.rg x) ∧ KNA P Q st nm x ∧ KNB P Q st nm x
