section JON9
variable {L L1 : List Nat} {P M Q Q1 : PO} {cO cI cZ : ClassId} {ed l la x : Nat} {st a s : Int → Int} {S : Nat → Prop} {b c i j k m n y : Int}
theorem JHP.el9 (h : JHP P M Q la b y i j) (l : Nat) (k : Int) : Q.el l k = M.el l k := by unfold PO.el PO.oa PO.le; rw [h.1.2.1, h.1.2.2]
theorem JHP.ref9 (h : JHP P M Q la b y i j) (f x : Nat) : Q.2.1 f x = M.2.1 f x := by rw [h.1.2.1]
theorem JHP.num9 (h : JHP P M Q la b y i j) (f x : Nat) : Q.1 f x = M.1 f x := by rw [h.1.1]
/-- where block c and its PHIs are while PREDs are renamed -/
theorem JHP.blk9 (g : JHP P M Q la b y i j) (h : JAP L P L1 Q1 la b y n) (e : JEP Q1 M S) (al : ALP L P cO cI cZ ed la) (sn : ∀ z : Nat, S z → P.kd z = 17 ∨ P.kd z = 12) (c0 : 0 ≤ c) (c1 : c < P.lz la) : Q.el la c = P.el la c ∧ Q.bp (P.el la c) = P.bp (P.el la c) ∧ Q.lz (P.bp (P.el la c)) = P.lz (P.bp (P.el la c)) ∧ ∀ k : Int, 0 ≤ k → k < P.lz (P.bp (P.el la c)) → Q.el (P.bp (P.el la c)) k = P.el (P.bp (P.el la c)) k ∧ PVE P M (P.el (P.bp (P.el la c)) k) := by
  have t := h.phi e al sn c0 c1
  exact ⟨(g.el9 _ _).trans t.1.1, (g.ref9 _ _).trans t.1.2, (g.num9 _ _).trans t.2.1, fun k k0 k1 => ⟨(g.el9 _ _).trans (t.2.2 k k0 k1).1, (t.2.2 k k0 k1).2⟩⟩
theorem NMB.lt9 (h : NMB st a s n m) (b0 : 0 ≤ b) (b1 : b < n) (z : st b = 0) : m < n := by
  have m1 := h.1.2
  rcases Int.lt_or_le m n with q | q
  · exact q
  · have key : ∀ t : Nat, b + t < m → b + 1 + t ≤ s (b + t) := fun t => by
      induction t with
      | zero =>
        intro w
        have w2 : b < m := by omega
        have u := h.2.2.1 b b0 w2
        have v : s b ≠ b := fun e => u.2.1 (by rw [e]; exact z)
        have e0 : b + ((0 : Nat) : Int) = b := by omega
        rw [e0]
        omega
      | succ t ih =>
        intro w
        have i1 := ih (by omega)
        have u := h.2.2.2 (b + t) (b + ((t + 1 : Nat) : Int)) (by omega) (by omega) (by omega)
        omega
    have w := key (n - 1 - b).toNat (by omega)
    have e1 : b + ((n - 1 - b).toNat : Int) = n - 1 := by omega
    rw [e1] at w
    have u := h.2.2.1 (n - 1) (by omega) (by omega)
    omega
end JON9
