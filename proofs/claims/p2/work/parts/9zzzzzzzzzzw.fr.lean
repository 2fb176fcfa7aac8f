/-! frontiers, told exactly -/
section FRO9
variable {P : PO} {la x : Nat} {a b c d p n : Int} {g s f : Int → Int} {fd : Nat → Option Nat} {L : List Nat} {cO : ClassId}
/-- none of the first d ways of p leads to b -/
def WNO (P : PO) (x : Nat) (b d : Int) : Prop := ∀ k : Int, 0 ≤ k → k < d → rWay (P.bf x) (P.bs x) k ≠ b
theorem WNO.none (P : PO) (x : Nat) (b : Int) : WNO P x b 0 := fun k k0 k1 => by omega
theorem WNO.next (h : WNO P x b d) (w : rWay (P.bf x) (P.bs x) d ≠ b) : WNO P x b (d + 1) := fun k k0 k1 => by
  by_cases q : k = d
  · rw [q]; exact w
  · exact h k k0 (by omega)
theorem EDG.yes (ex : x = P.el la p) (d0 : 0 ≤ d) (d1 : d < rWays (P.ro (P.be x)) (P.bf x) (P.bs x)) (w : rWay (P.bf x) (P.bs x) d = b) : EDG P la p b := by
  subst ex; exact ⟨d, d0, d1, w⟩
theorem WNO.no (h : WNO P x b d) (ex : x = P.el la p) (w : rWays (P.ro (P.be x)) (P.bf x) (P.bs x) ≤ d) : ¬ EDG P la p b := fun ⟨k, k0, k1, k2⟩ => by
  subst ex; exact h k k0 (by omega) k2
/-- what isPred, isFrontier, hasFrontier answer -/
def ANS (z : Int) (C : Prop) : Prop := (z ≠ 0 → C) ∧ (z = 0 → ¬ C)
theorem ANS.yes {C : Prop} (h : C) : ANS 1 C := ⟨fun _ => h, fun q => by omega⟩
theorem ANS.no {C : Prop} (h : ¬ C) : ANS 0 C := ⟨fun q => absurd rfl q, fun _ => h⟩
/-- none of the first d that a dominates leads to c -/
def FNO (P : PO) (la : Nat) (a c d : Int) : Prop := ∀ p : Int, 0 ≤ p → p < d → ¬ (DOM P la a p ∧ EDG P la p c)
theorem FNO.none (P : PO) (la : Nat) (a c : Int) : FNO P la a c 0 := fun k k0 k1 => by omega
theorem FNO.next (h : FNO P la a c d) (w : ¬ DOM P la a d ∨ ¬ EDG P la d c) : FNO P la a c (d + 1) := fun k k0 k1 => by
  by_cases q : k = d
  · rw [q]; exact fun z => w.elim (fun y => y z.1) (fun y => y z.2)
  · exact h k k0 (by omega)
theorem FNO.no (h : FNO P la a c d) (cd : CDK L P cO la) (n1 : 1 ≤ P.lz la) (w : P.lz la ≤ d) : ¬ FRO P la a c := fun ⟨_, _, p, k1, k2⟩ => by
  have r := RCH.rng cd n1 k1.2.1
  exact h p r.1 (by omega) ⟨k1, k2⟩
/-- none of the first d that set a register has c in its frontier -/
def HNO (P : PO) (la : Nat) (s f : Int → Int) (c d : Int) : Prop := ∀ a : Int, 0 ≤ a → a < d → ¬ ((s a ≠ 0 ∨ f a ≠ 0) ∧ FRO P la a c)
theorem HNO.none (P : PO) (la : Nat) (s f : Int → Int) (c : Int) : HNO P la s f c 0 := fun k k0 k1 => by omega
theorem HNO.next (h : HNO P la s f c d) (w : ¬ (s d ≠ 0 ∨ f d ≠ 0) ∨ ¬ FRO P la d c) : HNO P la s f c (d + 1) := fun k k0 k1 => by
  by_cases q : k = d
  · rw [q]; exact fun z => w.elim (fun y => y z.1) (fun y => y z.2)
  · exact h k k0 (by omega)
def HFR (P : PO) (la : Nat) (s f : Int → Int) (n c : Int) : Prop := ∃ a : Int, 0 ≤ a ∧ a < n ∧ (s a ≠ 0 ∨ f a ≠ 0) ∧ FRO P la a c
end FRO9
