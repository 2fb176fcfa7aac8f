/-- a move has r for its register operand -/
def IOP (rg of : Int → Int) (n r : Int) : Prop := ∃ k : Int, 0 ≤ k ∧ k < n ∧ rg k ≠ 0 ∧ of k = r
/-- none of the first k moves has -/
def NOP (rg of : Int → Int) (k r : Int) : Prop := ∀ j : Int, 0 ≤ j → j < k → rg j = 0 ∨ of j ≠ r
theorem NOP.zero (rg of : Int → Int) (r : Int) : NOP rg of 0 r := fun j j0 j1 => by omega
theorem NOP.step {rg of : Int → Int} {k r : Int} (h : NOP rg of k r) (q : rg k = 0 ∨ of k ≠ r) : NOP rg of (k + 1) r := fun j j0 j1 => by
  by_cases e : j = k
  · rw [e]; exact q
  · exact h j j0 (by omega)
theorem NOP.not {rg of : Int → Int} {k n r : Int} (h : NOP rg of k r) (l : n ≤ k) : ¬ IOP rg of n r := fun ⟨j, j0, j1, a, b⟩ => by
  rcases h j j0 (by omega) with q | q
  · exact a q
  · exact q b
theorem NOP.ren {rg of : Int → Int} {k r t : Int} (h : NOP rg of k r) (n : t ≠ r) : NOP rg (zup of k t) (k + 1) r := fun j j0 j1 => by
  by_cases e : j = k
  · rw [e, zup_eq]; exact Or.inr n
  · rw [zup_ne _ _ e]; exact h j j0 (by omega)
noncomputable def IOZ (rg of : Int → Int) (n r : Int) : Int := @ite _ (IOP rg of n r) (Classical.propDecidable _) 1 0
theorem IOZ.rng (rg of : Int → Int) (n r : Int) : 0 ≤ IOZ rg of n r ∧ IOZ rg of n r ≤ 1 := by
  unfold IOZ
  by_cases h : IOP rg of n r
  · rw [if_pos h]; omega
  · rw [if_neg h]; omega
theorem IOZ.pos {rg of : Int → Int} {n r : Int} (h : IOP rg of n r) : IOZ rg of n r = 1 := by unfold IOZ; rw [if_pos h]
theorem IOZ.neg {rg of : Int → Int} {n r : Int} (h : ¬ IOP rg of n r) : IOZ rg of n r = 0 := by unfold IOZ; rw [if_neg h]
/-- the moves: none to t, operands that are registers are ones -/
def MVT (to rg of : Int → Int) (n t : Int) : Prop := ∀ j : Int, 0 ≤ j → j < n → to j ≠ t ∧ OPQ (rg j) (of j)
theorem MVT.ren {to rg of : Int → Int} {n t j : Int} (h : MVT to rg of n t) (t0 : 0 ≤ t) (t1 : t ≤ 1001) : MVT to rg (zup of j t) n t := fun i i0 i1 => by
  refine ⟨(h i i0 i1).1, ?_⟩
  by_cases e : i = j
  · rw [e, zup_eq]; exact Or.inr ⟨t0, t1⟩
  · rw [zup_ne _ _ e]; exact (h i i0 i1).2
theorem MVT.shift {to rg of : Int → Int} {n t j : Int} (h : MVT to rg of n t) (j0 : 0 ≤ j) (j1 : j + 1 < n) : MVT (zup to j (to (j + 1))) (zup rg j (rg (j + 1))) (zup of j (of (j + 1))) n t := fun i i0 i1 => by
  by_cases e : i = j
  · rw [e, zup_eq, zup_eq, zup_eq]; exact h (j + 1) (by omega) j1
  · rw [zup_ne _ _ e, zup_ne _ _ e, zup_ne _ _ e]; exact h i i0 i1
theorem MVT.less {to rg of : Int → Int} {n m t : Int} (h : MVT to rg of n t) (l : m ≤ n) : MVT to rg of m t := fun i i0 i1 => h i i0 (by omega)
