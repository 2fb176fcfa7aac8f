/-! a bound of what the objects of a pool have cost, by the lists of their Code -/
theorem sumL_step {f : Nat → Int} (nn : ∀ z : Nat, 0 ≤ f z) {R : Nat → Prop} {B : Int} (hB : ∀ l : List Nat, l.Nodup → (∀ z : Nat, z ∈ l → f z = 0 ∨ R z) → sumL f l ≤ B) {E : Int → Nat} : ∀ (n : Nat) (l : List Nat), l.Nodup → (∀ z : Nat, z ∈ l → f z = 0 ∨ R z ∨ ∃ i : Int, 0 ≤ i ∧ i < n ∧ z = E i) → sumL f l ≤ sumI (fun i => f (E i)) n + B
  | 0, l, nd, h => by
    have b := hB l nd (fun z m => by
      rcases h z m with q | q | ⟨i, i0, i1, _⟩
      · exact Or.inl q
      · exact Or.inr q
      · omega)
    show sumL f l ≤ 0 + B
    omega
  | n + 1, l, nd, h => by
    by_cases m : E n ∈ l
    · have a := sumL_erase (f := f) l m
      have b := sumL_step nn hB (E := E) n (l.erase (E n)) (nd.erase _) (fun z w => by
        have ne : z ≠ E n := fun e => by rw [e] at w; exact absurd w (List.Nodup.not_mem_erase nd)
        rcases h z (List.mem_of_mem_erase w) with q | q | ⟨i, i0, i1, e⟩
        · exact Or.inl q
        · exact Or.inr (Or.inl q)
        · refine Or.inr (Or.inr ⟨i, i0, ?_, e⟩)
          have ni : i ≠ (n : Int) := fun k => ne (by rw [e, k])
          omega)
      show sumL f l ≤ sumI (fun i => f (E i)) n + f (E n) + B
      omega
    · have b := sumL_step nn hB (E := E) n l nd (fun z w => by
        rcases h z w with q | q | ⟨i, i0, i1, e⟩
        · exact Or.inl q
        · exact Or.inr (Or.inl q)
        · refine Or.inr (Or.inr ⟨i, i0, ?_, e⟩)
          have ni : i ≠ (n : Int) := fun k => m (by rw [k] at e; rw [← e]; exact w)
          omega)
      have c := nn (E n)
      show sumL f l ≤ sumI (fun i => f (E i)) n + f (E n) + B
      omega
theorem sumI_cle {f : Int → Int} {c : Int} : ∀ n : Nat, (∀ i : Int, 0 ≤ i → i < n → f i ≤ c) → sumI f n ≤ c * n
  | 0, _ => by show (0 : Int) ≤ c * ((0 : Nat) : Int); rw [show ((0 : Nat) : Int) = 0 from rfl, Int.mul_zero]; exact Int.le_refl 0
  | n + 1, h => by
    have a := sumI_cle n (fun i i0 i1 => h i i0 (by omega))
    have b := h n (by omega) (by omega)
    show sumI f n + f n ≤ c * ((n + 1 : Nat) : Int)
    rw [show ((n + 1 : Nat) : Int) = (n : Int) + 1 from by omega, Int.mul_add, Int.mul_one]
    omega
/-- every object of the pool stands in a list of the Code, or is the end or a list of a block that does -/
def COV (L : List Nat) (P : PO) (la lb lr lp : Nat) : Prop := ∀ z : Nat, z ∈ L → (P.kd z = 17 → (∃ i : Int, 0 ≤ i ∧ i < P.lz lr ∧ z = P.el lr i) ∨ ∃ k : Int, 0 ≤ k ∧ k < P.lz lb ∧ z = P.be (P.el lb k)) ∧ (P.kd z = 15 → ∃ i : Int, 0 ≤ i ∧ i < P.lz lp ∧ z = P.el lp i) ∧ (P.kd z = 12 → ∃ k : Int, 0 ≤ k ∧ k < P.lz lb ∧ z = P.el lb k) ∧ (P.kd z = 30 → (z = la ∨ z = lb ∨ z = lr ∨ z = lp) ∨ ∃ k : Int, 0 ≤ k ∧ k < P.lz lb ∧ (z = P.br (P.el lb k) ∨ z = P.bp (P.el lb k)))
section COV9
variable {L L' : List Nat} {P P' : PO} {la lb lr lp z : Nat} {w : Nat → Int}
theorem sumL_nil {f : Nat → Int} {l : List Nat} (h : ∀ z : Nat, z ∈ l → f z = 0 ∨ False) : sumL f l ≤ 0 := by
  rw [sumL_zero l (fun z m => (h z m).elim id (fun q => q.elim))]
  exact Int.le_refl 0
theorem sumI_1 (f : Int → Int) : sumI f 1 = f 0 := by show 0 + f ((0 : Nat) : Int) = f 0; rw [show ((0 : Nat) : Int) = 0 from rfl]; omega
theorem PSI.cov (nn : ∀ k : Nat, 0 ≤ w k) (nd : L.Nodup) (c : COV L P la lb lr lp) : PSI w L P ≤ sumI (fun i => WT9 w P (P.el lr i)) (P.lz lr).toNat + (sumI (fun k => WT9 w P (P.be (P.el lb k))) (P.lz lb).toNat + (sumI (fun i => WT9 w P (P.el lp i)) (P.lz lp).toNat + (sumI (fun k => WT9 w P (P.el lb k)) (P.lz lb).toNat + (sumI (fun k => WT9 w P (P.br (P.el lb k))) (P.lz lb).toNat + (sumI (fun k => WT9 w P (P.bp (P.el lb k))) (P.lz lb).toNat + (WT9 w P la + (WT9 w P lb + (WT9 w P lr + (WT9 w P lp + 0))))))))) := by
  have n := WT9.nn nn P
  have s0 := fun (l : List Nat) (_ : l.Nodup) (h : ∀ z : Nat, z ∈ l → WT9 w P z = 0 ∨ False) => sumL_nil h
  have s1 := fun (l : List Nat) (d : l.Nodup) (h : ∀ z : Nat, z ∈ l → WT9 w P z = 0 ∨ z = lp) => by
    have q := sumL_step n s0 (E := fun _ => lp) 1 l d (fun z m => (h z m).elim Or.inl (fun e => Or.inr (Or.inr ⟨0, by omega, by omega, e⟩)))
    rw [sumI_1] at q
    exact q
  have s2 := fun (l : List Nat) (d : l.Nodup) (h : ∀ z : Nat, z ∈ l → WT9 w P z = 0 ∨ z = lr ∨ z = lp) => by
    have q := sumL_step n s1 (E := fun _ => lr) 1 l d (fun z m => (h z m).elim Or.inl (fun e => e.elim (fun e => Or.inr (Or.inr ⟨0, by omega, by omega, e⟩)) (fun e => Or.inr (Or.inl e))))
    rw [sumI_1] at q
    exact q
  have s3 := fun (l : List Nat) (d : l.Nodup) (h : ∀ z : Nat, z ∈ l → WT9 w P z = 0 ∨ z = lb ∨ z = lr ∨ z = lp) => by
    have q := sumL_step n s2 (E := fun _ => lb) 1 l d (fun z m => (h z m).elim Or.inl (fun e => e.elim (fun e => Or.inr (Or.inr ⟨0, by omega, by omega, e⟩)) (fun e => Or.inr (Or.inl e))))
    rw [sumI_1] at q
    exact q
  have s4 := fun (l : List Nat) (d : l.Nodup) (h : ∀ z : Nat, z ∈ l → WT9 w P z = 0 ∨ z = la ∨ z = lb ∨ z = lr ∨ z = lp) => by
    have q := sumL_step n s3 (E := fun _ => la) 1 l d (fun z m => (h z m).elim Or.inl (fun e => e.elim (fun e => Or.inr (Or.inr ⟨0, by omega, by omega, e⟩)) (fun e => Or.inr (Or.inl e))))
    rw [sumI_1] at q
    exact q
  have s5 := fun (l : List Nat) (d : l.Nodup) (h : ∀ z : Nat, z ∈ l → WT9 w P z = 0 ∨ (z = la ∨ z = lb ∨ z = lr ∨ z = lp) ∨ ∃ k : Int, 0 ≤ k ∧ k < ((P.lz lb).toNat : Int) ∧ z = P.bp (P.el lb k)) => sumL_step n s4 (E := fun k => P.bp (P.el lb k)) (P.lz lb).toNat l d h
  have s6 := fun (l : List Nat) (d : l.Nodup) (h : ∀ z : Nat, z ∈ l → WT9 w P z = 0 ∨ ((z = la ∨ z = lb ∨ z = lr ∨ z = lp) ∨ ∃ k : Int, 0 ≤ k ∧ k < ((P.lz lb).toNat : Int) ∧ z = P.bp (P.el lb k)) ∨ ∃ k : Int, 0 ≤ k ∧ k < ((P.lz lb).toNat : Int) ∧ z = P.br (P.el lb k)) => sumL_step n s5 (E := fun k => P.br (P.el lb k)) (P.lz lb).toNat l d h
  have s7 := fun (l : List Nat) (d : l.Nodup) (h : ∀ z : Nat, z ∈ l → WT9 w P z = 0 ∨ (((z = la ∨ z = lb ∨ z = lr ∨ z = lp) ∨ ∃ k : Int, 0 ≤ k ∧ k < ((P.lz lb).toNat : Int) ∧ z = P.bp (P.el lb k)) ∨ ∃ k : Int, 0 ≤ k ∧ k < ((P.lz lb).toNat : Int) ∧ z = P.br (P.el lb k)) ∨ ∃ k : Int, 0 ≤ k ∧ k < ((P.lz lb).toNat : Int) ∧ z = P.el lb k) => sumL_step n s6 (E := fun k => P.el lb k) (P.lz lb).toNat l d h
  have s8 := fun (l : List Nat) (d : l.Nodup) (h : ∀ z : Nat, z ∈ l → WT9 w P z = 0 ∨ ((((z = la ∨ z = lb ∨ z = lr ∨ z = lp) ∨ ∃ k : Int, 0 ≤ k ∧ k < ((P.lz lb).toNat : Int) ∧ z = P.bp (P.el lb k)) ∨ ∃ k : Int, 0 ≤ k ∧ k < ((P.lz lb).toNat : Int) ∧ z = P.br (P.el lb k)) ∨ ∃ k : Int, 0 ≤ k ∧ k < ((P.lz lb).toNat : Int) ∧ z = P.el lb k) ∨ ∃ i : Int, 0 ≤ i ∧ i < ((P.lz lp).toNat : Int) ∧ z = P.el lp i) => sumL_step n s7 (E := fun i => P.el lp i) (P.lz lp).toNat l d h
  have s9 := fun (l : List Nat) (d : l.Nodup) (h : ∀ z : Nat, z ∈ l → WT9 w P z = 0 ∨ (((((z = la ∨ z = lb ∨ z = lr ∨ z = lp) ∨ ∃ k : Int, 0 ≤ k ∧ k < ((P.lz lb).toNat : Int) ∧ z = P.bp (P.el lb k)) ∨ ∃ k : Int, 0 ≤ k ∧ k < ((P.lz lb).toNat : Int) ∧ z = P.br (P.el lb k)) ∨ ∃ k : Int, 0 ≤ k ∧ k < ((P.lz lb).toNat : Int) ∧ z = P.el lb k) ∨ ∃ i : Int, 0 ≤ i ∧ i < ((P.lz lp).toNat : Int) ∧ z = P.el lp i) ∨ ∃ k : Int, 0 ≤ k ∧ k < ((P.lz lb).toNat : Int) ∧ z = P.be (P.el lb k)) => sumL_step n s8 (E := fun k => P.be (P.el lb k)) (P.lz lb).toNat l d h
  refine sumL_step n s9 (E := fun i => P.el lr i) (P.lz lr).toNat L nd (fun z m => ?_)
  have g := c z m
  by_cases k1 : P.kd z = 17
  · rcases g.1 k1 with ⟨i, i0, i1, e⟩ | ⟨k, k0, k9, e⟩
    · exact Or.inr (Or.inr ⟨i, i0, by omega, e⟩)
    · exact Or.inr (Or.inl (Or.inr ⟨k, k0, by omega, e⟩))
  · by_cases k2 : P.kd z = 15
    · obtain ⟨i, i0, i1, e⟩ := g.2.1 k2
      exact Or.inr (Or.inl (Or.inl (Or.inr ⟨i, i0, by omega, e⟩)))
    · by_cases k3 : P.kd z = 12
      · obtain ⟨k, k0, k9, e⟩ := g.2.2.1 k3
        exact Or.inr (Or.inl (Or.inl (Or.inl (Or.inr ⟨k, k0, by omega, e⟩))))
      · by_cases k4 : P.kd z = 30
        · rcases g.2.2.2 k4 with e | ⟨k, k0, k9, e⟩
          · exact Or.inr (Or.inl (Or.inl (Or.inl (Or.inl (Or.inl (Or.inl e))))))
          · rcases e with e | e
            · exact Or.inr (Or.inl (Or.inl (Or.inl (Or.inl (Or.inr ⟨k, k0, by omega, e⟩)))))
            · exact Or.inr (Or.inl (Or.inl (Or.inl (Or.inl (Or.inl (Or.inr ⟨k, k0, by omega, e⟩))))))
        · exact Or.inl (WT9.no ⟨k1, k2, k3, k4⟩)
end COV9
