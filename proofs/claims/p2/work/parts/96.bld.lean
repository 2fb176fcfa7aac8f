/-- ROWs that set have a register -/
def HUI (o t : Int → Int) (R : Int) : Prop := ∀ i : Int, 0 ≤ i → i < R → ¬ o i = 2 → 0 ≤ t i
theorem HUI.zero (o t : Int → Int) : HUI o t 0 := fun i a b => by omega
theorem HUI.add {o t : Int → Int} {R q v : Int} (h : HUI o t R) (c : q = 2 ∨ 0 ≤ v) : HUI (zup o R q) (zup t R v) (R + 1) := by
  intro i a b e
  by_cases w : i = R
  · rw [w, zup_eq] at e ⊢; omega
  · rw [zup_ne _ _ w] at e ⊢; exact h i a (by omega) e
/-- a function that is being built, block by block: goals below M -/
def BLD (B R : Int) (rs fs ek g1 g2 : Int → Int) (M : Int) : Prop := (0 ≤ B) ∧ (rs 0 = 0) ∧ (∀ x : Int, 0 ≤ x → x < B → rs x ≤ rs (x + 1)) ∧ (rs B ≤ R) ∧ (∀ x : Int, 0 ≤ x → x ≤ B → fs x = 0) ∧ (∀ x : Int, 0 ≤ x → x < B → ¬ ek x = 2 → (0 ≤ g1 x ∧ g1 x < M) ∧ (0 ≤ g2 x ∧ g2 x < M))
theorem BLD.init {rs fs ek g1 g2 : Int → Int} {M : Int} (a : rs 0 = 0) (b : fs 0 = 0) : BLD 0 0 rs fs ek g1 g2 M :=
  ⟨by omega, a, fun x p q => by omega, by omega, fun x p q => by rw [show x = 0 by omega]; exact b, fun x p q => by omega⟩
theorem BLD.rows {B R R' : Int} {rs fs ek g1 g2 : Int → Int} {M : Int} (h : BLD B R rs fs ek g1 g2 M) (r : R ≤ R') : BLD B R' rs fs ek g1 g2 M :=
  ⟨h.1, h.2.1, h.2.2.1, by have := h.2.2.2.1; omega, h.2.2.2.2.1, h.2.2.2.2.2⟩
theorem BLD.up {B R : Int} {rs fs ek g1 g2 : Int → Int} {M M' : Int} (h : BLD B R rs fs ek g1 g2 M) (r : M ≤ M') : BLD B R rs fs ek g1 g2 M' :=
  ⟨h.1, h.2.1, h.2.2.1, h.2.2.2.1, h.2.2.2.2.1, fun x a b c => by have := h.2.2.2.2.2 x a b c; omega⟩
theorem BLD.close {B R : Int} {rs fs ek g1 g2 : Int → Int} {M k u v : Int} (h : BLD B R rs fs ek g1 g2 M) (c : k = 2 ∨ ((0 ≤ u ∧ u < M) ∧ (0 ≤ v ∧ v < M))) : BLD (B + 1) R (zup rs (B + 1) R) (zup fs (B + 1) 0) (zup ek B k) (zup g1 B u) (zup g2 B v) M := by
  obtain ⟨h1, h2, h3, h4, h5, h6⟩ := h
  refine ⟨by omega, by rw [zup_ne _ _ (by omega)]; exact h2, fun x a b => ?_, by rw [zup_eq]; omega, fun x a b => ?_, fun x a b e => ?_⟩
  · by_cases w : x = B
    · rw [w, zup_eq, zup_ne _ _ (by omega)]; exact h4
    · rw [zup_ne _ _ (by omega), zup_ne _ _ (by omega)]; exact h3 x a (by omega)
  · by_cases w : x = B + 1
    · rw [w, zup_eq]
    · rw [zup_ne _ _ w]; exact h5 x a (by omega)
  · by_cases w : x = B
    · rw [w, zup_eq] at e ⊢
      rw [zup_eq]; omega
    · rw [zup_ne _ _ w] at e
      rw [zup_ne _ _ w, zup_ne _ _ w]; exact h6 x a (by omega) e
theorem BLD.set1 {B R : Int} {rs fs ek g1 g2 : Int → Int} {M p v : Int} (h : BLD B R rs fs ek g1 g2 M) (a : 0 ≤ v) (b : v < M) : BLD B R rs fs ek (zup g1 p v) g2 M :=
  ⟨h.1, h.2.1, h.2.2.1, h.2.2.2.1, h.2.2.2.2.1, fun x q r e => ⟨by unfold zup; split; exact ⟨a, b⟩; exact (h.2.2.2.2.2 x q r e).1, (h.2.2.2.2.2 x q r e).2⟩⟩
theorem BLD.set2 {B R : Int} {rs fs ek g1 g2 : Int → Int} {M p v : Int} (h : BLD B R rs fs ek g1 g2 M) (a : 0 ≤ v) (b : v < M) : BLD B R rs fs ek g1 (zup g2 p v) M :=
  ⟨h.1, h.2.1, h.2.2.1, h.2.2.2.1, h.2.2.2.2.1, fun x q r e => ⟨(h.2.2.2.2.2 x q r e).1, by unfold zup; split; exact ⟨a, b⟩; exact (h.2.2.2.2.2 x q r e).2⟩⟩
theorem BLD.ms {B R : Int} {rs fs ek g1 g2 : Int → Int} {M : Int} (h : BLD B R rs fs ek g1 g2 M) (e : rs B = R) : MS B R rs := ⟨h.1, h.2.1, h.2.2.1, e⟩
theorem BLD.mf {B R : Int} {rs fs ek g1 g2 : Int → Int} {M : Int} (h : BLD B R rs fs ek g1 g2 M) : MS B 0 fs := ⟨h.1, h.2.2.2.2.1 0 (by omega) h.1, fun x a b => by rw [h.2.2.2.2.1 x a (by omega), h.2.2.2.2.1 (x + 1) (by omega) (by omega)]; omega, h.2.2.2.2.1 B h.1 (by omega)⟩
theorem BLD.hg {B R : Int} {rs fs ek g1 g2 : Int → Int} {M : Int} (h : BLD B R rs fs ek g1 g2 M) (e : M ≤ B) : ∀ b : Int, 0 ≤ b → b < B → ¬ ek b = 2 → (0 ≤ g1 b ∧ g1 b < B) ∧ (0 ≤ g2 b ∧ g2 b < B) := fun x a b c => by have := h.2.2.2.2.2 x a b c; omega
theorem BLD.le {B R : Int} {rs fs ek g1 g2 : Int → Int} {M : Int} (h : BLD B R rs fs ek g1 g2 M) : rs B ≤ R := h.2.2.2.1
theorem gcF_ne {ek g1 g2 : Int → Int} {b : Int} (h : ¬ gcF ek g1 g2 b = 0) : ¬ ek b = 2 := by
  intro e; apply h; unfold gcF; rw [if_pos e]
