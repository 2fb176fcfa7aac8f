theorem mulc {a b : Int} (h0 : 0 ≤ a) (h1 : a ≤ 1024) (h2 : 0 ≤ b) (h3 : b ≤ 600) : 0 ≤ a * b ∧ a * b ≤ 614400 := by
  refine ⟨Int.mul_nonneg h0 h2, ?_⟩
  have e1 : a * b ≤ 1024 * b := Int.mul_le_mul_of_nonneg_right h1 h2
  omega
theorem MS.front {B R z : Int} {rs rs' : Int → Int} (h : MS B R rs) (b1 : 1 ≤ B) (z0 : 0 ≤ z) (a : ∀ b : Int, 1 ≤ b → b ≤ B → rs' b = rs b + z) (e : rs' 0 = rs 0) : MS B (R + z) rs' := by
  refine ⟨h.b0, by rw [e]; exact h.z, fun b p q => ?_, by rw [a B b1 (Int.le_refl _), h.e]⟩
  have m := h.mo b p q
  by_cases w : b = 0
  · rw [w, e, show (0 : Int) + 1 = 1 by omega, a 1 (by omega) (by omega)]
    rw [w, show (0 : Int) + 1 = 1 by omega] at m; omega
  · rw [a b (by omega) (by omega), a (b + 1) (by omega) (by omega)]; omega
theorem HUI.front {o t o' t' : Int → Int} {R z : Int} (h : HUI o t R) (z0 : 0 ≤ z) (a : ∀ i : Int, 0 ≤ i → i < z → o' i = 0 ∧ 0 ≤ t' i) (b : ∀ i : Int, z ≤ i → o' i = cpF o o 0 z R i ∧ t' i = cpF t t 0 z R i) : HUI o' t' (R + z) := by
  intro i p q e
  by_cases w : i < z
  · exact (a i p w).2
  · have x := b i (by omega)
    rw [x.1] at e
    rw [x.2]
    unfold cpF at e ⊢
    rw [if_pos (by omega)] at e
    rw [if_pos (by omega)]
    exact h _ (by omega) (by omega) e
theorem HUI.up {o t t' : Int → Int} {R : Int} (h : HUI o t R) (u : ∀ i : Int, 0 ≤ t i → 0 ≤ t' i) : HUI o t' R := fun i a b e => u i (h i a b e)
theorem set_front {t t' : Int → Int} {R z : Int} (z0 : 0 ≤ z) (R0 : 0 ≤ R) (b : ∀ i : Int, z ≤ i → t' i = cpF t t 0 z R i) : sg (setF t') (R + z).toNat ≤ z + sg (setF t) R.toNat :=
  setF_front z0 R0 (fun i a c => by rw [b i a]; unfold cpF; rw [if_pos (by omega)]; congr 1; omega)
