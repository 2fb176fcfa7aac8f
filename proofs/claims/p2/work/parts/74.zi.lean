theorem cpy_zx (f g : Int → Int) {sp dp n : Int} (h0 : 0 ≤ sp) (h1 : sp < 2147483648) (h2 : 0 ≤ dp) (h3 : dp < 2147483648) (h4 : 0 ≤ n) (h5 : n < 2147483648) : va_cpy (fun j : Nat => zI (f (j : Int))) (fun j : Nat => zI (g (j : Int))) (zI sp).toNatClampNeg (zI dp).toNatClampNeg (zI n).toNatClampNeg = (fun j : Nat => zI (cpF f g sp dp n (j : Int))) := by
  funext j
  unfold va_cpy cpF
  rw [zI_cl h0 h1, zI_cl h2 h3, zI_cl h4 h5]
  by_cases q : dp.toNat ≤ j ∧ j < dp.toNat + n.toNat
  · have q2 : dp ≤ (j : Int) ∧ (j : Int) < dp + n := by omega
    rw [if_pos q, if_pos q2]
    show zI (f ((sp.toNat + (j - dp.toNat) : Nat) : Int)) = _
    rw [show ((sp.toNat + (j - dp.toNat) : Nat) : Int) = sp + ((j : Int) - dp) by omega]
  · have q2 : ¬ (dp ≤ (j : Int) ∧ (j : Int) < dp + n) := by omega
    rw [if_neg q, if_neg q2]
theorem cpy_lx (f g : Int → Int) {sp dp n : Int} (h0 : 0 ≤ sp) (h1 : sp < 2147483648) (h2 : 0 ≤ dp) (h3 : dp < 2147483648) (h4 : 0 ≤ n) (h5 : n < 2147483648) : va_cpy (fun j : Nat => lI (f (j : Int))) (fun j : Nat => lI (g (j : Int))) (zI sp).toNatClampNeg (zI dp).toNatClampNeg (zI n).toNatClampNeg = (fun j : Nat => lI (cpF f g sp dp n (j : Int))) := by
  funext j
  unfold va_cpy cpF
  rw [zI_cl h0 h1, zI_cl h2 h3, zI_cl h4 h5]
  by_cases q : dp.toNat ≤ j ∧ j < dp.toNat + n.toNat
  · have q2 : dp ≤ (j : Int) ∧ (j : Int) < dp + n := by omega
    rw [if_pos q, if_pos q2]
    show lI (f ((sp.toNat + (j - dp.toNat) : Nat) : Int)) = _
    rw [show ((sp.toNat + (j - dp.toNat) : Nat) : Int) = sp + ((j : Int) - dp) by omega]
  · have q2 : ¬ (dp ≤ (j : Int) ∧ (j : Int) < dp + n) := by omega
    rw [if_neg q, if_neg q2]
/-- the first r rows set registers to 0; the others are as they were -/
def ZR (o t o' t' : Int → Int) (r : Int) : Prop := (∀ i : Int, 0 ≤ i → i < r → o' i = 0 ∧ 0 ≤ t' i) ∧ (∀ i : Int, r ≤ i → o' i = o i ∧ t' i = t i)
theorem ZR.init (o t : Int → Int) : ZR o t o t 0 := ⟨fun i a b => by omega, fun i _ => ⟨rfl, rfl⟩⟩
theorem ZR.step {o t o' t' : Int → Int} {r v : Int} (h : ZR o t o' t' r) (v0 : 0 ≤ v) : ZR o t (zup o' r 0) (zup t' r v) (r + 1) := by
  refine ⟨fun i a b => ?_, fun i a => ?_⟩
  · by_cases q : i = r
    · rw [q, zup_eq, zup_eq]; exact ⟨rfl, v0⟩
    · rw [zup_ne _ _ q, zup_ne _ _ q]; exact h.1 i a (by omega)
  · rw [zup_ne _ _ (by omega), zup_ne _ _ (by omega)]; exact h.2 i (by omega)
theorem pcS_le (f : Nat → Int64) (a : Int) {m n : Nat} (h : m ≤ n) : pcS f a m ≤ pcS f a n := by
  induction n with
  | zero =>
    have e : m = 0 := by omega
    subst e; exact Int.le_refl _
  | succ n ih =>
    by_cases e : m = n + 1
    · subst e; exact Int.le_refl _
    · have h1 := ih (by omega)
      show _ ≤ pcS f a n + _
      omega
theorem pcI_pos {x : Int64} (h : ¬ x = 0) : 1 ≤ pcI x := by
  have := rest_pc h
  unfold pcI
  omega
