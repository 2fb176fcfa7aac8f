def dvF (o : Int) : Int := if o = 6 ∨ o = 7 then 1 else 0
theorem dvF_spec (o : Int) : (dvF o = 1 ∧ (o = 6 ∨ o = 7)) ∨ (dvF o = 0 ∧ ¬ o = 6 ∧ ¬ o = 7) := by
  unfold dvF; split
  all_goals omega
theorem mfF_spec (o x : Int) : (mfF o x = 1 ∧ (o = 6 ∨ o = 7) ∧ (x = 0 ∨ (4294967296 ≤ x ∧ x < 1099511627776))) ∨ (mfF o x = 0 ∧ ¬ ((o = 6 ∨ o = 7) ∧ (x = 0 ∨ (4294967296 ≤ x ∧ x < 1099511627776)))) := by
  unfold mfF; split
  · rename_i h; exact Or.inl ⟨rfl, h⟩
  · rename_i h; exact Or.inr ⟨rfl, h⟩
/-- a ROW whose target is marked has its operands marked -/
def RCL (mk tg lf rt : Int → Int) (i : Int) : Prop := 0 ≤ tg i → mk (tg i) = 1 → OPM mk (lf i) ∧ OPM mk (rt i)
/-- a PHI whose target is marked has its operands marked -/
def PCL (mk pt ar as : Int → Int) (n i : Int) : Prop := mk (pt i) = 1 → ∀ k : Int, 0 ≤ k → k < n → OPM mk (ar (as i + k))
theorem mur_row {mk w m1 m2 tg lf rt : Int → Int} {c e x y i hi : Int} (J : MKS mk w c e) (R : e = 0 → ∀ j : Int, i < j → j < hi → RCL mk tg lf rt j) (u1 : MKS w m1 e x ∧ OPM m1 (lf i)) (u2 : MKS m1 m2 x y ∧ OPM m2 (rt i)) (e0 : 0 ≤ e) (x0 : 0 ≤ x) : MKS mk m2 c y ∧ (y = 0 → ∀ j : Int, i - 1 < j → j < hi → RCL mk tg lf rt j) := by
  refine ⟨(J.trans u1.1 e0).trans u2.1 x0, fun y0 j a b => ?_⟩
  have l2 := u2.1.le
  have l1 := u1.1.le
  by_cases q : j = i
  · intro _ _
    have e1 := J.eq (by omega)
    have e2 := u1.1.eq (by omega)
    have e3 := u2.1.eq y0
    rw [q]
    rw [e3, e2, e1] at u2
    rw [e2, e1] at u1
    exact ⟨u1.2, u2.2⟩
  · exact R (by omega) j (by omega) b
theorem mur_skip {mk w tg lf rt : Int → Int} {c e i hi : Int} (J : MKS mk w c e) (R : e = 0 → ∀ j : Int, i < j → j < hi → RCL mk tg lf rt j) (n : tg i < 0 ∨ ¬ w (tg i) = 1) : e = 0 → ∀ j : Int, i - 1 < j → j < hi → RCL mk tg lf rt j := by
  intro e0 j a b
  by_cases q : j = i
  · intro t m
    rw [q] at t m
    rw [J.eq e0] at n
    omega
  · exact R e0 j (by omega) b
theorem mup_arg {mk w m1 : Int → Int} {ar as : Int → Int} {c e x i k : Int} (J : MKS mk w c e) (Q : e = 0 → ∀ k' : Int, 0 ≤ k' → k' < k → OPM mk (ar (as i + k'))) (u : MKS w m1 e x ∧ OPM m1 (ar (as i + k))) (e0 : 0 ≤ e) : MKS mk m1 c x ∧ (x = 0 → ∀ k' : Int, 0 ≤ k' → k' < k + 1 → OPM mk (ar (as i + k'))) := by
  refine ⟨J.trans u.1 e0, fun x0 k' a b => ?_⟩
  have l := u.1.le
  by_cases q : k' = k
  · have e1 := J.eq (by omega)
    have e2 := u.1.eq x0
    rw [q]
    rw [e2, e1] at u
    exact u.2
  · exact Q (by omega) k' a (by omega)
/-- what markUsesOf leaves: if nothing changed, block b is closed under marks -/
def MUB (rs fs ps tg lf rt pt ar as mk : Int → Int) (b : Int) : Prop := (∀ i : Int, rs b ≤ i → i < rs (b + 1) → RCL mk tg lf rt i) ∧ (∀ i : Int, fs b ≤ i → i < fs (b + 1) → PCL mk pt ar as (ps (b + 1) - ps b) i)
theorem un_zero {mk : Int → Int} : un mk 1024 ≤ 1024 := (un_rng mk 1024).2
/-- the ROWs that go: what stays shows, reads, may end the run, or sets what is marked -/
def DRW (o o' rt tg mk : Int → Int) (j : Int) : Prop := (∀ i : Int, j ≤ i → o' i = o i) ∧ (∀ i : Int, 0 ≤ i → i < j → (o' i = o i ∧ (o i = 2 ∨ o i = 1 ∨ mfF (o i) (rt i) = 1 ∨ mk (tg i) = 1)) ∨ (o' i = -1 ∧ ¬ mk (tg i) = 1 ∧ ¬ o i = 2))
theorem DRW.init (o rt tg mk : Int → Int) : DRW o o rt tg mk 0 := ⟨fun _ _ => rfl, fun i a b => by omega⟩
theorem DRW.keep {o o' rt tg mk : Int → Int} {j : Int} (h : DRW o o' rt tg mk j) (k : o' j = 2 ∨ o' j = 1 ∨ mfF (o' j) (rt j) = 1 ∨ mk (tg j) = 1) : DRW o o' rt tg mk (j + 1) := by
  refine ⟨fun i a => h.1 i (by omega), fun i a b => ?_⟩
  by_cases q : i = j
  · left
    rw [h.1 j (by omega)] at k
    rw [q]; exact ⟨h.1 j (by omega), k⟩
  · exact h.2 i a (by omega)
theorem DRW.drop {o o' rt tg mk : Int → Int} {j : Int} (h : DRW o o' rt tg mk j) (m : ¬ mk (tg j) = 1) (n : ¬ o' j = 2) : DRW o (zup o' j (-1)) rt tg mk (j + 1) := by
  refine ⟨fun i a => by rw [zup_ne _ _ (by omega)]; exact h.1 i (by omega), fun i a b => ?_⟩
  by_cases q : i = j
  · right
    rw [h.1 j (by omega)] at n
    rw [q, zup_eq]; exact ⟨rfl, m, n⟩
  · rw [zup_ne _ _ q]; exact h.2 i a (by omega)
def DRP (pt pt' mk : Int → Int) (j : Int) : Prop := (∀ i : Int, j ≤ i → pt' i = pt i) ∧ (∀ i : Int, 0 ≤ i → i < j → (pt' i = pt i ∧ mk (pt i) = 1) ∨ (pt' i = -1 ∧ ¬ mk (pt i) = 1))
theorem DRP.init (pt mk : Int → Int) : DRP pt pt mk 0 := ⟨fun _ _ => rfl, fun i a b => by omega⟩
theorem DRP.keep {pt pt' mk : Int → Int} {j : Int} (h : DRP pt pt' mk j) (k : mk (pt' j) = 1) : DRP pt pt' mk (j + 1) := by
  refine ⟨fun i a => h.1 i (by omega), fun i a b => ?_⟩
  by_cases q : i = j
  · left
    rw [h.1 j (by omega)] at k
    rw [q]; exact ⟨h.1 j (by omega), k⟩
  · exact h.2 i a (by omega)
theorem DRP.drop {pt pt' mk : Int → Int} {j : Int} (h : DRP pt pt' mk j) (m : ¬ mk (pt' j) = 1) : DRP pt (zup pt' j (-1)) mk (j + 1) := by
  refine ⟨fun i a => by rw [zup_ne _ _ (by omega)]; exact h.1 i (by omega), fun i a b => ?_⟩
  by_cases q : i = j
  · right
    rw [h.1 j (by omega)] at m
    rw [q, zup_eq]; exact ⟨rfl, m⟩
  · rw [zup_ne _ _ q]; exact h.2 i a (by omega)
