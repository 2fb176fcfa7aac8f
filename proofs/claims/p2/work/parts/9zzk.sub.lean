/-- what stands instead of an operand, n steps far -/
def rsI (a : Int → Int) : Nat → Int → Int
  | 0, x => x
  | n + 1, x => if 4294967296 ≤ x ∧ x < 1099511627776 then (if a (x - 4294967296) = 1099511627776 then x else rsI a n (a (x - 4294967296))) else x
theorem rsI_stop {a : Int → Int} {x : Int} (h : ¬ (4294967296 ≤ x ∧ x < 1099511627776)) (n : Nat) : rsI a n x = x := by
  cases n with
  | zero => rfl
  | succ n => show (if _ then _ else _) = _; rw [if_neg h]
theorem rsI_no {a : Int → Int} {x : Int} (h : a (x - 4294967296) = 1099511627776) (n : Nat) : rsI a n x = x := by
  cases n with
  | zero => rfl
  | succ n => show (if _ then _ else _) = _; rw [if_pos h]; split <;> rfl
theorem rsI_go {a : Int → Int} {x : Int} (c : 4294967296 ≤ x ∧ x < 1099511627776) (h : ¬ a (x - 4294967296) = 1099511627776) {n : Int} (n0 : n < 1000) : rsI a (1000 - (n + 1)).toNat (a (x - 4294967296)) = rsI a (1000 - n).toNat x := by
  rw [show (1000 - n).toNat = (1000 - (n + 1)).toNat + 1 by omega]
  show _ = (if _ then _ else _)
  rw [if_pos c, if_neg h]
theorem rsI_end {a : Int → Int} {x n : Int} (h : ¬ n < 1000) : rsI a (1000 - n).toNat x = x := by rw [show (1000 - n).toNat = 0 by omega]; rfl
/-- operands replaced one by one -/
def SBR (a l l' : Int → Int) (d : Int) : Prop := ∀ j : Int, (0 ≤ j → j < d → l' j = rsI a 1000 (l j)) ∧ (d ≤ j → l' j = l j)
theorem SBR.init (a l : Int → Int) : SBR a l l 0 := fun j => ⟨fun h1 h2 => by omega, fun _ => rfl⟩
theorem SBR.set {a l l' : Int → Int} {d v : Int} (h : SBR a l l' d) (e : v = rsI a 1000 (l' d)) : SBR a l (zup l' d v) (d + 1) := fun j => by
  refine ⟨fun h1 h2 => ?_, fun h1 => by rw [zup_ne _ _ (by omega)]; exact (h j).2 (by omega)⟩
  by_cases c : j = d
  · rw [c, zup_eq, e, (h d).2 (Int.le_refl _)]
  · rw [zup_ne _ _ c]; exact (h j).1 h1 (by omega)
/-- operands of PHIs replaced: of those before i, and of i the first kk -/
def SBP (B : Int) (fs ps as a ar ar' : Int → Int) (i kk : Int) : Prop := ∀ x j k : Int, 0 ≤ x → x < B → fs x ≤ j → j < fs (x + 1) → 0 ≤ k → k < ps (x + 1) - ps x → ((j < i ∨ (j = i ∧ k < kk)) → ar' (as j + k) = rsI a 1000 (ar (as j + k))) ∧ (¬ (j < i ∨ (j = i ∧ k < kk)) → ar' (as j + k) = ar (as j + k))
theorem SBP.init {B P : Int} {fs : Int → Int} (m : MS B P fs) (ps as a ar : Int → Int) : SBP B fs ps as a ar ar (fs 0) 0 := fun x j k x0 x1 j0 j1 k0 k1 => by
  have := m.le' (Int.le_refl 0) x0 (by omega)
  exact ⟨fun h => by omega, fun _ => rfl⟩
theorem SBP.set {B b : Int} {fs ps as a ar ar' : Int → Int} {i kk q v : Int} (am : AMF B fs ps as) (h : SBP B fs ps as a ar ar' i kk) (b0 : 0 ≤ b) (b1 : b < B) (i0 : fs b ≤ i) (i1 : i < fs (b + 1)) (k0 : 0 ≤ kk) (k1 : kk < ps (b + 1) - ps b) (eq : q = as i + kk) (e : v = rsI a 1000 (ar' q)) : SBP B fs ps as a ar (zup ar' q v) i (kk + 1) := by
  subst eq; subst e
  intro x j k x0 x1 j0 j1 kk0 kk1
  have hh := h x j k x0 x1 j0 j1 kk0 kk1
  by_cases c : j = i ∧ k = kk
  · rw [c.1, c.2, zup_eq]
    refine ⟨fun _ => ?_, fun w => by omega⟩
    have := (h x j k x0 x1 j0 j1 kk0 kk1).2 (by omega)
    rw [c.1, c.2] at this; rw [this]
  · have ne : ¬ as j + k = as i + kk := by
      rcases Int.lt_trichotomy j i with w | w | w
      · have := am x b j i x0 x1 b0 b1 j0 j1 i0 i1 w; omega
      · rw [w]; omega
      · have := am b x i j b0 b1 x0 x1 i0 i1 j0 j1 w; omega
    rw [zup_ne _ _ ne]
    exact ⟨fun w => hh.1 (by omega), fun w => hh.2 (by omega)⟩
theorem SBP.next {B P b : Int} {fs ps as a ar ar' : Int → Int} {i kk : Int} (m : MS B P fs) (h : SBP B fs ps as a ar ar' i kk) (b0 : 0 ≤ b) (b1 : b < B) (i0 : fs b ≤ i) (i1 : i < fs (b + 1)) (k1 : ps (b + 1) - ps b ≤ kk) : SBP B fs ps as a ar ar' (i + 1) 0 := fun x j k x0 x1 j0 j1 kk0 kk1 => by
  have hh := h x j k x0 x1 j0 j1 kk0 kk1
  by_cases c : j = i
  · have xb : x = b := m.one x0 x1 (by omega) (show i < fs (x + 1) by omega) b0 b1 i0 i1
    rw [xb] at kk1
    exact ⟨fun _ => hh.1 (by omega), fun w => by omega⟩
  · exact ⟨fun w => hh.1 (by omega), fun w => hh.2 (by omega)⟩
/-- all operands of PHIs -/
def SBA (B : Int) (fs ps as a ar ar' : Int → Int) : Prop := ∀ x j k : Int, 0 ≤ x → x < B → fs x ≤ j → j < fs (x + 1) → 0 ≤ k → k < ps (x + 1) - ps x → ar' (as j + k) = rsI a 1000 (ar (as j + k))
theorem SBP.done {B P : Int} {fs ps as a ar ar' : Int → Int} {i kk : Int} (m : MS B P fs) (h : SBP B fs ps as a ar ar' i kk) (e : fs B ≤ i) : SBA B fs ps as a ar ar' := fun x j k x0 x1 j0 j1 kk0 kk1 => (h x j k x0 x1 j0 j1 kk0 kk1).1 (Or.inl (by have := m.le' (a := x + 1) (b := B) (by omega) (by omega) (Int.le_refl _); omega))
