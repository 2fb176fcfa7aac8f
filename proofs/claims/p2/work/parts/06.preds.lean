def gcF (ek g1 g2 : Int → Int) (b : Int) : Int := if ek b = 2 then 0 else if g1 b = g2 b then 1 else 2
def glF (g1 g2 : Int → Int) (b i : Int) : Int := if i = 0 then g1 b else g2 b
theorem gcF_rng (ek g1 g2 : Int → Int) (b : Int) : 0 ≤ gcF ek g1 g2 b ∧ gcF ek g1 g2 b ≤ 2 := by
  unfold gcF; repeat' split
  all_goals omega
def cn (ek g1 g2 : Int → Int) (j : Int) : Nat → Int
  | 0 => 0
  | b + 1 => cn ek g1 g2 j b + (if 0 < gcF ek g1 g2 b ∧ g1 b = j then 1 else 0) + (if 1 < gcF ek g1 g2 b ∧ g2 b = j then 1 else 0)
def cni (ek g1 g2 : Int → Int) (j : Int) (b i : Int) : Int := cn ek g1 g2 j b.toNat + (if 0 < i ∧ g1 b = j then 1 else 0) + (if 1 < i ∧ g2 b = j then 1 else 0)
theorem cn_succ (ek g1 g2 : Int → Int) (j : Int) {b : Int} (h : 0 ≤ b) : cn ek g1 g2 j (b + 1).toNat = cni ek g1 g2 j b (gcF ek g1 g2 b) := by
  have e : (b + 1).toNat = b.toNat + 1 := by omega
  have e2 : ((b.toNat : Nat) : Int) = b := by omega
  rw [e]
  unfold cni
  show cn ek g1 g2 j b.toNat + (if 0 < gcF ek g1 g2 (b.toNat : Int) ∧ g1 (b.toNat : Int) = j then 1 else 0) + (if 1 < gcF ek g1 g2 (b.toNat : Int) ∧ g2 (b.toNat : Int) = j then 1 else 0) = _
  rw [e2]
theorem cni_0 (ek g1 g2 : Int → Int) (j b : Int) : cni ek g1 g2 j b 0 = cn ek g1 g2 j b.toNat := by
  unfold cni; simp
theorem cni_succ (ek g1 g2 : Int → Int) (j b : Int) {i : Int} (h0 : 0 ≤ i) (h1 : i < gcF ek g1 g2 b) : cni ek g1 g2 j b (i + 1) = cni ek g1 g2 j b i + (if glF g1 g2 b i = j then 1 else 0) := by
  have hr := gcF_rng ek g1 g2 b
  rcases (show i = 0 ∨ i = 1 by omega) with rfl | rfl
  · unfold cni glF; simp
  · unfold cni glF; simp
theorem cn_mono1 (ek g1 g2 : Int → Int) (j : Int) (b : Nat) : cn ek g1 g2 j b ≤ cn ek g1 g2 j (b + 1) := by
  show _ ≤ cn ek g1 g2 j b + _ + _
  split <;> split <;> omega
theorem cn_mono (ek g1 g2 : Int → Int) (j : Int) {a b : Nat} (h : a ≤ b) : cn ek g1 g2 j a ≤ cn ek g1 g2 j b := by
  induction b with
  | zero => have : a = 0 := by omega
            subst this; exact Int.le_refl _
  | succ b ih =>
    rcases Nat.lt_or_ge b a with h1 | h1
    · have : a = b + 1 := by omega
      subst this; exact Int.le_refl _
    · exact Int.le_trans (ih h1) (cn_mono1 ek g1 g2 j b)
theorem cn_nn (ek g1 g2 : Int → Int) (j : Int) (b : Nat) : 0 ≤ cn ek g1 g2 j b := cn_mono ek g1 g2 j (Nat.zero_le b)
theorem cni_le (ek g1 g2 : Int → Int) (j b : Int) {i : Int} (hb : 0 ≤ b) (h0 : 0 ≤ i) (h1 : i ≤ gcF ek g1 g2 b) : cn ek g1 g2 j b.toNat ≤ cni ek g1 g2 j b i ∧ cni ek g1 g2 j b i ≤ cn ek g1 g2 j (b + 1).toNat := by
  rw [cn_succ ek g1 g2 j hb]
  unfold cni
  constructor
  · split <;> split <;> omega
  · split <;> split <;> split <;> split <;> omega
/-- the ways into the blocks below j, in front of block b -/
def psF (ek g1 g2 : Int → Int) (b : Nat) : Nat → Int
  | 0 => 0
  | j + 1 => psF ek g1 g2 b j + cn ek g1 g2 j b
theorem ind_le (g : Int) (n : Nat) : ∀ f : Nat → Int, (∀ k, f k = if g = (k : Int) then 1 else 0) → ∀ S : Nat → Int, S 0 = 0 → (∀ k, S (k + 1) = S k + f k) → S n ≤ 1 ∧ (g < 0 ∨ n ≤ g → S n ≤ 0) ∧ 0 ≤ S n := by
  intro f hf S h0 hS
  induction n with
  | zero => rw [h0]; omega
  | succ n ih =>
    rw [hS, hf]
    obtain ⟨i1, i2, i3⟩ := ih
    split
    · rename_i hg
      have := i2 (Or.inr (by omega))
      refine ⟨by omega, fun h => by omega, by omega⟩
    · rename_i hg
      refine ⟨by omega, fun h => ?_, by omega⟩
      have := i2 (by omega)
      omega
def sF (g : Int) : Nat → Int
  | 0 => 0
  | k + 1 => sF g k + (if g = (k : Int) then 1 else 0)
theorem sF_le (g : Int) (n : Nat) : sF g n ≤ 1 ∧ 0 ≤ sF g n := by
  have h := ind_le g n (fun k => if g = (k : Int) then 1 else 0) (fun _ => rfl) (sF g) rfl (fun _ => rfl)
  exact ⟨h.1, h.2.2⟩
theorem psF_step (ek g1 g2 : Int → Int) (b n : Nat) : psF ek g1 g2 (b + 1) n = psF ek g1 g2 b n + (if 0 < gcF ek g1 g2 b then sF (g1 b) n else 0) + (if 1 < gcF ek g1 g2 b then sF (g2 b) n else 0) := by
  induction n with
  | zero => simp [psF, sF]
  | succ n ih =>
    show psF ek g1 g2 (b + 1) n + cn ek g1 g2 n (b + 1) = psF ek g1 g2 b n + cn ek g1 g2 n b + _ + _
    rw [ih]
    show _ + (cn ek g1 g2 n b + _ + _) = _
    by_cases h1 : 0 < gcF ek g1 g2 b <;> by_cases h2 : 1 < gcF ek g1 g2 b <;> by_cases h3 : g1 b = (n : Int) <;> by_cases h4 : g2 b = (n : Int) <;> simp [h1, h2, h3, h4, sF] <;> omega
theorem psF_le (ek g1 g2 : Int → Int) (b n : Nat) : psF ek g1 g2 b n ≤ 2 * b := by
  induction b with
  | zero =>
    have : ∀ k, psF ek g1 g2 0 k = 0 := by
      intro k
      induction k with
      | zero => rfl
      | succ k ih => show psF ek g1 g2 0 k + 0 = 0; rw [ih]; rfl
    rw [this]; omega
  | succ b ih =>
    rw [psF_step]
    have h1 := sF_le (g1 b) n
    have h2 := sF_le (g2 b) n
    split <;> split <;> omega
theorem psF_nn (ek g1 g2 : Int → Int) (b n : Nat) : 0 ≤ psF ek g1 g2 b n := by
  induction n with
  | zero => exact Int.le_refl _
  | succ n ih => show 0 ≤ psF ek g1 g2 b n + cn ek g1 g2 n b; have := cn_nn ek g1 g2 n b; omega
theorem psF_succ (ek g1 g2 : Int → Int) (b : Nat) {j : Int} (h : 0 ≤ j) : psF ek g1 g2 b (j + 1).toNat = psF ek g1 g2 b j.toNat + cn ek g1 g2 j b := by
  have e : (j + 1).toNat = j.toNat + 1 := by omega
  have e2 : ((j.toNat : Nat) : Int) = j := by omega
  rw [e]
  show _ + cn ek g1 g2 (j.toNat : Int) b = _
  rw [e2]
theorem cn_le_2 (ek g1 g2 : Int → Int) (j : Int) (b : Nat) : cn ek g1 g2 j b ≤ 2 * b := by
  induction b with
  | zero => exact Int.le_refl _
  | succ b ih =>
    show cn ek g1 g2 j b + _ + _ ≤ _
    split <;> split <;> omega
theorem gl_lt {ek g1 g2 : Int → Int} {B : Int} (hG : ∀ b : Int, 0 ≤ b → b < B → ¬ ek b = 2 → (0 ≤ g1 b ∧ g1 b < B) ∧ (0 ≤ g2 b ∧ g2 b < B)) {b i : Int} (h0 : 0 ≤ b) (h1 : b < B) (h2 : 0 ≤ i) (h3 : i < gcF ek g1 g2 b) : 0 ≤ glF g1 g2 b i ∧ glF g1 g2 b i < B := by
  have hk : ¬ ek b = 2 := by
    intro h
    unfold gcF at h3
    rw [if_pos h] at h3
    omega
  have h := hG b h0 h1 hk
  unfold glF
  split
  · exact h.1
  · exact h.2
theorem cni_b (ek g1 g2 : Int → Int) {b i : Int} (hb : 0 ≤ b) (h0 : 0 ≤ i) (h1 : i < gcF ek g1 g2 b) : cni ek g1 g2 (glF g1 g2 b i) b i + 1 ≤ cn ek g1 g2 (glF g1 g2 b i) (b + 1).toNat ∧ cn ek g1 g2 (glF g1 g2 b i) (b + 1).toNat ≤ 2 * (b + 1) ∧ 0 ≤ cni ek g1 g2 (glF g1 g2 b i) b i := by
  have h2 := cni_succ ek g1 g2 (glF g1 g2 b i) b h0 h1
  rw [if_pos rfl] at h2
  have h3 := (cni_le ek g1 g2 (glF g1 g2 b i) b (i := i + 1) hb (by omega) (by omega)).2
  have h4 := cn_le_2 ek g1 g2 (glF g1 g2 b i) (b + 1).toNat
  have h5 := (cni_le ek g1 g2 (glF g1 g2 b i) b (i := i) hb h0 (by omega)).1
  have h6 := cn_nn ek g1 g2 (glF g1 g2 b i) b.toNat
  omega
theorem cni_step {ek g1 g2 w p : Int → Int} {B b i : Int} (hW : ∀ j : Int, 0 ≤ j → j ≤ B → w j = p j + cni ek g1 g2 j b i) (h0 : 0 ≤ i) (h1 : i < gcF ek g1 g2 b) : ∀ j : Int, 0 ≤ j → j ≤ B → zup w (glF g1 g2 b i) (w (glF g1 g2 b i) + 1) j = p j + cni ek g1 g2 j b (i + 1) := by
  intro j hj hB
  rw [cni_succ ek g1 g2 j b h0 h1]
  unfold zup
  split
  · rename_i h
    rw [← h, hW j hj hB, if_pos rfl]
    omega
  · rename_i h
    rw [hW j hj hB, if_neg (fun q => h q.symm)]
    omega
theorem ps_lt (ek g1 g2 : Int → Int) {B b i : Int} (hb : 0 ≤ b) (hB : b < B) (h0 : 0 ≤ i) (h1 : i < gcF ek g1 g2 b) (hg : 0 ≤ glF g1 g2 b i) : psF ek g1 g2 B.toNat (glF g1 g2 b i).toNat + cni ek g1 g2 (glF g1 g2 b i) b i + 1 ≤ 2 * B ∧ 0 ≤ psF ek g1 g2 B.toNat (glF g1 g2 b i).toNat := by
  have h2 := (cni_b ek g1 g2 hb h0 h1).1
  have h3 := cn_mono ek g1 g2 (glF g1 g2 b i) (show (b + 1).toNat ≤ B.toNat by omega)
  have h4 := psF_succ ek g1 g2 B.toNat hg
  have h5 := psF_le ek g1 g2 B.toNat (glF g1 g2 b i + 1).toNat
  have h6 := psF_nn ek g1 g2 B.toNat (glF g1 g2 b i).toNat
  omega
