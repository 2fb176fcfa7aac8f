section DOM12
variable {P P' Q : PO} {la : Nat} {o n : Int} {g dp idm ord : Int → Int} {fd : Nat → Option Nat}
theorem IDQ.first (r : IDQ P fd dp g idm n n) (t : DRWE Q P fd la n n) (rg : RCX Q la (-1) g n) (n1 : 1 ≤ n) : idm 0 = -1 := by
  have w : g 0 ≠ 0 := (rg 0 (by omega) (by omega)).mpr (RCH.zero (by decide))
  rcases r 0 (by omega) (by omega) w with ⟨q, _⟩ | ⟨⟨v0, v1⟩, v2, v3, _⟩
  · exact q
  · exact absurd (RCH.zero v2) ((t _ 0 v0 v1 (by omega) (by omega)).mp v3).2.2
/-- rk falls along idm, down to the first block -/
def RNK (idm rk : Int → Int) (n : Int) : Prop := ∀ x : Int, 0 ≤ x → x < n → 0 ≤ rk x → idm x = -1 ∨ (0 ≤ idm x ∧ idm x < n ∧ 0 ≤ rk (idm x) ∧ rk (idm x) < rk x)
def MRK (rk : Int → Int) (x : Int) : Int := if x < 0 then 0 else if rk x < 0 then 0 else rk x + 1
theorem MRK.nn (rk : Int → Int) (x : Int) : 0 ≤ MRK rk x := by unfold MRK; split; decide; split; decide; omega
theorem MRK.pos {rk : Int → Int} {x : Int} (a : 0 ≤ x) (b : 0 ≤ rk x) : MRK rk x = rk x + 1 := by unfold MRK; rw [if_neg (by omega), if_neg (by omega)]
theorem RNK.down {rk : Int → Int} {x : Int} (h : RNK idm rk n) (a : 0 ≤ x) (b : x < n) (c : 0 ≤ rk x) : (-1 ≤ idm x ∧ idm x < n) ∧ (0 ≤ idm x → 0 ≤ rk (idm x)) ∧ MRK rk (idm x) + 1 ≤ MRK rk x := by
  rw [MRK.pos a c]
  rcases h x a b c with q | ⟨q0, q1, q2, q3⟩
  · refine ⟨⟨by omega, by omega⟩, fun w => absurd w (by omega), ?_⟩
    unfold MRK
    rw [if_pos (by omega)]
    omega
  · rw [MRK.pos q0 q2]
    exact ⟨⟨by omega, by omega⟩, fun _ => q2, by omega⟩
theorem ODR.rnk (h : ODR idm ord o n) (z : idm 0 = -1) : ∃ rk : Int → Int, RNK idm rk n ∧ ∀ k : Int, 0 ≤ k → k < o → 0 ≤ rk (ord k) := by
  obtain ⟨⟨h1, h2, h3⟩, h4, h5, h6, _⟩ := h
  have ex : ∀ x : Int, ∃ r : Int, (0 ≤ r → r < o ∧ ord r = x) ∧ ((∃ k : Int, 0 ≤ k ∧ k < o ∧ ord k = x) → 0 ≤ r) := fun x => by
    rcases Classical.em (∃ k : Int, 0 ≤ k ∧ k < o ∧ ord k = x) with ⟨k, k0, k1, k2⟩ | q
    · exact ⟨k, fun _ => ⟨k1, k2⟩, fun _ => k0⟩
    · exact ⟨-1, fun w => absurd w (by decide), fun w => absurd w q⟩
  have inj : ∀ i j : Int, 0 ≤ i → i < o → 0 ≤ j → j < o → ord i = ord j → i = j := fun i j i0 i1 j0 j1 e => by
    rcases Int.lt_trichotomy i j with w | w | w
    · exact absurd e (h5 i j i0 w j1)
    · exact w
    · exact absurd e.symm (h5 j i j0 w i1)
  obtain ⟨rk, hrk⟩ := Classical.axiomOfChoice ex
  refine ⟨rk, fun x x0 x1 rx => ?_, fun k k0 k1 => (hrk (ord k)).2 ⟨k, k0, k1, rfl⟩⟩
  obtain ⟨r1, r2⟩ := (hrk x).1 rx
  by_cases w : rk x = 0
  · refine Or.inl ?_
    rw [← r2, w, h3]
    exact z
  · obtain ⟨_, i, i0, i1, i2⟩ := h6 (rk x) (by omega) r1
    rw [r2] at i2
    have ri := (hrk (idm x)).2 ⟨i, i0, by omega, i2⟩
    obtain ⟨s1, s2⟩ := (hrk (idm x)).1 ri
    have e := inj _ i ri s1 i0 (by omega) (s2.trans i2.symm)
    have v := h4 i i0 (by omega)
    exact Or.inr ⟨by omega, by omega, ri, by omega⟩
def DBL (a z : Int) : Prop := 2 * a ≤ z ∨ z = 300
end DOM12
