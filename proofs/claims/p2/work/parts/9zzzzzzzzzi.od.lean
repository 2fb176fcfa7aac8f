/-- no list's row has grown but l's -/
def CPS (l : Nat) (L : List Nat) (P P' : PO) : Prop := ∀ y : Nat, y ∈ L → P.kd y = 30 → y ≠ l → P'.cap y = P.cap y
/-- a list is no longer than it was, or no longer than n -/
def LGM (a b n : Int) : Prop := b ≤ a ∧ (a ≤ b ∨ a ≤ n)
theorem LGM.refl (a n : Int) : LGM a a n := ⟨Int.le_refl _, Or.inl (Int.le_refl _)⟩
theorem LGM.step {a a' b n : Int} (h : LGM a b n) (g : LG9 a' a n) : LGM a' b (n + 1) := by
  have g' : a' = a ∨ (a' = a + 1 ∧ n = a) := g
  obtain ⟨h1, h2⟩ := h
  exact ⟨by omega, by omega⟩
theorem LGM.max {a b n m : Int} (h : LGM a b n) (x : b ≤ m) (y : n ≤ m) : b ≤ a ∧ a ≤ m := by
  obtain ⟨h1, h2⟩ := h
  exact ⟨h1, by omega⟩
theorem LGM.to {a b n n' : Int} (h : LGM a b n) (e : n' = n) : LGM a b n' := by rw [e]; exact h
theorem LGM.trans {a b c n m : Int} (h : LGM a b n) (k : LGM c a m) (e : n ≤ m) : LGM c b m := by
  obtain ⟨h1, h2⟩ := h
  obtain ⟨k1, k2⟩ := k
  exact ⟨by omega, by omega⟩
theorem ALP.cap40 {L : List Nat} {P : PO} {cO cI cZ : ClassId} {ed la l k : Nat} (h : ALP L P cO cI cZ ed la) (q : LOK L P cO k l) : P.cap l ≤ 40000 := by
  unfold PO.cap
  by_cases f : P.fl l = 1
  · rw [if_pos f]; exact h.adc40 q f
  · rw [if_neg f]; decide
theorem IOP.cong {rg of : Int → Int} {n r r' : Int} (h : IOP rg of n r) (e : r' = r) : IOP rg of n r' := by rw [e]; exact h
