/-! what lives, and nothing else: the table is below every table that is closed -/
def LSM (P : PO) (lv : Int → Int → Int) (la : Nat) (n : Int) : Prop := ∀ g : Int → Int → Int, (∀ b r : Int, ¬ (0 ≤ b ∧ b < n ∧ 0 ≤ r ∧ r ≤ 1001) → g b r ≠ 0) → LUB P g la n (-1) → MONO lv g
section LSM9
variable {P P' P2 : PO} {la y : Nat} {n d : Int} {lv : Int → Int → Int} {fv : Nat → Option Nat}
theorem LVZ.lsm (h : LVZ P fv n d) : LSM P2 (LVT P fv) la n := fun g o _ b r q => by
  by_cases w : 0 ≤ b ∧ b < n ∧ 0 ≤ r ∧ r ≤ 1001
  · exact absurd (h b r w.2.2.1 w.2.2.2 w.1 (Or.inl w.2.1)) q
  · exact o b r w
theorem LSM.put {e v : Int} (h : LSM P2 (LVT P fv) la n) (t : TDI fv n) (ey : fv d.toNat = some y) (d0 : 0 ≤ d) (d1 : d < n) (all : ∀ i : Int, 0 ≤ i → i < n → ∃ z : Nat, fv i.toNat = some z) (hP : P' = P.ri9 y (zup (P.ia y) e v)) (e0 : 0 ≤ e) (e1 : e ≤ 1001) (w : TFL P2 lv la d e) (m : MONO lv (LVT P fv)) : LSM P2 (LVT P' fv) la n := fun g o c b r q => by
  have k := h g o c
  by_cases z : b = d ∧ r = e
  · rw [z.1, z.2]; exact c d e (by omega) d1 e0 e1 ((m.trans k).tfl w)
  · by_cases x : 0 ≤ b ∧ b < n ∧ 0 ≤ r ∧ r ≤ 1001
    · rw [LVT.put t ey d0 d1 x.1 x.2.1 all hP z] at q; exact k b r q
    · exact o b r x
end LSM9
