theorem z_lt {x y : Int32} (h : x < y) : x.toInt < y.toInt := Int32.lt_iff_toInt_lt.mp h
theorem z_nlt {x y : Int32} (h : ¬ x < y) : y.toInt ≤ x.toInt := Int.not_lt.mp fun q => h (Int32.lt_iff_toInt_lt.mpr q)
theorem z_le {x y : Int32} (h : x ≤ y) : x.toInt ≤ y.toInt := Int32.le_iff_toInt_le.mp h
theorem z_nle {x y : Int32} (h : ¬ x ≤ y) : y.toInt < x.toInt := Int.not_le.mp fun q => h (Int32.le_iff_toInt_le.mpr q)
theorem z_eq {x y : Int32} (h : x = y) : x.toInt = y.toInt := by rw [h]
theorem z_ne {x y : Int32} (h : ¬ x = y) : ¬ x.toInt = y.toInt := fun q => h (Int32.toInt_inj.mp q)
def kf_feedG (n : Nat) : Int32 := if n + 20 ≤ 8192 then 0 else 1
def vf_feedG (n : Nat) : Int32 := nI (n + 4 + 4 + 4 + 4 + 4)
def kf_endG (n : Nat) (p : Int32) : Int32 := if 0 ≤ p.toInt ∧ p.toInt ≤ (nI n).toInt then 0 else 1
def vf_endG (p : Int32) : Int32 := p
theorem tp_lt {D : va_G} {cl : List vw_C} {q : Nat × va_E} {H : Heap} (h : va_at D cl q H) : q.1 < H.size := by
  obtain ⟨a, e⟩ := q
  cases e with
  | inl x => exact (Array.getElem?_eq_some_iff.mp (show H[a]? = some _ from h)).1
  | inr o =>
    obtain ⟨r, h1, cell, q1, -⟩ := h
    exact (Array.getElem?_eq_some_iff.mp q1).1
theorem tp_kept {D : va_G} {cl : List vw_C} {ws : va_W} {H H1 : Heap} (hP : va_P D cl ws H) (hk : ∀ q : Nat, q < H.size → H1[q]? = H[q]?) : va_P D cl ws H1 := hP.kept fun k q h => hk q.1 (tp_lt (hP k q h))
