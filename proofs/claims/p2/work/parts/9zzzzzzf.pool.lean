/-- put back unchanged -/
theorem pool_same {D : va_G} {cl : List vw_C} {A : Nat → Prop} {X : va_W} {L : List Nat} {P : PO} {H : Heap} {x : Nat} {e : va_E} (hx : x ∈ L) (he : pE P x = e) (hP : va_P D cl ((X ++ [(x, e)]) ++ va_pl (L.erase x) (pE P)) H) (hD : va_D A ((X ++ [(x, e)]) ++ va_pl (L.erase x) (pE P))) : va_P D cl (X ++ va_pl L (pE P)) H ∧ va_D A (X ++ va_pl L (pE P)) := by
  refine pool_in (P' := P) hx ?_ hP hD
  rw [← he]
  funext y
  by_cases q : y = x
  · rw [q, va_up_self]
  · rw [va_up_ne _ _ q]
theorem mem_er {L : List Nat} {x y : Nat} (h : y ∈ L) (n : y ≠ x) : y ∈ L.erase x := (List.mem_erase_of_ne n).mpr h
theorem kd_ne {P : PO} {x y a b : Nat} (h : P.kd x = a) (k : P.kd y = b) (n : a ≠ b) : x ≠ y := fun e => n (by rw [← h, ← k, e])
