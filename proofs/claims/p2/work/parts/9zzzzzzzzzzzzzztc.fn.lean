/-! a function that stays as it is, through several calls -/
section FNT9
variable {P Q R : PO} {la x y : Nat}
theorem PVE.refl9 (P : PO) (x : Nat) : PVE P P x := ⟨fun _ => rfl, ⟨rfl, rfl, rfl⟩, rfl, rfl, rfl⟩
theorem PVE.trans9 (h : PVE P Q x) (k : PVE Q R x) : PVE P R x := by
  obtain ⟨h1, ⟨hp, hu, hr⟩, ip, iu, ir⟩ := h
  obtain ⟨k1, ⟨kp, ku, kr⟩, jp, ju, jr⟩ := k
  rw [hp] at jp
  rw [hu] at ju
  rw [hr] at jr
  exact ⟨fun f => (k1 f).trans (h1 f), ⟨kp.trans hp, ku.trans hu, kr.trans hr⟩, jp.trans ip, ju.trans iu, jr.trans ir⟩
theorem BVE.trans9 (h : BVE P Q y) (k : BVE Q R y) : BVE P R y := by
  obtain ⟨⟨a1, a2, a3, a4, a5⟩, b, c, d⟩ := h
  obtain ⟨⟨e1, e2, e3, e4, e5⟩, f, g, i⟩ := k
  rw [a1] at f
  rw [a2] at g
  rw [a3] at i
  refine ⟨⟨e1.trans a1, e2.trans a2, e3.trans a3, e4.trans a4, e5.trans a5⟩, ⟨f.1.trans b.1, fun k k0 k1 => ?_⟩, ⟨g.1.trans c.1, fun k k0 k1 => ?_⟩, fun q => (i q).trans (d q)⟩
  · have u := b.2 k k0 k1
    have v := f.2 k k0 (by rw [b.1]; exact k1)
    rw [u.1] at v
    exact ⟨v.1, u.2.trans9 v.2⟩
  · have u := c.2 k k0 k1
    have v := g.2 k k0 (by rw [c.1]; exact k1)
    rw [u.1] at v
    exact ⟨v.1, fun q => (v.2 q).trans (u.2 q)⟩
theorem FNE.refl9 (P : PO) (la : Nat) : FNE P P la := ⟨rfl, fun _ _ _ => ⟨rfl, ⟨rfl, rfl, rfl, rfl, rfl⟩, ⟨rfl, fun _ _ _ => ⟨rfl, PVE.refl9 _ _⟩⟩, ⟨rfl, fun _ _ _ => ⟨rfl, fun _ => rfl⟩⟩, fun _ => rfl⟩⟩
theorem FNE.trans9 (h : FNE P Q la) (k : FNE Q R la) : FNE P R la := ⟨k.1.trans h.1, fun b b0 b1 => by
  have u := h.2 b b0 b1
  have v := k.2 b b0 (by rw [h.1]; exact b1)
  rw [u.1] at v
  exact ⟨v.1, u.2.trans9 v.2⟩⟩
end FNT9
/-- what flags may still cost, for functions of at most 180 blocks -/
def TBF (n : Nat) : Nat := if n < 180 then (900 + 1002 * (300 - (n : Int))).toNat else 0
theorem TBF.lt {n : Nat} (h : n < 180) : (TBF n : Int) = 900 + 1002 * (300 - (n : Int)) := by
  unfold TBF
  rw [if_pos h]
  omega
