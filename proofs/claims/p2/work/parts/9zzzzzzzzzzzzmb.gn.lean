/-! no flag of gone is set: kept by a moved row -/
theorem GN0.mvd {L L' : List Nat} {P Q : PO} {cO cI cZ : ClassId} {ed x la : Nat} {c j p : Int} (h : GN0 P la) (m : MVD L P L' Q la c j p x) (a : ALP L P cO cI cZ ed la) : GN0 Q la := fun b b0 b1 => by
  rw [m.2.1.1] at b1
  obtain ⟨zb, f⟩ := m.ph a b0 b1
  refine ⟨fun k k0 k1 => ?_, fun k k0 k1 => ?_⟩
  · rw [zb] at k1
    have q := f k k0 k1
    rw [q.1]; exact (q.2.1 2).trans ((h b b0 b1).1 k k0 k1)
  · obtain ⟨⟨g0, g1⟩, ⟨g2, g3⟩, g4⟩ := m.row a b0 b1 k0 k1
    rw [g4]; exact (m.rown a g0 g1 g2 g3 6).trans ((h _ g0 g1).2 _ g2 g3)
