theorem CGD.le {B R P na nb : Int} {rs op tg ek g1 g2 ps pr fs pt as : Int → Int} (h : CGD B R P na rs op tg ek g1 g2 ps pr fs pt as) (l : na ≤ nb) : CGD B R P nb rs op tg ek g1 g2 ps pr fs pt as := by
  obtain ⟨h1, h2, h3, h4, h5, h6, h7, h8⟩ := h
  exact ⟨h1, h2, h3, h4, h5, h6, h7, fun b i a c d e => Int.le_trans (h8 b i a c d e) l⟩
theorem CGD.painted {B R P na : Int} {rs op tg ek g1 g2 ps pr fs pt as tg' pt' : Int → Int} (h : CGD B R P na rs op tg ek g1 g2 ps pr fs pt as) (a : ∀ i : Int, 0 ≤ i → i < R → 0 ≤ tg i → 0 ≤ tg' i) (b : ∀ i : Int, 0 ≤ i → i < P → 0 ≤ pt' i) : CGD B R P na rs op tg' ek g1 g2 ps pr fs pt' as := by
  obtain ⟨h1, h2, h3, h4, h5, h6, h7, h8⟩ := h
  exact ⟨h1, h2, h3, fun i x y e => a i x y (h4 i x y e), h5, h6, b, h8⟩
