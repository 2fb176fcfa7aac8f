/-- all that blocks of the loop set is marked -/
def MSX (B : Int) (rs fs tg pt iL mk : Int → Int) : Prop := ∀ c s : Int, 0 ≤ c → c < B → iL c = 1 → (fs c ≤ s → s < fs (c + 1) → mk (pt s) = 1) ∧ (rs c ≤ s → s < rs (c + 1) → 0 ≤ tg s → mk (tg s) = 1)
theorem MSL.full {B i j : Int} {rs fs tg pt iL mk : Int → Int} (h : MSL rs fs tg pt iL mk B i j) : MSX B rs fs tg pt iL mk := fun c s c0 c1 e => ⟨fun a b => (h c c0 e).1 s a b (Or.inl c1), fun a b t => (h c c0 e).2 s a b t (Or.inl c1)⟩
theorem MSX.ns {B : Int} {rs fs tg pt iL mk : Int → Int} {y : Int} (h : MSX B rs fs tg pt iL mk) (n : NSL mk y) (g : isg y) (c s : Int) (c0 : 0 ≤ c) (c1 : c < B) (e : iL c = 1) (w : (fs c ≤ s ∧ s < fs (c + 1) ∧ pt s = y - 4294967296) ∨ (rs c ≤ s ∧ s < rs (c + 1) ∧ tg s = y - 4294967296)) : False := by
  have q := h c s c0 c1 e
  apply n g
  rcases w with w | w
  · rw [← w.2.2]; exact q.1 w.1 w.2.1
  · rw [← w.2.2]; exact q.2 w.1 w.2.1 (by rw [w.2.2]; unfold isg at g; omega)
theorem MSX.moved {B R P C h d b i : Int} {rs op tg lf rt ek eu g1 g2 ps pr fs pt as ar iL rs' o' t' l' r' mk : Int → Int} (v : SSV B R P C rs op tg lf rt ek eu g1 g2 ps pr fs pt as ar) (x : MVX rs op tg lf rt rs' o' t' l' r' i b d) (m' : MS B R rs') (l : LOOP ek g1 g2 B iL h d) (b0 : 0 ≤ b) (b1 : b < B) (d0 : 0 ≤ d) (d1 : d < B) (i0 : rs b ≤ i) (i1 : i < rs (b + 1)) (t : 0 ≤ tg i) (k : MSX B rs fs tg pt iL mk) : MSX B rs' fs t' pt iL (zup mk (tg i) 0) := by
  obtain ⟨v1, v2, v3, vr, va, v4, v5, v6, bl, sd, K, S⟩ := v
  have c1 := v1.1
  have mR := v1.2.1
  have mF := v1.2.2.1
  have P0 : 0 ≤ P := by have := mF.top 0 (by omega) (by omega); have := mF.z; omega
  have rg : ∀ c s : Int, 0 ≤ c → c < B → rs' c ≤ s → s < rs' (c + 1) → 0 ≤ s ∧ s < R := fun c s c0 c9 a e => by
    have := m'.le' (a := 0) (b := c) (by omega) c0 (by omega); have := m'.z
    have := m'.le' (a := c + 1) (b := B) (by omega) (by omega) (Int.le_refl _); have := m'.e
    omega
  have ir : 0 ≤ i ∧ i < R := by
    have := mR.le' (a := 0) (b := b) (by omega) b0 (by omega); have := mR.z
    have := mR.le' (a := b + 1) (b := B) (by omega) (by omega) (Int.le_refl _); have := mR.e
    omega
  have si : sd (tg i) = i := by
    have := S.num i (by omega) ir.2 (by unfold TT; rw [if_pos ir.1]; exact t)
    unfold TT at this; rw [if_pos ir.1] at this; exact this
  have ord : ∃ mu nu bl' : Int → Int, MVB B P R rs fs bl rs' bl' mu nu i d ∧ (∀ j : Int, t' j = tg (mu j)) := by
    rcases x with ⟨q1, q2, q3⟩ | ⟨q1, q2, q3⟩
    · obtain ⟨bl', q⟩ := MVB.up K mR mF m' q2 d0 q1 b1 i0 i1
      exact ⟨_, _, bl', q, fun j => (q3 j).2.1⟩
    · obtain ⟨bl', q⟩ := MVB.dn K mR mF m' q2 b0 q1 d1 i0 i1
      exact ⟨_, _, bl', q, fun j => (q3 j).2.1⟩
  obtain ⟨mu, nu, bl', ⟨M, K', hb, hp⟩, cp⟩ := ord
  intro c s c0 c9 e
  have cd : ¬ c = d := fun z => l.2.2.2.2.1 (by rw [← z]; exact e)
  refine ⟨fun a w => ?_, fun a w tt => ?_⟩
  · have fm := K.fm c c0 c9
    have ne : ¬ pt s = tg i := fun z => by
      have q := S.num (s - P) (by omega) (by omega) (by unfold TT; rw [if_neg (by omega), show s - P + P = s by omega, z]; exact t)
      unfold TT at q; rw [if_neg (by omega), show s - P + P = s by omega, z, si] at q; omega
    rw [zup_ne _ _ ne]; exact (k c s c0 c9 e).1 a w
  · have sr := rg c s c0 c9 a w
    have bs := K'.row c s c0 c9 a w
    rw [hb s sr.1 sr.2] at bs
    have mi : ¬ mu s = i := fun z => by rw [if_pos z] at bs; exact cd bs.symm
    rw [if_neg mi] at bs
    have mr := (M.1 s sr.1 sr.2).1
    have kb := K.rbl (mu s) mr.1 mr.2
    rw [bs] at kb
    rw [cp s] at tt ⊢
    have ne : ¬ tg (mu s) = tg i := fun z => by
      have q := S.num (mu s) (by omega) mr.2 (by unfold TT; rw [if_pos mr.1]; exact tt)
      unfold TT at q; rw [if_pos mr.1, z, si] at q; exact mi q.symm
    rw [zup_ne _ _ ne]; exact (k c (mu s) c0 c9 e).2 kb.2.1 kb.2.2 tt
