/-- new ROW j is old ROW i -/
def RPX (o t l r o' t' l' r' : Int → Int) (j i : Int) : Prop := o' j = o i ∧ t' j = t i ∧ l' j = l i ∧ r' j = r i
/-- ROWs lo to hi stand behind the R that were there -/
def RAF (o t l r a b c d o' t' l' r' : Int → Int) (R lo hi : Int) : Prop := (∀ j : Int, j < R → RPX a b c d o' t' l' r' j j) ∧ (∀ i : Int, lo ≤ i → i < hi → RPX o t l r o' t' l' r' (R + (i - lo)) i)
theorem RAF.init (o t l r a b c d : Int → Int) (R lo : Int) : RAF o t l r a b c d a b c d R lo lo := ⟨fun j _ => ⟨rfl, rfl, rfl, rfl⟩, fun i h1 h2 => by omega⟩
theorem RAF.add {o t l r a b c d o' t' l' r' : Int → Int} {R lo hi N : Int} (h : RAF o t l r a b c d o' t' l' r' R lo hi) (n : N = R + (hi - lo)) (q : lo ≤ hi) : RAF o t l r a b c d (zup o' N (o hi)) (zup t' N (t hi)) (zup l' N (l hi)) (zup r' N (r hi)) R lo (hi + 1) := by
  subst n
  refine ⟨fun j a => ?_, fun i h1 h2 => ?_⟩
  · have := h.1 j a
    unfold RPX at this ⊢
    rw [zup_ne _ _ (by omega), zup_ne _ _ (by omega), zup_ne _ _ (by omega), zup_ne _ _ (by omega)]; exact this
  · by_cases w : i = hi
    · rw [w]; unfold RPX; rw [zup_eq, zup_eq, zup_eq, zup_eq]; exact ⟨rfl, rfl, rfl, rfl⟩
    · have := h.2 i h1 (by omega)
      unfold RPX at this ⊢
      rw [zup_ne _ _ (by omega), zup_ne _ _ (by omega), zup_ne _ _ (by omega), zup_ne _ _ (by omega)]; exact this
theorem RAF.hui {o t l r a b c d o' t' l' r' : Int → Int} {R lo hi Q : Int} (h : RAF o t l r a b c d o' t' l' r' R lo hi) (u : HUI a b R) (v : HUI o t Q) (l0 : 0 ≤ lo) (hQ : hi ≤ Q) (lh : lo ≤ hi) : HUI o' t' (R + (hi - lo)) := fun i i0 i1 e => by
  rcases Int.lt_or_le i R with w | w
  · have q := h.1 i w; rw [q.1] at e; rw [q.2.1]; exact u i i0 w e
  · have q := h.2 (i - R + lo) (by omega) (by omega)
    rw [show R + (i - R + lo - lo) = i by omega] at q
    rw [q.1] at e; rw [q.2.1]; exact v _ (by omega) (by omega) e
/-- ROWs of the blocks that are marked -/
def WS (rs tk : Int → Int) (B : Int) : Int := sg (fun x => if tk x = 1 then rs (x + 1) - rs x else 0) B.toNat
theorem WS.le {B R : Int} {rs tk : Int → Int} (h : MS B R rs) : WS rs tk B ≤ R := by
  unfold WS
  have a := sg_le (f := fun x => if tk x = 1 then rs (x + 1) - rs x else 0) (g := fun x => rs (x + 1) - rs x) B.toNat (fun j h1 h2 => by
    have := h.mo j h1 (by omega)
    show (if tk j = 1 then rs (j + 1) - rs j else 0) ≤ rs (j + 1) - rs j
    split <;> omega)
  have b := sg_tel rs B.toNat
  have := h.b0; have := h.z; have := h.e
  rw [show ((B.toNat : Nat) : Int) = B by omega] at b
  omega
theorem WS.set {rs tk : Int → Int} {B x : Int} (x0 : 0 ≤ x) (x1 : x < B) (n : tk x = 0) : WS rs (zup tk x 1) B = WS rs tk B + (rs (x + 1) - rs x) := by
  unfold WS
  have e : (fun y => if zup tk x 1 y = 1 then rs (y + 1) - rs y else 0) = zup (fun y => if tk y = 1 then rs (y + 1) - rs y else 0) x (rs (x + 1) - rs x) := by
    funext y
    by_cases w : y = x
    · rw [w, zup_eq, zup_eq, if_pos rfl]
    · rw [zup_ne _ _ w, zup_ne _ _ w]
  rw [e, sg_up _ _ _ x0 (by omega), if_neg (by omega)]; omega
/-- how many are marked -/
theorem tk_set {tk : Int → Int} {B x : Int} (x0 : 0 ≤ x) (x1 : x < B) (n : tk x = 0) : sg (zup tk x 1) B.toNat = sg tk B.toNat + 1 := by
  rw [sg_up _ _ _ x0 (by omega), n]; omega
theorem tk_lt {tk : Int → Int} {B x : Int} (z : ∀ y : Int, tk y = 0 ∨ tk y = 1) (x0 : 0 ≤ x) (x1 : x < B) (n : tk x = 0) : sg tk B.toNat < B := by
  have a := sg_lt (f := tk) (g := fun _ => 1) B.toNat (fun j _ _ => by have := z j; show tk j ≤ 1; omega) x0 (by omega) (by show tk x < 1; omega)
  rw [sg_const] at a; omega
/-- who stands behind whom: none who leads, none behind two -/
def CHN (B : Int) (ld fw : Int → Int) : Prop := (∀ p : Int, 0 ≤ p → p < B → fw p = -1 ∨ ((0 ≤ fw p ∧ fw p < B) ∧ ¬ ld (fw p) = 1)) ∧ (∀ p q : Int, 0 ≤ p → p < B → 0 ≤ q → q < B → fw p = fw q → ¬ fw p = -1 → p = q)
/-- block y is the chain from fo y to la y -/
def BKL (B : Int) (ld fw rs ek eu g1 g2 : Int → Int) (b : Int) (rs' ek' eu' g1' g2' fo la nu tk st : Int → Int) (y : Int) : Prop := (0 ≤ fo y ∧ fo y < b ∧ fo y < B) ∧ ld (fo y) = 1 ∧ nu (fo y) = y ∧ st (fo y) = rs' y ∧ (0 ≤ la y ∧ la y < B) ∧ tk (la y) = 1 ∧ nu (la y) = y ∧ fw (la y) = -1 ∧ rs' (y + 1) = st (la y) + (rs (la y + 1) - rs (la y)) ∧ ek' y = ek (la y) ∧ eu' y = eu (la y) ∧ g1' y = g1 (la y) ∧ g2' y = g2 (la y)
/-- the chain that is being gathered, c its last so far -/
def OPC (B : Int) (ld rs : Int → Int) (b T R' : Int) (rs' fo nu tk st : Int → Int) (c : Int) : Prop := (0 ≤ c ∧ c < B) ∧ tk c = 1 ∧ nu c = T ∧ R' = st c + (rs (c + 1) - rs c) ∧ (0 ≤ fo T ∧ fo T < b ∧ fo T < B) ∧ ld (fo T) = 1 ∧ nu (fo T) = T ∧ st (fo T) = rs' T ∧ (∀ y : Int, 0 ≤ y → y < T → fo y < fo T)
/-- where a taken block's ROWs have come to -/
def PLC (rs o t l r : Int → Int) (T R' : Int) (rs' o' t' l' r' nu st : Int → Int) (c x : Int) : Prop := (0 ≤ nu x ∧ (nu x < T ∨ (nu x = T ∧ ¬ c = -1))) ∧ (rs' (nu x) ≤ st x ∧ st x + (rs (x + 1) - rs x) ≤ R' ∧ (nu x < T → st x + (rs (x + 1) - rs x) ≤ rs' (nu x + 1))) ∧ (∀ i : Int, rs x ≤ i → i < rs (x + 1) → RPX o t l r o' t' l' r' (st x + (i - rs x)) i)
def GT1 (B : Int) (ld fw rs : Int → Int) (b T : Int) (fo la nu tk st cp : Int → Int) (c : Int) : Prop := (0 ≤ T ∧ T ≤ b ∧ (¬ c = -1 → T < b)) ∧ (∀ x : Int, tk x = 0 ∨ tk x = 1) ∧ (∀ x : Int, 0 ≤ x → x < B → ld x = 1 → (tk x = 1 ↔ x < b)) ∧ (∀ x : Int, 0 ≤ x → x < B → tk x = 1 → ¬ ld x = 1 → ∃ p : Int, 0 ≤ p ∧ p < B ∧ tk p = 1 ∧ ¬ p = c ∧ fw p = x) ∧ (∀ p : Int, 0 ≤ p → p < B → tk p = 1 → ¬ p = c → fw p = -1 ∨ (tk (fw p) = 1 ∧ st (fw p) = st p + (rs (p + 1) - rs p) ∧ nu (fw p) = nu p ∧ cp (fw p) = cp p + 1)) ∧ (∀ y z : Int, 0 ≤ y → y < z → z < T → fo y < fo z) ∧ (∀ x : Int, 0 ≤ x → x < B → tk x = 1 → ld x = 1 → fo (nu x) = x) ∧ (∀ x : Int, 0 ≤ x → x < B → tk x = 1 → fw x = -1 → ¬ x = c → nu x < T ∧ la (nu x) = x) ∧ (∀ x : Int, 0 ≤ x → x < B → tk x = 1 → 0 ≤ cp x ∧ (ld x = 1 → cp x = 0))
def GT2 (B : Int) (rs o t l r : Int → Int) (T R' : Int) (rs' o' t' l' r' nu tk st : Int → Int) (c : Int) : Prop := (∀ x : Int, 0 ≤ x → x < B → tk x = 1 → PLC rs o t l r T R' rs' o' t' l' r' nu st c x) ∧ (∀ j : Int, 0 ≤ j → j < R' → ∃ x i : Int, (0 ≤ x ∧ x < B) ∧ tk x = 1 ∧ rs x ≤ i ∧ i < rs (x + 1) ∧ j = st x + (i - rs x)) ∧ R' = WS rs tk B ∧ (rs' 0 = 0 ∧ (∀ y : Int, 0 ≤ y → y < T → rs' y ≤ rs' (y + 1)) ∧ rs' T ≤ R' ∧ (c = -1 → rs' T = R'))
/-- blocks gathered: tk says which have been taken, st where their ROWs begin -/
def GTH (B : Int) (ld fw rs o t l r ek eu g1 g2 : Int → Int) (b T R' : Int) (rs' o' t' l' r' ek' eu' g1' g2' fo la nu tk st cp : Int → Int) (c : Int) : Prop := GT1 B ld fw rs b T fo la nu tk st cp c ∧ GT2 B rs o t l r T R' rs' o' t' l' r' nu tk st c ∧ (∀ y : Int, 0 ≤ y → y < T → BKL B ld fw rs ek eu g1 g2 b rs' ek' eu' g1' g2' fo la nu tk st y) ∧ (¬ c = -1 → OPC B ld rs b T R' rs' fo nu tk st c)
theorem GTH.init {B : Int} {ld fw rs o t l r ek eu g1 g2 rs' o' t' l' r' ek' eu' g1' g2' fo la nu : Int → Int} (st cp : Int → Int) (z : rs' 0 = 0) : GTH B ld fw rs o t l r ek eu g1 g2 0 0 0 rs' o' t' l' r' ek' eu' g1' g2' fo la nu (fun _ => 0) st cp (-1) := by
  refine ⟨⟨by omega, fun _ => Or.inl rfl, fun x a b _ => ⟨fun h => absurd h (show ¬ (0 : Int) = 1 by decide), fun h => by omega⟩, fun x _ _ h => absurd h (show ¬ (0 : Int) = 1 by decide), fun p _ _ h => absurd h (show ¬ (0 : Int) = 1 by decide), fun y z a b c => by omega, fun x _ _ h => absurd h (show ¬ (0 : Int) = 1 by decide), fun x _ _ h => absurd h (show ¬ (0 : Int) = 1 by decide), fun x _ _ h => absurd h (show ¬ (0 : Int) = 1 by decide)⟩, ⟨fun x _ _ h => absurd h (show ¬ (0 : Int) = 1 by decide), fun j a b => by omega, ?_, z, fun y a b => by omega, by omega, fun _ => z⟩, fun y a b => by omega, fun h => absurd rfl h⟩
  unfold WS
  have : (fun x => if (0 : Int) = 1 then rs (x + 1) - rs x else 0) = fun _ => (0 : Int) := by funext x; rw [if_neg (by decide)]
  rw [this, sg_const]; omega
theorem GTH.skip {B : Int} {ld fw rs o t l r ek eu g1 g2 rs' o' t' l' r' ek' eu' g1' g2' fo la nu tk st cp : Int → Int} {b T R' : Int} (h : GTH B ld fw rs o t l r ek eu g1 g2 b T R' rs' o' t' l' r' ek' eu' g1' g2' fo la nu tk st cp (-1)) (n : ¬ ld b = 1) : GTH B ld fw rs o t l r ek eu g1 g2 (b + 1) T R' rs' o' t' l' r' ek' eu' g1' g2' fo la nu tk st cp (-1) := by
  obtain ⟨⟨a1, a2, a3, a4, a5, a6, a7, a8, a9⟩, h2, h3, h4⟩ := h
  refine ⟨⟨⟨a1.1, by omega, fun e => absurd rfl e⟩, a2, fun x x0 x1 e => ?_, a4, a5, a6, a7, a8, a9⟩, h2, fun y y0 y1 => ?_, fun e => absurd rfl e⟩
  · have := a3 x x0 x1 e
    by_cases w : x = b
    · rw [w] at e; exact absurd e n
    · exact ⟨fun q => by have := this.mp q; omega, fun q => this.mpr (by omega)⟩
  · obtain ⟨q, q'⟩ := h3 y y0 y1
    exact ⟨by omega, q'⟩
/-- the first of a chain, or the next, is taken -/
theorem GTH.take {B R : Int} {ld fw rs o t l r ek eu g1 g2 rs' o' t' l' r' o2 t2 l2 r2 ek' eu' g1' g2' fo la nu tk st cp : Int → Int} {b b' T R' c x v : Int} (m : MS B R rs) (h : GTH B ld fw rs o t l r ek eu g1 g2 b T R' rs' o' t' l' r' ek' eu' g1' g2' fo la nu tk st cp c) (x0 : 0 ≤ x) (x1 : x < B) (n : tk x = 0)
    (k : (c = -1 ∧ x = b ∧ ld b = 1 ∧ fo T = b ∧ b' = b + 1) ∨ (¬ c = -1 ∧ x = fw c ∧ ¬ ld x = 1 ∧ b' = b)) (a : RAF o t l r o' t' l' r' o2 t2 l2 r2 R' (rs x) (rs (x + 1))) (hv : (c = -1 → v = 0) ∧ (¬ c = -1 → v = cp c + 1)) :
    GTH B ld fw rs o t l r ek eu g1 g2 b' T (R' + (rs (x + 1) - rs x)) rs' o2 t2 l2 r2 ek' eu' g1' g2' fo la (zup nu x T) (zup tk x 1) (zup st x R') (zup cp x v) x := by
  obtain ⟨⟨a1, a2, a3, a4, a5, a6, a7, a8, a9⟩, ⟨b1, b2, b3, b4⟩, h3, h4⟩ := h
  have lx := m.mo x x0 x1
  have ne : ∀ y : Int, tk y = 1 → ¬ y = x := fun y e q => by rw [q] at e; omega
  have xn : ¬ x = -1 := by omega
  have tz : ∀ y : Int, zup tk x 1 y = 1 → y = x ∨ (¬ y = x ∧ tk y = 1) := fun y e => by
    by_cases w : y = x
    · exact Or.inl w
    · rw [zup_ne _ _ w] at e; exact Or.inr ⟨w, e⟩
  have R0 : 0 ≤ R' := by
    rcases b4 with ⟨z0, z1, z2, z3⟩
    have : ∀ q : Nat, (q : Int) ≤ T → 0 ≤ rs' q := by
      intro q
      induction q with
      | zero => intro _; show 0 ≤ rs' 0; omega
      | succ q ih => intro e; have := ih (by omega); have := z1 q (by omega) (by omega); show 0 ≤ rs' ((q : Int) + 1); omega
    have := this T.toNat (by omega)
    rw [show ((T.toNat : Nat) : Int) = T by omega] at this; omega
  have old : ∀ j i : Int, 0 ≤ i → j < R' → RPX o t l r o' t' l' r' j i → RPX o t l r o2 t2 l2 r2 j i := fun j i _ w q => by
    have p := a.1 j w
    unfold RPX at p q ⊢
    rw [p.1, p.2.1, p.2.2.1, p.2.2.2]; exact q
  refine ⟨⟨⟨a1.1, by omega, fun _ => by omega⟩, fun y => ?_, fun y y0 y1 e => ?_, fun y y0 y1 e f => ?_, fun p p0 p1 e f => ?_, a6, fun y y0 y1 e f => ?_, fun y y0 y1 e f g => ?_, fun y y0 y1 e => ?_⟩, ⟨fun y y0 y1 e => ?_, fun j j0 j1 => ?_, ?_, b4.1, b4.2.1, by omega, fun e => absurd e xn⟩, fun y y0 y1 => ?_, fun _ => ?_⟩
  · by_cases w : y = x
    · rw [w, zup_eq]; exact Or.inr rfl
    · rw [zup_ne _ _ w]; exact a2 y
  · have q := a3 y y0 y1 e
    by_cases w : y = x
    · rw [w, zup_eq]
      rcases k with k | k
      · exact ⟨fun _ => by omega, fun _ => rfl⟩
      · rw [w] at e; exact absurd e k.2.2.1
    · rw [zup_ne _ _ w]
      rcases k with k | k
      · exact ⟨fun z => by have := q.mp z; omega, fun z => q.mpr (by omega)⟩
      · rw [k.2.2.2]; exact q
  · rcases tz y e with w | w
    · rw [w] at f ⊢
      rcases k with k | k
      · rw [k.2.1] at f; exact absurd k.2.2.1 f
      · have q := h4 k.1
        exact ⟨c, q.1.1, q.1.2, by rw [zup_ne _ _ (ne c q.2.1)]; exact q.2.1, ne c q.2.1, k.2.1.symm⟩
    · obtain ⟨p, p0, p1, p2, p3, p4⟩ := a4 y y0 y1 w.2 f
      exact ⟨p, p0, p1, by rw [zup_ne _ _ (ne p p2)]; exact p2, ne p p2, p4⟩
  · rcases tz p e with w | w
    · exact absurd w f
    · by_cases pc : p = c
      · rcases k with k | k
        · omega
        · have q := h4 k.1
          right
          rw [pc, ← k.2.1, zup_eq, zup_eq, zup_eq, zup_eq, zup_ne _ _ (ne c q.2.1), zup_ne _ _ (ne c q.2.1), zup_ne _ _ (ne c q.2.1)]
          exact ⟨rfl, q.2.2.2.1, q.2.2.1.symm, hv.2 k.1⟩
      · rcases a5 p p0 p1 w.2 pc with q | q
        · exact Or.inl q
        · right
          rw [zup_ne _ _ (ne _ q.1), zup_ne _ _ (ne _ q.1), zup_ne _ _ (ne _ q.1), zup_ne _ _ (ne _ q.1), zup_ne _ _ w.1, zup_ne _ _ w.1, zup_ne _ _ w.1]; exact q
  · rcases tz y e with w | w
    · rw [w] at f ⊢; rw [zup_eq]
      rcases k with k | k
      · rw [k.2.1]; exact k.2.2.2.1
      · exact absurd f k.2.2.1
    · rw [zup_ne _ _ w.1]; exact a7 y y0 y1 w.2 f
  · rcases tz y e with w | w
    · exact absurd w g
    · rw [zup_ne _ _ w.1]
      refine a8 y y0 y1 w.2 f (fun q => ?_)
      rcases k with k | k
      · omega
      · rw [q, ← k.2.1] at f; omega
  · rcases tz y e with w | w
    · rw [w, zup_eq]
      rcases k with k | k
      · rw [hv.1 k.1]; exact ⟨by omega, fun _ => rfl⟩
      · have q := h4 k.1
        rw [hv.2 k.1]; have := a9 c q.1.1 q.1.2 q.2.1; exact ⟨by omega, fun z => absurd z k.2.2.1⟩
    · rw [zup_ne _ _ w.1]; exact a9 y y0 y1 w.2
  · rcases tz y e with w | w
    · rw [w]
      unfold PLC
      rw [zup_eq, zup_eq]
      refine ⟨⟨a1.1, Or.inr ⟨rfl, xn⟩⟩, ⟨b4.2.2.1, by omega, fun z => by omega⟩, fun i i0 i1 => a.2 i i0 i1⟩
    · have q := b1 y y0 y1 w.2
      unfold PLC at q ⊢
      rw [zup_ne _ _ w.1, zup_ne _ _ w.1]
      refine ⟨⟨q.1.1, ?_⟩, ⟨q.2.1.1, by omega, q.2.1.2.2⟩, fun i i0 i1 => old _ _ (by have := m.le' (Int.le_refl 0) y0 (by omega); have := m.z; omega) (by omega) (q.2.2 i i0 i1)⟩
      rcases q.1.2 with z | z
      · exact Or.inl z
      · exact Or.inr ⟨z.1, xn⟩
  · rcases Int.lt_or_le j R' with w | w
    · obtain ⟨y, i, y0, y1, y2, y3, y4⟩ := b2 j j0 w
      exact ⟨y, i, y0, by rw [zup_ne _ _ (ne y y1)]; exact y1, y2, y3, by rw [zup_ne _ _ (ne y y1)]; exact y4⟩
    · exact ⟨x, rs x + (j - R'), ⟨x0, x1⟩, zup_eq _ _ _, by omega, by omega, by rw [zup_eq]; omega⟩
  · rw [WS.set x0 x1 n]; omega
  · obtain ⟨q1, q2, q3, q4, q5, q6, q7, q8⟩ := h3 y y0 y1
    have f1 : tk (fo y) = 1 := (a3 _ q1.1 q1.2.2 q2).mpr q1.2.1
    unfold BKL
    rw [zup_ne _ _ (ne _ f1), zup_ne _ _ (ne _ f1), zup_ne _ _ (ne _ q6), zup_ne _ _ (ne _ q6), zup_ne _ _ (ne _ q6)]
    exact ⟨by omega, q2, q3, q4, q5, q6, q7, q8⟩
  · unfold OPC
    rw [zup_eq, zup_eq, zup_eq]
    refine ⟨⟨x0, x1⟩, rfl, rfl, by omega, ?_⟩
    rcases k with k | k
    · have e : fo T = x := by rw [k.2.1]; exact k.2.2.2.1
      rw [e, zup_eq, zup_eq]
      refine ⟨by omega, by rw [k.2.1]; exact k.2.2.1, rfl, (b4.2.2.2 k.1).symm, fun y y0 y1 => ?_⟩
      have := (h3 y y0 y1).1; omega
    · obtain ⟨q1, q2, q3, q4, q5, q6, q7, q8, q9⟩ := h4 k.1
      have f1 : tk (fo T) = 1 := (a3 _ q5.1 q5.2.2 q6).mpr q5.2.1
      rw [zup_ne _ _ (ne _ f1), zup_ne _ _ (ne _ f1)]
      exact ⟨by omega, q6, q7, q8, q9⟩
/-- the chain is at its end: the block is closed -/
theorem GTH.close {B : Int} {ld fw rs o t l r ek eu g1 g2 rs' o' t' l' r' ek' eu' g1' g2' fo la nu tk st cp : Int → Int} {b T R' c : Int} (h : GTH B ld fw rs o t l r ek eu g1 g2 b T R' rs' o' t' l' r' ek' eu' g1' g2' fo la nu tk st cp c) (n : ¬ c = -1) (f : fw c = -1) :
    GTH B ld fw rs o t l r ek eu g1 g2 b (T + 1) R' (zup rs' (T + 1) R') o' t' l' r' (zup ek' T (ek c)) (zup eu' T (eu c)) (zup g1' T (g1 c)) (zup g2' T (g2 c)) fo (zup la T c) nu tk st cp (-1) := by
  obtain ⟨⟨a1, a2, a3, a4, a5, a6, a7, a8, a9⟩, ⟨b1, b2, b3, b4⟩, h3, h4⟩ := h
  obtain ⟨c1, c2, c3, c4, c5, c6, c7, c8, c9⟩ := h4 n
  refine ⟨⟨⟨by omega, by have := a1.2.2 n; omega, fun e => absurd rfl e⟩, a2, a3, fun x x0 x1 e g => ?_, fun p p0 p1 e g => ?_, fun y z y0 y1 y2 => ?_, a7, fun x x0 x1 e g _ => ?_, a9⟩, ⟨fun x x0 x1 e => ?_, b2, b3, by rw [zup_ne _ _ (by omega)]; exact b4.1, fun y y0 y1 => ?_, by rw [zup_eq]; omega, fun _ => zup_eq _ _ _⟩, fun y y0 y1 => ?_, fun e => absurd rfl e⟩
  · obtain ⟨p, p0, p1, p2, p3, p4⟩ := a4 x x0 x1 e g
    exact ⟨p, p0, p1, p2, by omega, p4⟩
  · by_cases w : p = c
    · rw [w]; exact Or.inl f
    · exact a5 p p0 p1 e w
  · by_cases w : z = T
    · rw [w]; exact c9 y y0 (by omega)
    · exact a6 y z y0 y1 (by omega)
  · by_cases w : x = c
    · rw [w, c3, zup_eq]; exact ⟨by omega, rfl⟩
    · have := a8 x x0 x1 e g w
      rw [zup_ne _ _ (by omega)]; exact ⟨by omega, this.2⟩
  · have q := b1 x x0 x1 e
    unfold PLC at q ⊢
    refine ⟨⟨q.1.1, Or.inl (by omega)⟩, ?_, q.2.2⟩
    rcases q.1.2 with z | z
    · rw [zup_ne _ _ (by omega), zup_ne _ _ (by omega)]
      exact ⟨q.2.1.1, q.2.1.2.1, fun _ => q.2.1.2.2 z⟩
    · rw [z.1, zup_eq, zup_ne _ _ (by omega)]
      rw [z.1] at q
      exact ⟨q.2.1.1, q.2.1.2.1, fun _ => q.2.1.2.1⟩
  · by_cases w : y = T
    · rw [w, zup_eq, zup_ne _ _ (by omega)]; exact b4.2.2.1
    · rw [zup_ne _ _ (by omega), zup_ne _ _ (by omega)]; exact b4.2.1 y y0 (by omega)
  · unfold BKL
    by_cases w : y = T
    · rw [w, zup_eq, zup_eq, zup_eq, zup_eq, zup_eq, zup_eq, zup_ne _ _ (by omega)]
      exact ⟨c5, c6, c7, c8, c1, c2, c3, f, c4, rfl, rfl, rfl, rfl⟩
    · have q := h3 y y0 (by omega)
      unfold BKL at q
      rw [zup_ne rs' _ (show ¬ y = T + 1 by omega), zup_ne rs' _ (show ¬ y + 1 = T + 1 by omega), zup_ne la _ w, zup_ne ek' _ w, zup_ne eu' _ w, zup_ne g1' _ w, zup_ne g2' _ w]
      exact q
theorem GTH.first {B : Int} {ld fw rs o t l r ek eu g1 g2 rs' o' t' l' r' ek' eu' g1' g2' fo la nu tk st cp : Int → Int} {b T R' : Int} (h : GTH B ld fw rs o t l r ek eu g1 g2 b T R' rs' o' t' l' r' ek' eu' g1' g2' fo la nu tk st cp (-1)) (v : Int) : GTH B ld fw rs o t l r ek eu g1 g2 b T R' rs' o' t' l' r' ek' eu' g1' g2' (zup fo T v) la nu tk st cp (-1) := by
  obtain ⟨⟨a1, a2, a3, a4, a5, a6, a7, a8, a9⟩, h2, h3, h4⟩ := h
  refine ⟨⟨a1, a2, a3, a4, a5, fun y z y0 y1 y2 => ?_, fun x x0 x1 e f => ?_, a8, a9⟩, h2, fun y y0 y1 => ?_, fun e => absurd rfl e⟩
  · rw [zup_ne _ _ (by omega), zup_ne _ _ (by omega)]; exact a6 y z y0 y1 y2
  · have q := (h2.1 x x0 x1 e).1
    rw [zup_ne _ _ (by omega)]; exact a7 x x0 x1 e f
  · have q := h3 y y0 y1
    unfold BKL at q ⊢
    rw [zup_ne _ _ (by omega)]; exact q
def GTX (B : Int) (ld fw rs o t l r ek eu g1 g2 : Int → Int) (b T R' : Int) (rs' o' t' l' r' ek' eu' g1' g2' fo la nu : Int → Int) : Prop := ∃ tk st cp : Int → Int, GTH B ld fw rs o t l r ek eu g1 g2 b T R' rs' o' t' l' r' ek' eu' g1' g2' fo la nu tk st cp (-1)
/-- inside a chain: n blocks have been taken, nx is next, lt was the last -/
def TCH (B : Int) (ld fw rs o t l r ek eu g1 g2 : Int → Int) (b T R' : Int) (rs' o' t' l' r' ek' eu' g1' g2' fo la nu : Int → Int) (n nx lt : Int) : Prop := (0 ≤ b ∧ b < B ∧ ld b = 1 ∧ fo T = b) ∧ ∃ tk st cp : Int → Int, 0 ≤ n ∧ n ≤ sg tk B.toNat ∧ ((n = 0 ∧ nx = b ∧ GTH B ld fw rs o t l r ek eu g1 g2 b T R' rs' o' t' l' r' ek' eu' g1' g2' fo la nu tk st cp (-1)) ∨ (1 ≤ n ∧ nx = fw lt ∧ ¬ lt = -1 ∧ GTH B ld fw rs o t l r ek eu g1 g2 (b + 1) T R' rs' o' t' l' r' ek' eu' g1' g2' fo la nu tk st cp lt))
theorem TCH.init {B : Int} {ld fw rs o t l r ek eu g1 g2 rs' o' t' l' r' ek' eu' g1' g2' fo la nu : Int → Int} {b T R' lt : Int} (h : GTX B ld fw rs o t l r ek eu g1 g2 b T R' rs' o' t' l' r' ek' eu' g1' g2' fo la nu) (b0 : 0 ≤ b) (b1 : b < B) (k : ld b = 1) : TCH B ld fw rs o t l r ek eu g1 g2 b T R' rs' o' t' l' r' ek' eu' g1' g2' (zup fo T b) la nu 0 b lt := by
  obtain ⟨tk, st, cp, h⟩ := h
  refine ⟨⟨b0, b1, k, zup_eq _ _ _⟩, tk, st, cp, by omega, ?_, Or.inl ⟨rfl, rfl, h.first b⟩⟩
  have a2 := h.1.2.1
  have := sg_le (f := fun _ => (0 : Int)) (g := tk) B.toNat (fun j _ _ => by have := a2 j; show 0 ≤ tk j; omega)
  rw [sg_const] at this; omega
theorem TCH.free {B R : Int} {ld fw rs o t l r ek eu g1 g2 rs' o' t' l' r' ek' eu' g1' g2' fo la nu : Int → Int} {b T R' n nx lt : Int} (m : MS B R rs) (C : CHN B ld fw) (h : TCH B ld fw rs o t l r ek eu g1 g2 b T R' rs' o' t' l' r' ek' eu' g1' g2' fo la nu n nx lt) (p : 0 ≤ nx) : nx < B ∧ n < B ∧ R' + (rs (nx + 1) - rs nx) ≤ R := by
  obtain ⟨⟨b0, b1, k, f⟩, tk, st, cp, n0, n1, h⟩ := h
  have key : (∀ y : Int, tk y = 0 ∨ tk y = 1) ∧ R' = WS rs tk B ∧ nx < B ∧ tk nx = 0 := by
    rcases h with ⟨e, e2, h⟩ | ⟨e, e2, e3, h⟩
    · obtain ⟨⟨a1, a2, a3, a4, a5, a6, a7, a8, a9⟩, ⟨c1, c2, c3, c4⟩, h3, h4⟩ := h
      refine ⟨a2, c3, by omega, ?_⟩
      rw [e2]
      rcases a2 b with q | q
      · exact q
      · have := (a3 b b0 b1 k).mp q; omega
    · obtain ⟨⟨a1, a2, a3, a4, a5, a6, a7, a8, a9⟩, ⟨c1, c2, c3, c4⟩, h3, h4⟩ := h
      have q := h4 e3
      rcases C.1 lt q.1.1 q.1.2 with z | z
      · omega
      · refine ⟨a2, c3, by omega, ?_⟩
        rcases a2 nx with w | w
        · exact w
        · exfalso
          obtain ⟨p', p0, p1, p2, p3, p4⟩ := a4 nx p (by omega) w (by rw [e2]; exact z.2)
          exact p3 (C.2 p' lt p0 p1 q.1.1 q.1.2 (by rw [p4, e2]) (by omega))
  obtain ⟨a2, c3, nb, tn⟩ := key
  have w := WS.set (rs := rs) p nb tn
  have v := WS.le (tk := zup tk nx 1) m
  have u := tk_lt a2 p nb tn
  exact ⟨nb, by omega, by omega⟩
theorem TCH.step {B R : Int} {ld fw rs o t l r ek eu g1 g2 rs' o' t' l' r' o2 t2 l2 r2 ek' eu' g1' g2' fo la nu : Int → Int} {b T R' R2 n nx lt : Int} (m : MS B R rs) (C : CHN B ld fw) (h : TCH B ld fw rs o t l r ek eu g1 g2 b T R' rs' o' t' l' r' ek' eu' g1' g2' fo la nu n nx lt) (p : 0 ≤ nx) (a : RAF o t l r o' t' l' r' o2 t2 l2 r2 R' (rs nx) (rs (nx + 1))) (e : R2 = R' + (rs (nx + 1) - rs nx)) : TCH B ld fw rs o t l r ek eu g1 g2 b T R2 rs' o2 t2 l2 r2 ek' eu' g1' g2' fo la (zup nu nx T) (n + 1) (fw nx) nx := by
  subst e
  have fr := h.free m C p
  obtain ⟨⟨b0, b1, k, f⟩, tk, st, cp, n0, n1, h⟩ := h
  refine ⟨⟨b0, b1, k, f⟩, zup tk nx 1, zup st nx R', zup cp nx (if n = 0 then 0 else cp lt + 1), by omega, ?_, Or.inr ⟨by omega, rfl, by omega, ?_⟩⟩
  · rcases h with ⟨e, e2, h⟩ | ⟨e, e2, e3, h⟩
    · have tn : tk nx = 0 := by
        rw [e2]
        rcases h.1.2.1 b with q | q
        · exact q
        · have := (h.1.2.2.1 b b0 b1 k).mp q; omega
      rw [tk_set p fr.1 tn]; omega
    · have q := h.2.2.2 e3
      have tn : tk nx = 0 := by
        rcases h.1.2.1 nx with w | w
        · exact w
        · exfalso
          rcases C.1 lt q.1.1 q.1.2 with z | z
          · omega
          · obtain ⟨p', p0, p1, p2, p3, p4⟩ := h.1.2.2.2.1 nx p fr.1 w (by rw [e2]; exact z.2)
            exact p3 (C.2 p' lt p0 p1 q.1.1 q.1.2 (by rw [p4, e2]) (by omega))
      rw [tk_set p fr.1 tn]; omega
  · rcases h with ⟨e, e2, h⟩ | ⟨e, e2, e3, h⟩
    · have tn : tk nx = 0 := by
        rw [e2]
        rcases h.1.2.1 b with q | q
        · exact q
        · have := (h.1.2.2.1 b b0 b1 k).mp q; omega
      exact h.take m p fr.1 tn (Or.inl ⟨rfl, e2, k, f, rfl⟩) a ⟨fun _ => by rw [if_pos e], fun z => absurd rfl z⟩
    · have q := h.2.2.2 e3
      rcases C.1 lt q.1.1 q.1.2 with z | z
      · omega
      · have tn : tk nx = 0 := by
          rcases h.1.2.1 nx with w | w
          · exact w
          · exfalso
            obtain ⟨p', p0, p1, p2, p3, p4⟩ := h.1.2.2.2.1 nx p fr.1 w (by rw [e2]; exact z.2)
            exact p3 (C.2 p' lt p0 p1 q.1.1 q.1.2 (by rw [p4, e2]) (by omega))
        exact h.take m p fr.1 tn (Or.inr ⟨e3, e2, by rw [e2]; exact z.2, rfl⟩) a ⟨fun z => absurd z e3, fun _ => by rw [if_neg (by omega)]⟩
theorem TCH.last {B R : Int} {ld fw rs o t l r ek eu g1 g2 rs' o' t' l' r' ek' eu' g1' g2' fo la nu : Int → Int} {b T R' n nx lt : Int} (m : MS B R rs) (C : CHN B ld fw) (h : TCH B ld fw rs o t l r ek eu g1 g2 b T R' rs' o' t' l' r' ek' eu' g1' g2' fo la nu n nx lt) (B3 : B ≤ 300) (x : nx < 0 ∨ 300 ≤ n) : (0 ≤ lt ∧ lt < B) ∧ fw lt = -1 ∧ T < B ∧ T ≤ b ∧ GTX B ld fw rs o t l r ek eu g1 g2 (b + 1) (T + 1) R' (zup rs' (T + 1) R') o' t' l' r' (zup ek' T (ek lt)) (zup eu' T (eu lt)) (zup g1' T (g1 lt)) (zup g2' T (g2 lt)) fo (zup la T lt) nu := by
  have neg : nx < 0 := by
    rcases Int.lt_or_le nx 0 with w | w
    · exact w
    · have := h.free m C w; omega
  obtain ⟨⟨b0, b1, k, f⟩, tk, st, cp, n0, n1, h⟩ := h
  rcases h with ⟨e, e2, h⟩ | ⟨e, e2, e3, h⟩
  · omega
  · have q := h.2.2.2 e3
    have z : fw lt = -1 := by
      rcases C.1 lt q.1.1 q.1.2 with z | z
      · exact z
      · omega
    have := h.1.1.2.2 e3
    exact ⟨q.1, z, by omega, by omega, tk, st, cp, h.close e3 z⟩
/-- in between: what the next chain needs -/
theorem GTX.skip {B : Int} {ld fw rs o t l r ek eu g1 g2 rs' o' t' l' r' ek' eu' g1' g2' fo la nu : Int → Int} {b T R' : Int} (h : GTX B ld fw rs o t l r ek eu g1 g2 b T R' rs' o' t' l' r' ek' eu' g1' g2' fo la nu) (n : ¬ ld b = 1) : GTX B ld fw rs o t l r ek eu g1 g2 (b + 1) T R' rs' o' t' l' r' ek' eu' g1' g2' fo la nu := by
  obtain ⟨tk, st, cp, h⟩ := h
  exact ⟨tk, st, cp, h.skip n⟩
theorem GTX.ms {B : Int} {ld fw rs o t l r ek eu g1 g2 rs' o' t' l' r' ek' eu' g1' g2' fo la nu : Int → Int} {b T R' : Int} (h : GTX B ld fw rs o t l r ek eu g1 g2 b T R' rs' o' t' l' r' ek' eu' g1' g2' fo la nu) : MS T R' rs' := by
  obtain ⟨tk, st, cp, h⟩ := h
  exact ⟨h.1.1.1, h.2.1.2.2.2.1, h.2.1.2.2.2.2.1, h.2.1.2.2.2.2.2.2 rfl⟩
theorem GTX.rng {B : Int} {ld fw rs o t l r ek eu g1 g2 rs' o' t' l' r' ek' eu' g1' g2' fo la nu : Int → Int} {b T R' : Int} (h : GTX B ld fw rs o t l r ek eu g1 g2 b T R' rs' o' t' l' r' ek' eu' g1' g2' fo la nu) : 0 ≤ T ∧ T ≤ b := by
  obtain ⟨tk, st, cp, h⟩ := h
  exact ⟨h.1.1.1, h.1.1.2.1⟩
theorem GTX.blk {B : Int} {ld fw rs o t l r ek eu g1 g2 rs' o' t' l' r' ek' eu' g1' g2' fo la nu : Int → Int} {b T R' : Int} (h : GTX B ld fw rs o t l r ek eu g1 g2 b T R' rs' o' t' l' r' ek' eu' g1' g2' fo la nu) : ∀ y : Int, 0 ≤ y → y < T → (0 ≤ fo y ∧ fo y < B) ∧ ld (fo y) = 1 ∧ nu (fo y) = y ∧ (0 ≤ la y ∧ la y < B) ∧ nu (la y) = y ∧ fw (la y) = -1 ∧ ek' y = ek (la y) ∧ eu' y = eu (la y) ∧ g1' y = g1 (la y) ∧ g2' y = g2 (la y) := by
  obtain ⟨tk, st, cp, h⟩ := h
  intro y y0 y1
  obtain ⟨q1, q2, q3, q4, q5, q6, q7, q8, q9, q10⟩ := h.2.2.1 y y0 y1
  exact ⟨⟨q1.1, q1.2.2⟩, q2, q3, q5, q7, q8, q10⟩
theorem GTX.lead {B : Int} {ld fw rs o t l r ek eu g1 g2 rs' o' t' l' r' ek' eu' g1' g2' fo la nu : Int → Int} {b T R' : Int} (h : GTX B ld fw rs o t l r ek eu g1 g2 b T R' rs' o' t' l' r' ek' eu' g1' g2' fo la nu) : ∀ x : Int, 0 ≤ x → x < B → x < b → ld x = 1 → (0 ≤ nu x ∧ nu x < T) ∧ fo (nu x) = x := by
  obtain ⟨tk, st, cp, h⟩ := h
  intro x x0 x1 xb e
  have tx := (h.1.2.2.1 x x0 x1 e).mpr xb
  have q := (h.2.1.1 x x0 x1 tx).1
  exact ⟨by omega, h.1.2.2.2.2.2.2.1 x x0 x1 tx e⟩
theorem GTX.inc {B : Int} {ld fw rs o t l r ek eu g1 g2 rs' o' t' l' r' ek' eu' g1' g2' fo la nu : Int → Int} {b T R' : Int} (h : GTX B ld fw rs o t l r ek eu g1 g2 b T R' rs' o' t' l' r' ek' eu' g1' g2' fo la nu) : ∀ y z : Int, 0 ≤ y → y < z → z < T → fo y < fo z := by
  obtain ⟨tk, st, cp, h⟩ := h
  exact h.1.2.2.2.2.2.1
theorem GTX.hui {B R : Int} {ld fw rs o t l r ek eu g1 g2 rs' o' t' l' r' ek' eu' g1' g2' fo la nu : Int → Int} {b T R' : Int} (m : MS B R rs) (u : HUI o t R) (h : GTX B ld fw rs o t l r ek eu g1 g2 b T R' rs' o' t' l' r' ek' eu' g1' g2' fo la nu) : HUI o' t' R' := by
  obtain ⟨tk, st, cp, h⟩ := h
  intro j j0 j1 e
  obtain ⟨x, i, x0, x1, x2, x3, x4⟩ := h.2.1.2.1 j j0 j1
  have q := (h.2.1.1 x x0.1 x0.2 x1).2.2 i x2 x3
  rw [← x4] at q
  rw [q.1] at e; rw [q.2.1]
  have := m.le' (Int.le_refl 0) x0.1 (by omega); have := m.z
  have := m.le' (a := x + 1) (b := B) (by omega) (by omega) (Int.le_refl _); have := m.e
  exact u i (by omega) (by omega) e
theorem GTX.zero {B : Int} {ld fw rs o t l r ek eu g1 g2 rs' o' t' l' r' ek' eu' g1' g2' fo la nu : Int → Int} {b T R' : Int} (h : GTX B ld fw rs o t l r ek eu g1 g2 b T R' rs' o' t' l' r' ek' eu' g1' g2' fo la nu) (b0 : 0 < b) (b1 : b ≤ B) (l0 : ld 0 = 1) : nu 0 = 0 := by
  have q := h.lead 0 (by omega) (by omega) b0 l0
  rcases Int.lt_or_le 0 (nu 0) with w | w
  · have := h.inc 0 (nu 0) (by omega) w q.1.2
    have := (h.blk 0 (by omega) (by omega)).1
    omega
  · omega
/-- x leads, or stands behind another -/
def TKN (B : Int) (ld fw : Int → Int) (x : Int) : Prop := ld x = 1 ∨ ∃ p : Int, 0 ≤ p ∧ p < B ∧ fw p = x
theorem GTX.tkn {B : Int} {ld fw rs o t l r ek eu g1 g2 rs' o' t' l' r' ek' eu' g1' g2' fo la nu : Int → Int} {b T R' : Int} (h : GTX B ld fw rs o t l r ek eu g1 g2 b T R' rs' o' t' l' r' ek' eu' g1' g2' fo la nu) : ∀ y : Int, 0 ≤ y → y < T → TKN B ld fw (la y) := by
  obtain ⟨tk, st, cp, h⟩ := h
  intro y y0 y1
  obtain ⟨q1, q2, q3, q4, q5, q6, q7, q8, q9, q10⟩ := h.2.2.1 y y0 y1
  by_cases e : ld (la y) = 1
  · exact Or.inl e
  · obtain ⟨p, p0, p1, p2, p3, p4⟩ := h.1.2.2.2.1 (la y) q5.1 q5.2 q6 e
    exact Or.inr ⟨p, p0, p1, p4⟩
/-- goals of what ends a chain lead -/
def GCL (B : Int) (ld fw ek g1 g2 : Int → Int) : Prop := ∀ x : Int, 0 ≤ x → x < B → fw x = -1 → TKN B ld fw x → ¬ ek x = 2 → ld (g1 x) = 1 ∧ ld (g2 x) = 1
/-- what ends a chain is among the PREDs of its goals -/
def GPD (B : Int) (ld fw ek g1 g2 ps pr : Int → Int) : Prop := ∀ x g : Int, 0 ≤ x → x < B → fw x = -1 → TKN B ld fw x → ¬ ek x = 2 → (g = g1 x ∨ g = g2 x) → ∃ k : Int, ps g ≤ k ∧ k < ps (g + 1) ∧ pr k = x
theorem GTX.goal {B : Int} {ld fw rs o t l r ek eu g1 g2 rs' o' t' l' r' ek' eu' g1' g2' fo la nu G1 G2 : Int → Int} {T R' : Int} (h : GTX B ld fw rs o t l r ek eu g1 g2 B T R' rs' o' t' l' r' ek' eu' g1' g2' fo la nu) (r1 : RGI nu ek' g1' G1 T) (r2 : RGI nu ek' g2' G2 T) (hG : HGP ek g1 g2 B) (cl : GCL B ld fw ek g1 g2) : ∀ y : Int, 0 ≤ y → y < T → ¬ ek' y = 2 → (G1 y = nu (g1 (la y)) ∧ (0 ≤ G1 y ∧ G1 y < T) ∧ fo (G1 y) = g1 (la y)) ∧ (G2 y = nu (g2 (la y)) ∧ (0 ≤ G2 y ∧ G2 y < T) ∧ fo (G2 y) = g2 (la y)) := by
  intro y y0 y1 e
  obtain ⟨q1, q2, q3, q4, q5, q6, q7, q8, q9, q10⟩ := h.blk y y0 y1
  have ke : ¬ ek (la y) = 2 := by rw [← q7]; exact e
  have c := cl (la y) q4.1 q4.2 q6 (h.tkn y y0 y1) ke
  have g := hG (la y) q4.1 q4.2 ke
  have e1 : G1 y = nu (g1 (la y)) := by rw [((r1 y).1 y0 y1).2 e, q9]
  have e2 : G2 y = nu (g2 (la y)) := by rw [((r2 y).1 y0 y1).2 e, q10]
  have n1 := h.lead _ g.1.1 g.1.2 g.1.2 c.1
  have n2 := h.lead _ g.2.1 g.2.2 g.2.2 c.2
  rw [e1, e2]
  exact ⟨⟨rfl, n1⟩, rfl, n2⟩
theorem GTX.hgp {B : Int} {ld fw rs o t l r ek eu g1 g2 rs' o' t' l' r' ek' eu' g1' g2' fo la nu G1 G2 : Int → Int} {T R' : Int} (h : GTX B ld fw rs o t l r ek eu g1 g2 B T R' rs' o' t' l' r' ek' eu' g1' g2' fo la nu) (r1 : RGI nu ek' g1' G1 T) (r2 : RGI nu ek' g2' G2 T) (hG : HGP ek g1 g2 B) (cl : GCL B ld fw ek g1 g2) : HGP ek' G1 G2 T := fun y y0 y1 e => by
  have q := h.goal r1 r2 hG cl y y0 y1 e
  exact ⟨q.1.2.1, q.2.2.1⟩
/-- each new PRED was one -/
def FND (T : Int) (fo la ps pr ps' pr' : Int → Int) : Prop := ∀ y k : Int, 0 ≤ y → y < T → ps' y ≤ k → k < ps' (y + 1) → (0 ≤ pr' k ∧ pr' k < T) ∧ ∃ w : Int, ps (fo y) ≤ w ∧ w < ps (fo y + 1) ∧ pr w = la (pr' k)
theorem GTX.fnd {B : Int} {ld fw rs o t l r ek eu g1 g2 rs' o' t' l' r' ek' eu' g1' g2' fo la nu G1 G2 ps pr ps' pr' : Int → Int} {T R' : Int} (h : GTX B ld fw rs o t l r ek eu g1 g2 B T R' rs' o' t' l' r' ek' eu' g1' g2' fo la nu) (r1 : RGI nu ek' g1' G1 T) (r2 : RGI nu ek' g2' G2 T) (hG : HGP ek g1 g2 B) (cl : GCL B ld fw ek g1 g2) (pd : GPD B ld fw ek g1 g2 ps pr) (L : PL ek' G1 G2 T ps' pr') : FND T fo la ps pr ps' pr' := by
  intro y k y0 y1 k0 k1
  obtain ⟨p0, i, i0, i1, e⟩ := L.out y k y0 y1 k0 k1
  refine ⟨p0, ?_⟩
  have ne : ¬ ek' (pr' k) = 2 := gcF_ne (ek := ek') (g1 := G1) (g2 := G2) (by omega)
  obtain ⟨⟨a1, a2, a3⟩, b1, b2, b3⟩ := h.goal r1 r2 hG cl (pr' k) p0.1 p0.2 ne
  obtain ⟨q1, q2, q3, q4, q5, q6, q7, q8, q9, q10⟩ := h.blk (pr' k) p0.1 p0.2
  have ke : ¬ ek (la (pr' k)) = 2 := by rw [← q7]; exact ne
  have tk := h.tkn (pr' k) p0.1 p0.2
  unfold glF at e
  split at e
  · rw [e] at a3; rw [a3]; exact pd _ _ q4.1 q4.2 q6 tk ke (Or.inl rfl)
  · rw [e] at b3; rw [b3]; exact pd _ _ q4.1 q4.2 q6 tk ke (Or.inr rfl)
/-- where there are n places for m, no two at one, n is at least m -/
theorem pig (f : Int → Int) : ∀ (n : Nat) (m : Nat), (∀ i : Int, 0 ≤ i → i < m → 0 ≤ f i ∧ f i < n) → (∀ i j : Int, 0 ≤ i → i < j → j < m → ¬ f i = f j) → m ≤ n
  | 0, m, h, _ => by
    cases m with
    | zero => exact Nat.le_refl 0
    | succ m => have := h 0 (by omega) (by omega); omega
  | n + 1, m, h, d => by
    cases m with
    | zero => omega
    | succ m =>
      have e : ((m : Nat) : Int) < ((m + 1 : Nat) : Int) := by omega
      -- the last goes; who stood at the top place takes its own
      have r := pig (fun i => if f i = n then f m else f i) n m (fun i i0 i1 => by
        have a := h i i0 (by omega); have b := h m (by omega) e; have c := d i m i0 i1 e
        show 0 ≤ (if f i = n then f m else f i) ∧ (if f i = n then f m else f i) < n
        split <;> omega) (fun i j i0 i1 j1 => by
        have a := d i j i0 i1 (by omega); have b := d i m i0 (by omega) e; have c := d j m (by omega) j1 e
        show ¬ (if f i = n then f m else f i) = (if f j = n then f m else f j)
        split <;> split <;> omega)
      omega
theorem FND.le {ek' G1 G2 : Int → Int} {T : Int} {fo la nu ps pr ps' pr' : Int → Int} (h : FND T fo la ps pr ps' pr') (L : PL ek' G1 G2 T ps' pr') (nl : ∀ y : Int, 0 ≤ y → y < T → nu (la y) = y) (pm : ∀ y : Int, 0 ≤ y → y < T → ps (fo y) ≤ ps (fo y + 1)) : ∀ y : Int, 0 ≤ y → y < T → ps' (y + 1) - ps' y ≤ ps (fo y + 1) - ps (fo y) := by
  intro y y0 y1
  rcases Int.lt_or_le (ps' y) (ps' (y + 1)) with w | w
  · obtain ⟨W, hW⟩ : ∃ W : Int → Int, ∀ k : Int, ps' y ≤ k → k < ps' (y + 1) → ps (fo y) ≤ W k ∧ W k < ps (fo y + 1) ∧ pr (W k) = la (pr' k) := ⟨fun k => if c : ps' y ≤ k ∧ k < ps' (y + 1) then Classical.choose (h y k y0 y1 c.1 c.2).2 else 0, fun k a b => by
      show ps (fo y) ≤ (if c : ps' y ≤ k ∧ k < ps' (y + 1) then Classical.choose (h y k y0 y1 c.1 c.2).2 else 0) ∧ (if c : ps' y ≤ k ∧ k < ps' (y + 1) then Classical.choose (h y k y0 y1 c.1 c.2).2 else 0) < ps (fo y + 1) ∧ pr (if c : ps' y ≤ k ∧ k < ps' (y + 1) then Classical.choose (h y k y0 y1 c.1 c.2).2 else 0) = la (pr' k)
      rw [dif_pos ⟨a, b⟩]; exact Classical.choose_spec (h y k y0 y1 a b).2⟩
    have z := hW (ps' y) (Int.le_refl _) w
    have r := pig (fun i => W (ps' y + i) - ps (fo y)) (ps (fo y + 1) - ps (fo y)).toNat (ps' (y + 1) - ps' y).toNat (fun i i0 i1 => by
      have q := hW (ps' y + i) (by omega) (by omega)
      show 0 ≤ W (ps' y + i) - ps (fo y) ∧ W (ps' y + i) - ps (fo y) < _
      omega) (fun i j i0 i1 j1 => by
      show ¬ W (ps' y + i) - ps (fo y) = W (ps' y + j) - ps (fo y)
      intro e
      have q1 := hW (ps' y + i) (by omega) (by omega)
      have q2 := hW (ps' y + j) (by omega) (by omega)
      have ee : W (ps' y + i) = W (ps' y + j) := by omega
      have e3 : la (pr' (ps' y + i)) = la (pr' (ps' y + j)) := by rw [← q1.2.2, ← q2.2.2, ee]
      have p1 := (h y (ps' y + i) y0 y1 (by omega) (by omega)).1
      have p2 := (h y (ps' y + j) y0 y1 (by omega) (by omega)).1
      have n1 := nl _ p1.1 p1.2
      have n2 := nl _ p2.1 p2.2
      rw [e3, n2] at n1
      have := L.inj y0 y1 (show ps' y ≤ ps' y + i by omega) (by omega) (show ps' y ≤ ps' y + j by omega) (by omega) n1.symm
      omega)
    omega
  · have := pm y y0 y1; omega
/-- new PHI j of block z is old PHI i of block fo z -/
def PHX (fo la pt as ar ps pr ps' pr' : Int → Int) (A' : Int) (pt' as' ar' : Int → Int) (z j i : Int) : Prop := pt' j = pt i ∧ (0 ≤ as' j ∧ as' j + (ps' (z + 1) - ps' z) ≤ A') ∧ (∀ k : Int, 0 ≤ k → k < ps' (z + 1) - ps' z → ∃ w : Int, 0 ≤ w ∧ w < ps (fo z + 1) - ps (fo z) ∧ pr (ps (fo z) + w) = la (pr' (ps' z + k)) ∧ ar' (as' j + k) = ar (as i + w))
/-- PHIs taken: those of the blocks before y, and of block y those before i -/
def PHT (fo la fs pt as ar ps pr ps' pr' : Int → Int) (P C y i P' A' : Int) (fs' pt' as' ar' : Int → Int) : Prop := (0 ≤ A' ∧ A' ≤ C) ∧ (fs (fo y) ≤ i ∧ i ≤ fs (fo y + 1) ∧ P' = fs' y + (i - fs (fo y)) ∧ P' ≤ i) ∧ (fs' 0 = 0 ∧ (∀ z : Int, 0 ≤ z → z < y → fs' (z + 1) = fs' z + (fs (fo z + 1) - fs (fo z)))) ∧ (∀ z q : Int, 0 ≤ z → z ≤ y → fs (fo z) ≤ q → q < fs (fo z + 1) → (z = y → q < i) → PHX fo la pt as ar ps pr ps' pr' A' pt' as' ar' z (fs' z + (q - fs (fo z))) q) ∧ (∀ z j k : Int, 0 ≤ z → z ≤ y → fs' z ≤ j → (z < y → j < fs' (z + 1)) → j < k → k < P' → as' j + (ps' (z + 1) - ps' z) ≤ as' k) ∧ (∀ q : Int, i ≤ q → q < P → A' ≤ as q)
/-- operands of one PHI, the first k of them -/
def PAK (la as ar ps pr pr' : Int → Int) (o s i A' k : Int) (ar' ar2 : Int → Int) : Prop := (∀ q : Int, q < A' → ar2 q = ar' q) ∧ (∀ j : Int, 0 ≤ j → j < k → ∃ w : Int, 0 ≤ w ∧ w < ps (o + 1) - ps o ∧ pr (ps o + w) = la (pr' (s + j)) ∧ ar2 (A' + j) = ar (as i + w))
theorem PAK.init (la as ar ps pr pr' : Int → Int) (o s i A' : Int) (ar' : Int → Int) : PAK la as ar ps pr pr' o s i A' 0 ar' ar' := ⟨fun _ _ => rfl, fun j a b => by omega⟩
theorem PAK.add {la as ar ps pr pr' : Int → Int} {o s i A' k N w v k' : Int} {ar' ar2 : Int → Int} (h : PAK la as ar ps pr pr' o s i A' k ar' ar2) (k0 : 0 ≤ k) (n : N = A' + k) (w0 : 0 ≤ w) (w1 : ps o + w < ps (o + 1)) (e : pr (ps o + w) = la (pr' (s + k))) (ev : v = ar (as i + w)) (ek : k' = k + 1) : PAK la as ar ps pr pr' o s i A' k' ar' (zup ar2 N v) := by
  subst n; subst ev; subst ek
  refine ⟨fun q a => by rw [zup_ne _ _ (by omega)]; exact h.1 q a, fun j a b => ?_⟩
  by_cases q : j = k
  · rw [q, zup_eq]; exact ⟨w, w0, by omega, e, rfl⟩
  · rw [zup_ne _ _ (by omega)]; exact h.2 j a (by omega)
theorem PHT.mono {B P C : Int} {fo la fs pt as ar ps pr ps' pr' fs' pt' as' ar' : Int → Int} {y i P' A' T : Int} (m : MS B P fs) (fr : ∀ z : Int, 0 ≤ z → z < T → 0 ≤ fo z ∧ fo z < B) (yT : y < T) (h : PHT fo la fs pt as ar ps pr ps' pr' P C y i P' A' fs' pt' as' ar') : ∀ (d : Nat) (z : Int), 0 ≤ z → z + d ≤ y → fs' z ≤ fs' (z + d)
  | 0, z, _, _ => by rw [show z + ((0 : Nat) : Int) = z by omega]; exact Int.le_refl _
  | d + 1, z, z0, z1 => by
    have r := PHT.mono m fr yT h d z z0 (by omega)
    have q := h.2.2.1.2 (z + d) (by omega) (by omega)
    have f := fr (z + d) (by omega) (by omega)
    have := m.mo (fo (z + d)) f.1 f.2
    rw [show z + ((d + 1 : Nat) : Int) = z + d + 1 by omega]; omega
theorem PHT.pos {B P C : Int} {fo la fs pt as ar ps pr ps' pr' fs' pt' as' ar' : Int → Int} {y i P' A' T : Int} (m : MS B P fs) (fr : ∀ z : Int, 0 ≤ z → z < T → 0 ≤ fo z ∧ fo z < B) (yT : y < T) (h : PHT fo la fs pt as ar ps pr ps' pr' P C y i P' A' fs' pt' as' ar') {z q : Int} (z0 : 0 ≤ z) (z1 : z ≤ y) (q0 : fs (fo z) ≤ q) (q1 : q < fs (fo z + 1)) (q2 : z = y → q < i) : 0 ≤ fs' z + (q - fs (fo z)) ∧ fs' z + (q - fs (fo z)) < P' := by
  have a := PHT.mono m fr yT h z.toNat 0 (Int.le_refl _) (by omega)
  rw [show (0 : Int) + ((z.toNat : Nat) : Int) = z by omega] at a
  have := h.2.2.1.1
  refine ⟨by omega, ?_⟩
  by_cases e : z = y
  · have := q2 e; rw [e] at q0 ⊢; have := h.2.1.2.2.1; omega
  · have b := PHT.mono m fr yT h (y - (z + 1)).toNat (z + 1) (by omega) (by omega)
    rw [show z + 1 + (((y - (z + 1)).toNat : Nat) : Int) = y by omega] at b
    have := h.2.2.1.2 z z0 (by omega)
    have := h.2.1.2.2.1; have := h.2.1.1; omega
theorem PHT.add {B P C : Int} {fo la fs pt as ar ps pr ps' pr' fs' pt' as' ar' ar2 : Int → Int} {y i P' A' T P2 A2 : Int} (m : MS B P fs) (am : AMF B fs ps as) (fr : ∀ z : Int, 0 ≤ z → z < T → 0 ≤ fo z ∧ fo z < B) (h : PHT fo la fs pt as ar ps pr ps' pr' P C y i P' A' fs' pt' as' ar') (i1 : i < fs (fo y + 1)) (y0 : 0 ≤ y) (yT : y < T) (p0 : 0 ≤ ps' (y + 1) - ps' y) (pl : ps' (y + 1) - ps' y ≤ ps (fo y + 1) - ps (fo y)) (ac : as i + (ps (fo y + 1) - ps (fo y)) ≤ C) (a : PAK la as ar ps pr pr' (fo y) (ps' y) i A' (ps' (y + 1) - ps' y) ar' ar2) (e1 : P2 = P' + 1) (e2 : A2 = A' + (ps' (y + 1) - ps' y)) : PHT fo la fs pt as ar ps pr ps' pr' P C y (i + 1) P2 A2 fs' (zup pt' P' (pt i)) (zup as' P' A') ar2 := by
  subst e1; subst e2
  have pos := fun z q z0 z1 q0 q1 q2 => PHT.pos m fr yT h (z := z) (q := q) z0 z1 q0 q1 q2
  obtain ⟨h1, h2, h3, h4, h5, h6⟩ := h
  have fy := fr y y0 yT
  have iP : i < P := by have := m.le' (a := fo y + 1) (b := B) (by omega) (by omega) (Int.le_refl _); have := m.e; omega
  have i0 : 0 ≤ i := by have := m.le' (a := 0) (b := fo y) (by omega) (by omega) (by omega); have := m.z; omega
  have ai := h6 i (Int.le_refl _) iP
  have keep : ∀ z q : Int, 0 ≤ z → z ≤ y → fs (fo z) ≤ q → q < fs (fo z + 1) → (z = y → q < i) → PHX fo la pt as ar ps pr ps' pr' (A' + (ps' (y + 1) - ps' y)) (zup pt' P' (pt i)) (zup as' P' A') ar2 z (fs' z + (q - fs (fo z))) q := by
    intro z q z0 z1 q0 q1 q2
    have p := pos z q z0 z1 q0 q1 q2
    obtain ⟨x1, x2, x3⟩ := h4 z q z0 z1 q0 q1 q2
    unfold PHX
    rw [zup_ne _ _ (by omega), zup_ne _ _ (by omega)]
    refine ⟨x1, ⟨x2.1, by omega⟩, fun k k0 k1 => ?_⟩
    obtain ⟨w, w0, w1, w2, w3⟩ := x3 k k0 k1
    exact ⟨w, w0, w1, w2, by rw [a.1 _ (by omega)]; exact w3⟩
  refine ⟨⟨by omega, by omega⟩, ⟨by omega, by omega, by omega, by omega⟩, h3, fun z q z0 z1 q0 q1 q2 => ?_, fun z j k z0 z1 j0 j1 jk k1 => ?_, fun q q0 q1 => ?_⟩
  · by_cases e : z = y ∧ q = i
    · rw [e.1, e.2, show fs' y + (i - fs (fo y)) = P' by omega]
      unfold PHX
      rw [zup_eq, zup_eq]
      exact ⟨rfl, ⟨by omega, by omega⟩, fun k k0 k1 => a.2 k k0 k1⟩
    · exact keep z q z0 z1 q0 q1 (fun e2 => by have := q2 e2; omega)
  · have jP : j < P' := by
      omega
    rw [zup_ne _ _ (by omega)]
    by_cases e : k = P'
    · rw [e, zup_eq]
      have fz := fr z z0 (by omega)
      have x := h4 z (j - fs' z + fs (fo z)) z0 z1 (by omega) (by
        by_cases w : z = y
        · rw [w]; rw [w] at j0; omega
        · have := h3.2 z z0 (by omega); have := j1 (by omega); omega) (fun w => by rw [w]; rw [w] at j0; omega)
      rw [show fs' z + (j - fs' z + fs (fo z) - fs (fo z)) = j by omega] at x
      exact x.2.1.2
    · rw [zup_ne _ _ e]; exact h5 z j k z0 z1 j0 j1 jk (by omega)
  · obtain ⟨x, x0, x1, x2, x3⟩ := m.at q (by omega) q1
    have := am (fo y) x i q fy.1 fy.2 x0 x1 (by omega) i1 x2 x3 (by omega)
    omega
/-- PHIs of the blocks before y have been taken -/
def PHG (fo la fs pt as ar ps pr ps' pr' : Int → Int) (P C y P' A' : Int) (fs' pt' as' ar' : Int → Int) : Prop := (0 ≤ A' ∧ A' ≤ C) ∧ (fs' 0 = 0 ∧ fs' y = P' ∧ (∀ z : Int, 0 ≤ z → z < y → fs' (z + 1) = fs' z + (fs (fo z + 1) - fs (fo z)))) ∧ (∀ z q : Int, 0 ≤ z → z < y → fs (fo z) ≤ q → q < fs (fo z + 1) → PHX fo la pt as ar ps pr ps' pr' A' pt' as' ar' z (fs' z + (q - fs (fo z))) q) ∧ (∀ z j k : Int, 0 ≤ z → z < y → fs' z ≤ j → j < fs' (z + 1) → j < k → k < P' → as' j + (ps' (z + 1) - ps' z) ≤ as' k) ∧ (∃ i : Int, (y = 0 → i = 0) ∧ (0 < y → i = fs (fo (y - 1) + 1)) ∧ P' ≤ i ∧ (∀ q : Int, i ≤ q → q < P → A' ≤ as q))
theorem PHG.init {fo la fs pt as ar ps pr ps' pr' : Int → Int} {P C : Int} {fs' pt' as' ar' : Int → Int} (z : fs' 0 = 0) (c0 : 0 ≤ C) (a0 : ∀ q : Int, 0 ≤ as q) : PHG fo la fs pt as ar ps pr ps' pr' P C 0 0 0 fs' pt' as' ar' := ⟨⟨by omega, c0⟩, ⟨z, z, fun y a b => by omega⟩, fun y q a b => by omega, fun y j k a b => by omega, 0, fun _ => rfl, fun a => by omega, by omega, fun q _ _ => a0 q⟩
theorem PHG.enter {B P C T : Int} {fo la fs pt as ar ps pr ps' pr' fs' pt' as' ar' : Int → Int} {y P' A' : Int} (m : MS B P fs) (fr : ∀ z : Int, 0 ≤ z → z < T → 0 ≤ fo z ∧ fo z < B) (inc : ∀ y z : Int, 0 ≤ y → y < z → z < T → fo y < fo z) (y0 : 0 ≤ y) (yT : y < T) (h : PHG fo la fs pt as ar ps pr ps' pr' P C y P' A' fs' pt' as' ar') : PHT fo la fs pt as ar ps pr ps' pr' P C y (fs (fo y)) P' A' fs' pt' as' ar' := by
  obtain ⟨h1, h2, h3, h4, i, i0, i1, i2, i3⟩ := h
  have fy := fr y y0 yT
  have mo := m.mo (fo y) fy.1 fy.2
  have li : i ≤ fs (fo y) := by
    by_cases e : y = 0
    · rw [i0 e]; have := m.le' (a := 0) (b := fo y) (by omega) (by omega) (by omega); have := m.z; omega
    · rw [i1 (by omega)]
      have := inc (y - 1) y (by omega) (by omega) yT
      have := fr (y - 1) (by omega) (by omega)
      exact m.le' (by omega) (by omega) (by omega)
  refine ⟨h1, ⟨by omega, mo, by omega, by omega⟩, ⟨h2.1, h2.2.2⟩, fun z q z0 z1 q0 q1 q2 => ?_, fun z j k z0 z1 j0 j1 jk kp => ?_, fun q a b => i3 q (by omega) b⟩
  · by_cases e : z = y
    · have := q2 e; rw [e] at q0; omega
    · exact h3 z q z0 (by omega) q0 q1
  · by_cases e : z = y
    · rw [e] at j0; omega
    · exact h4 z j k z0 (by omega) j0 (j1 (by omega)) jk kp
theorem PHT.leave {B P C T : Int} {fo la fs pt as ar ps pr ps' pr' fs' pt' as' ar' : Int → Int} {y i P' A' : Int} (m : MS B P fs) (fr : ∀ z : Int, 0 ≤ z → z < T → 0 ≤ fo z ∧ fo z < B) (y0 : 0 ≤ y) (yT : y < T) (h : PHT fo la fs pt as ar ps pr ps' pr' P C y i P' A' fs' pt' as' ar') (e : fs (fo y + 1) ≤ i) : PHG fo la fs pt as ar ps pr ps' pr' P C (y + 1) P' A' (zup fs' (y + 1) P') pt' as' ar' := by
  obtain ⟨h1, h2, h3, h4, h5, h6⟩ := h
  have fy := fr y y0 yT
  have ie : i = fs (fo y + 1) := by omega
  refine ⟨h1, ⟨by rw [zup_ne _ _ (by omega)]; exact h3.1, zup_eq _ _ _, fun z z0 z1 => ?_⟩, fun z q z0 z1 q0 q1 => ?_, fun z j k z0 z1 j0 j1 jk kp => ?_, i, fun a => by omega, fun _ => by rw [show y + 1 - 1 = y by omega]; exact ie, h2.2.2.2, fun q a b => h6 q a b⟩
  · rw [zup_ne _ _ (show ¬ z = y + 1 by omega)]
    by_cases w : z = y
    · rw [w, zup_eq]; omega
    · rw [zup_ne _ _ (by omega)]; exact h3.2 z z0 (by omega)
  · rw [zup_ne _ _ (show ¬ z = y + 1 by omega)]
    exact h4 z q z0 (by omega) q0 q1 (fun w => by rw [w] at q1; omega)
  · rw [zup_ne _ _ (show ¬ z = y + 1 by omega)] at j0
    by_cases w : z = y
    · exact h5 z j k z0 (by omega) j0 (fun v => by omega) jk kp
    · rw [zup_ne _ _ (by omega)] at j1
      exact h5 z j k z0 (by omega) j0 (fun _ => j1) jk kp
/-- all PHIs have been taken -/
theorem PHG.done {B P C T : Int} {fo la fs pt as ar ps pr ps' pr' fs' pt' as' ar' : Int → Int} {P' A' : Int} (m : MS B P fs) (fr : ∀ z : Int, 0 ≤ z → z < T → 0 ≤ fo z ∧ fo z < B) (T0 : 0 ≤ T) (hT : ∀ i : Int, 0 ≤ i → i < P → 0 ≤ pt i) (h : PHG fo la fs pt as ar ps pr ps' pr' P C T P' A' fs' pt' as' ar') : MS T P' fs' ∧ (∀ i : Int, 0 ≤ i → i < P' → 0 ≤ pt' i) ∧ AMF T fs' ps' as' ∧ (∀ b i : Int, 0 ≤ b → b < T → fs' b ≤ i → i < fs' (b + 1) → as' i + (ps' (b + 1) - ps' b) ≤ A') := by
  obtain ⟨h1, h2, h3, h4, _⟩ := h
  have M : MS T P' fs' := ⟨T0, h2.1, fun b b0 b1 => by have := h2.2.2 b b0 b1; have f := fr b b0 b1; have := m.mo (fo b) f.1 f.2; omega, h2.2.1⟩
  have px : ∀ b i : Int, 0 ≤ b → b < T → fs' b ≤ i → i < fs' (b + 1) → PHX fo la pt as ar ps pr ps' pr' A' pt' as' ar' b i (i - fs' b + fs (fo b)) ∧ 0 ≤ i - fs' b + fs (fo b) ∧ i - fs' b + fs (fo b) < P := by
    intro b i b0 b1 i0 i1
    have e := h2.2.2 b b0 b1
    have f := fr b b0 b1
    have x := h3 b (i - fs' b + fs (fo b)) b0 b1 (by omega) (by omega)
    rw [show fs' b + (i - fs' b + fs (fo b) - fs (fo b)) = i by omega] at x
    have := m.le' (a := 0) (b := fo b) (by omega) (by omega) (by omega); have := m.z
    have := m.le' (a := fo b + 1) (b := B) (by omega) (by omega) (Int.le_refl _); have := m.e
    exact ⟨x, by omega, by omega⟩
  refine ⟨M, fun i i0 i1 => ?_, fun x y i j x0 x1 y0 y1 a b c d e => ?_, fun b i b0 b1 i0 i1 => (px b i b0 b1 i0 i1).1.2.1.2⟩
  · obtain ⟨b, b0, b1, b2, b3⟩ := M.at i i0 i1
    have q := px b i b0 b1 b2 b3
    rw [q.1.1]; exact hT _ q.2.1 q.2.2
  · exact h4 x i j x0 x1 a b e (by have := M.le' (a := y + 1) (b := T) (by omega) (by omega) (Int.le_refl _); have := M.e; omega)
/-- all blocks gathered, goals by their new numbers -/
def GAF (B : Int) (ld fw rs o t l r ek eu g1 g2 : Int → Int) (T R' : Int) (rs' o' t' l' r' ek' eu' G1 G2 fo la nu : Int → Int) : Prop := ∃ h1 h2 : Int → Int, GTX B ld fw rs o t l r ek eu g1 g2 B T R' rs' o' t' l' r' ek' eu' h1 h2 fo la nu ∧ RGI nu ek' h1 G1 T ∧ RGI nu ek' h2 G2 T
theorem CHN.alone {B : Int} (ld : Int → Int) {fw : Int → Int} (f : ∀ x : Int, 0 ≤ x → x < B → fw x = -1) : CHN B ld fw := ⟨fun p a b => Or.inl (f p a b), fun p _ a b _ _ _ n => absurd (f p a b) n⟩
theorem TKN.alone {B x : Int} {ld kp fw : Int → Int} (l : ∀ x : Int, 0 ≤ x → x < B → ld x = kp x) (f : ∀ x : Int, 0 ≤ x → x < B → fw x = -1) (x0 : 0 ≤ x) (x1 : x < B) (h : TKN B ld fw x) : kp x = 1 := by
  rcases h with h | ⟨p, p0, p1, e⟩
  · rw [← l x x0 x1]; exact h
  · rw [f p p0 p1] at e; omega
theorem GCL.alone {B : Int} {ld kp fw ek g1 g2 : Int → Int} (l : ∀ x : Int, 0 ≤ x → x < B → ld x = kp x) (f : ∀ x : Int, 0 ≤ x → x < B → fw x = -1) (g : HGP ek g1 g2 B) (c : ∀ x : Int, 0 ≤ x → x < B → kp x = 1 → ¬ ek x = 2 → kp (g1 x) = 1 ∧ kp (g2 x) = 1) : GCL B ld fw ek g1 g2 := fun x x0 x1 _ t e => by
  have q := g x x0 x1 e
  have r := c x x0 x1 (t.alone l f x0 x1) e
  rw [l _ q.1.1 q.1.2, l _ q.2.1 q.2.2]; exact r
theorem GPD.alone {B : Int} {ld kp fw ek g1 g2 ps pr : Int → Int} (l : ∀ x : Int, 0 ≤ x → x < B → ld x = kp x) (f : ∀ x : Int, 0 ≤ x → x < B → fw x = -1) (c : ∀ x g : Int, 0 ≤ x → x < B → kp x = 1 → ¬ ek x = 2 → (g = g1 x ∨ g = g2 x) → ∃ k : Int, ps g ≤ k ∧ k < ps (g + 1) ∧ pr k = x) : GPD B ld fw ek g1 g2 ps pr := fun x y x0 x1 _ t e w => c x y x0 x1 (t.alone l f x0 x1) e w
