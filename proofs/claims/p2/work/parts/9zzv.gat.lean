/-- a way of n steps that shuns c either shuns d, too, or comes to d -/
theorem raS.split {ek g1 g2 po : Int → Int} {c : Int} (d : Int) : ∀ {n k : Nat} {x : Int}, raS ek g1 g2 po c n k x → raS ek g1 g2 po d n k x ∨ ∃ m k' : Nat, m ≤ n ∧ (¬ d = x → m < n) ∧ raS ek g1 g2 po c m k' d
  | 0, k, x, h => by
    obtain ⟨e, w⟩ := h
    by_cases q : d = 0
    · exact Or.inr ⟨0, k, Nat.le_refl _, fun z => absurd (by rw [q, e]) z, q, w⟩
    · exact Or.inl ⟨e, q⟩
  | n + 1, k, x, h => by
    have h0 := h
    obtain ⟨nx, p, e, h⟩ := h
    by_cases q : x = d
    · rw [q] at h0; exact Or.inr ⟨n + 1, k, Nat.le_refl _, fun z => absurd q.symm z, h0⟩
    · rcases h with ⟨h, l⟩ | ⟨k', ke, h⟩
      · rcases raS.split d h with r | ⟨m, k2, m1, _, m3⟩
        · exact Or.inl ⟨q, p, e, Or.inl ⟨r, l⟩⟩
        · exact Or.inr ⟨m, k2, by omega, fun _ => by omega, m3⟩
      · rcases raS.split d h with r | ⟨m, k2, m1, _, m3⟩
        · exact Or.inl ⟨q, p, e, Or.inr ⟨k', ke, r⟩⟩
        · exact Or.inr ⟨m, k2, by omega, fun _ => by omega, m3⟩
/-- of two that are come to, not each dominates the other -/
theorem DM.anti {ek g1 g2 : Int → Int} {a b : Int} (h : DM ek g1 g2 a b) (g : DM ek g1 g2 b a) (ne : ¬ a = b) : ∀ (n k : Nat) (c : Int), (raS ek g1 g2 (fun _ => 0) c n k a → False) ∧ (raS ek g1 g2 (fun _ => 0) c n k b → False) := by
  intro n
  induction n using Nat.strongRecOn with
  | ind n ih =>
  intro k c
  refine ⟨fun r => ?_, fun r => ?_⟩
  · rcases r.split b with q | ⟨m, k', _, m2, m3⟩
    · exact g k ⟨n, q⟩
    · exact (ih m (m2 (fun z => ne z.symm)) k' c).2 m3
  · rcases r.split a with q | ⟨m, k', _, m2, m3⟩
    · exact h k ⟨n, q⟩
    · exact (ih m (m2 ne) k' c).1 m3
/-- one block of a chain at each place -/
theorem GT1.one {B : Int} {ld fw rs fo la nu tk st cp : Int → Int} {b T : Int} (h : GT1 B ld fw rs b T fo la nu tk st cp (-1)) : ∀ (n : Nat) (x y : Int), 0 ≤ x → x < B → tk x = 1 → 0 ≤ y → y < B → tk y = 1 → nu x = nu y → cp x = n → cp y = n → x = y := by
  obtain ⟨a1, a2, a3, a4, a5, a6, a7, a8, a9⟩ := h
  intro n
  induction n with
  | zero =>
    intro x y x0 x1 tx y0 y1 ty e cx cy
    have ld1 : ∀ z : Int, 0 ≤ z → z < B → tk z = 1 → cp z = 0 → ld z = 1 := by
      intro z z0 z1 tz cz
      by_cases w : ld z = 1
      · exact w
      · exfalso
        obtain ⟨p, p0, p1, p2, p3, p4⟩ := a4 z z0 z1 tz w
        have := a9 p p0 p1 p2
        rcases a5 p p0 p1 p2 p3 with q | q
        · omega
        · rw [p4] at q; omega
    have := a7 x x0 x1 tx (ld1 x x0 x1 tx cx)
    have := a7 y y0 y1 ty (ld1 y y0 y1 ty cy)
    rw [e] at *; omega
  | succ n ih =>
    intro x y x0 x1 tx y0 y1 ty e cx cy
    have nl : ∀ z : Int, 0 ≤ z → z < B → tk z = 1 → cp z = ((n + 1 : Nat) : Int) → ∃ p : Int, 0 ≤ p ∧ p < B ∧ tk p = 1 ∧ fw p = z ∧ nu p = nu z ∧ cp p = n := by
      intro z z0 z1 tz cz
      have w : ¬ ld z = 1 := fun w => by have := (a9 z z0 z1 tz).2 w; omega
      obtain ⟨p, p0, p1, p2, p3, p4⟩ := a4 z z0 z1 tz w
      rcases a5 p p0 p1 p2 p3 with q | q
      · omega
      · rw [p4] at q; exact ⟨p, p0, p1, p2, p4, q.2.2.1.symm, by omega⟩
    obtain ⟨p, p0, p1, p2, p3, p4, p5⟩ := nl x x0 x1 tx cx
    obtain ⟨q, q0, q1, q2, q3, q4, q5⟩ := nl y y0 y1 ty cy
    have := ih p q p0 p1 p2 q0 q1 q2 (by omega) p5 q5
    rw [← p3, ← q3, this]
/-- who comes before in a chain has its ROWs before -/
theorem GT1.before {B R : Int} {ld fw rs fo la nu tk st cp : Int → Int} {b T : Int} (m : MS B R rs) (h : GT1 B ld fw rs b T fo la nu tk st cp (-1)) : ∀ (n : Nat) (x y : Int), 0 ≤ x → x < B → tk x = 1 → 0 ≤ y → y < B → tk y = 1 → nu x = nu y → cp y = cp x + n + 1 → st x + (rs (x + 1) - rs x) ≤ st y := by
  have one := h.one
  obtain ⟨a1, a2, a3, a4, a5, a6, a7, a8, a9⟩ := h
  intro n
  induction n with
  | zero =>
    intro x y x0 x1 tx y0 y1 ty e c
    have cx := (a9 x x0 x1 tx).1
    have w : ¬ ld y = 1 := fun w => by have := (a9 y y0 y1 ty).2 w; omega
    obtain ⟨p, p0, p1, p2, p3, p4⟩ := a4 y y0 y1 ty w
    rcases a5 p p0 p1 p2 p3 with q | q
    · omega
    · rw [p4] at q
      have := one (cp x).toNat x p x0 x1 tx p0 p1 p2 (by omega) (by omega) (by omega)
      rw [this]; omega
  | succ n ih =>
    intro x y x0 x1 tx y0 y1 ty e c
    have cx := (a9 x x0 x1 tx).1
    have w : ¬ ld y = 1 := fun w => by have := (a9 y y0 y1 ty).2 w; omega
    obtain ⟨p, p0, p1, p2, p3, p4⟩ := a4 y y0 y1 ty w
    rcases a5 p p0 p1 p2 p3 with q | q
    · omega
    · rw [p4] at q
      have := ih x p x0 x1 tx p0 p1 p2 (by omega) (by omega)
      have := m.mo p p0 p1
      omega
/-- along a chain -/
theorem GT1.along {B : Int} {ld fw rs fo la nu tk st cp ek g1 g2 : Int → Int} {b T d y : Int} (h : GT1 B ld fw rs b T fo la nu tk st cp (-1)) (E : ∀ p : Int, 0 ≤ p → p < B → tk p = 1 → ¬ fw p = -1 → ED ek g1 g2 p (fw p)) (ny : ¬ nu d = y) {k : Nat} (r : RA ek g1 g2 (fun _ => 0) d k (fo y)) : ∀ (n : Nat) (x : Int), 0 ≤ x → x < B → tk x = 1 → nu x = y → cp x = n → ∃ k' : Nat, RA ek g1 g2 (fun _ => 0) d k' x := by
  obtain ⟨a1, a2, a3, a4, a5, a6, a7, a8, a9⟩ := h
  intro n
  induction n with
  | zero =>
    intro x x0 x1 tx e c
    by_cases w : ld x = 1
    · have := a7 x x0 x1 tx w
      rw [e] at this; rw [← this]; exact ⟨k, r⟩
    · exfalso
      obtain ⟨p, p0, p1, p2, p3, p4⟩ := a4 x x0 x1 tx w
      have := a9 p p0 p1 p2
      rcases a5 p p0 p1 p2 p3 with q | q
      · omega
      · rw [p4] at q; omega
  | succ n ih =>
    intro x x0 x1 tx e c
    have w : ¬ ld x = 1 := fun w => by have := (a9 x x0 x1 tx).2 w; omega
    obtain ⟨p, p0, p1, p2, p3, p4⟩ := a4 x x0 x1 tx w
    rcases a5 p p0 p1 p2 p3 with q | q
    · omega
    · rw [p4] at q
      obtain ⟨k', r'⟩ := ih p p0 p1 p2 (by omega) (by omega)
      have ed := E p p0 p1 p2 (by omega)
      rw [p4] at ed
      exact ⟨k' + 1, RA.back r' ed (fun z => ny (by rw [← z]; exact e))⟩
/-- goals of the new blocks, told of the old -/
def NGL (T : Int) (g1 g2 ek' G1 G2 fo la nu : Int → Int) : Prop := ∀ y : Int, 0 ≤ y → y < T → ¬ ek' y = 2 → (G1 y = nu (g1 (la y)) ∧ (0 ≤ G1 y ∧ G1 y < T) ∧ fo (G1 y) = g1 (la y)) ∧ (G2 y = nu (g2 (la y)) ∧ (0 ≤ G2 y ∧ G2 y < T) ∧ fo (G2 y) = g2 (la y))
/-- a way in the new function is one in the old -/
theorem GTH.path {B : Int} {ld fw rs o t l r ek eu g1 g2 rs' o' t' l' r' ek' eu' h1 h2 fo la nu tk st cp G1 G2 : Int → Int} {T R' d : Int} (h : GTH B ld fw rs o t l r ek eu g1 g2 B T R' rs' o' t' l' r' ek' eu' h1 h2 fo la nu tk st cp (-1)) (B1 : 1 ≤ B) (l0 : ld 0 = 1) (N : NGL T g1 g2 ek' G1 G2 fo la nu) (E : ∀ p : Int, 0 ≤ p → p < B → tk p = 1 → ¬ fw p = -1 → ED ek g1 g2 p (fw p)) {k : Nat} {y : Int} (rr : RA ek' G1 G2 (fun _ => 0) (nu d) k y) : (0 ≤ y ∧ y < T) ∧ ∃ k' : Nat, RA ek g1 g2 (fun _ => 0) d k' (fo y) := by
  have X : GTX B ld fw rs o t l r ek eu g1 g2 B T R' rs' o' t' l' r' ek' eu' h1 h2 fo la nu := ⟨tk, st, cp, h⟩
  have z0 := X.zero (by omega) (Int.le_refl _) l0
  have T1 := X.lead 0 (by omega) (by omega) (by omega) l0
  induction rr using RA.ind with
  | start k n =>
    refine ⟨by omega, 0, ?_⟩
    rw [z0] at T1
    rw [T1.2]
    exact RA.start 0 (fun e => n (by rw [e]; exact z0))
  | fwd r e l n ih => omega
  | back r e n ih =>
    rename_i k p y
    obtain ⟨pr, k1, r1⟩ := ih
    have np : ¬ p = nu d := r.ne
    obtain ⟨i, i0, i1, i2⟩ := e
    have ne : ¬ ek' p = 2 := gcF_ne (ek := ek') (g1 := G1) (g2 := G2) (by omega)
    obtain ⟨q1, q2, q3, q4, q5, q6, q7, q8, q9, q10, q11, q12, q13⟩ := h.2.2.1 p pr.1 pr.2
    have ke : ¬ ek (la p) = 2 := by rw [← q10]; exact ne
    have cl := (h.1.2.2.2.2.2.2.2.2 (la p) q5.1 q5.2 q6).1
    obtain ⟨k2, r2⟩ := h.1.along E (fun z => np z.symm) r1 (cp (la p)).toNat (la p) q5.1 q5.2 q6 q7 (by omega)
    have g := N p pr.1 pr.2 ne
    have fin : ∀ w : Int, (0 ≤ y ∧ y < T) → fo y = w → ED ek g1 g2 (la p) w → (0 ≤ y ∧ y < T) ∧ ∃ k' : Nat, RA ek g1 g2 (fun _ => 0) d k' (fo y) := by
      intro w yr fw' ed
      refine ⟨yr, k2 + 1, ?_⟩
      rw [fw']
      refine RA.back r2 ed (fun z => n ?_)
      have := (X.blk y yr.1 yr.2).2.2.1
      rw [fw', z] at this; exact this.symm
    unfold glF at i2
    split at i2
    · rw [← i2]; rw [← i2] at fin; exact fin _ g.1.2.1 g.1.2.2 (ED.one ke)
    · rw [← i2]; rw [← i2] at fin; exact fin _ g.2.2.1 g.2.2.2 (ED.two ke)
theorem GTH.dom {B : Int} {ld fw rs o t l r ek eu g1 g2 rs' o' t' l' r' ek' eu' h1 h2 fo la nu tk st cp G1 G2 : Int → Int} {T R' d b : Int} (h : GTH B ld fw rs o t l r ek eu g1 g2 B T R' rs' o' t' l' r' ek' eu' h1 h2 fo la nu tk st cp (-1)) (B1 : 1 ≤ B) (l0 : ld 0 = 1) (N : NGL T g1 g2 ek' G1 G2 fo la nu) (E : ∀ p : Int, 0 ≤ p → p < B → tk p = 1 → ¬ fw p = -1 → ED ek g1 g2 p (fw p)) (b0 : 0 ≤ b) (b1 : b < B) (tb : tk b = 1) (m : DM ek g1 g2 d b) : DM ek' G1 G2 (nu d) (nu b) := by
  intro k r
  obtain ⟨yr, k', r'⟩ := h.path B1 l0 N E r
  have cb := (h.1.2.2.2.2.2.2.2.2 b b0 b1 tb).1
  obtain ⟨k2, r2⟩ := h.1.along E (fun z => r.ne z.symm) r' (cp b).toNat b b0 b1 tb rfl (by omega)
  exact m k2 r2
/-- who comes before in a chain dominates -/
theorem GT1.dm {B : Int} {ld fw rs fo la nu tk st cp ek g1 g2 : Int → Int} {b T : Int} (h : GT1 B ld fw rs b T fo la nu tk st cp (-1)) (l0 : ld 0 = 1) (O : ∀ p q : Int, 0 ≤ p → p < B → ¬ fw p = -1 → ED ek g1 g2 q (fw p) → q = p) : ∀ (n : Nat) (x y : Int), 0 ≤ x → x < B → tk x = 1 → 0 ≤ y → y < B → tk y = 1 → nu x = nu y → cp y = cp x + n → DM ek g1 g2 x y := by
  have one := h.one
  obtain ⟨a1, a2, a3, a4, a5, a6, a7, a8, a9⟩ := h
  intro n
  induction n with
  | zero =>
    intro x y x0 x1 tx y0 y1 ty e c
    have cx := (a9 x x0 x1 tx).1
    rw [one (cp x).toNat x y x0 x1 tx y0 y1 ty e (by omega) (by omega)]
    exact DM.refl
  | succ n ih =>
    intro x y x0 x1 tx y0 y1 ty e c
    have cx := (a9 x x0 x1 tx).1
    have w : ¬ ld y = 1 := fun w => by have := (a9 y y0 y1 ty).2 w; omega
    obtain ⟨p, p0, p1, p2, p3, p4⟩ := a4 y y0 y1 ty w
    rcases a5 p p0 p1 p2 p3 with q | q
    · omega
    · rw [p4] at q
      have dm := ih x p x0 x1 tx p0 p1 p2 (by omega) (by omega)
      intro k r
      obtain ⟨nn, r⟩ := r
      cases nn with
      | zero =>
        obtain ⟨e0, _⟩ := r
        rw [e0] at w; exact w l0
      | succ nn =>
        obtain ⟨nx, pp, ed, hh⟩ := r
        have pe := O p pp p0 p1 (by omega) (by rw [p4]; exact ed)
        rw [pe] at hh
        rcases hh with ⟨hh, _⟩ | ⟨k', _, hh⟩
        · exact dm k ⟨nn, hh⟩
        · exact dm k' ⟨nn, hh⟩
/-- no operand names a PHI of a block that stands behind another -/
def UPH (ld bl sd : Int → Int) (x : Int) : Prop := isg x → sd (x - 4294967296) < 0 → ld (bl (sd (x - 4294967296))) = 1
/-- gathering keeps SSA -/
theorem gather_SI {B R P C T R' P' A' : Int} {ld fw rs op tg lf rt ek eu g1 g2 ps pr fs pt as ar bl sd rs' o' t' l' r' ek' eu' h1 h2 fo la nu tk st cp G1 G2 ps' pr' fs' pt' as' ar' : Int → Int}
    (S : SI ek g1 g2 B P R fs ps pr as tg pt lf rt eu ar bl sd) (K : BLK B P R rs fs bl) (mR : MS B R rs) (mF : MS B P fs) (B1 : 1 ≤ B) (l0 : ld 0 = 1)
    (h : GTH B ld fw rs op tg lf rt ek eu g1 g2 B T R' rs' o' t' l' r' ek' eu' h1 h2 fo la nu tk st cp (-1)) (N : NGL T g1 g2 ek' G1 G2 fo la nu)
    (E : ∀ p : Int, 0 ≤ p → p < B → tk p = 1 → ¬ fw p = -1 → ED ek g1 g2 p (fw p)) (O : ∀ p q : Int, 0 ≤ p → p < B → ¬ fw p = -1 → ED ek g1 g2 q (fw p) → q = p)
    (Q : PHG fo la fs pt as ar ps pr ps' pr' P C T P' A' fs' pt' as' ar') (M' : MS T P' fs') (L' : PL ek' G1 G2 T ps' pr')
    (rc : ∀ x : Int, 0 ≤ x → x < B → tk x = 1 → ∃ k : Nat, RA ek g1 g2 (fun _ => 0) (-1) k x) (dc : ∀ d x : Int, 0 ≤ d → d < B → 0 ≤ x → x < B → tk x = 1 → DM ek g1 g2 d x → tk d = 1)
    (ur : ∀ i : Int, 0 ≤ i → i < R → tk (bl i) = 1 → UPH ld bl sd (lf i) ∧ UPH ld bl sd (rt i)) (ue : ∀ b : Int, 0 ≤ b → b < B → tk b = 1 → UPH ld bl sd (eu b)) (ua : ∀ q x p : Int, 0 ≤ x → x < B → ld x = 1 → 0 ≤ p → p < B → tk p = 1 → SLT fs ps pr as q x p → UPH ld bl sd (ar q)) :
    ∃ bl' sd' : Int → Int, BLK T P' R' rs' fs' bl' ∧ SI ek' G1 G2 T P' R' fs' ps' pr' as' t' pt' l' r' eu' ar' bl' sd' ∧ (∀ u : Int, -P' ≤ u → u < R' → ∃ s : Int, -P ≤ s ∧ s < R ∧ TT t' pt' P' u = TT tg pt P s) := by
  have X : GTX B ld fw rs op tg lf rt ek eu g1 g2 B T R' rs' o' t' l' r' ek' eu' h1 h2 fo la nu := ⟨tk, st, cp, h⟩
  have MR := X.ms
  obtain ⟨bl', K'⟩ := BLK.ex MR M'
  obtain ⟨nw, hnw⟩ : ∃ nw : Int → Int, ∀ s : Int, (0 ≤ s → nw s = st (bl s) + (s - rs (bl s))) ∧ (s < 0 → nw s = fs' (nu (bl s)) + (s + P - fs (bl s)) - P') := ⟨fun s => if 0 ≤ s then st (bl s) + (s - rs (bl s)) else fs' (nu (bl s)) + (s + P - fs (bl s)) - P', fun s => ⟨fun a => if_pos a, fun a => if_neg (by omega)⟩⟩
  have T0 : 0 ≤ T := X.rng.1
  have fsr : ∀ y : Int, 0 ≤ y → y < T → 0 ≤ fs' y ∧ fs' (y + 1) ≤ P' ∧ fs' (y + 1) = fs' y + (fs (fo y + 1) - fs (fo y)) := by
    intro y y0 y1
    have a := M'.le' (a := 0) (b := y) (Int.le_refl _) y0 (by omega)
    have b := M'.le' (a := y + 1) (b := T) (by omega) (by omega) (Int.le_refl _)
    have := M'.z; have := M'.e
    exact ⟨by omega, by omega, Q.2.1.2.2 y y0 y1⟩
  -- a row of a taken block
  have row : ∀ i : Int, 0 ≤ i → i < R → tk (bl i) = 1 → (0 ≤ nw i ∧ nw i < R') ∧ TT t' pt' P' (nw i) = TT tg pt P i ∧ bl' (nw i) = nu (bl i) ∧ (0 ≤ nu (bl i) ∧ nu (bl i) < T) ∧ l' (nw i) = lf i ∧ r' (nw i) = rt i := by
    intro i i0 i1 ti
    have kb := K.rbl i i0 i1
    obtain ⟨p1, p2, p3⟩ := h.2.1.1 (bl i) kb.1.1 kb.1.2 ti
    have e := (hnw i).1 i0
    have nr : 0 ≤ nu (bl i) ∧ nu (bl i) < T := by omega
    have rx := p3 i kb.2.1 kb.2.2
    rw [← e] at rx
    have r0 := MR.le' (a := 0) (b := nu (bl i)) (Int.le_refl _) nr.1 (by omega)
    have := MR.z
    have ni : 0 ≤ nw i ∧ nw i < R' := by omega
    refine ⟨ni, ?_, K'.row (nu (bl i)) (nw i) nr.1 nr.2 (by omega) (by have := p2.2.2 nr.2; omega), nr, rx.2.2.1, rx.2.2.2⟩
    unfold TT; rw [if_pos ni.1, if_pos i0]; exact rx.2.1
  -- a PHI of a block that leads
  have phi : ∀ s : Int, -P ≤ s → s < 0 → tk (bl s) = 1 → ld (bl s) = 1 → (-P' ≤ nw s ∧ nw s < 0) ∧ TT t' pt' P' (nw s) = TT tg pt P s ∧ bl' (nw s) = nu (bl s) ∧ (0 ≤ nu (bl s) ∧ nu (bl s) < T) := by
    intro s s0 s1 ts ls
    have kb := K.pbl s s0 s1
    have e := (hnw s).2 s1
    obtain ⟨nr, fe⟩ := X.lead (bl s) kb.1.1 kb.1.2 kb.1.2 ls
    have f := fsr (nu (bl s)) nr.1 nr.2
    rw [fe] at f
    have px := Q.2.2.1 (nu (bl s)) (s + P) nr.1 nr.2 (by rw [fe]; exact kb.2.1) (by rw [fe]; exact kb.2.2)
    rw [fe] at px
    refine ⟨by omega, ?_, ?_, nr⟩
    · unfold TT; rw [if_neg (by omega), if_neg (by omega), show nw s + P' = fs' (nu (bl s)) + (s + P - fs (bl s)) by omega]; exact px.1
    · have := K'.phi (nu (bl s)) (nw s + P') nr.1 nr.2 (by omega) (by omega)
      rw [show nw s + P' - P' = nw s by omega] at this; exact this
  -- where each new site comes from
  have src : ∀ u : Int, -P' ≤ u → u < R' → ∃ s : Int, (-P ≤ s ∧ s < R) ∧ nw s = u ∧ TT t' pt' P' u = TT tg pt P s ∧ tk (bl s) = 1 ∧ (0 ≤ u → 0 ≤ s) := by
    intro u u0 u1
    rcases Int.lt_or_le u 0 with w | w
    · have kb := K'.pbl u u0 w
      have b := X.blk (bl' u) kb.1.1 kb.1.2
      have f := fsr (bl' u) kb.1.1 kb.1.2
      have fr := mF.le' (a := 0) (b := fo (bl' u)) (by omega) (by omega) (by omega)
      have f1 := mF.le' (a := fo (bl' u) + 1) (b := B) (by omega) (by omega) (Int.le_refl _)
      have := mF.z; have := mF.e
      have e : bl (u + P' - fs' (bl' u) + fs (fo (bl' u)) - P) = fo (bl' u) := K.phi (fo (bl' u)) (u + P' - fs' (bl' u) + fs (fo (bl' u))) b.1.1 b.1.2 (by omega) (by omega)
      have tkf := (h.1.2.2.1 (fo (bl' u)) b.1.1 b.1.2 b.2.1).mpr b.1.2
      have sr : -P ≤ u + P' - fs' (bl' u) + fs (fo (bl' u)) - P ∧ u + P' - fs' (bl' u) + fs (fo (bl' u)) - P < 0 := by omega
      have ph := phi _ sr.1 sr.2 (by rw [e]; exact tkf) (by rw [e]; exact b.2.1)
      have nwe : nw (u + P' - fs' (bl' u) + fs (fo (bl' u)) - P) = u := by
        rw [(hnw _).2 sr.2, e, b.2.2.1]; omega
      have mR0 := mR.top 0 (by omega) (by omega)
      have := mR.z
      exact ⟨_, ⟨sr.1, by omega⟩, nwe, by rw [nwe] at ph; exact ph.2.1, by rw [e]; exact tkf, fun a => by omega⟩
    · obtain ⟨x, i, x0, x1, x2, x3, x4⟩ := h.2.1.2.1 u w u1
      have i0 : 0 ≤ i ∧ i < R := by
        have a := mR.le' (a := 0) (b := x) (by omega) (by omega) (by omega)
        have b := mR.le' (a := x + 1) (b := B) (by omega) (by omega) (Int.le_refl _)
        have := mR.z; have := mR.e; omega
      have be := K.row x i x0.1 x0.2 x2 x3
      have rw' := row i i0.1 i0.2 (by rw [be]; exact x1)
      have nwe : nw i = u := by rw [(hnw i).1 i0.1, be]; omega
      have P0 : 0 ≤ P := by have := mF.le' (a := 0) (b := B) (by omega) (by omega) (Int.le_refl _); have := mF.z; have := mF.e; omega
      exact ⟨i, ⟨by omega, i0.2⟩, nwe, by rw [nwe] at rw'; exact rw'.2.1, by rw [be]; exact x1, fun _ => i0.1⟩
  -- an operand of a taken block
  have use : ∀ x b i i' : Int, 0 ≤ b → b < B → tk b = 1 → 0 ≤ i' → st b ≤ i' → (∀ s : Int, 0 ≤ s → s < i → bl s = b → s < R → st b + (s - rs b) < i') → UPH ld bl sd x → UOK ek g1 g2 P R (TT tg pt P) sd bl x b i → UOK ek' G1 G2 P' R' (TT t' pt' P') (fun v => nw (sd v)) bl' x (nu b) i' := by
    intro x b i i' b0 b1 tb i0 sb ord up u w
    obtain ⟨⟨u1, u2⟩, u3, u4⟩ := u w
    have P'0 : 0 ≤ P' := by have := M'.le' (a := 0) (b := T) (by omega) (by omega) (Int.le_refl _); have := M'.z; have := M'.e; omega
    have R'0 : 0 ≤ R' := by have := MR.le' (a := 0) (b := T) (by omega) (by omega) (Int.le_refl _); have := MR.z; have := MR.e; omega
    have dr : 0 ≤ bl (sd (x - 4294967296)) ∧ bl (sd (x - 4294967296)) < B := by
      rcases Int.lt_or_le (sd (x - 4294967296)) 0 with z | z
      · exact (K.pbl _ u1.1 z).1
      · exact (K.rbl _ z u1.2).1
    have td := dc _ b dr.1 dr.2 b0 b1 tb u3
    have dm := h.dom B1 l0 N E b0 b1 tb u3
    rcases Int.lt_or_le (sd (x - 4294967296)) 0 with z | z
    · have ph := phi _ u1.1 z td (up w z)
      refine ⟨⟨⟨ph.1.1, by show nw _ < R'; omega⟩, by show TT t' pt' P' (nw _) = _; rw [ph.2.1]; exact u2⟩, by show DM _ _ _ (bl' (nw _)) _; rw [ph.2.2.1]; exact dm, fun _ => by show nw _ < i'; omega⟩
    · have ro := row _ z u1.2 td
      refine ⟨⟨⟨by show -P' ≤ nw _; omega, ro.1.2⟩, by show TT t' pt' P' (nw _) = _; rw [ro.2.1]; exact u2⟩, by show DM _ _ _ (bl' (nw _)) _; rw [ro.2.2.1]; exact dm, fun e => ?_⟩
      show nw _ < i'
      have e2 : nu (bl (sd (x - 4294967296))) = nu b := by rw [← ro.2.2.1]; exact e
      by_cases db : bl (sd (x - 4294967296)) = b
      · have := ord _ z (u4 db) db u1.2
        rw [(hnw _).1 z, db]; exact this
      · have kb := K.rbl _ z u1.2
        have cd := (h.1.2.2.2.2.2.2.2.2 _ dr.1 dr.2 td).1
        have cb := (h.1.2.2.2.2.2.2.2.2 b b0 b1 tb).1
        rcases Int.lt_or_le (cp (bl (sd (x - 4294967296)))) (cp b) with y | y
        · have := h.1.before mR (cp b - cp (bl (sd (x - 4294967296))) - 1).toNat _ b dr.1 dr.2 td b0 b1 tb e2 (by omega)
          rw [(hnw _).1 z]; omega
        · exfalso
          have back := h.1.dm l0 O (cp (bl (sd (x - 4294967296))) - cp b).toNat b _ b0 b1 tb dr.1 dr.2 td e2.symm (by omega)
          obtain ⟨k, nn, rr⟩ := rc b b0 b1 tb
          exact (DM.anti u3 back db nn k (-1)).2 rr
  refine ⟨bl', fun v => nw (sd v), K', ⟨fun u u0 u1 e => ?_, fun j j0 j1 => ?_, fun y y0 y1 => ?_, fun q y p y0 y1 sl => ?_⟩, fun u u0 u1 => ?_⟩
  · obtain ⟨s, s0, s1, s2, s3, _⟩ := src u u0 u1
    show nw (sd (TT t' pt' P' u)) = u
    rw [s2] at e ⊢
    rw [S.num s s0.1 s0.2 e]; exact s1
  · obtain ⟨s, s0, s1, s2, s3, s4⟩ := src j (by have := M'.le' (a := 0) (b := T) (by omega) (by omega) (Int.le_refl _); have := M'.z; have := M'.e; omega) j1
    have sp := s4 j0
    have ro := row s sp s0.2 s3
    rw [s1] at ro
    have kb := K.rbl s sp s0.2
    have u := S.row s sp s0.2
    have up := ur s sp s0.2 s3
    have je : j = st (bl s) + (s - rs (bl s)) := by rw [← s1]; exact (hnw s).1 sp
    rw [ro.2.2.2.2.1, ro.2.2.2.2.2, ro.2.2.1]
    have ord : ∀ s2 : Int, 0 ≤ s2 → s2 < s → bl s2 = bl s → s2 < R → st (bl s) + (s2 - rs (bl s)) < j := fun s2 _ a _ _ => by omega
    exact ⟨use _ _ s j kb.1.1 kb.1.2 s3 j0 (by omega) ord up.1 u.1, use _ _ s j kb.1.1 kb.1.2 s3 j0 (by omega) ord up.2 u.2⟩
  · obtain ⟨q1, q2, q3, q4, q5, q6, q7, q8, q9, q10, q11, q12, q13⟩ := h.2.2.1 y y0 y1
    have pl := h.2.1.1 (la y) q5.1 q5.2 q6
    have R'0 : 0 ≤ R' := by have := MR.le' (a := 0) (b := T) (by omega) (by omega) (Int.le_refl _); have := MR.z; have := MR.e; omega
    have mo := mR.mo (la y) q5.1 q5.2
    have := use (eu (la y)) (la y) R R' q5.1 q5.2 q6 R'0 (by have := pl.2.1; omega) (fun s a _ b c => by have kb := K.rbl s a c; rw [b] at kb; have := pl.2.1; omega) (ue _ q5.1 q5.2 q6) (S.fin _ q5.1 q5.2)
    rw [q7] at this
    rw [q11]; exact this
  · obtain ⟨i, k, a1, a2, a3, a4, a5, a6⟩ := sl
    have b := X.blk y y0 y1
    have f := fsr y y0 y1
    have px := Q.2.2.1 y (i - fs' y + fs (fo y)) y0 y1 (by omega) (by omega)
    rw [show fs' y + (i - fs' y + fs (fo y) - fs (fo y)) = i by omega] at px
    obtain ⟨w, w0, w1, w2, w3⟩ := px.2.2 k a3 a4
    rw [a6] at w2
    have pr0 := (L'.out y (ps' y + k) y0 y1 (by omega) (by omega)).1
    rw [a6] at pr0
    obtain ⟨q1, q2, q3, q4, q5, q6, q7, q8, q9, q10, q11, q12, q13⟩ := h.2.2.1 p pr0.1 pr0.2
    have slo : SLT fs ps pr as (as (i - fs' y + fs (fo y)) + w) (fo y) (la p) := ⟨i - fs' y + fs (fo y), w, by omega, by omega, w0, w1, rfl, w2⟩
    have pl := h.2.1.1 (la p) q5.1 q5.2 q6
    have R'0 : 0 ≤ R' := by have := MR.le' (a := 0) (b := T) (by omega) (by omega) (Int.le_refl _); have := MR.z; have := MR.e; omega
    have mo := mR.mo (la p) q5.1 q5.2
    have := use (ar (as (i - fs' y + fs (fo y)) + w)) (la p) R R' q5.1 q5.2 q6 R'0 (by have := pl.2.1; omega) (fun s a _ b c => by have kb := K.rbl s a c; rw [b] at kb; have := pl.2.1; omega) (ua _ _ _ b.1.1 b.1.2 b.2.1 q5.1 q5.2 q6 slo) (S.arg _ _ _ b.1.1 b.1.2 slo)
    rw [q7] at this
    rw [a5, w3]; exact this
  · obtain ⟨s, s0, s1, s2, s3, _⟩ := src u u0 u1
    exact ⟨s, s0.1, s0.2, s2⟩
/-- fewer ways: who dominated dominates -/
theorem DM.sub {ek g1 g2 ek' g1' g2' : Int → Int} (e : ∀ p b : Int, ED ek' g1' g2' p b → ED ek g1 g2 p b) {a b : Int} (h : DM ek g1 g2 a b) : DM ek' g1' g2' a b := by
  intro k r
  have key : ∀ (n k : Nat) (x : Int), raS ek' g1' g2' (fun _ => 0) a n k x → raS ek g1 g2 (fun _ => 0) a n k x := by
    intro n
    induction n with
    | zero => intro k x q; exact q
    | succ n ih =>
      intro k x q
      obtain ⟨q1, p, q2, q3⟩ := q
      refine ⟨q1, p, e _ _ q2, ?_⟩
      rcases q3 with ⟨q3, q4⟩ | ⟨k', q3, q4⟩
      · exact Or.inl ⟨ih k p q3, q4⟩
      · exact Or.inr ⟨k', q3, ih k' p q4⟩
  obtain ⟨n, r⟩ := r
  exact h k ⟨n, key n k b r⟩
theorem UOK.sub {ek g1 g2 ek' g1' g2' T sd bl : Int → Int} {P R x b i : Int} (e : ∀ p b : Int, ED ek' g1' g2' p b → ED ek g1 g2 p b) (h : UOK ek g1 g2 P R T sd bl x b i) : UOK ek' g1' g2' P R T sd bl x b i := fun w => by
  obtain ⟨u1, u2, u3⟩ := h w
  exact ⟨u1, u2.sub e, u3⟩
theorem SI.ends {ek g1 g2 ek' g1' g2' eu eu' : Int → Int} {B P R : Int} {fs ps pr as tg pt lf rt ar bl sd : Int → Int} (h : SI ek g1 g2 B P R fs ps pr as tg pt lf rt eu ar bl sd) (e : ∀ p b : Int, ED ek' g1' g2' p b → ED ek g1 g2 p b) (u : ∀ b : Int, eu' b = eu b ∨ ¬ isg (eu' b)) : SI ek' g1' g2' B P R fs ps pr as tg pt lf rt eu' ar bl sd := by
  refine ⟨h.num, fun i a b => ⟨(h.row i a b).1.sub e, (h.row i a b).2.sub e⟩, fun b b0 b1 => ?_, fun q x p a b s => (h.arg q x p a b s).sub e⟩
  rcases u b with w | w
  · rw [w]; exact (h.fin b b0 b1).sub e
  · exact fun z => absurd z w
theorem FEN.ed {gn ek eu g1 g2 ek' eu' g1' g2' : Int → Int} {d : Int} (h : FEN gn ek eu g1 g2 ek' eu' g1' g2' d) : ∀ p b : Int, ED ek' g1' g2' p b → ED ek g1 g2 p b := fun p b ⟨i, i0, i1, i2⟩ => by
  have ne : ¬ ek' p = 2 := gcF_ne (ek := ek') (g1 := g1') (g2 := g2') (by omega)
  obtain ⟨q1, q2, q3⟩ := h.sub p ne
  unfold glF at i2
  split at i2
  · rcases q2 with q | q
    · rw [← i2, q]; exact ED.one q1
    · rw [← i2, q]; exact ED.two q1
  · rcases q3 with q | q
    · rw [← i2, q]; exact ED.one q1
    · rw [← i2, q]; exact ED.two q1
theorem FEN.eu {gn ek eu g1 g2 ek' eu' g1' g2' : Int → Int} {d : Int} (h : FEN gn ek eu g1 g2 ek' eu' g1' g2' d) (b : Int) : eu' b = eu b ∨ ¬ isg (eu' b) := by
  by_cases c : 0 ≤ b ∧ b < d ∧ gn b = 1
  · rcases (h b).1 c with ⟨a1, a2, a3, a4⟩ | ⟨a1, a2, a3, a4, a5⟩
    · right; rw [a3]; unfold isg; omega
    · exact Or.inl a3
  · exact Or.inl ((h b).2 c).2.1
/-- operands replaced by numbers -/
theorem UOK.num {ek g1 g2 T sd bl kd ii : Int → Int} {P R x b i : Int} (n : INS kd ii) (o : ((-2147483648 ≤ x ∧ x ≤ 4294968319) ∨ x = 1099511627776)) (h : UOK ek g1 g2 P R T sd bl x b i) : UOK ek g1 g2 P R T sd bl (rsI ii 1000 x) b i ∧ (isg (rsI ii 1000 x) → rsI ii 1000 x = x ∧ ¬ kd (x - 4294967296) = 1) := by
  have q := rsI_num n o
  by_cases k : kdF kd x = 1
  · rw [q.1 k]
    have ng : ¬ isg (nvF ii x) := by
      unfold kdF at k; unfold nvF isg
      by_cases c : 4294967296 ≤ x ∧ x < 1099511627776
      · rw [if_pos c] at k ⊢
        have := (n (x - 4294967296) (by omega) (by omega)).1 k
        omega
      · rw [if_neg c]; exact c
    exact ⟨fun w => absurd w ng, fun w => absurd w ng⟩
  · rw [q.2 k]
    refine ⟨h, fun w => ⟨rfl, fun z => k ?_⟩⟩
    unfold isg at w; unfold kdF; rw [if_pos w]; exact z
theorem STY.num {ek g1 g2 tg pt sd bl kd op o pm : Int → Int} {P R x b i : Int} (h : UOK ek g1 g2 P R (TT tg pt P) sd bl x b i) (k : isg x → ¬ kd (x - 4294967296) = 1) (mo : MKO kd o op tg) (mp : MKP kd pm pt 0 P) (ho : ∀ i : Int, 0 ≤ i → i < R → 0 ≤ op i) (ht : ∀ i : Int, 0 ≤ i → i < P → 0 ≤ pt i) : STY o pm sd P x := fun w => by
  obtain ⟨⟨u1, u2⟩, _, _⟩ := h w
  refine ⟨fun s0 => ?_, fun s0 => ?_⟩
  · have e : tg (sd (x - 4294967296)) = x - 4294967296 := by unfold TT at u2; rw [if_pos s0] at u2; exact u2
    rcases mo (sd (x - 4294967296)) with q | q
    · rw [q]; have := ho _ s0 u1.2; omega
    · rw [e] at q; exact absurd q.2.2 (k w)
  · have e : pt (sd (x - 4294967296) + P) = x - 4294967296 := by unfold TT at u2; rw [if_neg (by omega)] at u2; exact u2
    rcases mp (sd (x - 4294967296) + P) with q | q
    · rw [q]; have := ht (sd (x - 4294967296) + P) (by omega) (by omega); omega
    · rw [e] at q; exact absurd q.2.2.2 (k w)
/-- what folding leaves is SSA, with the ends that it leaves -/
theorem FLD.si {B R P C : Int} {rs op tg lf rt ek eu g1 g2 ps pr fs pt as ar kd ii gn o1 o2 : Int → Int} {n m : Int} {rs' o' t' l' r' ek' eu' g1' g2' fs' pt' as' ar' : Int → Int} (v : SSV B R P C rs op tg lf rt ek eu g1 g2 ps pr fs pt as ar) (h : FLD B R P rs op tg lf rt ek eu g1 g2 ps pr fs pt as ar kd ii gn o1 o2 n m rs' o' t' l' r' ek' eu' g1' g2' fs' pt' as' ar') (xl : ∀ i : Int, ((-2147483648 ≤ lf i ∧ lf i ≤ 4294968319) ∨ lf i = 1099511627776)) (xr : ∀ i : Int, ((-2147483648 ≤ rt i ∧ rt i ≤ 4294968319) ∨ rt i = 1099511627776)) (xe : ∀ i : Int, ((-2147483648 ≤ eu i ∧ eu i ≤ 4294968319) ∨ eu i = 1099511627776)) (xa : ∀ i : Int, ((-2147483648 ≤ ar i ∧ ar i ≤ 4294968319) ∨ ar i = 1099511627776)) :
    (∃ bl' sd' : Int → Int, BLK B m n rs' fs' bl' ∧ SI ek' g1' g2' B m n fs' ps pr as' t' pt' l' r' eu' ar' bl' sd') ∧ (∀ s : Int, -m ≤ s → s < n → TT t' pt' m s < 1000) ∧ RWF o' l' r' n ∧ fs' 1 = 0 ∧ ARF B fs' ps pr as' ar' := by
  obtain ⟨v1, v2, v3, vr, va, v4, v5, v6, bl, sd, v7, v8⟩ := v
  obtain ⟨h1, h2, h3, hV, pm, o, l2, r2, u2, f, g, a1, a2, a3, a4, a5, a6, a7, a8⟩ := h
  obtain ⟨c1, c2, c3, c4, c5, c6, c7, c8⟩ := v1
  have P0 : 0 ≤ P := by have := c3.top 0 (by omega) (by omega); have := c3.z; omega
  have R0 : 0 ≤ R := by have := c2.top 0 (by omega) (by omega); have := c2.z; omega
  have ho : ∀ i : Int, 0 ≤ i → i < R → 0 ≤ op i := fun i a b => (vr i a b).1
  have sik : SIK ek g1 g2 B P R fs ps pr as o tg pt pm l2 r2 u2 ar' bl sd := by
    refine ⟨v8.num, fun i i0 i1 e => ?_, fun i i0 i1 _ => ?_, fun b b0 b1 => ?_, fun x i k x0 x1 i0 i1 _ k0 k1 => ?_⟩
    · rcases a1 i with q | q
      · exact q
      · exact absurd q.1 e
    · rw [(a3 i).1 i0 i1, (a4 i).1 i0 i1]
      exact ⟨(UOK.num h1 (xl i) (v8.row i i0 i1).1).1, (UOK.num h1 (xr i) (v8.row i i0 i1).2).1⟩
    · rw [(a5 b).1 b0 b1]; exact (UOK.num h1 (xe b) (v8.fin b b0 b1)).1
    · rw [a6 x i k x0 x1 i0 i1 k0 k1]
      exact (UOK.num h1 (xa _) (v8.arg _ x _ x0 x1 ⟨i, k, i0, i1, k0, k1, rfl, rfl⟩)).1
  obtain ⟨bl', sd', s1, s2, s3⟩ := sik.sweep a8 P0 R0 (fun i i0 i1 _ => by
    rw [(a3 i).1 i0 i1, (a4 i).1 i0 i1]
    have p := UOK.num h1 (xl i) (v8.row i i0 i1).1
    have q := UOK.num h1 (xr i) (v8.row i i0 i1).2
    exact ⟨STY.num p.1 (fun w => by have z := p.2 w; rw [z.1]; exact z.2) a2 a1 ho c7, STY.num q.1 (fun w => by have z := q.2 w; rw [z.1]; exact z.2) a2 a1 ho c7⟩) (fun b b0 b1 => by
    rw [(a5 b).1 b0 b1]
    have p := UOK.num h1 (xe b) (v8.fin b b0 b1)
    exact STY.num p.1 (fun w => by have z := p.2 w; rw [z.1]; exact z.2) a2 a1 ho c7) (fun x i k x0 x1 i0 i1 _ k0 k1 => by
    rw [a6 x i k x0 x1 i0 i1 k0 k1]
    have p := UOK.num h1 (xa _) (v8.arg _ x _ x0 x1 ⟨i, k, i0, i1, k0, k1, rfl, rfl⟩)
    exact STY.num p.1 (fun w => by have z := p.2 w; rw [z.1]; exact z.2) a2 a1 ho c7)
  have M1 := KB.ms2 a8.k1 a8.b1 c2
  have M2 := KB.ms2 a8.k2 a8.b2 c3
  have bk := BLK.sweep v7 a8 c2 c3 M1.z M2.z s2 s3
  refine ⟨⟨bl', sd', bk.2.2, s1.ends a7.ed a7.eu⟩, fun s s0 s1' => ?_, fun i i0 i1 => ?_, ?_, fun q x p x0 x1 sl => ?_⟩
  · unfold TT
    by_cases w : 0 ≤ s
    · rw [if_pos w, a8.ct.1 s w s1']
      have dm := a8.k1.dom s w s1'
      have := v6 (f s) (by omega) dm.1.2
      unfold TT at this; rw [if_pos dm.1.1] at this; exact this
    · rw [if_neg w, a8.cp.1 (s + m) (by omega) (by omega)]
      have dm := a8.k2.dom (s + m) (by omega) (by omega)
      rcases a1 (g (s + m)) with q | q
      · rw [q]
        have := v6 (g (s + m) - P) (by omega) (by omega)
        unfold TT at this; rw [if_neg (by omega), show g (s + m) - P + P = g (s + m) by omega] at this; exact this
      · omega
  · have dm := a8.k1.dom i i0 i1
    have e := a8.co.1 i i0 i1
    rcases a2 (f i) with q | q
    · have w := vr (f i) dm.1.1 dm.1.2
      rw [e, q, a8.cl.1 i i0 i1, a8.cr.1 i i0 i1, (a3 (f i)).1 dm.1.1 dm.1.2, (a4 (f i)).1 dm.1.1 dm.1.2]
      refine ⟨w.1, fun z => ?_, fun z => rsI_nno _ _ (w.2.2 z)⟩
      have y := w.2.1 z
      rw [rsI_stop y.1, rsI_stop y.2]; exact y
    · exact absurd q.1 dm.2
  · have q := a8.b2 1 (by omega) c1
    have z := a8.b2 0 (by omega) (by omega)
    rcases Int.lt_or_le 0 (fs' 1) with w | w
    · have x := (q.2 0 (by omega) (by omega)).mp w
      have dm := a8.k2.dom 0 (by omega) (by omega)
      omega
    · omega
  · obtain ⟨i, k, b1, b2, b3, b4, b5, b6⟩ := sl
    have q1 := a8.b2 x x0 (by omega)
    have q2 := a8.b2 (x + 1) (by omega) (by omega)
    have dm := a8.k2.dom i (by omega) (by omega)
    have e1 := q1.2 i (by omega) (by omega)
    have e2 := q2.2 i (by omega) (by omega)
    rw [b5, a8.ca.1 i (by omega) (by omega), a6 x (g i) k x0 x1 (by omega) (by omega) b3 b4]
    have nn := va (as (g i) + k) x p x0 x1 ⟨g i, k, by omega, by omega, b3, b4, rfl, b6⟩
    have z := rsI_num h1 (xa (as (g i) + k))
    by_cases c : kdF kd (ar (as (g i) + k)) = 1
    · rw [z.1 c]; have := nvF_rng h1 c (xa _) nn; omega
    · rw [z.2 c]; exact nn
