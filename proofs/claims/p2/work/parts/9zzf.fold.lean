theorem ED.one {ek g1 g2 : Int → Int} {p : Int} (e : ¬ ek p = 2) : ED ek g1 g2 p (g1 p) := by
  refine ⟨0, by omega, ?_, ?_⟩
  · unfold gcF; rw [if_neg e]; split <;> omega
  · unfold glF; rw [if_pos rfl]
theorem ED.two {ek g1 g2 : Int → Int} {p : Int} (e : ¬ ek p = 2) : ED ek g1 g2 p (g2 p) := by
  by_cases w : g1 p = g2 p
  · rw [← w]; exact ED.one e
  · refine ⟨1, by omega, ?_, ?_⟩
    · unfold gcF; rw [if_neg e, if_neg w]; omega
    · unfold glF; rw [if_neg (by omega)]
/-- how much is known of an operand: 0 nothing, 1 a number, 2 any -/
def kdF (kd : Int → Int) (x : Int) : Int := if 4294967296 ≤ x ∧ x < 1099511627776 then kd (x - 4294967296) else 1
theorem kdF_zero {kd : Int → Int} {x : Int} (h : kdF kd x = 0) : isg x ∧ kd (x - 4294967296) = 0 := by
  unfold kdF at h
  by_cases c : 4294967296 ≤ x ∧ x < 1099511627776
  · rw [if_pos c] at h; exact ⟨c, h⟩
  · rw [if_neg c] at h; omega
/-- the way from p to b is open -/
def OPN (g1 g2 o1 o2 : Int → Int) (p b : Int) : Prop := (o1 p = 1 ∧ g1 p = b) ∨ (o2 p = 1 ∧ g2 p = b)
/-- b is come to by k open ways -/
def OPR (g1 g2 o1 o2 : Int → Int) : Nat → Int → Prop
  | 0, b => b = 0
  | k + 1, b => ∃ p : Int, OPR g1 g2 o1 o2 k p ∧ OPN g1 g2 o1 o2 p b
theorem OPN.up {g1 g2 o1 o2 o1' o2' : Int → Int} {p b : Int} (h : OPN g1 g2 o1 o2 p b) (u : ∀ x : Int, (o1 x = 1 → o1' x = 1) ∧ (o2 x = 1 → o2' x = 1)) : OPN g1 g2 o1' o2' p b := by
  rcases h with h | h
  · exact Or.inl ⟨(u p).1 h.1, h.2⟩
  · exact Or.inr ⟨(u p).2 h.1, h.2⟩
theorem OPR.up {g1 g2 o1 o2 o1' o2' : Int → Int} (u : ∀ x : Int, (o1 x = 1 → o1' x = 1) ∧ (o2 x = 1 → o2' x = 1)) : ∀ {k : Nat} {b : Int}, OPR g1 g2 o1 o2 k b → OPR g1 g2 o1' o2' k b
  | 0, _, h => h
  | _ + 1, _, ⟨p, a, c⟩ => ⟨p, OPR.up u a, c.up u⟩
/-- which blocks are gone into: those that open ways lead to -/
def GNI (B : Int) (ek g1 g2 gn o1 o2 : Int → Int) : Prop := gn 0 = 1 ∧ (∀ x : Int, 0 ≤ x → x < B → gn x = 1 → ∃ k : Nat, OPR g1 g2 o1 o2 k x) ∧ (∀ x : Int, 0 ≤ x → x < B → (o1 x = 1 ∨ o2 x = 1) → gn x = 1 ∧ ¬ ek x = 2) ∧ (∀ p b : Int, 0 ≤ p → p < B → OPN g1 g2 o1 o2 p b → gn b = 1)
theorem GNI.init {B : Int} {ek g1 g2 gn o1 o2 : Int → Int} (a : gn 0 = 1) (b : ∀ x : Int, 0 ≤ x → x < B → gn x = 1 → x = 0) (c : ∀ x : Int, 0 ≤ x → x < B → o1 x = 0 ∧ o2 x = 0) : GNI B ek g1 g2 gn o1 o2 := ⟨a, fun x x0 x1 e => ⟨0, b x x0 x1 e⟩, fun x x0 x1 e => by have := c x x0 x1; omega, fun p q p0 p1 e => by have := c p p0 p1; unfold OPN at e; omega⟩
theorem GNI.open1 {B : Int} {ek g1 g2 gn o1 o2 : Int → Int} {b : Int} (h : GNI B ek g1 g2 gn o1 o2) (b0 : 0 ≤ b) (b1 : b < B) (g : gn b = 1) (e : ¬ ek b = 2) : GNI B ek g1 g2 (zup gn (g1 b) 1) (zup o1 b 1) o2 := by
  obtain ⟨h1, h2, h3, h4⟩ := h
  have u : ∀ x : Int, (o1 x = 1 → zup o1 b 1 x = 1) ∧ (o2 x = 1 → o2 x = 1) := fun x => ⟨fun q => by unfold zup; split; rfl; exact q, fun q => q⟩
  have gu : ∀ x : Int, gn x = 1 → zup gn (g1 b) 1 x = 1 := fun x q => by unfold zup; split; rfl; exact q
  refine ⟨gu _ h1, fun x x0 x1 q => ?_, fun x x0 x1 q => ?_, fun p x p0 p1 q => ?_⟩
  · by_cases w : gn x = 1
    · obtain ⟨k, r⟩ := h2 x x0 x1 w
      exact ⟨k, r.up u⟩
    · have xe : x = g1 b := by
        by_cases v : x = g1 b
        · exact v
        · rw [zup_ne _ _ v] at q; exact absurd q w
      obtain ⟨k, r⟩ := h2 b b0 b1 g
      exact ⟨k + 1, b, r.up u, Or.inl ⟨zup_eq _ _ _, xe.symm⟩⟩
  · by_cases w : x = b
    · rw [w]; exact ⟨gu _ g, e⟩
    · rw [zup_ne _ _ w] at q
      have := h3 x x0 x1 q
      exact ⟨gu _ this.1, this.2⟩
  · by_cases w : p = b
    · rcases q with q | q
      · rw [← q.2, w, zup_eq]
      · exact gu _ (h4 p x p0 p1 (Or.inr q))
    · unfold OPN at q; rw [zup_ne _ _ w] at q; exact gu _ (h4 p x p0 p1 q)
theorem GNI.open2 {B : Int} {ek g1 g2 gn o1 o2 : Int → Int} {b : Int} (h : GNI B ek g1 g2 gn o1 o2) (b0 : 0 ≤ b) (b1 : b < B) (g : gn b = 1) (e : ¬ ek b = 2) : GNI B ek g1 g2 (zup gn (g2 b) 1) o1 (zup o2 b 1) := by
  obtain ⟨h1, h2, h3, h4⟩ := h
  have u : ∀ x : Int, (o1 x = 1 → o1 x = 1) ∧ (o2 x = 1 → zup o2 b 1 x = 1) := fun x => ⟨fun q => q, fun q => by unfold zup; split; rfl; exact q⟩
  have gu : ∀ x : Int, gn x = 1 → zup gn (g2 b) 1 x = 1 := fun x q => by unfold zup; split; rfl; exact q
  refine ⟨gu _ h1, fun x x0 x1 q => ?_, fun x x0 x1 q => ?_, fun p x p0 p1 q => ?_⟩
  · by_cases w : gn x = 1
    · obtain ⟨k, r⟩ := h2 x x0 x1 w
      exact ⟨k, r.up u⟩
    · have xe : x = g2 b := by
        by_cases v : x = g2 b
        · exact v
        · rw [zup_ne _ _ v] at q; exact absurd q w
      obtain ⟨k, r⟩ := h2 b b0 b1 g
      exact ⟨k + 1, b, r.up u, Or.inr ⟨zup_eq _ _ _, xe.symm⟩⟩
  · by_cases w : x = b
    · rw [w]; exact ⟨gu _ g, e⟩
    · rw [zup_ne _ _ w] at q
      have := h3 x x0 x1 q
      exact ⟨gu _ this.1, this.2⟩
  · by_cases w : p = b
    · rcases q with q | q
      · exact gu _ (h4 p x p0 p1 (Or.inl q))
      · rw [← q.2, w, zup_eq]
    · unfold OPN at q; rw [zup_ne _ _ w] at q; exact gu _ (h4 p x p0 p1 q)
/-- a PHI, a ROW, an END that have been looked at, and nothing was new -/
def LKP (g1 g2 ps pr as pt ar kd o1 o2 : Int → Int) (b i : Int) : Prop := kd (pt i) = 0 → ∀ k : Int, 0 ≤ k → k < ps (b + 1) - ps b → kdF kd (ar (as i + k)) = 0 ∨ ¬ OPN g1 g2 o1 o2 (pr (ps b + k)) b
def LKR (op tg lf rt kd : Int → Int) (i : Int) : Prop := 0 ≤ tg i → kd (tg i) = 0 → ¬ op i = 1 ∧ (kdF kd (lf i) = 0 ∨ (¬ op i = 0 ∧ kdF kd (rt i) = 0))
/-- the number of an operand of which a number is known -/
def nvF (ii : Int → Int) (x : Int) : Int := if 4294967296 ≤ x ∧ x < 1099511627776 then ii (x - 4294967296) else x
def LKE (ek eu kd ii o1 o2 : Int → Int) (b : Int) : Prop := (ek b = 0 → o1 b = 1 ∧ o2 b = 1) ∧ (ek b = 1 → (kdF kd (eu b) = 2 → o1 b = 1 ∧ o2 b = 1) ∧ (kdF kd (eu b) = 1 → (nvF ii (eu b) = 0 → o2 b = 1) ∧ (¬ nvF ii (eu b) = 0 → o1 b = 1)))
def LKD (rs fs ek eu g1 g2 ps pr as pt ar op tg lf rt kd ii o1 o2 : Int → Int) (b : Int) : Prop := (∀ i : Int, fs b ≤ i → i < fs (b + 1) → LKP g1 g2 ps pr as pt ar kd o1 o2 b i) ∧ (∀ i : Int, rs b ≤ i → i < rs (b + 1) → LKR op tg lf rt kd i) ∧ LKE ek eu kd ii o1 o2 b
theorem OPR.dom {B : Int} {ek g1 g2 gn o1 o2 : Int → Int} (hG : HGP ek g1 g2 B) (B1 : 1 ≤ B) (h : GNI B ek g1 g2 gn o1 o2) (d : Int) : ∀ {k : Nat} {b : Int}, OPR g1 g2 o1 o2 k b → (0 ≤ b ∧ b < B) ∧ ((∃ j : Nat, j < k ∧ OPR g1 g2 o1 o2 j d) ∨ d = b ∨ RA ek g1 g2 (fun _ => 0) d k b)
  | 0, b, e => by
    have e' : b = 0 := e
    rw [e']
    refine ⟨by omega, ?_⟩
    by_cases w : d = 0
    · exact Or.inr (Or.inl w)
    · exact Or.inr (Or.inr (RA.start 0 w))
  | k + 1, b, ⟨p, r, o⟩ => by
    obtain ⟨pr, q⟩ := OPR.dom hG B1 h d r
    have ed : ¬ ek p = 2 ∧ ED ek g1 g2 p b ∧ (0 ≤ b ∧ b < B) := by
      rcases o with ⟨a, c⟩ | ⟨a, c⟩
      · have e := (h.2.2.1 p pr.1 pr.2 (Or.inl a)).2
        have g := hG p pr.1 pr.2 e
        rw [← c]; exact ⟨e, ED.one e, g.1⟩
      · have e := (h.2.2.1 p pr.1 pr.2 (Or.inr a)).2
        have g := hG p pr.1 pr.2 e
        rw [← c]; exact ⟨e, ED.two e, g.2⟩
    refine ⟨ed.2.2, ?_⟩
    rcases q with ⟨j, j1, j2⟩ | q | q
    · exact Or.inl ⟨j, by omega, j2⟩
    · rw [q]; exact Or.inl ⟨k, by omega, r⟩
    · by_cases w : d = b
      · exact Or.inr (Or.inl w)
      · exact Or.inr (Or.inr (RA.back q ed.2.1 (fun z => w z.symm)))
/-- in SSA nothing stays untold where the search has gone -/
theorem untold {ek g1 g2 : Int → Int} {B P R : Int} {rs fs ps pr as op tg pt lf rt eu ar bl sd kd ii gn o1 o2 : Int → Int} (S : SI ek g1 g2 B P R fs ps pr as tg pt lf rt eu ar bl sd) (K : BLK B P R rs fs bl) (hG : HGP ek g1 g2 B) (B1 : 1 ≤ B) (L : PL ek g1 g2 B ps pr) (z : fs 0 = 0 ∧ fs 1 = 0) (h : GNI B ek g1 g2 gn o1 o2) (lk : ∀ b : Int, 0 ≤ b → b < B → gn b = 1 → LKD rs fs ek eu g1 g2 ps pr as pt ar op tg lf rt kd ii o1 o2 b) (gr : ∀ (k : Nat) (b : Int), OPR g1 g2 o1 o2 k b → gn b = 1) :
    ∀ (k : Nat) (b : Int), OPR g1 g2 o1 o2 k b → ∀ (n : Nat) (s : Int), (s + P).toNat < n → -P ≤ s → s < R → bl s = b → 0 ≤ TT tg pt P s → ¬ kd (TT tg pt P s) = 0 := by
  intro k
  induction k using Nat.strongRecOn with
  | ind k ih =>
  intro b r n
  have br := (OPR.dom hG B1 h 0 r).1
  have use : ∀ (k' : Nat) (x c i : Int), k' ≤ k → OPR g1 g2 o1 o2 k' c → UOK ek g1 g2 P R (TT tg pt P) sd bl x c i → (isg x → bl (sd (x - 4294967296)) = c → k' = k → sd (x - 4294967296) < i → ¬ kd (x - 4294967296) = 0) → isg x → 0 ≤ x - 4294967296 → ¬ kd (x - 4294967296) = 0 := by
    intro k' x c i kk r' u same w x0
    obtain ⟨⟨u1, u2⟩, u3, u4⟩ := u w
    have e : ∀ (j : Nat), j < k → OPR g1 g2 o1 o2 j (bl (sd (x - 4294967296))) → ¬ kd (x - 4294967296) = 0 := by
      intro j jk q
      have := ih j jk _ q ((sd (x - 4294967296) + P).toNat + 1) (sd (x - 4294967296)) (by omega) u1.1 u1.2 rfl (by rw [u2]; exact x0)
      rw [u2] at this; exact this
    rcases (OPR.dom hG B1 h (bl (sd (x - 4294967296))) r').2 with ⟨j, j1, j2⟩ | q | q
    · exact e j (by omega) j2
    · by_cases ke : k' = k
      · exact same w q ke (u4 q)
      · rw [← q] at r'; exact e k' (by omega) r'
    · exact absurd q (u3 k')
  induction n with
  | zero => intro s a; omega
  | succ n ihn =>
  intro s sn s0 s1 sb st kz
  rcases Int.lt_or_le s 0 with w | w
  · have q := K.pbl s s0 w
    rw [sb] at q
    have e : TT tg pt P s = pt (s + P) := by unfold TT; rw [if_neg (by omega)]
    rw [e] at kz
    cases k with
    | zero =>
      have : b = 0 := r
      rw [this] at q
      have := z.1; have := z.2
      rw [show (0 : Int) + 1 = 1 by omega] at q
      omega
    | succ k' =>
      have r0 := r
      obtain ⟨p, rp, op'⟩ := r
      have pr0 := (OPR.dom hG B1 h 0 rp).1
      have ed : ED ek g1 g2 p b := by
        rcases op' with ⟨a, c⟩ | ⟨a, c⟩
        · rw [← c]; exact ED.one (h.2.2.1 p pr0.1 pr0.2 (Or.inl a)).2
        · rw [← c]; exact ED.two (h.2.2.1 p pr0.1 pr0.2 (Or.inr a)).2
      obtain ⟨j, j0, j1, j2⟩ := L.edge pr0.1 pr0.2 ed
      have l := (lk b br.1 br.2 (gr _ _ r0)).1 (s + P) q.2.1 q.2.2 kz (j - ps b) (by omega) (by omega)
      rw [show ps b + (j - ps b) = j by omega, j2] at l
      rcases l with l | l
      · have ig := (kdF_zero l).1
        have lz := (kdF_zero l).2
        have u := S.arg (as (s + P) + (j - ps b)) b p br.1 br.2 ⟨s + P, j - ps b, q.2.1, q.2.2, by omega, by omega, rfl, by rw [show ps b + (j - ps b) = j by omega]; exact j2⟩
        exact use k' _ p R (by omega) rp u (fun _ _ ke => by omega) ig (by unfold isg at ig; omega) lz
      · exact l op'
  · have q := K.rbl s w s1
    rw [sb] at q
    have e : TT tg pt P s = tg s := by unfold TT; rw [if_pos w]
    rw [e] at kz st
    have l := (lk b br.1 br.2 (gr _ _ r)).2.1 s q.2.1 q.2.2 st kz
    have u := S.row s w s1
    rw [sb] at u
    have one : ∀ x : Int, UOK ek g1 g2 P R (TT tg pt P) sd bl x b s → kdF kd x = 0 → False := by
      intro x u l
      have ig := (kdF_zero l).1
      have lz := (kdF_zero l).2
      refine use k x b s (Nat.le_refl _) r u (fun w' be _ lt => ?_) ig (by unfold isg at ig; omega) lz
      obtain ⟨⟨u1, u2⟩, u3, u4⟩ := u w'
      have := ihn (sd (x - 4294967296)) (by omega) u1.1 u1.2 be (by rw [u2]; unfold isg at ig; omega)
      rw [u2] at this; exact this
    rcases l.2 with l | l
    · exact one _ u.1 l
    · exact one _ u.2 l.2
/-- so no END where it has gone uses what is untold -/
theorem untold_end {ek g1 g2 : Int → Int} {B P R : Int} {rs fs ps pr as op tg pt lf rt eu ar bl sd kd ii gn o1 o2 : Int → Int} (S : SI ek g1 g2 B P R fs ps pr as tg pt lf rt eu ar bl sd) (K : BLK B P R rs fs bl) (hG : HGP ek g1 g2 B) (B1 : 1 ≤ B) (L : PL ek g1 g2 B ps pr) (z : fs 0 = 0 ∧ fs 1 = 0) (h : GNI B ek g1 g2 gn o1 o2) (lk : ∀ b : Int, 0 ≤ b → b < B → gn b = 1 → LKD rs fs ek eu g1 g2 ps pr as pt ar op tg lf rt kd ii o1 o2 b) : ∀ b : Int, 0 ≤ b → b < B → gn b = 1 → ¬ kdF kd (eu b) = 0 := by
  have gr : ∀ (k : Nat) (b : Int), OPR g1 g2 o1 o2 k b → gn b = 1 := by
    intro k b r
    cases k with
    | zero => have e : b = 0 := r; rw [e]; exact h.1
    | succ k =>
      obtain ⟨p, rp, o⟩ := r
      have pr0 := (OPR.dom hG B1 h 0 rp).1
      exact h.2.2.2 p b pr0.1 pr0.2 o
  intro b b0 b1 g l
  obtain ⟨k, r⟩ := h.2.1 b b0 b1 g
  have ig := (kdF_zero l).1
  have lz := (kdF_zero l).2
  obtain ⟨⟨u1, u2⟩, u3, u4⟩ := S.fin b b0 b1 ig
  have fin : ∀ (j : Nat), OPR g1 g2 o1 o2 j (bl (sd (eu b - 4294967296))) → False := by
    intro j q
    have := untold S K hG B1 L z h lk gr j _ q ((sd (eu b - 4294967296) + P).toNat + 1) (sd (eu b - 4294967296)) (by omega) u1.1 u1.2 rfl (by rw [u2]; unfold isg at ig; omega)
    rw [u2] at this; exact this lz
  rcases (OPR.dom hG B1 h (bl (sd (eu b - 4294967296))) r).2 with ⟨j, _, j2⟩ | q | q
  · exact fin j j2
  · rw [← q] at r; exact fin k r
  · exact absurd q (u3 k)
theorem zI_ti (e : Int) : zI e = zI (zI e).toInt := by unfold zI; exact (Int32.ofInt_toInt _).symm
theorem zI_tr (e : Int) : -2147483648 ≤ (zI e).toInt ∧ (zI e).toInt ≤ 2147483647 := by have := xI_rng (zI e); omega
theorem zI_md (e : Int) : ((zI e).toInt - e) % 4294967296 = 0 := by
  unfold zI
  rw [Int32.toInt_ofInt]
  unfold Int.bmod
  have : ((Int32.size : Nat) : Int) = 4294967296 := rfl
  rw [this]
  dsimp only
  split <;> omega
/-- what is not yet known: registers and ways -/
def PHK (kd o1 o2 : Int → Int) : Int := sg (fun r => 2 - kd r) 1024 + sg (fun b => 1 - o1 b) 300 + sg (fun b => 1 - o2 b) 300
theorem PHK.rng {kd o1 o2 : Int → Int} (k : ∀ r : Int, 0 ≤ kd r ∧ kd r ≤ 2) (a : ∀ r : Int, 0 ≤ o1 r ∧ o1 r ≤ 1) (b : ∀ r : Int, 0 ≤ o2 r ∧ o2 r ≤ 1) : 0 ≤ PHK kd o1 o2 ∧ PHK kd o1 o2 ≤ 2648 := by
  unfold PHK
  have l1 := sg_nonneg (f := fun r => 2 - kd r) 1024 (fun j => by have := k j; show 0 ≤ 2 - kd j; omega)
  have l2 := sg_nonneg (f := fun r => 1 - o1 r) 300 (fun j => by have := a j; show 0 ≤ 1 - o1 j; omega)
  have l3 := sg_nonneg (f := fun r => 1 - o2 r) 300 (fun j => by have := b j; show 0 ≤ 1 - o2 j; omega)
  have u1 := sg_le (f := fun r => 2 - kd r) (g := fun _ => 2) 1024 (fun j _ _ => by have := k j; show 2 - kd j ≤ 2; omega)
  have u2 := sg_le (f := fun r => 1 - o1 r) (g := fun _ => 1) 300 (fun j _ _ => by have := a j; show 1 - o1 j ≤ 1; omega)
  have u3 := sg_le (f := fun r => 1 - o2 r) (g := fun _ => 1) 300 (fun j _ _ => by have := b j; show 1 - o2 j ≤ 1; omega)
  rw [sg_const] at u1 u2 u3
  omega
/-- one step or many of the search: what is known only grows, and nothing is new where nothing changed -/
def FMS (kd ii gn o1 o2 kd' ii' gn' o1' o2' : Int → Int) (c c' : Int) : Prop := (∀ x : Int, o1 x ≤ o1' x ∧ o2 x ≤ o2' x ∧ gn x ≤ gn' x ∧ kd x ≤ kd' x) ∧ (0 ≤ c ∧ c ≤ c' ∧ c' ≤ 1) ∧ (c' = 0 → kd' = kd ∧ ii' = ii ∧ gn' = gn ∧ o1' = o1 ∧ o2' = o2) ∧ PHK kd' o1' o2' + c' ≤ PHK kd o1 o2 + c
theorem FMS.refl (kd ii gn o1 o2 : Int → Int) {c : Int} (c0 : 0 ≤ c) (c1 : c ≤ 1) : FMS kd ii gn o1 o2 kd ii gn o1 o2 c c := ⟨fun x => by omega, by omega, fun _ => ⟨rfl, rfl, rfl, rfl, rfl⟩, by omega⟩
theorem FMS.trans {kd ii gn o1 o2 kd' ii' gn' o1' o2' k2 i2 n2 p2 q2 : Int → Int} {a b c : Int} (h : FMS kd ii gn o1 o2 kd' ii' gn' o1' o2' a b) (g : FMS kd' ii' gn' o1' o2' k2 i2 n2 p2 q2 b c) : FMS kd ii gn o1 o2 k2 i2 n2 p2 q2 a c := by
  refine ⟨fun x => by have := h.1 x; have := g.1 x; omega, by have := h.2.1; have := g.2.1; omega, fun e => ?_, by have := h.2.2.2; have := g.2.2.2; omega⟩
  obtain ⟨g1, g2, g3, g4, g5⟩ := g.2.2.1 e
  obtain ⟨h1, h2, h3, h4, h5⟩ := h.2.2.1 (by have := g.2.1; have := h.2.1; omega)
  exact ⟨by rw [g1, h1], by rw [g2, h2], by rw [g3, h3], by rw [g4, h4], by rw [g5, h5]⟩
/-- numbers stand where one is known -/
def INS (kd ii : Int → Int) : Prop := ∀ r : Int, 0 ≤ r → r < 1024 → (kd r = 1 → -2147483648 ≤ ii r ∧ ii r ≤ 2147483647) ∧ (¬ kd r = 1 → ii r = 1099511627776)
/-- register r is told kind k -/
def TEL (kd ii kd' ii' : Int → Int) (c c' r k : Int) : Prop := (k ≤ kd r ∧ kd' = kd ∧ ii' = ii ∧ c' = c) ∨ (kd r < k ∧ c' = 1 ∧ kd' = zup kd r k ∧ ∃ v : Int, ii' = zup ii r v ∧ (k = 1 → -2147483648 ≤ v ∧ v ≤ 2147483647) ∧ (¬ k = 1 → v = 1099511627776))
theorem TEL.fms {kd ii kd' ii' : Int → Int} {c c' r k : Int} (h : TEL kd ii kd' ii' c c' r k) (gn o1 o2 : Int → Int) (r0 : 0 ≤ r) (r1 : r < 1024) (c0 : 0 ≤ c) (c1 : c ≤ 1) : FMS kd ii gn o1 o2 kd' ii' gn o1 o2 c c' := by
  rcases h with ⟨a, b, d, e⟩ | ⟨a, b, d, v, e, _⟩
  · subst b; subst d; subst e; exact FMS.refl _ _ _ _ _ c0 c1
  · refine ⟨fun x => ?_, by omega, fun q => by omega, ?_⟩
    · rw [d]; unfold zup; split
      · rename_i w; rw [w]; omega
      · omega
    · rw [b, d]
      unfold PHK
      have w : (fun j => 2 - zup kd r k j) = zup (fun j => 2 - kd j) r (2 - k) := sg_map (fun t => 2 - t) kd r k
      rw [w, sg_up (fun j => 2 - kd j) (2 - k) 1024 r0 (by omega)]
      omega
theorem TEL.ins {kd ii kd' ii' : Int → Int} {c c' r k : Int} (h : TEL kd ii kd' ii' c c' r k) (i : INS kd ii) : INS kd' ii' := by
  rcases h with ⟨a, b, d, e⟩ | ⟨a, b, d, v, e, f, g⟩
  · rw [b, d]; exact i
  · rw [d, e]
    intro x x0 x1
    by_cases w : x = r
    · rw [w, zup_eq, zup_eq]; exact ⟨f, g⟩
    · rw [zup_ne _ _ w, zup_ne _ _ w]; exact i x x0 x1
theorem TEL.none {kd ii kd' ii' : Int → Int} {c c' r k : Int} (h : TEL kd ii kd' ii' c c' r k) (e : c' = 0) : k ≤ kd r ∧ kd' = kd ∧ ii' = ii := by
  rcases h with ⟨a, b, d, _⟩ | ⟨a, b, _⟩
  · exact ⟨a, b, d⟩
  · omega
/-- a PHI, a ROW has been looked at -/
def TLP (g1 g2 ps pr as pt ar o1 o2 kd ii kd' ii' : Int → Int) (c c' b i : Int) : Prop := ∃ k : Int, TEL kd ii kd' ii' c c' (pt i) k ∧ (0 ≤ k ∧ k ≤ 2) ∧ (k = 0 → ∀ j : Int, 0 ≤ j → j < ps (b + 1) - ps b → kdF kd (ar (as i + j)) = 0 ∨ ¬ OPN g1 g2 o1 o2 (pr (ps b + j)) b)
theorem TLP.lk {g1 g2 ps pr as pt ar o1 o2 kd ii kd' ii' : Int → Int} {c c' b i : Int} (h : TLP g1 g2 ps pr as pt ar o1 o2 kd ii kd' ii' c c' b i) (e : c' = 0) : LKP g1 g2 ps pr as pt ar kd' o1 o2 b i := by
  obtain ⟨k, t, k0, w⟩ := h
  have q := t.none e
  rw [q.2.1]
  exact fun z j j0 j1 => w (by omega) j j0 j1
def TLR (op tg lf rt kd ii kd' ii' : Int → Int) (c c' i : Int) : Prop := ∃ k : Int, TEL kd ii kd' ii' c c' (tg i) k ∧ (0 ≤ k ∧ k ≤ 2) ∧ (k = 0 → ¬ op i = 1 ∧ (kdF kd (lf i) = 0 ∨ (¬ op i = 0 ∧ kdF kd (rt i) = 0)))
theorem TLR.lk {op tg lf rt kd ii kd' ii' : Int → Int} {c c' i : Int} (h : TLR op tg lf rt kd ii kd' ii' c c' i) (e : c' = 0) : LKR op tg lf rt kd' i := by
  obtain ⟨k, t, k0, w⟩ := h
  have q := t.none e
  rw [q.2.1]
  exact fun _ z => w (by omega)
/-- ways are opened -/
def OPE (g1 g2 gn o1 o2 gn' o1' o2' : Int → Int) (c c' b p1 p2 : Int) : Prop := ∃ gm : Int → Int, ((p1 = 1 ∧ o1 b = 0 ∧ o1' = zup o1 b 1 ∧ gm = zup gn (g1 b) 1) ∨ ((p1 = 0 ∨ o1 b = 1) ∧ o1' = o1 ∧ gm = gn)) ∧ ((p2 = 1 ∧ o2 b = 0 ∧ o2' = zup o2 b 1 ∧ gn' = zup gm (g2 b) 1) ∨ ((p2 = 0 ∨ o2 b = 1) ∧ o2' = o2 ∧ gn' = gm)) ∧ ((p1 = 1 ∧ o1 b = 0) ∨ (p2 = 1 ∧ o2 b = 0) → c' = 1) ∧ (¬ ((p1 = 1 ∧ o1 b = 0) ∨ (p2 = 1 ∧ o2 b = 0)) → c' = c)
theorem OPE.fms {g1 g2 gn o1 o2 gn' o1' o2' : Int → Int} {c c' b p1 p2 : Int} (h : OPE g1 g2 gn o1 o2 gn' o1' o2' c c' b p1 p2) (kd ii : Int → Int) (b0 : 0 ≤ b) (b1 : b < 300) (c0 : 0 ≤ c) (c1 : c ≤ 1) (gr : ∀ x : Int, gn x ≤ 1) : FMS kd ii gn o1 o2 kd ii gn' o1' o2' c c' := by
  obtain ⟨gm, h1, h2, h3, h4⟩ := h
  have z1 : (o1 b = 0 → sg (fun x => 1 - zup o1 b 1 x) 300 = sg (fun x => 1 - o1 x) 300 - 1) := fun e => by
    rw [sg_map (fun t => 1 - t) o1 b 1, sg_up (fun j => 1 - o1 j) (1 - 1) 300 b0 (by omega), e]; omega
  have z2 : (o2 b = 0 → sg (fun x => 1 - zup o2 b 1 x) 300 = sg (fun x => 1 - o2 x) 300 - 1) := fun e => by
    rw [sg_map (fun t => 1 - t) o2 b 1, sg_up (fun j => 1 - o2 j) (1 - 1) 300 b0 (by omega), e]; omega
  have u : ∀ (f : Int → Int) (x : Int), f b = 0 → f x ≤ zup f b 1 x := fun f x e => by unfold zup; split; (rename_i w; rw [w]; omega); omega
  have v : ∀ (f : Int → Int) (g x : Int), (∀ y : Int, f y ≤ 1) → f x ≤ zup f g 1 x ∧ zup f g 1 x ≤ 1 := fun f g x e => by unfold zup; split; (have := e x; omega); (have := e x; omega)
  rcases h1 with ⟨a1, a2, a3, a4⟩ | ⟨a1, a3, a4⟩ <;> rcases h2 with ⟨d1, d2, d3, d4⟩ | ⟨d1, d3, d4⟩
  · have e := h3 (Or.inl ⟨a1, a2⟩)
    refine ⟨fun x => ?_, by omega, fun q => by omega, ?_⟩
    · rw [a3, d3, d4, a4]
      have q1 := v gn (g1 b) x gr
      have q2 := v (zup gn (g1 b) 1) (g2 b) x (fun y => (v gn (g1 b) y gr).2)
      exact ⟨u _ _ a2, u _ _ d2, by omega, by omega⟩
    · rw [a3, d3]; unfold PHK; rw [z1 a2, z2 d2]; omega
  · have e := h3 (Or.inl ⟨a1, a2⟩)
    refine ⟨fun x => ?_, by omega, fun q => by omega, ?_⟩
    · rw [a3, d3, d4, a4]
      have q1 := v gn (g1 b) x gr
      exact ⟨u _ _ a2, by omega, by omega, by omega⟩
    · rw [a3, d3]; unfold PHK; rw [z1 a2]; omega
  · have e := h3 (Or.inr ⟨d1, d2⟩)
    refine ⟨fun x => ?_, by omega, fun q => by omega, ?_⟩
    · rw [a3, d3, d4, a4]
      have q1 := v gn (g2 b) x gr
      exact ⟨by omega, u _ _ d2, by omega, by omega⟩
    · rw [a3, d3]; unfold PHK; rw [z2 d2]; omega
  · have e := h4 (by omega)
    rw [a3, d3, d4, a4, e]; exact FMS.refl _ _ _ _ _ c0 c1
theorem OPE.gni {B : Int} {ek g1 g2 gn o1 o2 gn' o1' o2' : Int → Int} {c c' b p1 p2 : Int} (h : OPE g1 g2 gn o1 o2 gn' o1' o2' c c' b p1 p2) (g : GNI B ek g1 g2 gn o1 o2) (b0 : 0 ≤ b) (b1 : b < B) (gb : gn b = 1) (e : ¬ ek b = 2) : GNI B ek g1 g2 gn' o1' o2' := by
  obtain ⟨gm, h1, h2, h3, h4⟩ := h
  have m : GNI B ek g1 g2 gm o1' o2 ∧ gm b = 1 := by
    rcases h1 with ⟨a1, a2, a3, a4⟩ | ⟨a1, a3, a4⟩
    · rw [a3, a4]; exact ⟨g.open1 b0 b1 gb e, by unfold zup; split; rfl; exact gb⟩
    · rw [a3, a4]; exact ⟨g, gb⟩
  rcases h2 with ⟨d1, d2, d3, d4⟩ | ⟨d1, d3, d4⟩
  · rw [d3, d4]; exact m.1.open2 b0 b1 m.2 e
  · rw [d3, d4]; exact m.1
theorem OPE.on {g1 g2 gn o1 o2 gn' o1' o2' : Int → Int} {c c' b p1 p2 : Int} (h : OPE g1 g2 gn o1 o2 gn' o1' o2' c c' b p1 p2) (p : (p1 = 0 ∨ p1 = 1) ∧ (p2 = 0 ∨ p2 = 1)) (r : (o1 b = 0 ∨ o1 b = 1) ∧ (o2 b = 0 ∨ o2 b = 1)) : (p1 = 1 → o1' b = 1) ∧ (p2 = 1 → o2' b = 1) := by
  obtain ⟨gm, h1, h2, h3, h4⟩ := h
  refine ⟨fun e => ?_, fun e => ?_⟩
  · rcases h1 with ⟨a1, a2, a3, a4⟩ | ⟨a1, a3, a4⟩
    · rw [a3, zup_eq]
    · rw [a3]; omega
  · rcases h2 with ⟨d1, d2, d3, d4⟩ | ⟨d1, d3, d4⟩
    · rw [d3, zup_eq]
    · rw [d3]; omega
/-- a PHI's kind, of its first n operands -/
def KPH (g1 g2 ps pr as ar o1 o2 kd : Int → Int) (b i n k : Int) : Prop := k = 0 → ∀ j : Int, 0 ≤ j → j < n → kdF kd (ar (as i + j)) = 0 ∨ ¬ OPN g1 g2 o1 o2 (pr (ps b + j)) b
theorem KPH.init (g1 g2 ps pr as ar o1 o2 kd : Int → Int) (b i k : Int) : KPH g1 g2 ps pr as ar o1 o2 kd b i 0 k := fun _ j a c => by omega
theorem KPH.set {g1 g2 ps pr as ar o1 o2 kd : Int → Int} {b i n k : Int} (h : ¬ k = 0) : KPH g1 g2 ps pr as ar o1 o2 kd b i n k := fun e => absurd e h
theorem KPH.skip {g1 g2 ps pr as ar o1 o2 kd : Int → Int} {b i n k : Int} (h : KPH g1 g2 ps pr as ar o1 o2 kd b i n k) (q : kdF kd (ar (as i + n)) = 0 ∨ ¬ OPN g1 g2 o1 o2 (pr (ps b + n)) b) : KPH g1 g2 ps pr as ar o1 o2 kd b i (n + 1) k := fun e j j0 j1 => by
  by_cases w : j = n
  · rw [w]; exact q
  · exact h e j j0 (by omega)
theorem KPH.tlp {g1 g2 ps pr as pt ar o1 o2 kd ii kd' ii' : Int → Int} {c c' b i n k : Int} (h : KPH g1 g2 ps pr as ar o1 o2 kd b i n k) (t : TEL kd ii kd' ii' c c' (pt i) k) (k0 : 0 ≤ k) (k1 : k ≤ 2) (e : ps (b + 1) - ps b ≤ n) : TLP g1 g2 ps pr as pt ar o1 o2 kd ii kd' ii' c c' b i := ⟨k, t, ⟨k0, k1⟩, fun z j j0 j1 => h z j j0 (by omega)⟩
/-- PHIs from lo to n, ROWs from rl to m, looked at with nothing new -/
def LPR (fs rs g1 g2 ps pr as pt ar op tg lf rt o1 o2 kd : Int → Int) (b n m c : Int) : Prop := c = 0 → (∀ i : Int, fs b ≤ i → i < n → LKP g1 g2 ps pr as pt ar kd o1 o2 b i) ∧ (∀ i : Int, rs b ≤ i → i < m → LKR op tg lf rt kd i)
theorem LPR.init (fs rs g1 g2 ps pr as pt ar op tg lf rt o1 o2 kd : Int → Int) (b c : Int) : LPR fs rs g1 g2 ps pr as pt ar op tg lf rt o1 o2 kd b (fs b) (rs b) c := fun _ => ⟨fun i a d => by omega, fun i a d => by omega⟩
theorem LPR.phi {fs rs g1 g2 ps pr as pt ar op tg lf rt o1 o2 kd ii kd' ii' : Int → Int} {b n m c c' : Int} (h : LPR fs rs g1 g2 ps pr as pt ar op tg lf rt o1 o2 kd b n m c) (t : TLP g1 g2 ps pr as pt ar o1 o2 kd ii kd' ii' c c' b n) (cc : c' = 0 → c = 0) : LPR fs rs g1 g2 ps pr as pt ar op tg lf rt o1 o2 kd' b (n + 1) m c' := fun e => by
  have q := h (cc e)
  have l := t.lk e
  obtain ⟨k, t', _⟩ := t
  have z := t'.none e
  rw [z.2.1] at l ⊢
  exact ⟨fun i i0 i1 => by
    by_cases w : i = n
    · rw [w]; exact l
    · exact q.1 i i0 (by omega), q.2⟩
theorem LPR.row {fs rs g1 g2 ps pr as pt ar op tg lf rt o1 o2 kd ii kd' ii' : Int → Int} {b n m c c' : Int} (h : LPR fs rs g1 g2 ps pr as pt ar op tg lf rt o1 o2 kd b n m c) (t : TLR op tg lf rt kd ii kd' ii' c c' m) (cc : c' = 0 → c = 0) : LPR fs rs g1 g2 ps pr as pt ar op tg lf rt o1 o2 kd' b n (m + 1) c' := fun e => by
  have q := h (cc e)
  have l := t.lk e
  obtain ⟨k, t', _⟩ := t
  have z := t'.none e
  rw [z.2.1] at l ⊢
  exact ⟨q.1, fun i i0 i1 => by
    by_cases w : i = m
    · rw [w]; exact l
    · exact q.2 i i0 (by omega)⟩
theorem LPR.none {fs rs g1 g2 ps pr as pt ar op tg lf rt o1 o2 kd : Int → Int} {b n m c : Int} (h : LPR fs rs g1 g2 ps pr as pt ar op tg lf rt o1 o2 kd b n m c) (t : tg m < 0) : LPR fs rs g1 g2 ps pr as pt ar op tg lf rt o1 o2 kd b n (m + 1) c := fun e => ⟨(h e).1, fun i i0 i1 => by
  by_cases w : i = m
  · rw [w]; intro z; omega
  · exact (h e).2 i i0 (by omega)⟩
theorem TLP.fms {g1 g2 ps pr as pt ar o1 o2 kd ii kd' ii' : Int → Int} {c c' b i : Int} (h : TLP g1 g2 ps pr as pt ar o1 o2 kd ii kd' ii' c c' b i) (gn : Int → Int) (r0 : 0 ≤ pt i) (r1 : pt i ≤ 1023) (c0 : 0 ≤ c) (c1 : c ≤ 1) : FMS kd ii gn o1 o2 kd' ii' gn o1 o2 c c' := by
  obtain ⟨k, t, _⟩ := h; exact t.fms gn o1 o2 r0 (by omega) c0 c1
theorem TLR.fms {op tg lf rt kd ii kd' ii' : Int → Int} {c c' i : Int} (h : TLR op tg lf rt kd ii kd' ii' c c' i) (gn o1 o2 : Int → Int) (r0 : 0 ≤ tg i) (r1 : tg i ≤ 1023) (c0 : 0 ≤ c) (c1 : c ≤ 1) : FMS kd ii gn o1 o2 kd' ii' gn o1 o2 c c' := by
  obtain ⟨k, t, _⟩ := h; exact t.fms gn o1 o2 r0 (by omega) c0 c1
theorem TLP.ins {g1 g2 ps pr as pt ar o1 o2 kd ii kd' ii' : Int → Int} {c c' b i : Int} (h : TLP g1 g2 ps pr as pt ar o1 o2 kd ii kd' ii' c c' b i) (n : INS kd ii) : INS kd' ii' := by
  obtain ⟨k, t, _⟩ := h; exact t.ins n
theorem TLR.ins {op tg lf rt kd ii kd' ii' : Int → Int} {c c' i : Int} (h : TLR op tg lf rt kd ii kd' ii' c c' i) (n : INS kd ii) : INS kd' ii' := by
  obtain ⟨k, t, _⟩ := h; exact t.ins n
/-- the number of an operand is an int or a lone odd one -/
theorem nvF_rng {kd ii : Int → Int} {x : Int} (n : INS kd ii) (k : kdF kd x = 1) (o : ((-2147483648 ≤ x ∧ x ≤ 4294968319) ∨ x = 1099511627776)) (e : ¬ x = 1099511627776) : -2147483648 ≤ nvF ii x ∧ nvF ii x < 4294967296 := by
  unfold kdF at k; unfold nvF
  by_cases c : 4294967296 ≤ x ∧ x < 1099511627776
  · rw [if_pos c] at k ⊢
    have := (n (x - 4294967296) (by omega) (by omega)).1 k
    omega
  · rw [if_neg c]; omega
theorem LKE.jump {ek eu kd ii g1 g2 gn o1 o2 gn' o1' o2' : Int → Int} {c c' b : Int} (h : OPE g1 g2 gn o1 o2 gn' o1' o2' c c' b 1 1) (e : ek b = 0) (r : (0 ≤ o1 b ∧ o1 b ≤ 1) ∧ (0 ≤ o2 b ∧ o2 b ≤ 1)) : LKE ek eu kd ii o1' o2' b := by
  have q := h.on ⟨Or.inr rfl, Or.inr rfl⟩ (by omega)
  exact ⟨fun _ => ⟨q.1 rfl, q.2 rfl⟩, fun w => by omega⟩
theorem LKE.cond {ek eu kd ii g1 g2 gn o1 o2 gn' o1' o2' : Int → Int} {c c' b p1 p2 : Int} (h : OPE g1 g2 gn o1 o2 gn' o1' o2' c c' b p1 p2) (e : ek b = 1) (r : (0 ≤ o1 b ∧ o1 b ≤ 1) ∧ (0 ≤ o2 b ∧ o2 b ≤ 1)) (p : (p1 = 0 ∨ p1 = 1) ∧ (p2 = 0 ∨ p2 = 1)) (a : kdF kd (eu b) = 2 → p1 = 1 ∧ p2 = 1) (d : kdF kd (eu b) = 1 → (nvF ii (eu b) = 0 → p2 = 1) ∧ (¬ nvF ii (eu b) = 0 → p1 = 1)) : LKE ek eu kd ii o1' o2' b := by
  have q := h.on p (by omega)
  exact ⟨fun w => by omega, fun _ => ⟨fun w => ⟨q.1 (a w).1, q.2 (a w).2⟩, fun w => ⟨fun z => q.2 ((d w).1 z), fun z => q.1 ((d w).2 z)⟩⟩⟩
theorem LKE.ret {ek eu kd ii o1 o2 : Int → Int} {b : Int} (e : ek b = 2) : LKE ek eu kd ii o1 o2 b := ⟨fun w => by omega, fun w => by omega⟩
/-- a block has been looked at -/
theorem LKD.of {rs fs ek eu g1 g2 ps pr as pt ar op tg lf rt kd ii gn o1 o2 gn' o1' o2' : Int → Int} {b n m c c' : Int} (h : LPR fs rs g1 g2 ps pr as pt ar op tg lf rt o1 o2 kd b n m c) (f : FMS kd ii gn o1 o2 kd ii gn' o1' o2' c c') (l : LKE ek eu kd ii o1' o2' b) (hn : fs (b + 1) ≤ n) (hm : rs (b + 1) ≤ m) : c' = 0 → LKD rs fs ek eu g1 g2 ps pr as pt ar op tg lf rt kd ii o1' o2' b := fun e => by
  obtain ⟨f1, f2, f3, f4, f5⟩ := f.2.2.1 e
  have q := h (by have := f.2.1; omega)
  rw [f4, f5] at l ⊢
  exact ⟨fun i i0 i1 => q.1 i i0 (by omega), fun i i0 i1 => q.2 i i0 (by omega), l⟩
/-- the blocks of the ORDER before n have been looked at -/
def LKO (rs fs ek eu g1 g2 ps pr as pt ar op tg lf rt kd ii gn o1 o2 od : Int → Int) (n c : Int) : Prop := c = 0 → ∀ i : Int, 0 ≤ i → i < n → gn (od i) = 1 → LKD rs fs ek eu g1 g2 ps pr as pt ar op tg lf rt kd ii o1 o2 (od i)
theorem LKO.init (rs fs ek eu g1 g2 ps pr as pt ar op tg lf rt kd ii gn o1 o2 od : Int → Int) (c : Int) : LKO rs fs ek eu g1 g2 ps pr as pt ar op tg lf rt kd ii gn o1 o2 od 0 c := fun _ i a b => by omega
theorem LKO.skip {rs fs ek eu g1 g2 ps pr as pt ar op tg lf rt kd ii gn o1 o2 od : Int → Int} {n c : Int} (h : LKO rs fs ek eu g1 g2 ps pr as pt ar op tg lf rt kd ii gn o1 o2 od n c) (g : ¬ gn (od n) = 1) : LKO rs fs ek eu g1 g2 ps pr as pt ar op tg lf rt kd ii gn o1 o2 od (n + 1) c := fun e i i0 i1 gi => by
  by_cases w : i = n
  · rw [w] at gi; exact absurd gi g
  · exact h e i i0 (by omega) gi
theorem LKO.step {rs fs ek eu g1 g2 ps pr as pt ar op tg lf rt kd ii gn o1 o2 kd' ii' gn' o1' o2' od : Int → Int} {n c c' : Int} (h : LKO rs fs ek eu g1 g2 ps pr as pt ar op tg lf rt kd ii gn o1 o2 od n c) (f : FMS kd ii gn o1 o2 kd' ii' gn' o1' o2' c c') (l : c' = 0 → LKD rs fs ek eu g1 g2 ps pr as pt ar op tg lf rt kd' ii' o1' o2' (od n)) : LKO rs fs ek eu g1 g2 ps pr as pt ar op tg lf rt kd' ii' gn' o1' o2' od (n + 1) c' := fun e i i0 i1 gi => by
  by_cases w : i = n
  · rw [w]; exact l e
  · obtain ⟨f1, f2, f3, f4, f5⟩ := f.2.2.1 e
    rw [f1, f2, f4, f5]
    rw [f3] at gi
    exact h (by have := f.2.1; omega) i i0 (by omega) gi
/-- ways that are open are those that are gone -/
def OPV (B : Int) (ek eu kd ii o1 o2 : Int → Int) : Prop := ∀ x : Int, 0 ≤ x → x < B → (o1 x = 1 → ek x = 0 ∨ (ek x = 1 ∧ (kdF kd (eu x) = 2 ∨ (kdF kd (eu x) = 1 ∧ ¬ nvF ii (eu x) = 0)))) ∧ (o2 x = 1 → ek x = 0 ∨ (ek x = 1 ∧ (kdF kd (eu x) = 2 ∨ (kdF kd (eu x) = 1 ∧ nvF ii (eu x) = 0))))
theorem OPV.init {B : Int} {ek eu kd ii o1 o2 : Int → Int} (c : ∀ x : Int, 0 ≤ x → x < B → o1 x = 0 ∧ o2 x = 0) : OPV B ek eu kd ii o1 o2 := fun x x0 x1 => by
  have := c x x0 x1
  exact ⟨fun e => by omega, fun e => by omega⟩
theorem TEL.opv {B : Int} {ek eu kd ii kd' ii' o1 o2 : Int → Int} {c c' r k : Int} (h : TEL kd ii kd' ii' c c' r k) (k2 : k ≤ 2) (v : OPV B ek eu kd ii o1 o2) : OPV B ek eu kd' ii' o1 o2 := by
  rcases h with ⟨a, b, d, e⟩ | ⟨a, b, d, w, e, f, g⟩
  · rw [b, d]; exact v
  · intro x x0 x1
    have q := v x x0 x1
    have key : (kdF kd' (eu x) = kdF kd (eu x) ∧ nvF ii' (eu x) = nvF ii (eu x)) ∨ (kdF kd (eu x) < k ∧ kdF kd' (eu x) = k) := by
      unfold kdF nvF
      by_cases i : 4294967296 ≤ eu x ∧ eu x < 1099511627776
      · rw [if_pos i, if_pos i, if_pos i, if_pos i, d, e]
        by_cases z : eu x - 4294967296 = r
        · rw [z, zup_eq]; exact Or.inr ⟨a, rfl⟩
        · rw [zup_ne _ _ z, zup_ne _ _ z]; exact Or.inl ⟨rfl, rfl⟩
      · rw [if_neg i, if_neg i, if_neg i, if_neg i]; exact Or.inl ⟨rfl, rfl⟩
    rcases key with z | z
    · rw [z.1, z.2]; exact q
    · refine ⟨fun o => ?_, fun o => ?_⟩
      · have := q.1 o; omega
      · have := q.2 o; omega
theorem TLP.opv {B : Int} {ek eu g1 g2 ps pr as pt ar o1 o2 kd ii kd' ii' : Int → Int} {c c' b i : Int} (h : TLP g1 g2 ps pr as pt ar o1 o2 kd ii kd' ii' c c' b i) (v : OPV B ek eu kd ii o1 o2) : OPV B ek eu kd' ii' o1 o2 := by
  obtain ⟨k, t, k0, _⟩ := h; exact t.opv k0.2 v
theorem TLR.opv {B : Int} {ek eu op tg lf rt kd ii kd' ii' o1 o2 : Int → Int} {c c' i : Int} (h : TLR op tg lf rt kd ii kd' ii' c c' i) (v : OPV B ek eu kd ii o1 o2) : OPV B ek eu kd' ii' o1 o2 := by
  obtain ⟨k, t, k0, _⟩ := h; exact t.opv k0.2 v
theorem OPE.opv {B : Int} {ek eu kd ii g1 g2 gn o1 o2 gn' o1' o2' : Int → Int} {c c' b p1 p2 : Int} (h : OPE g1 g2 gn o1 o2 gn' o1' o2' c c' b p1 p2) (v : OPV B ek eu kd ii o1 o2) (q1 : p1 = 1 → ek b = 0 ∨ (ek b = 1 ∧ (kdF kd (eu b) = 2 ∨ (kdF kd (eu b) = 1 ∧ ¬ nvF ii (eu b) = 0)))) (q2 : p2 = 1 → ek b = 0 ∨ (ek b = 1 ∧ (kdF kd (eu b) = 2 ∨ (kdF kd (eu b) = 1 ∧ nvF ii (eu b) = 0)))) : OPV B ek eu kd ii o1' o2' := by
  obtain ⟨gm, h1, h2, h3, h4⟩ := h
  intro x x0 x1
  have q := v x x0 x1
  refine ⟨fun o => ?_, fun o => ?_⟩
  · rcases h1 with ⟨a1, a2, a3, a4⟩ | ⟨a1, a3, a4⟩
    · by_cases w : x = b
      · rw [w]; exact q1 a1
      · rw [a3, zup_ne _ _ w] at o; exact q.1 o
    · rw [a3] at o; exact q.1 o
  · rcases h2 with ⟨d1, d2, d3, d4⟩ | ⟨d1, d3, d4⟩
    · by_cases w : x = b
      · rw [w]; exact q2 d1
      · rw [d3, zup_ne _ _ w] at o; exact q.2 o
    · rw [d3] at o; exact q.2 o
