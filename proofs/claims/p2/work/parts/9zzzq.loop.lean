/-- a loop with its head h, come into from d alone -/
def LOOP (ek g1 g2 : Int → Int) (B : Int) (iL : Int → Int) (h d : Int) : Prop := iL h = 1 ∧ ¬ iL 0 = 1 ∧ (∀ x p : Int, 0 ≤ x → x < B → 0 ≤ p → p < B → iL x = 1 → ¬ x = h → ED ek g1 g2 p x → iL p = 1) ∧ (∀ p : Int, 0 ≤ p → p < B → ED ek g1 g2 p h → iL p = 1 ∨ p = d) ∧ ¬ iL d = 1 ∧ ED ek g1 g2 d h
theorem LOOP.out {ek g1 g2 iL : Int → Int} {B h d : Int} (l : LOOP ek g1 g2 B iL h d) (gr : GR ek g1 g2 B) (B1 : 1 ≤ B) : ∀ (n k : Nat) (x : Int), raS ek g1 g2 (fun _ => 0) d n k x → ¬ iL x = 1 := by
  obtain ⟨l1, l2, l3, l4, l5, l6⟩ := l
  intro n
  induction n with
  | zero => intro k x r; have e : x = 0 := r.1; rw [e]; exact l2
  | succ n ih =>
    intro k x r w
    have xr := r.rng gr B1
    obtain ⟨_, p, ed, hh⟩ := r
    have h2 : ∃ k2 : Nat, raS ek g1 g2 (fun _ => 0) d n k2 p := by
      rcases hh with ⟨hh, _⟩ | ⟨k', _, hh⟩
      · exact ⟨k, hh⟩
      · exact ⟨k', hh⟩
    obtain ⟨k2, h2⟩ := h2
    have p9 := h2.rng gr B1
    have np := ih k2 p h2
    by_cases c : x = h
    · rw [c] at ed
      rcases l4 p p9.1 p9.2 ed with q | q
      · exact np q
      · exact RA.ne ⟨n, h2⟩ q
    · exact np (l3 x p xr.1 xr.2 p9.1 p9.2 w c ed)
/-- the door dominates the loop -/
theorem LOOP.door {ek g1 g2 iL : Int → Int} {B h d b : Int} (l : LOOP ek g1 g2 B iL h d) (gr : GR ek g1 g2 B) (B1 : 1 ≤ B) (w : iL b = 1) : DM ek g1 g2 d b := fun k ⟨n, r⟩ => l.out gr B1 n k b r w
/-- what stands outside and dominates a block of the loop dominates the door -/
theorem LOOP.outside {ek g1 g2 iL : Int → Int} {B h d b e : Int} (l : LOOP ek g1 g2 B iL h d) (gr : GR ek g1 g2 B) (B1 : 1 ≤ B) (w : iL b = 1) (rc : ∃ n k : Nat, raS ek g1 g2 (fun _ => 0) (-1) n k b) (ne : ¬ iL e = 1) (m : DM ek g1 g2 e b) : DM ek g1 g2 e d := by
  obtain ⟨l1, l2, l3, l4, l5, l6⟩ := l
  intro k0 r0
  have key : ∀ (n k : Nat) (x : Int), raS ek g1 g2 (fun _ => 0) (-1) n k x → iL x = 1 → ∃ k' : Nat, RA ek g1 g2 (fun _ => 0) e k' x := by
    intro n
    induction n with
    | zero => intro k x r w; have z : x = 0 := r.1; rw [z] at w; exact absurd w l2
    | succ n ih =>
      intro k x r w
      have xr := r.rng gr B1
      obtain ⟨_, p, ed, hh⟩ := r
      have h2 : ∃ k2 : Nat, raS ek g1 g2 (fun _ => 0) (-1) n k2 p := by
        rcases hh with ⟨hh, _⟩ | ⟨k', _, hh⟩
        · exact ⟨k, hh⟩
        · exact ⟨k', hh⟩
      obtain ⟨k2, h2⟩ := h2
      have p9 := h2.rng gr B1
      have xe : ¬ x = e := fun z => ne (by rw [← z]; exact w)
      by_cases c : x = h
      · rw [c] at xe ⊢; exact ⟨k0 + 1, RA.back r0 l6 xe⟩
      · obtain ⟨k3, r3⟩ := ih k2 p h2 (l3 x p xr.1 xr.2 p9.1 p9.2 w c ed)
        exact ⟨k3 + 1, RA.back r3 ed xe⟩
  obtain ⟨n, k, r⟩ := rc
  obtain ⟨k', r'⟩ := key n k b r w
  exact m k' r'
/-- ROWs in another order, row i of block b now the last of block d -/
def MVP (R : Int) (mu nu : Int → Int) (bl : Int → Int) (i d : Int) : Prop := (∀ j : Int, 0 ≤ j → j < R → (0 ≤ mu j ∧ mu j < R) ∧ nu (mu j) = j) ∧ (∀ s : Int, 0 ≤ s → s < R → (0 ≤ nu s ∧ nu s < R) ∧ mu (nu s) = s) ∧ (∀ s k : Int, 0 ≤ s → s < k → k < R → ¬ s = i → ¬ k = i → bl s = bl k → nu s < nu k) ∧ (∀ s : Int, 0 ≤ s → s < R → ¬ s = i → bl s = d → nu s < nu i)
theorem SI.moved {ek g1 g2 : Int → Int} {B P R b d i : Int} {fs ps pr as tg pt lf rt eu ar bl sd mu nu t' l' r' bl' : Int → Int} (S : SI ek g1 g2 B P R fs ps pr as tg pt lf rt eu ar bl sd) (M : MVP R mu nu bl i d) (P0 : 0 ≤ P) (i0 : 0 ≤ i) (i1 : i < R) (bi : bl i = b) (nbd : ¬ b = d) (db : DM ek g1 g2 d b) (rc : ∃ n k : Nat, raS ek g1 g2 (fun _ => 0) (-1) n k b)
    (ct : ∀ j : Int, 0 ≤ j → j < R → t' j = tg (mu j) ∧ l' j = lf (mu j) ∧ r' j = rt (mu j)) (hb : ∀ j : Int, 0 ≤ j → j < R → bl' j = (if mu j = i then d else bl (mu j))) (hp : ∀ s : Int, -P ≤ s → s < 0 → bl' s = bl s)
    (ol : UOK ek g1 g2 P R (TT tg pt P) sd bl (lf i) d R) (or' : UOK ek g1 g2 P R (TT tg pt P) sd bl (rt i) d R) :
    SI ek g1 g2 B P R fs ps pr as t' pt l' r' eu ar bl' (fun v => if 0 ≤ sd v then nu (sd v) else sd v) := by
  obtain ⟨m1, m2, m3, m4⟩ := M
  have ttr : ∀ j : Int, 0 ≤ j → j < R → TT t' pt P j = TT tg pt P (mu j) := fun j a c => by
    unfold TT; rw [if_pos a, if_pos (m1 j a c).1.1]; exact (ct j a c).1
  have ttp : ∀ s : Int, s < 0 → TT t' pt P s = TT tg pt P s := fun s a => by
    unfold TT; rw [if_neg (by omega), if_neg (by omega)]
  -- an operand at a place that isn't the moved ROW's own
  have use : ∀ x c k k' : Int, 0 ≤ k' → (∀ s : Int, 0 ≤ s → s < R → ¬ s = i → bl s = c → s < k → nu s < k') → UOK ek g1 g2 P R (TT tg pt P) sd bl x c k → UOK ek g1 g2 P R (TT t' pt P) (fun v => if 0 ≤ sd v then nu (sd v) else sd v) bl' x c k' := by
    intro x c k k' k0 ord u g
    obtain ⟨⟨u1, u2⟩, u3, u4⟩ := u g
    show ((-P ≤ (if 0 ≤ sd (x - 4294967296) then nu (sd (x - 4294967296)) else sd (x - 4294967296)) ∧ (if 0 ≤ sd (x - 4294967296) then nu (sd (x - 4294967296)) else sd (x - 4294967296)) < R) ∧ TT t' pt P (if 0 ≤ sd (x - 4294967296) then nu (sd (x - 4294967296)) else sd (x - 4294967296)) = x - 4294967296) ∧ DM ek g1 g2 (bl' (if 0 ≤ sd (x - 4294967296) then nu (sd (x - 4294967296)) else sd (x - 4294967296))) c ∧ (bl' (if 0 ≤ sd (x - 4294967296) then nu (sd (x - 4294967296)) else sd (x - 4294967296)) = c → (if 0 ≤ sd (x - 4294967296) then nu (sd (x - 4294967296)) else sd (x - 4294967296)) < k')
    by_cases w : 0 ≤ sd (x - 4294967296)
    · rw [if_pos w]
      have q := m2 _ w u1.2
      have tb := hb _ q.1.1 q.1.2
      rw [q.2] at tb
      refine ⟨⟨⟨by omega, q.1.2⟩, by rw [ttr _ q.1.1 q.1.2, q.2]; exact u2⟩, ?_⟩
      by_cases z : sd (x - 4294967296) = i
      · rw [tb, if_pos z]
        rw [z, bi] at u3
        refine ⟨db.trans u3, fun e => ?_⟩
        exfalso
        rw [← e] at u3
        obtain ⟨n, k, r⟩ := rc
        exact (DM.anti u3 db nbd n k (-1)).1 r
      · rw [tb, if_neg z]
        exact ⟨u3, fun e => ord _ w u1.2 z e (u4 e)⟩
    · rw [if_neg w]
      rw [hp _ u1.1 (by omega)]
      exact ⟨⟨u1, by rw [ttp _ (by omega)]; exact u2⟩, u3, fun _ => by omega⟩
  refine ⟨fun s s0 s1 e => ?_, fun j j0 j1 => ?_, fun c c0 c1 => ?_, fun q x p x0 x1 sl => ?_⟩
  · show (if 0 ≤ sd (TT t' pt P s) then nu (sd (TT t' pt P s)) else sd (TT t' pt P s)) = s
    by_cases w : 0 ≤ s
    · rw [ttr s w s1] at e ⊢
      have q := m1 s w s1
      rw [S.num (mu s) (by omega) q.1.2 e, if_pos q.1.1]; exact q.2
    · rw [ttp s (by omega)] at e ⊢
      rw [S.num s s0 s1 e, if_neg w]
  · have q := m1 j j0 j1
    have c := ct j j0 j1
    rw [c.2.1, c.2.2, hb j j0 j1]
    by_cases z : mu j = i
    · rw [if_pos z, z]
      have je : j = nu i := by rw [← z]; exact q.2.symm
      have nr := m2 i i0 i1
      -- the moved ROW's own operands
      have own : ∀ x : Int, UOK ek g1 g2 P R (TT tg pt P) sd bl x d R → UOK ek g1 g2 P R (TT tg pt P) sd bl x b i → UOK ek g1 g2 P R (TT t' pt P) (fun v => if 0 ≤ sd v then nu (sd v) else sd v) bl' x d j := fun x u u0 => use x d R j j0 (fun s s0 s1 sn sb _ => by rw [je]; exact m4 s s0 s1 sn sb) u
      have r := S.row i i0 i1
      rw [bi] at r
      exact ⟨own _ ol r.1, own _ or' r.2⟩
    · rw [if_neg z]
      have r := S.row (mu j) q.1.1 q.1.2
      have ord : ∀ s : Int, 0 ≤ s → s < R → ¬ s = i → bl s = bl (mu j) → s < mu j → nu s < j := fun s s0 s1 sn sb sl => by
        have := m3 s (mu j) s0 sl q.1.2 sn z sb
        rw [q.2] at this; exact this
      exact ⟨use _ _ _ _ j0 ord r.1, use _ _ _ _ j0 ord r.2⟩
  · exact use _ _ R R (by omega) (fun s s0 s1 _ _ _ => (m2 s s0 s1).1.2) (S.fin c c0 c1)
  · exact use _ _ R R (by omega) (fun s s0 s1 _ _ _ => (m2 s s0 s1).1.2) (S.arg q x p x0 x1 sl)
/-- operands that the loop doesn't set are there at the door -/
theorem LOOP.use {ek g1 g2 iL : Int → Int} {B P R h d b i x : Int} {T sd bl : Int → Int} (l : LOOP ek g1 g2 B iL h d) (gr : GR ek g1 g2 B) (B1 : 1 ≤ B) (w : iL b = 1) (rc : ∃ n k : Nat, raS ek g1 g2 (fun _ => 0) (-1) n k b) (u : UOK ek g1 g2 P R T sd bl x b i) (ne : isg x → ¬ iL (bl (sd (x - 4294967296))) = 1) : UOK ek g1 g2 P R T sd bl x d R := fun g => by
  obtain ⟨⟨u1, u2⟩, u3, u4⟩ := u g
  exact ⟨⟨u1, u2⟩, l.outside gr B1 w rc (ne g) u3, fun _ => u1.2⟩
/-- which ROW comes where, when row i goes up to place p, or down -/
def muU (p i j : Int) : Int := if j = p then i else if p < j ∧ j ≤ i then j - 1 else j
def nuU (p i s : Int) : Int := if s = i then p else if p ≤ s ∧ s < i then s + 1 else s
def muD (p i j : Int) : Int := if j = p then i else if i ≤ j ∧ j < p then j + 1 else j
def nuD (p i s : Int) : Int := if s = i then p else if i < s ∧ s ≤ p then s - 1 else s
theorem muU_spec (p i j : Int) : (j = p ∧ muU p i j = i) ∨ (¬ j = p ∧ (p < j ∧ j ≤ i) ∧ muU p i j = j - 1) ∨ (¬ j = p ∧ ¬ (p < j ∧ j ≤ i) ∧ muU p i j = j) := by
  unfold muU; by_cases a : j = p
  · rw [if_pos a]; exact Or.inl ⟨a, rfl⟩
  · by_cases b : p < j ∧ j ≤ i
    · rw [if_neg a, if_pos b]; exact Or.inr (Or.inl ⟨a, b, rfl⟩)
    · rw [if_neg a, if_neg b]; exact Or.inr (Or.inr ⟨a, b, rfl⟩)
theorem nuU_spec (p i s : Int) : (s = i ∧ nuU p i s = p) ∨ (¬ s = i ∧ (p ≤ s ∧ s < i) ∧ nuU p i s = s + 1) ∨ (¬ s = i ∧ ¬ (p ≤ s ∧ s < i) ∧ nuU p i s = s) := by
  unfold nuU; by_cases a : s = i
  · rw [if_pos a]; exact Or.inl ⟨a, rfl⟩
  · by_cases b : p ≤ s ∧ s < i
    · rw [if_neg a, if_pos b]; exact Or.inr (Or.inl ⟨a, b, rfl⟩)
    · rw [if_neg a, if_neg b]; exact Or.inr (Or.inr ⟨a, b, rfl⟩)
theorem muD_spec (p i j : Int) : (j = p ∧ muD p i j = i) ∨ (¬ j = p ∧ (i ≤ j ∧ j < p) ∧ muD p i j = j + 1) ∨ (¬ j = p ∧ ¬ (i ≤ j ∧ j < p) ∧ muD p i j = j) := by
  unfold muD; by_cases a : j = p
  · rw [if_pos a]; exact Or.inl ⟨a, rfl⟩
  · by_cases b : i ≤ j ∧ j < p
    · rw [if_neg a, if_pos b]; exact Or.inr (Or.inl ⟨a, b, rfl⟩)
    · rw [if_neg a, if_neg b]; exact Or.inr (Or.inr ⟨a, b, rfl⟩)
theorem nuD_spec (p i s : Int) : (s = i ∧ nuD p i s = p) ∨ (¬ s = i ∧ (i < s ∧ s ≤ p) ∧ nuD p i s = s - 1) ∨ (¬ s = i ∧ ¬ (i < s ∧ s ≤ p) ∧ nuD p i s = s) := by
  unfold nuD; by_cases a : s = i
  · rw [if_pos a]; exact Or.inl ⟨a, rfl⟩
  · by_cases b : i < s ∧ s ≤ p
    · rw [if_neg a, if_pos b]; exact Or.inr (Or.inl ⟨a, b, rfl⟩)
    · rw [if_neg a, if_neg b]; exact Or.inr (Or.inr ⟨a, b, rfl⟩)
/-- a moved ROW: the new order, and the blocks -/
def MVB (B P R : Int) (rs fs bl rs' bl' mu nu : Int → Int) (i d : Int) : Prop := MVP R mu nu bl i d ∧ BLK B P R rs' fs bl' ∧ (∀ j : Int, 0 ≤ j → j < R → bl' j = (if mu j = i then d else bl (mu j))) ∧ (∀ s : Int, -P ≤ s → s < 0 → bl' s = bl s)
theorem MVB.up {B P R b d i : Int} {rs fs bl rs' : Int → Int} (K : BLK B P R rs fs bl) (m : MS B R rs) (mF : MS B P fs) (m' : MS B R rs') (r : RSU rs rs' d (b + 1) 1) (d0 : 0 ≤ d) (db : d < b) (b1 : b < B) (i0 : rs b ≤ i) (i1 : i < rs (b + 1)) : ∃ bl' : Int → Int, MVB B P R rs fs bl rs' bl' (muU (rs (d + 1)) i) (nuU (rs (d + 1)) i) i d := by
  obtain ⟨bl', K'⟩ := BLK.ex m' mF
  have a1 := m.le' (a := 0) (b := d + 1) (by omega) (by omega) (by omega)
  have a2 := m.le' (a := d + 1) (b := b) (by omega) (by omega) (by omega)
  have a3 := m.le' (a := b + 1) (b := B) (by omega) (by omega) (by omega)
  have az := m.z; have ae := m.e
  have ad := m.mo d d0 (by omega)
  have P0 : 0 ≤ P := by have := mF.le' (a := 0) (b := B) (by omega) (by omega) (Int.le_refl _); have := mF.z; have := mF.e; omega
  refine ⟨bl', ⟨fun j j0 j1 => ?_, fun s s0 s1 => ?_, fun s k s0 sk k1 ns nk _ => ?_, fun s s0 s1 ns sb => ?_⟩, K', fun j j0 j1 => ?_, fun s s0 s1 => ?_⟩
  · have u := muU_spec (rs (d + 1)) i j
    have v := nuU_spec (rs (d + 1)) i (muU (rs (d + 1)) i j)
    omega
  · have u := nuU_spec (rs (d + 1)) i s
    have v := muU_spec (rs (d + 1)) i (nuU (rs (d + 1)) i s)
    omega
  · have u := nuU_spec (rs (d + 1)) i s
    have v := nuU_spec (rs (d + 1)) i k
    omega
  · have q := K.rbl s s0 s1
    rw [sb] at q
    have u := nuU_spec (rs (d + 1)) i s
    have v := nuU_spec (rs (d + 1)) i i
    omega
  · by_cases z : muU (rs (d + 1)) i j = i
    · rw [if_pos z]
      have u := muU_spec (rs (d + 1)) i j
      have je : j = rs (d + 1) := by omega
      have e1 : rs' d = rs d := by rw [r d, if_neg (by omega)]
      have e2 : rs' (d + 1) = rs (d + 1) + 1 := by rw [r (d + 1), if_pos (by omega)]
      exact K'.row d j d0 (by omega) (by omega) (by omega)
    · rw [if_neg z]
      have u := muU_spec (rs (d + 1)) i j
      have sr : 0 ≤ muU (rs (d + 1)) i j ∧ muU (rs (d + 1)) i j < R := by omega
      have q := K.rbl _ sr.1 sr.2
      have f1 := r (bl (muU (rs (d + 1)) i j))
      have f2 := r (bl (muU (rs (d + 1)) i j) + 1)
      have w1 : bl (muU (rs (d + 1)) i j) ≤ d → rs (bl (muU (rs (d + 1)) i j) + 1) ≤ rs (d + 1) := fun h => m.le' (by omega) (by omega) (by omega)
      have w2 : d < bl (muU (rs (d + 1)) i j) → rs (d + 1) ≤ rs (bl (muU (rs (d + 1)) i j)) := fun h => m.le' (by omega) (by omega) (by omega)
      have w3 : bl (muU (rs (d + 1)) i j) < b → rs (bl (muU (rs (d + 1)) i j) + 1) ≤ rs b := fun h => m.le' (by omega) (by omega) (by omega)
      have w4 : b < bl (muU (rs (d + 1)) i j) → rs (b + 1) ≤ rs (bl (muU (rs (d + 1)) i j)) := fun h => m.le' (by omega) (by omega) (by omega)
      have w5 : bl (muU (rs (d + 1)) i j) = b → rs (bl (muU (rs (d + 1)) i j)) = rs b ∧ rs (bl (muU (rs (d + 1)) i j) + 1) = rs (b + 1) := fun h => by rw [h]; exact ⟨rfl, rfl⟩
      refine K'.row _ j q.1.1 q.1.2 ?_ ?_
      · rw [f1]; split <;> omega
      · rw [f2]; split <;> omega
  · have q := K.pbl s s0 s1
    have w := K'.phi (bl s) (s + P) q.1.1 q.1.2 q.2.1 q.2.2
    rw [show s + P - P = s by omega] at w; exact w
theorem MVB.dn {B P R b d i : Int} {rs fs bl rs' : Int → Int} (K : BLK B P R rs fs bl) (m : MS B R rs) (mF : MS B P fs) (m' : MS B R rs') (r : RSU rs rs' b (d + 1) (-1)) (b0 : 0 ≤ b) (bd : b < d) (d1 : d < B) (i0 : rs b ≤ i) (i1 : i < rs (b + 1)) : ∃ bl' : Int → Int, MVB B P R rs fs bl rs' bl' (muD (rs (d + 1) - 1) i) (nuD (rs (d + 1) - 1) i) i d := by
  obtain ⟨bl', K'⟩ := BLK.ex m' mF
  have a0 := m.le' (a := 0) (b := b) (by omega) (by omega) (by omega)
  have a1 := m.le' (a := b + 1) (b := d) (by omega) (by omega) (by omega)
  have a2 := m.mo d (by omega) d1
  have a3 := m.le' (a := d + 1) (b := B) (by omega) (by omega) (by omega)
  have az := m.z; have ae := m.e
  refine ⟨bl', ⟨fun j j0 j1 => ?_, fun s s0 s1 => ?_, fun s k s0 sk k1 ns nk _ => ?_, fun s s0 s1 ns sb => ?_⟩, K', fun j j0 j1 => ?_, fun s s0 s1 => ?_⟩
  · have u := muD_spec (rs (d + 1) - 1) i j
    have v := nuD_spec (rs (d + 1) - 1) i (muD (rs (d + 1) - 1) i j)
    omega
  · have u := nuD_spec (rs (d + 1) - 1) i s
    have v := muD_spec (rs (d + 1) - 1) i (nuD (rs (d + 1) - 1) i s)
    omega
  · have u := nuD_spec (rs (d + 1) - 1) i s
    have v := nuD_spec (rs (d + 1) - 1) i k
    omega
  · have q := K.rbl s s0 s1
    rw [sb] at q
    have u := nuD_spec (rs (d + 1) - 1) i s
    have v := nuD_spec (rs (d + 1) - 1) i i
    omega
  · by_cases z : muD (rs (d + 1) - 1) i j = i
    · rw [if_pos z]
      have u := muD_spec (rs (d + 1) - 1) i j
      have je : j = rs (d + 1) - 1 := by omega
      have e1 : rs' d = rs d - 1 := by rw [r d, if_pos (by omega)]; omega
      have e2 : rs' (d + 1) = rs (d + 1) := by rw [r (d + 1), if_neg (by omega)]
      exact K'.row d j (by omega) d1 (by omega) (by omega)
    · rw [if_neg z]
      have u := muD_spec (rs (d + 1) - 1) i j
      have sr : 0 ≤ muD (rs (d + 1) - 1) i j ∧ muD (rs (d + 1) - 1) i j < R := by omega
      have q := K.rbl _ sr.1 sr.2
      have f1 := r (bl (muD (rs (d + 1) - 1) i j))
      have f2 := r (bl (muD (rs (d + 1) - 1) i j) + 1)
      have w1 : bl (muD (rs (d + 1) - 1) i j) < b → rs (bl (muD (rs (d + 1) - 1) i j) + 1) ≤ rs b := fun h => m.le' (by omega) (by omega) (by omega)
      have w2 : b < bl (muD (rs (d + 1) - 1) i j) → rs (b + 1) ≤ rs (bl (muD (rs (d + 1) - 1) i j)) := fun h => m.le' (by omega) (by omega) (by omega)
      have w3 : bl (muD (rs (d + 1) - 1) i j) ≤ d → rs (bl (muD (rs (d + 1) - 1) i j) + 1) ≤ rs (d + 1) := fun h => m.le' (by omega) (by omega) (by omega)
      have w4 : d < bl (muD (rs (d + 1) - 1) i j) → rs (d + 1) ≤ rs (bl (muD (rs (d + 1) - 1) i j)) := fun h => m.le' (by omega) (by omega) (by omega)
      have w5 : bl (muD (rs (d + 1) - 1) i j) = b → rs (bl (muD (rs (d + 1) - 1) i j)) = rs b ∧ rs (bl (muD (rs (d + 1) - 1) i j) + 1) = rs (b + 1) := fun h => by rw [h]; exact ⟨rfl, rfl⟩
      have w6 : bl (muD (rs (d + 1) - 1) i j) = d → rs (bl (muD (rs (d + 1) - 1) i j) + 1) = rs (d + 1) := fun h => by rw [h]
      refine K'.row _ j q.1.1 q.1.2 ?_ ?_
      · rw [f1]; split <;> omega
      · rw [f2]; split <;> omega
  · have q := K.pbl s s0 s1
    have w := K'.phi (bl s) (s + P) q.1.1 q.1.2 q.2.1 q.2.2
    rw [show s + P - P = s by omega] at w; exact w
theorem cp_muU (a : Int → Int) {p i : Int} (l : p ≤ i) (j : Int) : zup (cpF a a p (p + 1) (i - p)) p (a i) j = a (muU p i j) := by
  have u := muU_spec p i j
  by_cases c : j = p
  · rw [c, zup_eq]; rw [c] at u; rw [show muU p i p = i by omega]
  · rw [zup_ne _ _ c]
    unfold cpF
    by_cases d : p + 1 ≤ j ∧ j < p + 1 + (i - p)
    · rw [if_pos d, show muU p i j = p + (j - (p + 1)) by omega]
    · rw [if_neg d, show muU p i j = j by omega]
theorem cp_muD (a : Int → Int) {p i : Int} (l : i ≤ p) (j : Int) : zup (cpF a a (i + 1) i (p - i)) p (a i) j = a (muD p i j) := by
  have u := muD_spec p i j
  by_cases c : j = p
  · rw [c, zup_eq]; rw [c] at u; rw [show muD p i p = i by omega]
  · rw [zup_ne _ _ c]
    unfold cpF
    by_cases d : i ≤ j ∧ j < i + (p - i)
    · rw [if_pos d, show muD p i j = i + 1 + (j - i) by omega]
    · rw [if_neg d, show muD p i j = j by omega]
/-- row i of block b has become the last of block d -/
def MVX (rs op tg lf rt rs' o' t' l' r' : Int → Int) (i b d : Int) : Prop := (d < b ∧ RSU rs rs' d (b + 1) 1 ∧ (∀ j : Int, o' j = op (muU (rs (d + 1)) i j) ∧ t' j = tg (muU (rs (d + 1)) i j) ∧ l' j = lf (muU (rs (d + 1)) i j) ∧ r' j = rt (muU (rs (d + 1)) i j))) ∨ (b < d ∧ RSU rs rs' b (d + 1) (-1) ∧ (∀ j : Int, o' j = op (muD (rs (d + 1) - 1) i j) ∧ t' j = tg (muD (rs (d + 1) - 1) i j) ∧ l' j = lf (muD (rs (d + 1) - 1) i j) ∧ r' j = rt (muD (rs (d + 1) - 1) i j)))
/-- LOOPS keep SSA, one ROW after the other -/
theorem SSV.moved {B R P C h d b i : Int} {rs op tg lf rt ek eu g1 g2 ps pr fs pt as ar iL rs' o' t' l' r' : Int → Int} (v : SSV B R P C rs op tg lf rt ek eu g1 g2 ps pr fs pt as ar) (x : MVX rs op tg lf rt rs' o' t' l' r' i b d) (m' : MS B R rs') (l : LOOP ek g1 g2 B iL h d) (b0 : 0 ≤ b) (b1 : b < B) (d0 : 0 ≤ d) (d1 : d < B) (w : iL b = 1) (i0 : rs b ≤ i) (i1 : i < rs (b + 1))
    (ns : ∀ y : Int, (y = lf i ∨ y = rt i) → isg y → ∀ c s : Int, 0 ≤ c → c < B → iL c = 1 → ((fs c ≤ s ∧ s < fs (c + 1) ∧ pt s = y - 4294967296) ∨ (rs c ≤ s ∧ s < rs (c + 1) ∧ tg s = y - 4294967296)) → False) : SSV B R P C rs' o' t' l' r' ek eu g1 g2 ps pr fs pt as ar := by
  obtain ⟨v1, v2, v3, vr, va, v4, v5, v6, bl, sd, K, S⟩ := v
  have c1 := v1.1
  have mR := v1.2.1
  have mF := v1.2.2.1
  have gr := GR.of v1.2.2.2.2.1
  have P0 : 0 ≤ P := by have := mF.top 0 (by omega) (by omega); have := mF.z; omega
  have ir : 0 ≤ i ∧ i < R := by
    have := mR.le' (a := 0) (b := b) (by omega) b0 (by omega); have := mR.z
    have := mR.le' (a := b + 1) (b := B) (by omega) (by omega) (Int.le_refl _); have := mR.e
    omega
  have bi := K.row b i b0 b1 i0 i1
  have rc : ∃ n k : Nat, raS ek g1 g2 (fun _ => 0) (-1) n k b := by
    obtain ⟨k, n, r⟩ := v5 b b0 b1
    exact ⟨n, k, r⟩
  have use : ∀ y : Int, (y = lf i ∨ y = rt i) → UOK ek g1 g2 P R (TT tg pt P) sd bl y b i → UOK ek g1 g2 P R (TT tg pt P) sd bl y d R := fun y yy u => l.use gr c1 w rc u (fun g z => by
    obtain ⟨⟨u1, u2⟩, _, _⟩ := u g
    unfold TT at u2
    rcases Int.lt_or_le (sd (y - 4294967296)) 0 with q | q
    · have kb := K.pbl _ u1.1 q
      rw [if_neg (by omega)] at u2
      exact ns y yy g _ (sd (y - 4294967296) + P) kb.1.1 kb.1.2 z (Or.inl ⟨kb.2.1, kb.2.2, u2⟩)
    · have kb := K.rbl _ q u1.2
      rw [if_pos q] at u2
      exact ns y yy g _ _ kb.1.1 kb.1.2 z (Or.inr ⟨kb.2.1, kb.2.2, u2⟩))
  have rw' := S.row i ir.1 ir.2
  rw [bi] at rw'
  have db := l.door gr c1 w
  -- the new order
  have ord : ∃ mu nu bl' : Int → Int, MVB B P R rs fs bl rs' bl' mu nu i d ∧ (∀ j : Int, o' j = op (mu j) ∧ t' j = tg (mu j) ∧ l' j = lf (mu j) ∧ r' j = rt (mu j)) ∧ ¬ b = d := by
    rcases x with ⟨q1, q2, q3⟩ | ⟨q1, q2, q3⟩
    · obtain ⟨bl', q⟩ := MVB.up K mR mF m' q2 d0 q1 b1 i0 i1
      exact ⟨_, _, bl', q, q3, by omega⟩
    · obtain ⟨bl', q⟩ := MVB.dn K mR mF m' q2 b0 q1 d1 i0 i1
      exact ⟨_, _, bl', q, q3, by omega⟩
  obtain ⟨mu, nu, bl', ⟨M, K', hb, hp⟩, cp, nbd⟩ := ord
  have S' := SI.moved S M P0 ir.1 ir.2 bi nbd db rc (fun j _ _ => ⟨(cp j).2.1, (cp j).2.2.1, (cp j).2.2.2⟩) hb hp (use _ (Or.inl rfl) rw'.1) (use _ (Or.inr rfl) rw'.2)
  have mr := M.1
  refine ⟨v1.moved m' (fun j a c e => ?_), v2, v3, fun j a c => ?_, va, v4, v5, fun s s0 s1 => ?_, bl', _, K', S'⟩
  · have q := mr j a c
    rw [(cp j).1] at e; rw [(cp j).2.1]
    exact v1.2.2.2.1 _ q.1.1 q.1.2 e
  · have q := mr j a c
    rw [(cp j).1, (cp j).2.2.1, (cp j).2.2.2]; exact vr _ q.1.1 q.1.2
  · unfold TT
    by_cases z : 0 ≤ s
    · rw [if_pos z, (cp s).2.1]
      have q := mr s z s1
      have := v6 (mu s) (by omega) q.1.2
      unfold TT at this; rw [if_pos q.1.1] at this; exact this
    · rw [if_neg z]
      have := v6 s s0 s1
      unfold TT at this; rw [if_neg z] at this; exact this
/-- an operand that no block of the loop sets -/
def NSL (mk : Int → Int) (x : Int) : Prop := isg x → ¬ mk (x - 4294967296) = 1
/-- a ROW that may leave the loop, in block fb -/
def LSF (B : Int) (rs op lf rt iL mk : Int → Int) (i fb : Int) : Prop := 0 ≤ i → (0 ≤ fb ∧ fb < B) ∧ (rs fb ≤ i ∧ i < rs (fb + 1)) ∧ ¬ op i = 2 ∧ iL fb = 1 ∧ NSL mk (lf i) ∧ NSL mk (rt i)
/-- the PREDs of h that have been seen: those outside the loop are d, if there is one -/
def OPO (ps pr iL : Int → Int) (h k d : Int) : Prop := (∀ j : Int, ps h ≤ j → j < k → iL (pr j) = 1 ∨ pr j = d) ∧ (0 ≤ d → ¬ iL d = 1 ∧ ∃ j : Int, ps h ≤ j ∧ j < k ∧ pr j = d)
theorem OPO.init (ps pr iL : Int → Int) (h : Int) : OPO ps pr iL h (ps h) (-1) := ⟨fun j a b => by omega, fun a => by omega⟩
theorem OPO.skip {ps pr iL : Int → Int} {h k d : Int} (o : OPO ps pr iL h k d) (e : iL (pr k) = 1) : OPO ps pr iL h (k + 1) d := ⟨fun j a b => by
  by_cases c : j = k
  · rw [c]; exact Or.inl e
  · exact o.1 j a (by omega), fun a => by
  obtain ⟨q, j, j0, j1, j2⟩ := o.2 a
  exact ⟨q, j, j0, by omega, j2⟩⟩
theorem OPO.set {ps pr iL : Int → Int} {h k d : Int} (o : OPO ps pr iL h k d) (n : d < 0) (l : ps h ≤ k) (e : ¬ iL (pr k) = 1) (rg : ∀ j : Int, ps h ≤ j → j < k → 0 ≤ pr j) : OPO ps pr iL h (k + 1) (pr k) := ⟨fun j a b => by
  by_cases c : j = k
  · rw [c]; exact Or.inr rfl
  · rcases o.1 j a (by omega) with q | q
    · exact Or.inl q
    · have := rg j a (by omega); omega, fun _ => ⟨e, k, l, by omega, rfl⟩⟩
/-- what blocks of the loop set is marked: those before b, of b the PHIs before i and the ROWs before j -/
def MSL (rs fs tg pt iL mk : Int → Int) (b i j : Int) : Prop := ∀ c : Int, 0 ≤ c → iL c = 1 → (∀ s : Int, fs c ≤ s → s < fs (c + 1) → (c < b ∨ (c = b ∧ s < i)) → mk (pt s) = 1) ∧ (∀ s : Int, rs c ≤ s → s < rs (c + 1) → 0 ≤ tg s → (c < b ∨ (c = b ∧ s < j)) → mk (tg s) = 1)
theorem MSL.init (rs fs tg pt iL mk : Int → Int) : MSL rs fs tg pt iL mk 0 (fs 0) (rs 0) := fun c c0 _ => ⟨fun s a b w => by
  rcases w with w | w
  · omega
  · rw [w.1] at a; omega, fun s a b _ w => by
  rcases w with w | w
  · omega
  · rw [w.1] at a; omega⟩
theorem MSL.phi {rs fs tg pt iL mk : Int → Int} {b i : Int} (h : MSL rs fs tg pt iL mk b i (rs b)) : MSL rs fs tg pt iL (zup mk (pt i) 1) b (i + 1) (rs b) := fun c c0 e => by
  have q := h c c0 e
  have up : ∀ x : Int, mk x = 1 → zup mk (pt i) 1 x = 1 := fun x z => by unfold zup; split; rfl; exact z
  refine ⟨fun s a d w => ?_, fun s a d t w => up _ (q.2 s a d t w)⟩
  by_cases z : c = b ∧ s = i
  · rw [z.2, zup_eq]
  · exact up _ (q.1 s a d (by omega))
theorem MSL.row {rs fs tg pt iL mk : Int → Int} {b i j : Int} (h : MSL rs fs tg pt iL mk b i j) : MSL rs fs tg pt iL (zup mk (tg j) 1) b i (j + 1) := fun c c0 e => by
  have q := h c c0 e
  have up : ∀ x : Int, mk x = 1 → zup mk (tg j) 1 x = 1 := fun x z => by unfold zup; split; rfl; exact z
  refine ⟨fun s a d w => up _ (q.1 s a d w), fun s a d t w => ?_⟩
  by_cases z : c = b ∧ s = j
  · rw [z.2, zup_eq]
  · exact up _ (q.2 s a d t (by omega))
theorem MSL.none {rs fs tg pt iL mk : Int → Int} {b i j : Int} (h : MSL rs fs tg pt iL mk b i j) (t : tg j < 0) : MSL rs fs tg pt iL mk b i (j + 1) := fun c c0 e => by
  have q := h c c0 e
  refine ⟨q.1, fun s a d t' w => ?_⟩
  by_cases z : c = b ∧ s = j
  · rw [z.2] at t'; omega
  · exact q.2 s a d t' (by omega)
theorem MSL.next {rs fs tg pt iL mk : Int → Int} {b i j : Int} (h : MSL rs fs tg pt iL mk b i j) (k : ¬ iL b = 1 ∨ (fs (b + 1) ≤ i ∧ rs (b + 1) ≤ j)) : MSL rs fs tg pt iL mk (b + 1) (fs (b + 1)) (rs (b + 1)) := fun c c0 e => by
  have q := h c c0 e
  by_cases z : c = b
  · rw [z] at e
    rcases k with k | k
    · exact absurd e k
    · exact ⟨fun s a d w => q.1 s a d (Or.inr ⟨z, by rw [z] at d; omega⟩), fun s a d t w => q.2 s a d t (Or.inr ⟨z, by rw [z] at d; omega⟩)⟩
  · refine ⟨fun s a d w => q.1 s a d ?_, fun s a d t w => q.2 s a d t ?_⟩
    · rcases w with w | w
      · exact Or.inl (by omega)
      · rw [w.1] at a; omega
    · rcases w with w | w
      · exact Or.inl (by omega)
      · rw [w.1] at a; omega
