theorem Anc.zup0 {id : Int → Int} {a b : Int} (h : Anc id a b) : Anc (zup id 0 (-1)) a b := by
  induction h using Anc.ind with
  | refl => exact Anc.refl
  | up n p q ih => exact Anc.up n (by rw [zup_ne _ _ n]; exact p) (by rw [zup_ne _ _ n]; exact ih)
/-- who dominates is above in the TREE -/
theorem DM.anc {ek g1 g2 ps pr po bp id : Int → Int} {B rd a b : Int} (f : FW ek g1 g2 B po bp rd) (d : DT ek g1 g2 B ps pr po bp rd id) (b0 : 0 ≤ b) (b1 : b < B) (pb : 0 ≤ po b) (h : DM ek g1 g2 a b) : Anc id a b := by
  obtain ⟨id0, e, I, fu, fx, lo⟩ := d
  have q := f.pop b b0 b1 pb
  have ib := fu (po b) pb q.1
  rw [q.2] at ib
  rw [e]
  exact (lo b b0 b1 ib a (fun k r => by obtain ⟨k', r'⟩ := r.plain; exact h k' r')).zup0
theorem OD.ancPl {B rd : Int} {po id pl od : Int → Int} (o : OD B po id pl od rd) : ∀ (n : Nat) (a b : Int), ancN id a n b → 0 ≤ b → b < B → 0 ≤ pl b → (0 ≤ a ∧ a < B) ∧ 0 ≤ pl a ∧ pl a ≤ pl b ∧ (¬ a = b → pl a < pl b) := by
  intro n
  induction n with
  | zero => intro a b h b0 b1 p; have e : b = a := h; rw [← e]; exact ⟨⟨b0, b1⟩, p, Int.le_refl _, fun z => absurd rfl z⟩
  | succ n ih =>
    intro a b h b0 b1 p
    obtain ⟨h1, h2, h3⟩ := h
    have q := o.anc b (by omega) b1 p
    have r := ih a (id b) h3 q.1 q.2.1 q.2.2.1
    exact ⟨r.1, r.2.1, by omega, fun _ => by omega⟩
/-- who dominates stands before in the ORDER -/
theorem DM.pl {ek g1 g2 ps pr po bp id pl od : Int → Int} {B rd a b : Int} (f : FW ek g1 g2 B po bp rd) (d : DT ek g1 g2 B ps pr po bp rd id) (o : OD B po id pl od rd) (b0 : 0 ≤ b) (b1 : b < B) (pb : 0 ≤ po b) (h : DM ek g1 g2 a b) : (0 ≤ a ∧ a < B) ∧ 0 ≤ pl a ∧ pl a ≤ pl b ∧ (¬ a = b → pl a < pl b) := by
  obtain ⟨n, r⟩ := DM.anc f d b0 b1 pb h
  exact o.ancPl n a b r b0 b1 (o.rch b b0 b1 pb)
/-- what stands instead, one step -/
def rF (ii : Int → Int) (x : Int) : Int := if (4294967296 ≤ x ∧ x < 1099511627776) ∧ ¬ ii (x - 4294967296) = 1099511627776 then ii (x - 4294967296) else x
/-- sites that the pass has gone by -/
def PRC (pl bl : Int → Int) (n b cs s : Int) : Prop := (0 ≤ pl (bl s) ∧ pl (bl s) < n) ∨ (bl s = b ∧ s < cs)
/-- what the pass needs of the function, as it was -/
def EQC (ek g1 g2 : Int → Int) (B P R : Int) (T sd bl pl : Int → Int) : Prop := (∀ s : Int, -P ≤ s → s < R → 0 ≤ T s → sd (T s) = s) ∧ (∀ s : Int, -P ≤ s → s < R → (0 ≤ bl s ∧ bl s < B)) ∧ (∀ a b : Int, 0 ≤ b → b < B → DM ek g1 g2 a b → (0 ≤ a ∧ a < B) ∧ 0 ≤ pl a ∧ pl a ≤ pl b ∧ (¬ a = b → pl a < pl b))
/-- a place that has been gone by doesn't use what is set now -/
theorem PRC.no {ek g1 g2 : Int → Int} {B P R : Int} {T sd bl pl : Int → Int} {n b cs x i c : Int} (C : EQC ek g1 g2 B P R T sd bl pl) (cr : 0 ≤ c ∧ c < B) (pr : (0 ≤ pl c ∧ pl c < n) ∨ (c = b ∧ i ≤ cs)) (pb : pl b = n) (u : UOK ek g1 g2 P R T sd bl x c i) (g : isg x) (e : bl (sd (x - 4294967296)) = b) (s : cs ≤ sd (x - 4294967296)) : False := by
  obtain ⟨u1, u2, u3⟩ := u g
  rw [e] at u2 u3
  have q := C.2.2 b c cr.1 cr.2 u2
  rcases pr with w | w
  · omega
  · have := u3 w.1.symm; omega
/-- what stands instead of the registers that have been gone by -/
def EQ1 (ek g1 g2 : Int → Int) (P R : Int) (T sd bl pl ii : Int → Int) (n b cs : Int) : Prop := ∀ v : Int, 0 ≤ v → v < 1024 → ii v = 1099511627776 ∨ (((-P ≤ sd v ∧ sd v < R) ∧ T (sd v) = v) ∧ PRC pl bl n b cs (sd v) ∧ UOK ek g1 g2 P R T sd bl (ii v) (bl (sd v)) (sd v) ∧ (isg (ii v) → ii (ii v - 4294967296) = 1099511627776))
theorem EQ1.init {ek g1 g2 : Int → Int} {P R n b cs : Int} {T sd bl pl ii : Int → Int} (a : ∀ v : Int, 0 ≤ v → v < 1024 → ii v = 1099511627776) : EQ1 ek g1 g2 P R T sd bl pl ii n b cs := fun v v0 v1 => Or.inl (a v v0 v1)
theorem EQ1.rs {ek g1 g2 : Int → Int} {P R n b cs x : Int} {T sd bl pl ii : Int → Int} (h : EQ1 ek g1 g2 P R T sd bl pl ii n b cs) (o : ((-2147483648 ≤ x ∧ x ≤ 4294968319) ∨ x = 1099511627776)) : rsI ii 1000 x = rF ii x := by
  unfold rF
  by_cases c : 4294967296 ≤ x ∧ x < 1099511627776
  · by_cases d : ii (x - 4294967296) = 1099511627776
    · rw [if_neg (fun z => z.2 d)]; exact rsI_no d _
    · rw [if_pos ⟨c, d⟩]
      show (if _ then _ else _) = _
      rw [if_pos c, if_neg d]
      rcases h (x - 4294967296) (by omega) (by omega) with q | q
      · exact absurd q d
      · by_cases g : isg (ii (x - 4294967296))
        · exact rsI_no (q.2.2.2 g) _
        · exact rsI_stop g _
  · rw [if_neg (fun z => c z.1)]; exact rsI_stop c _
/-- an operand that is replaced is as good -/
theorem EQ1.use {ek g1 g2 : Int → Int} {B P R n b cs x c i : Int} {T sd bl pl ii : Int → Int} (C : EQC ek g1 g2 B P R T sd bl pl) (h : EQ1 ek g1 g2 P R T sd bl pl ii n b cs) (o : ((-2147483648 ≤ x ∧ x ≤ 4294968319) ∨ x = 1099511627776)) (cr : 0 ≤ c ∧ c < B) (u : UOK ek g1 g2 P R T sd bl x c i) : UOK ek g1 g2 P R T sd bl (rF ii x) c i ∧ (isg (rF ii x) → ii (rF ii x - 4294967296) = 1099511627776) := by
  unfold rF
  by_cases d : (4294967296 ≤ x ∧ x < 1099511627776) ∧ ¬ ii (x - 4294967296) = 1099511627776
  · rw [if_pos d]
    rcases h (x - 4294967296) (by omega) (by omega) with q | q
    · exact absurd q d.2
    · refine ⟨fun g => ?_, q.2.2.2⟩
      obtain ⟨u1, u2, u3⟩ := u d.1
      obtain ⟨w1, w2, w3⟩ := q.2.2.1 g
      refine ⟨w1, w2.trans u2, fun e => ?_⟩
      rw [e] at w2 w3
      have p1 := C.2.2 _ c cr.1 cr.2 u2
      have p2 := C.2.2 _ _ p1.1.1 p1.1.2 w2
      by_cases z : bl (sd (x - 4294967296)) = c
      · have := u3 z; have := w3 z.symm; omega
      · have := p1.2.2.2 z; have := p2.2.2.1; omega
  · rw [if_neg d]
    refine ⟨u, fun g => ?_⟩
    by_cases z : ii (x - 4294967296) = 1099511627776
    · exact z
    · exact absurd ⟨g, z⟩ d
/-- the register that is set now gets what stands instead of it -/
theorem EQ1.set {ek g1 g2 : Int → Int} {B P R n b s v y : Int} {T sd bl pl ii : Int → Int} (C : EQC ek g1 g2 B P R T sd bl pl) (h : EQ1 ek g1 g2 P R T sd bl pl ii n b s) (s0 : -P ≤ s) (s1 : s < R) (sb : bl s = b) (pb : pl b = n) (tv : T s = v) (v0 : 0 ≤ v) (u : UOK ek g1 g2 P R T sd bl y b s) (st : isg y → ii (y - 4294967296) = 1099511627776) : EQ1 ek g1 g2 P R T sd bl pl (zup ii v y) n b (s + 1) := by
  have sv : sd v = s := by rw [← tv]; exact C.1 s s0 s1 (by rw [tv]; exact v0)
  have up : ∀ t : Int, PRC pl bl n b s t → PRC pl bl n b (s + 1) t := fun t w => by
    rcases w with w | w
    · exact Or.inl w
    · exact Or.inr ⟨w.1, by omega⟩
  intro r r0 r1
  by_cases c : r = v
  · rw [c, zup_eq]
    by_cases yn : y = 1099511627776
    · exact Or.inl yn
    · right
      refine ⟨⟨by rw [sv]; exact ⟨s0, s1⟩, by rw [sv]; exact tv⟩, Or.inr ⟨by rw [sv]; exact sb, by omega⟩, by rw [sv, sb]; exact u, fun g => ?_⟩
      have ne : ¬ y - 4294967296 = v := fun z => by
        obtain ⟨u1, u2, u3⟩ := u g
        rw [z, sv] at u3
        have := u3 sb; omega
      rw [zup_ne _ _ ne]; exact st g
  · rw [zup_ne _ _ c]
    rcases h r r0 r1 with q | q
    · exact Or.inl q
    · right
      refine ⟨q.1, up _ q.2.1, q.2.2.1, fun g => ?_⟩
      have ne : ¬ ii r - 4294967296 = v := fun z => by
        have br := C.2.1 _ q.1.1.1 q.1.1.2
        refine PRC.no (cs := s) (n := n) (b := b) C br ?_ pb q.2.2.1 g (by rw [z, sv]; exact sb) (by rw [z, sv]; exact Int.le_refl _)
        rcases q.2.1 with w | w
        · exact Or.inl w
        · exact Or.inr ⟨w.1, by omega⟩
      rw [zup_ne _ _ ne]; exact q.2.2.2 g
theorem EQ1.skip {ek g1 g2 : Int → Int} {P R n b s s' : Int} {T sd bl pl ii : Int → Int} (h : EQ1 ek g1 g2 P R T sd bl pl ii n b s) (w : ∀ t : Int, -P ≤ t → t < R → PRC pl bl n b s t → PRC pl bl n b s' t) : EQ1 ek g1 g2 P R T sd bl pl ii n b s' := fun r r0 r1 => by
  rcases h r r0 r1 with q | q
  · exact Or.inl q
  · exact Or.inr ⟨q.1, w _ q.1.1.1 q.1.1.2 q.2.1, q.2.2⟩
theorem EQ1.next {ek g1 g2 : Int → Int} {P R n b s n' b' s' : Int} {T sd bl pl ii : Int → Int} (h : EQ1 ek g1 g2 P R T sd bl pl ii n b s) (w : ∀ t : Int, -P ≤ t → t < R → PRC pl bl n b s t → PRC pl bl n' b' s' t) : EQ1 ek g1 g2 P R T sd bl pl ii n' b' s' := fun r r0 r1 => by
  rcases h r r0 r1 with q | q
  · exact Or.inl q
  · exact Or.inr ⟨q.1, w _ q.1.1.1 q.1.1.2 q.2.1, q.2.2⟩
/-- operands of ROWs that have been gone by are replaced -/
def EQL (R : Int) (pl bl ii lf l' : Int → Int) (n b cs : Int) : Prop := ∀ i : Int, 0 ≤ i → i < R → (PRC pl bl n b cs i → l' i = rF ii (lf i)) ∧ (¬ PRC pl bl n b cs i → l' i = lf i)
theorem rF_ne {ii : Int → Int} {v y x : Int} (n : ¬ (isg x ∧ x - 4294967296 = v)) : rF (zup ii v y) x = rF ii x := by
  unfold rF
  by_cases c : 4294967296 ≤ x ∧ x < 1099511627776
  · rw [zup_ne _ _ (fun z => n ⟨c, z⟩)]
  · rw [if_neg (fun z => c z.1), if_neg (fun z => c z.1)]
theorem EQL.ins {ek g1 g2 : Int → Int} {B P R n b s v y : Int} {T sd bl pl ii lf l' : Int → Int} (C : EQC ek g1 g2 B P R T sd bl pl) (h : EQL R pl bl ii lf l' n b s) (P0 : 0 ≤ P) (us : ∀ i : Int, 0 ≤ i → i < R → UOK ek g1 g2 P R T sd bl (lf i) (bl i) i) (s0 : -P ≤ s) (s1 : s < R) (sb : bl s = b) (pb : pl b = n) (tv : T s = v) (v0 : 0 ≤ v) : EQL R pl bl (zup ii v y) lf l' n b s := fun i i0 i1 => by
  have sv : sd v = s := by rw [← tv]; exact C.1 s s0 s1 (by rw [tv]; exact v0)
  refine ⟨fun w => ?_, (h i i0 i1).2⟩
  rw [rF_ne (fun z => ?_)]
  · exact (h i i0 i1).1 w
  · refine PRC.no (cs := s) (n := n) (b := b) C (C.2.1 i (by omega) i1) ?_ pb (us i i0 i1) z.1 (by rw [z.2, sv]; exact sb) (by rw [z.2, sv]; exact Int.le_refl _)
    rcases w with w | w
    · exact Or.inl w
    · exact Or.inr ⟨w.1, by omega⟩
/-- the ROW itself: its operands first, then what it sets -/
theorem EQL.row {ek g1 g2 : Int → Int} {B P R n b s v y : Int} {T sd bl pl ii lf l' : Int → Int} (C : EQC ek g1 g2 B P R T sd bl pl) (h : EQL R pl bl ii lf l' n b s) (P0 : 0 ≤ P) (us : ∀ i : Int, 0 ≤ i → i < R → UOK ek g1 g2 P R T sd bl (lf i) (bl i) i) (s0 : 0 ≤ s) (s1 : s < R) (sb : bl s = b) (pb : pl b = n) (tv : T s = v) (v0 : 0 ≤ v) : EQL R pl bl (zup ii v y) lf (zup l' s (rF ii (l' s))) n b (s + 1) := fun i i0 i1 => by
  have sv : sd v = s := by rw [← tv]; exact C.1 s (by omega) s1 (by rw [tv]; exact v0)
  have np : ¬ PRC pl bl n b s s := fun w => by
    rcases w with w | w
    · rw [sb] at w; omega
    · omega
  by_cases c : i = s
  · rw [c, zup_eq, (h s s0 s1).2 np]
    refine ⟨fun _ => (rF_ne (fun z => ?_)).symm, fun w => absurd (Or.inr ⟨sb, by omega⟩) w⟩
    exact PRC.no (cs := s) (n := n) (b := b) C (C.2.1 s (by omega) s1) (Or.inr ⟨sb, Int.le_refl _⟩) pb (us s s0 s1) z.1 (by rw [z.2, sv]; exact sb) (by rw [z.2, sv]; exact Int.le_refl _)
  · rw [zup_ne _ _ c]
    have q := h.ins (y := y) C P0 us (by omega : -P ≤ s) s1 sb pb tv v0 i i0 i1
    exact ⟨fun w => q.1 (by
      rcases w with w | w
      · exact Or.inl w
      · exact Or.inr ⟨w.1, by omega⟩), fun w => q.2 (fun z => w (by
      rcases z with z | z
      · exact Or.inl z
      · exact Or.inr ⟨z.1, by omega⟩))⟩
theorem EQL.rowN {R n b s : Int} {bl pl ii lf l' : Int → Int} (h : EQL R pl bl ii lf l' n b s) (s0 : 0 ≤ s) (s1 : s < R) (sb : bl s = b) (pb : pl b = n) : EQL R pl bl ii lf (zup l' s (rF ii (l' s))) n b (s + 1) := fun i i0 i1 => by
  have np : ¬ PRC pl bl n b s s := fun w => by
    rcases w with w | w
    · rw [sb] at w; omega
    · omega
  by_cases c : i = s
  · rw [c, zup_eq, (h s s0 s1).2 np]
    exact ⟨fun _ => rfl, fun w => absurd (Or.inr ⟨sb, by omega⟩) w⟩
  · rw [zup_ne _ _ c]
    have q := h i i0 i1
    exact ⟨fun w => q.1 (by
      rcases w with w | w
      · exact Or.inl w
      · exact Or.inr ⟨w.1, by omega⟩), fun w => q.2 (fun z => w (by
      rcases z with z | z
      · exact Or.inl z
      · exact Or.inr ⟨z.1, by omega⟩))⟩
/-- a way comes to b first by some PRED, without b -/
theorem raS.first {ek g1 g2 po : Int → Int} {d b : Int} : ∀ (n : Nat) {k : Nat}, ¬ b = 0 → raS ek g1 g2 po d n k b → ∃ (p : Int) (m k1 k2 : Nat), ED ek g1 g2 p b ∧ raS ek g1 g2 po d m k1 p ∧ raS ek g1 g2 po b m k2 p := by
  intro n
  induction n using Nat.strongRecOn with
  | ind n ih =>
  intro k b0 r
  cases n with
  | zero => exact absurd r.1 b0
  | succ n =>
    obtain ⟨_, p, ed, hh⟩ := r
    have h2 : ∃ k2 : Nat, raS ek g1 g2 po d n k2 p := by
      rcases hh with ⟨hh, _⟩ | ⟨k', _, hh⟩
      · exact ⟨k, hh⟩
      · exact ⟨k', hh⟩
    obtain ⟨k2, h2⟩ := h2
    rcases h2.split b with q | ⟨m, k', m1, _, q⟩
    · exact ⟨p, n, k2, k2, ed, h2, q⟩
    · exact ih m (by omega) b0 q
/-- what a PHI can be replaced by -/
def VPH (fs ps as pt ar : Int → Int) (b i z : Int) : Prop := z = 1099511627776 ∨ (∃ j : Int, fs b ≤ j ∧ j < i ∧ z = 4294967296 + pt j) ∨ (∀ k : Int, 0 ≤ k → k < ps (b + 1) - ps b → ar (as i + k) = z ∨ ar (as i + k) = 4294967296 + pt i)
theorem VPH.use {ek g1 g2 : Int → Int} {B P R : Int} {rs fs ps pr as tg pt lf rt eu ar bl sd : Int → Int} {b i z : Int} (S : SI ek g1 g2 B P R fs ps pr as tg pt lf rt eu ar bl sd) (K : BLK B P R rs fs bl) (L : PL ek g1 g2 B ps pr) (gr : GR ek g1 g2 B) (B1 : 1 ≤ B) (R0 : 0 ≤ R) (hT : ∀ i : Int, 0 ≤ i → i < P → 0 ≤ pt i ∧ pt i ≤ 1023) (b0 : 0 < b) (b1 : b < B) (i0 : fs b ≤ i) (i1 : i < fs (b + 1)) (rc : ∃ n k : Nat, raS ek g1 g2 (fun _ => 0) (-1) n k b) (h : VPH fs ps as pt ar b i z) : UOK ek g1 g2 P R (TT tg pt P) sd bl z b (i - P) := by
  have fm := K.fm b (by omega) b1
  have site : ∀ j : Int, fs b ≤ j → j < fs (b + 1) → sd (pt j) = j - P ∧ bl (j - P) = b ∧ TT tg pt P (j - P) = pt j := fun j j0 j1 => by
    have ts : TT tg pt P (j - P) = pt j := by unfold TT; rw [if_neg (by omega), show j - P + P = j by omega]
    have sn := S.num (j - P) (by omega) (by omega) (by rw [ts]; exact (hT j (by omega) (by omega)).1)
    rw [ts] at sn
    exact ⟨sn, K.phi b j (by omega) b1 j0 j1, ts⟩
  rcases h with h | ⟨j, j0, j1, e⟩ | h
  · intro g; rw [h] at g; unfold isg at g; omega
  · intro g
    have q := site j j0 (by omega)
    rw [e, show 4294967296 + pt j - 4294967296 = pt j by omega, q.1, q.2.1]
    exact ⟨⟨⟨by omega, by omega⟩, q.2.2⟩, DM.refl, fun _ => by omega⟩
  · intro g
    have me := site i i0 i1
    have mt := hT i (by omega) (by omega)
    -- at a PRED that is come to without b, the operand is z
    have op : ∀ (p : Int) (m k : Nat), ED ek g1 g2 p b → raS ek g1 g2 (fun _ => 0) b m k p → UOK ek g1 g2 P R (TT tg pt P) sd bl z p R := by
      intro p m k ed r
      have p9 := r.rng gr B1
      obtain ⟨j, j0, j1, j2⟩ := L.edge p9.1 p9.2 ed
      have u := S.arg (as i + (j - ps b)) b p (by omega) b1 ⟨i, j - ps b, i0, i1, by omega, by omega, rfl, by rw [show ps b + (j - ps b) = j by omega]; exact j2⟩
      rcases h (j - ps b) (by omega) (by omega) with q | q
      · rw [q] at u; exact u
      · exfalso
        rw [q] at u
        have w := u ⟨by omega, by omega⟩
        rw [show 4294967296 + pt i - 4294967296 = pt i by omega, me.1, me.2.1] at w
        exact w.2.1 k ⟨m, r⟩
    obtain ⟨n, k, r⟩ := rc
    obtain ⟨p, m, k1, k2, ed, _, r2⟩ := raS.first n (by omega) r
    have w := op p m k2 ed r2 g
    refine ⟨w.1, fun k ⟨nn, rr⟩ => ?_, fun e => ?_⟩
    · obtain ⟨p', m', k1', k2', ed', r1', r2'⟩ := raS.first nn (by omega) rr
      exact (op p' m' k2' ed' r2' g).2.1 k1' ⟨m', r1'⟩
    · exfalso
      rw [e] at w
      exact w.2.1 k2 ⟨m, r2⟩
theorem EQL.phi {ek g1 g2 : Int → Int} {B P R n b s v y : Int} {T sd bl pl ii lf l' : Int → Int} (C : EQC ek g1 g2 B P R T sd bl pl) (h : EQL R pl bl ii lf l' n b s) (P0 : 0 ≤ P) (us : ∀ i : Int, 0 ≤ i → i < R → UOK ek g1 g2 P R T sd bl (lf i) (bl i) i) (s0 : -P ≤ s) (sn : s < 0) (s1 : s < R) (sb : bl s = b) (pb : pl b = n) (tv : T s = v) (v0 : 0 ≤ v) : EQL R pl bl (zup ii v y) lf l' n b (s + 1) := fun i i0 i1 => by
  have q := h.ins (y := y) C P0 us s0 s1 sb pb tv v0 i i0 i1
  exact ⟨fun w => q.1 (by
    rcases w with w | w
    · exact Or.inl w
    · omega), fun w => q.2 (fun z => w (by
    rcases z with z | z
    · exact Or.inl z
    · omega))⟩
/-- operands of ENDs -/
def EQE (B : Int) (pl ii eu e' : Int → Int) (n : Int) : Prop := ∀ c : Int, 0 ≤ c → c < B → ((0 ≤ pl c ∧ pl c < n) → e' c = rF ii (eu c)) ∧ (¬ (0 ≤ pl c ∧ pl c < n) → e' c = eu c)
theorem EQE.ins {ek g1 g2 : Int → Int} {B P R n b s v y : Int} {T sd bl pl ii eu e' : Int → Int} (C : EQC ek g1 g2 B P R T sd bl pl) (h : EQE B pl ii eu e' n) (us : ∀ c : Int, 0 ≤ c → c < B → UOK ek g1 g2 P R T sd bl (eu c) c R) (s0 : -P ≤ s) (s1 : s < R) (sb : bl s = b) (pb : pl b = n) (tv : T s = v) (v0 : 0 ≤ v) : EQE B pl (zup ii v y) eu e' n := fun c c0 c1 => by
  have sv : sd v = s := by rw [← tv]; exact C.1 s s0 s1 (by rw [tv]; exact v0)
  refine ⟨fun w => ?_, (h c c0 c1).2⟩
  rw [rF_ne (fun z => ?_)]
  · exact (h c c0 c1).1 w
  · exact PRC.no (cs := s) (n := n) (b := b) C ⟨c0, c1⟩ (Or.inl w) pb (us c c0 c1) z.1 (by rw [z.2, sv]; exact sb) (by rw [z.2, sv]; exact Int.le_refl _)
theorem EQE.fin {B n b : Int} {pl ii eu e' : Int → Int} (h : EQE B pl ii eu e' n) (inj : ∀ x : Int, 0 ≤ x → x < B → pl x = n → x = b) (b0 : 0 ≤ b) (b1 : b < B) (pb : pl b = n) (n0 : 0 ≤ n) : EQE B pl ii eu (zup e' b (rF ii (e' b))) (n + 1) := fun c c0 c1 => by
  by_cases w : c = b
  · rw [w, zup_eq, (h b b0 b1).2 (by omega)]; exact ⟨fun _ => rfl, fun z => absurd (by omega) z⟩
  · rw [zup_ne _ _ w]
    have q := h c c0 c1
    have : ¬ pl c = n := fun z => w (inj c c0 c1 z)
    exact ⟨fun z => q.1 (by omega), fun z => q.2 (by omega)⟩
/-- ROWs that stand for their like -/
def EQB (ek g1 g2 : Int → Int) (R : Int) (tg bl ii st : Int → Int) (sc b cs : Int) : Prop := ∀ k : Int, 0 ≤ k → k < sc → (0 ≤ st k ∧ st k < R) ∧ 0 ≤ tg (st k) ∧ ii (tg (st k)) = 1099511627776 ∧ DM ek g1 g2 (bl (st k)) b ∧ (bl (st k) = b → st k < cs)
theorem EQB.ins {ek g1 g2 : Int → Int} {R b s v y sc : Int} {tg sd bl ii st : Int → Int} (h : EQB ek g1 g2 R tg bl ii st sc b s) (sn : ∀ i : Int, 0 ≤ i → i < R → 0 ≤ tg i → sd (tg i) = i) (sv : sd v = s) (sb : bl s = b) : EQB ek g1 g2 R tg bl (zup ii v y) st sc b (s + 1) := fun k k0 k1 => by
  obtain ⟨q1, q2, q3, q4, q5⟩ := h k k0 k1
  have ne : ¬ tg (st k) = v := fun z => by
    have := sn (st k) q1.1 q1.2 q2
    rw [z, sv] at this
    rw [← this] at q5
    have := q5 sb; omega
  exact ⟨q1, q2, by rw [zup_ne _ _ ne]; exact q3, q4, fun e => by have := q5 e; omega⟩
theorem EQB.up {ek g1 g2 : Int → Int} {R b s s' sc : Int} {tg bl ii st : Int → Int} (h : EQB ek g1 g2 R tg bl ii st sc b s) (l : s ≤ s') : EQB ek g1 g2 R tg bl ii st sc b s' := fun k k0 k1 => by
  obtain ⟨q1, q2, q3, q4, q5⟩ := h k k0 k1
  exact ⟨q1, q2, q3, q4, fun e => by have := q5 e; omega⟩
theorem EQB.add {ek g1 g2 : Int → Int} {R b s sc : Int} {tg bl ii st : Int → Int} (h : EQB ek g1 g2 R tg bl ii st sc b s) (s0 : 0 ≤ s) (s1 : s < R) (t : 0 ≤ tg s) (no : ii (tg s) = 1099511627776) (sb : bl s = b) : EQB ek g1 g2 R tg bl ii (zup st sc s) (sc + 1) b (s + 1) := fun k k0 k1 => by
  by_cases w : k = sc
  · rw [w, zup_eq]; exact ⟨⟨s0, s1⟩, t, no, by rw [sb]; exact DM.refl, fun _ => by omega⟩
  · rw [zup_ne _ _ w]
    obtain ⟨q1, q2, q3, q4, q5⟩ := h k k0 (by omega)
    exact ⟨q1, q2, q3, q4, fun e => by have := q5 e; omega⟩
/-- a like that stands can stand instead -/
theorem EQB.use {ek g1 g2 : Int → Int} {P R b s sc k : Int} {tg pt sd bl ii st : Int → Int} (h : EQB ek g1 g2 R tg bl ii st sc b s) (P0 : 0 ≤ P) (sn : ∀ i : Int, 0 ≤ i → i < R → 0 ≤ tg i → sd (tg i) = i) (k0 : 0 ≤ k) (k1 : k < sc) : UOK ek g1 g2 P R (TT tg pt P) sd bl (4294967296 + tg (st k)) b s ∧ ii (4294967296 + tg (st k) - 4294967296) = 1099511627776 := by
  obtain ⟨q1, q2, q3, q4, q5⟩ := h k k0 k1
  have e := sn (st k) q1.1 q1.2 q2
  rw [show 4294967296 + tg (st k) - 4294967296 = tg (st k) by omega]
  refine ⟨fun g => ?_, q3⟩
  rw [show 4294967296 + tg (st k) - 4294967296 = tg (st k) by omega, e]
  exact ⟨⟨⟨by omega, q1.2⟩, by unfold TT; rw [if_pos q1.1]⟩, q4, q5⟩
/-- ROWs marked as gone are those that are replaced -/
def EQM (R : Int) (op tg ii o : Int → Int) : Prop := ∀ i : Int, 0 ≤ i → i < R → o i = op i ∨ (o i = -1 ∧ 0 ≤ tg i ∧ ¬ ii (tg i) = 1099511627776)
theorem EQM.ins {R v y : Int} {op tg ii o : Int → Int} (h : EQM R op tg ii o) (no : ii v = 1099511627776) : EQM R op tg (zup ii v y) o := fun i i0 i1 => by
  rcases h i i0 i1 with q | q
  · exact Or.inl q
  · have : ¬ tg i = v := fun z => q.2.2 (by rw [z]; exact no)
    exact Or.inr ⟨q.1, q.2.1, by rw [zup_ne _ _ this]; exact q.2.2⟩
theorem EQM.mark {R s y : Int} {op tg ii o : Int → Int} (h : EQM R op tg ii o) (no : ii (tg s) = 1099511627776) (t : 0 ≤ tg s) (y0 : ¬ y = 1099511627776) : EQM R op tg (zup ii (tg s) y) (zup o s (-1)) := fun i i0 i1 => by
  by_cases c : i = s
  · rw [c, zup_eq, zup_eq]; exact Or.inr ⟨rfl, t, y0⟩
  · rw [zup_ne _ _ c]; exact h.ins no i i0 i1
theorem EQ1.fresh {ek g1 g2 : Int → Int} {B P R n b s v : Int} {T sd bl pl ii : Int → Int} (C : EQC ek g1 g2 B P R T sd bl pl) (h : EQ1 ek g1 g2 P R T sd bl pl ii n b s) (s0 : -P ≤ s) (s1 : s < R) (sb : bl s = b) (pb : pl b = n) (tv : T s = v) (v0 : 0 ≤ v) (v1 : v < 1024) : ii v = 1099511627776 := by
  have sv : sd v = s := by rw [← tv]; exact C.1 s s0 s1 (by rw [tv]; exact v0)
  rcases h v v0 v1 with q | q
  · exact q
  · exfalso
    rw [sv] at q
    rcases q.2.1 with w | w
    · rw [sb] at w; omega
    · omega
theorem rF_nno {ii : Int → Int} {x : Int} (h : ¬ x = 1099511627776) : ¬ rF ii x = 1099511627776 := by
  unfold rF
  split
  · rename_i c; exact c.2
  · exact h
theorem rF_non {ii : Int → Int} {x : Int} (h : ¬ isg x) : rF ii x = x := by
  unfold rF; rw [if_neg (fun z => h z.1)]
/-- the function as it was, for the pass that replaces equals -/
def EQK (ek g1 g2 : Int → Int) (B P R : Int) (rs fs ps pr as op tg pt lf rt eu ar bl sd pl : Int → Int) : Prop := SI ek g1 g2 B P R fs ps pr as tg pt lf rt eu ar bl sd ∧ BLK B P R rs fs bl ∧ PL ek g1 g2 B ps pr ∧ GR ek g1 g2 B ∧ (1 ≤ B ∧ 0 ≤ R ∧ 0 ≤ P) ∧ EQC ek g1 g2 B P R (TT tg pt P) sd bl pl ∧ (∀ i : Int, 0 ≤ i → i < P → 0 ≤ pt i ∧ pt i ≤ 1023) ∧ (∀ b : Int, 0 ≤ b → b < B → ∃ n k : Nat, raS ek g1 g2 (fun _ => 0) (-1) n k b) ∧ (fs 0 = 0 ∧ fs 1 = 0) ∧ (∀ i : Int, ((-2147483648 ≤ lf i ∧ lf i ≤ 4294968319) ∨ lf i = 1099511627776)) ∧ (∀ i : Int, ((-2147483648 ≤ rt i ∧ rt i ≤ 4294968319) ∨ rt i = 1099511627776)) ∧ (∀ i : Int, ((-2147483648 ≤ eu i ∧ eu i ≤ 4294968319) ∨ eu i = 1099511627776)) ∧ (∀ i : Int, tg i ≤ 1023) ∧ (∀ i : Int, 0 ≤ i → i < R → op i = 0 → ¬ lf i = 1099511627776)
/-- the pass that replaces equals, at site cs of block b, the n-th of the ORDER -/
def EQI (ek g1 g2 : Int → Int) (B P R : Int) (op tg pt lf rt eu bl sd pl ii o l' r' e' st : Int → Int) (sc n b cs : Int) : Prop := EQ1 ek g1 g2 P R (TT tg pt P) sd bl pl ii n b cs ∧ EQL R pl bl ii lf l' n b cs ∧ EQL R pl bl ii rt r' n b cs ∧ EQE B pl ii eu e' n ∧ EQB ek g1 g2 R tg bl ii st sc b cs ∧ EQM R op tg ii o
theorem EQK.sn {ek g1 g2 : Int → Int} {B P R : Int} {rs fs ps pr as op tg pt lf rt eu ar bl sd pl : Int → Int} (k : EQK ek g1 g2 B P R rs fs ps pr as op tg pt lf rt eu ar bl sd pl) : ∀ i : Int, 0 ≤ i → i < R → 0 ≤ tg i → sd (tg i) = i := fun i i0 i1 t => by
  have := k.1.num i (by have := k.2.2.2.2.1; omega) i1 (by unfold TT; rw [if_pos i0]; exact t)
  unfold TT at this; rw [if_pos i0] at this; exact this
theorem EQI.phi {ek g1 g2 : Int → Int} {B P R n b i z y sc : Int} {rs fs ps pr as op tg pt lf rt eu ar bl sd pl ii o l' r' e' st : Int → Int} (k : EQK ek g1 g2 B P R rs fs ps pr as op tg pt lf rt eu ar bl sd pl) (h : EQI ek g1 g2 B P R op tg pt lf rt eu bl sd pl ii o l' r' e' st sc n b (i - P)) (b0 : 0 ≤ b) (b1 : b < B) (pb : pl b = n) (i0 : fs b ≤ i) (i1 : i < fs (b + 1)) (v : VPH fs ps as pt ar b i z) (oz : ((-2147483648 ≤ z ∧ z ≤ 4294968319) ∨ z = 1099511627776)) (ey : y = rsI ii 1000 z) : EQI ek g1 g2 B P R op tg pt lf rt eu bl sd pl (zup ii (pt i) y) o l' r' e' st sc n b (i + 1 - P) := by
  obtain ⟨S, K, L, gr, nn, C, hT, rc, fz, xl, xr, xe, tr, cp⟩ := k
  obtain ⟨h1, h2, h3, h4, h5, h6⟩ := h
  have fm := K.fm b b0 b1
  have bp : 0 < b := by
    rcases Int.lt_or_le 0 b with w | w
    · exact w
    · have e : b = 0 := by omega
      rw [e] at i0 i1; rw [show (0 : Int) + 1 = 1 by omega] at i1; omega
  have ts : TT tg pt P (i - P) = pt i := by unfold TT; rw [if_neg (by omega), show i - P + P = i by omega]
  have sb := K.phi b i b0 b1 i0 i1
  have pt9 := hT i (by omega) (by omega)
  have u := VPH.use S K L gr nn.1 nn.2.1 hT bp b1 i0 i1 (rc b b0 b1) v
  rw [h1.rs oz] at ey
  have uu := h1.use C oz ⟨b0, b1⟩ u
  rw [← ey] at uu
  have sv : sd (pt i) = i - P := by rw [← ts]; exact S.num (i - P) (by omega) (by omega) (by rw [ts]; exact pt9.1)
  have fr := h1.fresh C (by omega) (by omega) sb pb ts pt9.1 (by omega)
  rw [show i + 1 - P = i - P + 1 by omega]
  exact ⟨h1.set C (by omega) (by omega) sb pb ts pt9.1 uu.1 uu.2, h2.phi C nn.2.2 (fun j a c => (S.row j a c).1) (by omega) (by omega) (by omega) sb pb ts pt9.1, h3.phi C nn.2.2 (fun j a c => (S.row j a c).2) (by omega) (by omega) (by omega) sb pb ts pt9.1, h4.ins C (fun c c0 c1 => S.fin c c0 c1) (by omega) (by omega) sb pb ts pt9.1, h5.ins (EQK.sn ⟨S, K, L, gr, nn, C, hT, rc, fz, xl, xr, xe, tr, cp⟩) sv sb, h6.ins fr⟩
theorem EQI.jump {ek g1 g2 : Int → Int} {B P R n b cs cs' sc : Int} {op tg pt lf rt eu bl sd pl ii o l' r' e' st : Int → Int} (h : EQI ek g1 g2 B P R op tg pt lf rt eu bl sd pl ii o l' r' e' st sc n b cs) (P0 : 0 ≤ P) (w : ∀ s : Int, -P ≤ s → s < R → bl s = b → (s < cs ↔ s < cs')) : EQI ek g1 g2 B P R op tg pt lf rt eu bl sd pl ii o l' r' e' st sc n b cs' := by
  obtain ⟨h1, h2, h3, h4, h5, h6⟩ := h
  have pq : ∀ s : Int, -P ≤ s → s < R → (PRC pl bl n b cs s ↔ PRC pl bl n b cs' s) := fun s s0 s1 => by
    unfold PRC
    constructor
    · intro z
      rcases z with z | z
      · exact Or.inl z
      · exact Or.inr ⟨z.1, (w s s0 s1 z.1).mp z.2⟩
    · intro z
      rcases z with z | z
      · exact Or.inl z
      · exact Or.inr ⟨z.1, (w s s0 s1 z.1).mpr z.2⟩
  have el : ∀ {f f' : Int → Int}, EQL R pl bl ii f f' n b cs → EQL R pl bl ii f f' n b cs' := fun q i i0 i1 => ⟨fun z => (q i i0 i1).1 ((pq i (by omega) i1).mpr z), fun z => (q i i0 i1).2 (fun y => z ((pq i (by omega) i1).mp y))⟩
  exact ⟨h1.skip (fun t t0 t1 => (pq t t0 t1).mp), el h2, el h3, h4, fun k k0 k1 => by
    obtain ⟨q1, q2, q3, q4, q5⟩ := h5 k k0 k1
    exact ⟨q1, q2, q3, q4, fun e => (w _ (by omega) q1.2 e).mp (q5 e)⟩, h6⟩
/-- a ROW that sets nothing, or what nothing stands instead of -/
theorem EQI.other {ek g1 g2 : Int → Int} {B P R n b s sc a c : Int} {rs fs ps pr as op tg pt lf rt eu ar bl sd pl ii o l' r' e' st : Int → Int} (k : EQK ek g1 g2 B P R rs fs ps pr as op tg pt lf rt eu ar bl sd pl) (h : EQI ek g1 g2 B P R op tg pt lf rt eu bl sd pl ii o l' r' e' st sc n b s) (s0 : 0 ≤ s) (s1 : s < R) (sb : bl s = b) (pb : pl b = n) (ea : a = rsI ii 1000 (l' s)) (ec : c = rsI ii 1000 (r' s)) : EQI ek g1 g2 B P R op tg pt lf rt eu bl sd pl ii o (zup l' s a) (zup r' s c) e' st sc n b (s + 1) := by
  obtain ⟨S, K, L, gr, nn, C, hT, rc, fz, xl, xr, xe, tr, cp⟩ := k
  obtain ⟨h1, h2, h3, h4, h5, h6⟩ := h
  have np : ¬ PRC pl bl n b s s := fun w => by
    rcases w with w | w
    · rw [sb] at w; omega
    · omega
  have e1 : a = rF ii (l' s) := by rw [ea]; exact h1.rs (by rw [(h2 s s0 s1).2 np]; exact xl s)
  have e2 : c = rF ii (r' s) := by rw [ec]; exact h1.rs (by rw [(h3 s s0 s1).2 np]; exact xr s)
  rw [e1, e2]
  exact ⟨h1.skip (fun t _ _ w => by
    rcases w with w | w
    · exact Or.inl w
    · exact Or.inr ⟨w.1, by omega⟩), h2.rowN s0 s1 sb pb, h3.rowN s0 s1 sb pb, h4, h5.up (by omega), h6⟩
/-- a ROW that is replaced -/
theorem EQI.gone {ek g1 g2 : Int → Int} {B P R n b s sc a c y : Int} {rs fs ps pr as op tg pt lf rt eu ar bl sd pl ii o l' r' e' st : Int → Int} (k : EQK ek g1 g2 B P R rs fs ps pr as op tg pt lf rt eu ar bl sd pl) (h : EQI ek g1 g2 B P R op tg pt lf rt eu bl sd pl ii o l' r' e' st sc n b s) (s0 : 0 ≤ s) (s1 : s < R) (sb : bl s = b) (pb : pl b = n) (t : 0 ≤ tg s) (ea : a = rsI ii 1000 (l' s)) (ec : c = rsI ii 1000 (r' s)) (w : (op s = 0 ∧ y = a) ∨ ∃ j : Int, 0 ≤ j ∧ j < sc ∧ y = 4294967296 + tg (st j)) : EQI ek g1 g2 B P R op tg pt lf rt eu bl sd pl (zup ii (tg s) y) (zup o s (-1)) (zup l' s a) (zup r' s c) e' st sc n b (s + 1) := by
  have sn := k.sn
  obtain ⟨S, K, L, gr, nn, C, hT, rc, fz, xl, xr, xe, tr, cp⟩ := k
  obtain ⟨h1, h2, h3, h4, h5, h6⟩ := h
  have np : ¬ PRC pl bl n b s s := fun w => by
    rcases w with w | w
    · rw [sb] at w; omega
    · omega
  have br := (K.rbl s s0 s1).1
  rw [sb] at br
  have l0 := (h2 s s0 s1).2 np
  have e1 : a = rF ii (l' s) := by rw [ea]; exact h1.rs (by rw [l0]; exact xl s)
  have e2 : c = rF ii (r' s) := by rw [ec]; exact h1.rs (by rw [(h3 s s0 s1).2 np]; exact xr s)
  have ts : TT tg pt P s = tg s := by unfold TT; rw [if_pos s0]
  have fr := h1.fresh C (by omega) s1 sb pb ts t (by have := tr s; omega)
  have yy : UOK ek g1 g2 P R (TT tg pt P) sd bl y b s ∧ (isg y → ii (y - 4294967296) = 1099511627776) ∧ ¬ y = 1099511627776 := by
    rcases w with w | ⟨j, j0, j1, e⟩
    · have u := (S.row s s0 s1).1
      rw [sb] at u
      have q := h1.use C (xl s) br u
      rw [w.2, e1, l0]
      exact ⟨q.1, q.2, rF_nno (cp s s0 s1 w.1)⟩
    · have q := h5.use (pt := pt) nn.2.2 sn j0 j1
      have tt := (h5 j j0 j1).1
      rw [e]
      exact ⟨q.1, fun _ => q.2, by have := tr (st j); omega⟩
  rw [e1, e2]
  exact ⟨h1.set C (by omega) s1 sb pb ts t yy.1 yy.2.1, h2.row C nn.2.2 (fun j a c => (S.row j a c).1) s0 s1 sb pb ts t, h3.row C nn.2.2 (fun j a c => (S.row j a c).2) s0 s1 sb pb ts t, h4.ins C (fun c c0 c1 => S.fin c c0 c1) (by omega) s1 sb pb ts t, h5.ins sn (sn s s0 s1 t) sb, h6.mark fr t yy.2.2⟩
/-- a ROW that stands for its like -/
theorem EQI.stand {ek g1 g2 : Int → Int} {B P R n b s sc a c : Int} {rs fs ps pr as op tg pt lf rt eu ar bl sd pl ii o l' r' e' st : Int → Int} (k : EQK ek g1 g2 B P R rs fs ps pr as op tg pt lf rt eu ar bl sd pl) (h : EQI ek g1 g2 B P R op tg pt lf rt eu bl sd pl ii o l' r' e' st sc n b s) (s0 : 0 ≤ s) (s1 : s < R) (sb : bl s = b) (pb : pl b = n) (t : 0 ≤ tg s) (ea : a = rsI ii 1000 (l' s)) (ec : c = rsI ii 1000 (r' s)) : EQI ek g1 g2 B P R op tg pt lf rt eu bl sd pl ii o (zup l' s a) (zup r' s c) e' (zup st sc s) (sc + 1) n b (s + 1) := by
  have k0 := k
  obtain ⟨S, K, L, gr, nn, C, hT, rc, fz, xl, xr, xe, tr, cp⟩ := k
  have q := h.other k0 s0 s1 sb pb ea ec
  have ts : TT tg pt P s = tg s := by unfold TT; rw [if_pos s0]
  have fr := h.1.fresh C (by omega) s1 sb pb ts t (by have := tr s; omega)
  exact ⟨q.1, q.2.1, q.2.2.1, q.2.2.2.1, h.2.2.2.2.1.add s0 s1 t fr sb, q.2.2.2.2.2⟩
/-- between blocks -/
def EQO (ek g1 g2 : Int → Int) (B P R : Int) (op tg pt lf rt eu bl sd pl ii o l' r' e' : Int → Int) (n : Int) : Prop := EQ1 ek g1 g2 P R (TT tg pt P) sd bl pl ii n (-1) (-P) ∧ EQL R pl bl ii lf l' n (-1) (-P) ∧ EQL R pl bl ii rt r' n (-1) (-P) ∧ EQE B pl ii eu e' n ∧ EQM R op tg ii o
theorem EQO.init {ek g1 g2 : Int → Int} {B P R : Int} {op tg pt lf rt eu bl sd pl ii : Int → Int} (a : ∀ v : Int, 0 ≤ v → v < 1024 → ii v = 1099511627776) (br : ∀ s : Int, -P ≤ s → s < R → 0 ≤ bl s) (P0 : 0 ≤ P) : EQO ek g1 g2 B P R op tg pt lf rt eu bl sd pl ii op lf rt eu 0 := by
  have np : ∀ i : Int, 0 ≤ i → i < R → ¬ PRC pl bl 0 (-1) (-P) i := fun i i0 i1 w => by
    rcases w with w | w
    · omega
    · have := br i (by omega) i1; omega
  exact ⟨EQ1.init a, fun i i0 i1 => ⟨fun w => absurd w (np i i0 i1), fun _ => rfl⟩, fun i i0 i1 => ⟨fun w => absurd w (np i i0 i1), fun _ => rfl⟩, fun c c0 c1 => ⟨fun w => by omega, fun _ => rfl⟩, fun i _ _ => Or.inl rfl⟩
theorem EQL.move {R n b cs n' b' cs' : Int} {pl bl ii lf l' : Int → Int} (h : EQL R pl bl ii lf l' n b cs) (w : ∀ s : Int, 0 ≤ s → s < R → (PRC pl bl n b cs s ↔ PRC pl bl n' b' cs' s)) : EQL R pl bl ii lf l' n' b' cs' := fun i i0 i1 => ⟨fun z => (h i i0 i1).1 ((w i i0 i1).mpr z), fun z => (h i i0 i1).2 (fun y => z ((w i i0 i1).mp y))⟩
theorem EQO.begin {ek g1 g2 : Int → Int} {B P R n b sc : Int} {rs fs ps pr as op tg pt lf rt eu ar bl sd pl ii o l' r' e' st : Int → Int} (k : EQK ek g1 g2 B P R rs fs ps pr as op tg pt lf rt eu ar bl sd pl) (h : EQO ek g1 g2 B P R op tg pt lf rt eu bl sd pl ii o l' r' e' n) (b0 : 0 ≤ b) (b1 : b < B) (eb : EQB ek g1 g2 R tg bl ii st sc b (fs b - P)) : EQI ek g1 g2 B P R op tg pt lf rt eu bl sd pl ii o l' r' e' st sc n b (fs b - P) := by
  obtain ⟨S, K, L, gr, nn, C, _⟩ := k
  obtain ⟨h1, h2, h3, h4, h6⟩ := h
  have fm := K.fm b b0 b1
  have pq : ∀ s : Int, -P ≤ s → s < R → (PRC pl bl n (-1) (-P) s ↔ PRC pl bl n b (fs b - P) s) := fun s s0 s1 => by
    have br := C.2.1 s s0 s1
    unfold PRC
    constructor
    · intro z
      rcases z with z | z
      · exact Or.inl z
      · omega
    · intro z
      rcases z with z | z
      · exact Or.inl z
      · exfalso
        have q := K.pbl s s0 (by omega)
        rw [z.1] at q; omega
  exact ⟨h1.next (fun t t0 t1 => (pq t t0 t1).mp), h2.move (fun s s0 s1 => pq s (by omega) s1), h3.move (fun s s0 s1 => pq s (by omega) s1), h4, eb, h6⟩
theorem EQI.fin {ek g1 g2 : Int → Int} {B P R n b cs sc y : Int} {rs fs ps pr as op tg pt lf rt eu ar bl sd pl ii o l' r' e' st : Int → Int} (k : EQK ek g1 g2 B P R rs fs ps pr as op tg pt lf rt eu ar bl sd pl) (h : EQI ek g1 g2 B P R op tg pt lf rt eu bl sd pl ii o l' r' e' st sc n b cs) (inj : ∀ x : Int, 0 ≤ x → x < B → pl x = n → x = b) (b0 : 0 ≤ b) (b1 : b < B) (pb : pl b = n) (n0 : 0 ≤ n) (all : ∀ s : Int, -P ≤ s → s < R → bl s = b → s < cs) (ey : y = rsI ii 1000 (e' b)) : EQO ek g1 g2 B P R op tg pt lf rt eu bl sd pl ii o l' r' (zup e' b y) (n + 1) := by
  obtain ⟨S, K, L, gr, nn, C, hT, rc, fz, xl, xr, xe, tr, cp⟩ := k
  obtain ⟨h1, h2, h3, h4, h5, h6⟩ := h
  have pq : ∀ s : Int, -P ≤ s → s < R → (PRC pl bl n b cs s ↔ PRC pl bl (n + 1) (-1) (-P) s) := fun s s0 s1 => by
    have br := C.2.1 s s0 s1
    unfold PRC
    constructor
    · intro z
      rcases z with z | z
      · exact Or.inl (by omega)
      · exact Or.inl (by rw [z.1]; omega)
    · intro z
      rcases z with z | z
      · by_cases w : pl (bl s) = n
        · have e := inj _ br.1 br.2 w
          exact Or.inr ⟨e, all s s0 s1 e⟩
        · exact Or.inl (by omega)
      · omega
  have e1 : y = rF ii (e' b) := by rw [ey]; exact h1.rs (by rw [(h4 b b0 b1).2 (by omega)]; exact xe b)
  rw [e1]
  exact ⟨h1.next (fun t t0 t1 => (pq t t0 t1).mp), h2.move (fun s s0 s1 => pq s (by omega) s1), h3.move (fun s s0 s1 => pq s (by omega) s1), h4.fin inj b0 b1 pb n0, h6⟩
/-- which ROWs stand, and in which block of the path -/
def EQS (ek g1 g2 : Int → Int) (R : Int) (tg bl ii st pa pm : Int → Int) (sc dp : Int) : Prop := (∀ i j : Int, 0 ≤ i → i ≤ j → j < dp → DM ek g1 g2 (pa i) (pa j)) ∧ (∀ k : Int, 0 ≤ k → k < sc → ∃ d : Int, (0 ≤ d ∧ d < dp) ∧ bl (st k) = pa d ∧ (∀ e : Int, d < e → e < dp → k < pm e) ∧ pm d ≤ k ∧ (0 ≤ st k ∧ st k < R) ∧ 0 ≤ tg (st k) ∧ ii (tg (st k)) = 1099511627776)
theorem EQS.zero (ek g1 g2 : Int → Int) (R : Int) (tg bl ii st pa pm : Int → Int) : EQS ek g1 g2 R tg bl ii st pa pm 0 0 := ⟨fun i j a b c => by omega, fun k a b => by omega⟩
theorem EQS.pop {ek g1 g2 : Int → Int} {R sc dp : Int} {tg bl ii st pa pm : Int → Int} (h : EQS ek g1 g2 R tg bl ii st pa pm sc dp) (d0 : 0 < dp) (l : pm (dp - 1) ≤ sc) : EQS ek g1 g2 R tg bl ii st pa pm (pm (dp - 1)) (dp - 1) := ⟨fun i j a b c => h.1 i j a b (by omega), fun k k0 k1 => by
  obtain ⟨d, q1, q2, q3, q4, q5⟩ := h.2 k k0 (by omega)
  have : ¬ d = dp - 1 := fun z => by rw [z] at q4; omega
  exact ⟨d, ⟨q1.1, by omega⟩, q2, fun e e0 e1 => q3 e e0 (by omega), q4, q5⟩⟩
/-- the path goes on to b, under its IDOM -/
theorem EQS.push {ek g1 g2 : Int → Int} {R sc dp b : Int} {tg bl ii st pa pm : Int → Int} (h : EQS ek g1 g2 R tg bl ii st pa pm sc dp) (d0 : 0 ≤ dp) (t : dp = 0 ∨ DM ek g1 g2 (pa (dp - 1)) b) : EQS ek g1 g2 R tg bl ii st (zup pa dp b) (zup pm dp sc) sc (dp + 1) := ⟨fun i j a c d => by
  by_cases w : j = dp
  · by_cases z : i = dp
    · rw [w, z]; exact DM.refl
    · rw [w, zup_eq, zup_ne _ _ z]
      rcases t with t | t
      · omega
      · exact (h.1 i (dp - 1) a (by omega) (by omega)).trans t
  · rw [zup_ne _ _ w, zup_ne _ _ (by omega)]; exact h.1 i j a c (by omega), fun k k0 k1 => by
  obtain ⟨d, q1, q2, q3, q4, q5⟩ := h.2 k k0 k1
  refine ⟨d, ⟨q1.1, by omega⟩, by rw [zup_ne _ _ (by omega)]; exact q2, fun e e0 e1 => ?_, by rw [zup_ne _ _ (by omega)]; exact q4, q5⟩
  by_cases z : e = dp
  · rw [z, zup_eq]; exact k1
  · rw [zup_ne _ _ z]; exact q3 e e0 (by omega)⟩
/-- those that stand dominate b, and none is of b -/
theorem EQS.eqb {ek g1 g2 : Int → Int} {B P R sc dp b cs : Int} {T sd pl tg bl ii st pa pm : Int → Int} (C : EQC ek g1 g2 B P R T sd bl pl) (h : EQS ek g1 g2 R tg bl ii st pa pm sc dp) (t : dp = 0 ∨ (DM ek g1 g2 (pa (dp - 1)) b ∧ ¬ pa (dp - 1) = b)) (b0 : 0 ≤ b) (b1 : b < B) : EQB ek g1 g2 R tg bl ii st sc b cs := fun k k0 k1 => by
  obtain ⟨d, q1, q2, q3, q4, q5, q6, q7⟩ := h.2 k k0 k1
  rcases t with t | t
  · omega
  · have d1 := h.1 d (dp - 1) q1.1 (by omega) (by omega)
    refine ⟨q5, q6, q7, by rw [q2]; exact d1.trans t.1, fun e => ?_⟩
    exfalso
    rw [q2] at e
    rw [e] at d1
    have a := C.2.2 _ b b0 b1 t.1
    have c := C.2.2 b _ a.1.1 a.1.2 d1
    have := a.2.2.2 t.2
    omega
/-- what a block adds stands in it -/
def STX (bl st st' : Int → Int) (sc sc' b : Int) : Prop := sc ≤ sc' ∧ (∀ k : Int, k < sc → st' k = st k) ∧ (∀ k : Int, sc ≤ k → k < sc' → bl (st' k) = b)
theorem STX.refl (bl st : Int → Int) (sc b : Int) : STX bl st st sc sc b := ⟨Int.le_refl _, fun _ _ => rfl, fun k a c => by omega⟩
theorem STX.add {bl st st' : Int → Int} {sc sc' b s : Int} (h : STX bl st st' sc sc' b) (sb : bl s = b) : STX bl st (zup st' sc' s) sc (sc' + 1) b := ⟨by have := h.1; omega, fun k a => by rw [zup_ne _ _ (by have := h.1; omega)]; exact h.2.1 k a, fun k a c => by
  by_cases w : k = sc'
  · rw [w, zup_eq]; exact sb
  · rw [zup_ne _ _ w]; exact h.2.2 k a (by omega)⟩
theorem EQS.after {ek g1 g2 : Int → Int} {R sc sc' dp b cs : Int} {tg bl ii ii' st st' pa pm : Int → Int} (h : EQS ek g1 g2 R tg bl ii st pa pm sc (dp + 1)) (d0 : 0 ≤ dp) (pb : pa dp = b) (pmb : pm dp = sc) (x : STX bl st st' sc sc' b) (eb : EQB ek g1 g2 R tg bl ii' st' sc' b cs) : EQS ek g1 g2 R tg bl ii' st' pa pm sc' (dp + 1) := ⟨h.1, fun k k0 k1 => by
  have e := eb k k0 k1
  rcases Int.lt_or_le k sc with w | w
  · obtain ⟨d, q1, q2, q3, q4, q5, q6, q7⟩ := h.2 k k0 w
    have s := x.2.1 k w
    refine ⟨d, q1, by rw [s]; exact q2, q3, q4, by rw [s]; exact q5, by rw [s]; exact q6, e.2.2.1⟩
  · exact ⟨dp, by omega, by rw [pb]; exact x.2.2 k w k1, fun e' e0 e1 => by omega, by omega, e.1, e.2.1, e.2.2.1⟩⟩
/-- PHIs that are replaced are marked as gone -/
def EQP (P : Int) (pt ii pm : Int → Int) (d : Int) : Prop := ∀ i : Int, (0 ≤ i → i < d → ((ii (pt i) = 1099511627776 ∧ pm i = pt i) ∨ (¬ ii (pt i) = 1099511627776 ∧ pm i = -1))) ∧ (¬ (0 ≤ i ∧ i < d) → pm i = pt i) ∧ d ≤ P
theorem EQP.init {P : Int} (pt ii : Int → Int) (p : 0 ≤ P) : EQP P pt ii pt 0 := fun i => ⟨fun a b => by omega, fun _ => rfl, p⟩
theorem EQP.skip {P d : Int} {pt ii pm : Int → Int} (h : EQP P pt ii pm d) (l : d < P) (e : ii (pm d) = 1099511627776) : EQP P pt ii pm (d + 1) := fun i => ⟨fun a b => by
  by_cases c : i = d
  · have q := (h d).2.1 (by omega)
    rw [c]; rw [q] at e; exact Or.inl ⟨e, q⟩
  · exact (h i).1 a (by omega), fun w => (h i).2.1 (by omega), by omega⟩
theorem EQP.set {P d : Int} {pt ii pm : Int → Int} (h : EQP P pt ii pm d) (l : d < P) (e : ¬ ii (pm d) = 1099511627776) (d0 : 0 ≤ d) : EQP P pt ii (zup pm d (-1)) (d + 1) := fun i => ⟨fun a b => by
  by_cases c : i = d
  · have q := (h d).2.1 (by omega)
    rw [c, zup_eq]; rw [q] at e; exact Or.inr ⟨e, rfl⟩
  · rw [zup_ne _ _ c]; exact (h i).1 a (by omega), fun w => by rw [zup_ne _ _ (by omega)]; exact (h i).2.1 (by omega), by omega⟩
/-- EQUALS keep SSA -/
theorem SSV.equals {B R P C n m rd : Int} {rs op tg lf rt ek eu g1 g2 ps pr fs pt as ar bl sd pl ii o l2 r2 e2 ar2 pm rs' o' t' l' r' pt' as' fs' f g : Int → Int} (v : SSV B R P C rs op tg lf rt ek eu g1 g2 ps pr fs pt as ar) (k : EQK ek g1 g2 B P R rs fs ps pr as op tg pt lf rt eu ar bl sd pl) (all : ∀ b : Int, 0 ≤ b → b < B → 0 ≤ pl b ∧ pl b < rd) (h : EQO ek g1 g2 B P R op tg pt lf rt eu bl sd pl ii o l2 r2 e2 rd) (xa : ∀ i : Int, ((-2147483648 ≤ ar i ∧ ar i ≤ 4294968319) ∨ ar i = 1099511627776)) (sa : SBA B fs ps as ii ar ar2) (hp : EQP P pt ii pm P)
    (s : SWS o tg l2 r2 rs pm as fs o' t' l' r' rs' pt' as' fs' f g n R m P B) : SSV B n m C rs' o' t' l' r' ek e2 g1 g2 ps pr fs' pt' as' ar2 := by
  have v0 := v
  obtain ⟨v1, v2, v3, vr, va, v4, v5, v6, _⟩ := v
  obtain ⟨S, K, L, gr, nn, C9, hT, rc, fz, xl, xr, xe, tr, cp⟩ := k
  obtain ⟨h1, h2, h3, h4, h6⟩ := h
  have pc : ∀ t : Int, -P ≤ t → t < R → PRC pl bl rd (-1) (-P) t := fun t t0 t1 => by
    have b := C9.2.1 t t0 t1
    exact Or.inl (all _ b.1 b.2)
  have el : ∀ i : Int, 0 ≤ i → i < R → l2 i = rF ii (lf i) := fun i a b => (h2 i a b).1 (pc i (by omega) b)
  have er : ∀ i : Int, 0 ≤ i → i < R → r2 i = rF ii (rt i) := fun i a b => (h3 i a b).1 (pc i (by omega) b)
  have ee : ∀ c : Int, 0 ≤ c → c < B → e2 c = rF ii (eu c) := fun c a b => (h4 c a b).1 (all c a b)
  have ea : ∀ x i k : Int, 0 ≤ x → x < B → fs x ≤ i → i < fs (x + 1) → 0 ≤ k → k < ps (x + 1) - ps x → ar2 (as i + k) = rF ii (ar (as i + k)) := fun x i k x0 x1 a b c d => by
    rw [sa x i k x0 x1 a b c d]; exact h1.rs (xa _)
  have sty : ∀ x c i : Int, 0 ≤ c → c < B → ((-2147483648 ≤ x ∧ x ≤ 4294968319) ∨ x = 1099511627776) → UOK ek g1 g2 P R (TT tg pt P) sd bl x c i → UOK ek g1 g2 P R (TT tg pt P) sd bl (rF ii x) c i ∧ STY o pm sd P (rF ii x) := fun x c i c0 c1 o9 u => by
    have q := h1.use C9 o9 ⟨c0, c1⟩ u
    refine ⟨q.1, fun w => ?_⟩
    obtain ⟨⟨u1, u2⟩, _, _⟩ := q.1 w
    have no := q.2 w
    refine ⟨fun s0 => ?_, fun s0 => ?_⟩
    · have e : tg (sd (rF ii x - 4294967296)) = rF ii x - 4294967296 := by unfold TT at u2; rw [if_pos s0] at u2; exact u2
      rcases h6 _ s0 u1.2 with z | z
      · rw [z]; have := (vr _ s0 u1.2).1; omega
      · rw [e] at z; exact absurd no z.2.2
    · have e : pt (sd (rF ii x - 4294967296) + P) = rF ii x - 4294967296 := by unfold TT at u2; rw [if_neg (by omega)] at u2; exact u2
      rcases (hp (sd (rF ii x - 4294967296) + P)).1 (by omega) (by omega) with z | z
      · rw [z.2]; have := hT (sd (rF ii x - 4294967296) + P) (by omega) (by omega); omega
      · rw [e] at z; exact absurd no z.1
  have pr0 : ∀ x k : Int, 0 ≤ x → x < B → 0 ≤ k → k < ps (x + 1) - ps x → 0 ≤ pr (ps x + k) ∧ pr (ps x + k) < B := fun x k x0 x1 a b => (L.out x (ps x + k) x0 x1 (by omega) (by omega)).1
  have sik : SIK ek g1 g2 B P R fs ps pr as o tg pt pm l2 r2 e2 ar2 bl sd := by
    refine ⟨S.num, fun i i0 i1 e => ?_, fun i i0 i1 _ => ?_, fun b b0 b1 => ?_, fun x i k x0 x1 i0 i1 _ k0 k1 => ?_⟩
    · rcases (hp i).1 i0 i1 with q | q
      · exact q.2
      · exact absurd q.2 e
    · have br := (K.rbl i i0 i1).1
      rw [el i i0 i1, er i i0 i1]
      exact ⟨(sty _ _ _ br.1 br.2 (xl i) (S.row i i0 i1).1).1, (sty _ _ _ br.1 br.2 (xr i) (S.row i i0 i1).2).1⟩
    · rw [ee b b0 b1]; exact (sty _ _ _ b0 b1 (xe b) (S.fin b b0 b1)).1
    · rw [ea x i k x0 x1 i0 i1 k0 k1]
      have p9 := pr0 x k x0 x1 k0 k1
      exact (sty _ _ _ p9.1 p9.2 (xa _) (S.arg _ x _ x0 x1 ⟨i, k, i0, i1, k0, k1, rfl, rfl⟩)).1
  obtain ⟨bl', sd', s1, s2, s3⟩ := sik.sweep s nn.2.2 nn.2.1 (fun i i0 i1 _ => by
    have br := (K.rbl i i0 i1).1
    rw [el i i0 i1, er i i0 i1]
    exact ⟨(sty _ _ _ br.1 br.2 (xl i) (S.row i i0 i1).1).2, (sty _ _ _ br.1 br.2 (xr i) (S.row i i0 i1).2).2⟩) (fun b b0 b1 => by
    rw [ee b b0 b1]; exact (sty _ _ _ b0 b1 (xe b) (S.fin b b0 b1)).2) (fun x i k x0 x1 i0 i1 _ k0 k1 => by
    rw [ea x i k x0 x1 i0 i1 k0 k1]
    have p9 := pr0 x k x0 x1 k0 k1
    exact (sty _ _ _ p9.1 p9.2 (xa _) (S.arg _ x _ x0 x1 ⟨i, k, i0, i1, k0, k1, rfl, rfl⟩)).2)
  have M1 := KB.ms2 s.k1 s.b1 v1.2.1
  have M2 := KB.ms2 s.k2 s.b2 v1.2.2.1
  have bk := BLK.sweep K s v1.2.1 v1.2.2.1 M1.z M2.z s2 s3
  refine SSV.swept (k := P) v0 ⟨fun i => ?_, fun i e => (hp i).2.1 (by omega)⟩ (fun i a b => ?_) (fun i a b e => by rw [el i a b]; exact rF_non e) (fun i a b e => by rw [er i a b]; exact rF_non e) (fun i a b e => by rw [el i a b]; exact rF_nno e) (fun b b0 b1 e => by rw [ee b b0 b1]; exact rF_nno ((v3 b b0 b1).2.1 e)) (fun q x p x0 x1 sl => ?_) s ⟨bl', sd', bk.2.2, s1⟩
  · by_cases w : 0 ≤ i ∧ i < P
    · rcases (hp i).1 w.1 w.2 with q | q
      · exact Or.inr q.2
      · exact Or.inl q.2
    · exact Or.inr ((hp i).2.1 w)
  · rcases h6 i a b with q | q
    · exact Or.inl q
    · exact Or.inr ⟨q.1, q.2.1⟩
  · have w := va q x p x0 x1 sl
    obtain ⟨i, k, a1, a2, a3, a4, a5, a6⟩ := sl
    rw [a5, ea x i k x0 x1 a1 a2 a3 a4]; rw [a5] at w; exact rF_nno w
/-- what the pass needs, of a function in SSA -/
theorem SSV.eqk {B R P C rd : Int} {rs op tg lf rt ek eu g1 g2 ps pr fs pt as ar po bp id pl od : Int → Int} (v : SSV B R P C rs op tg lf rt ek eu g1 g2 ps pr fs pt as ar) (f : FW ek g1 g2 B po bp rd) (d : DT ek g1 g2 B ps pr po bp rd id) (o : OD B po id pl od rd) (xl : ∀ i : Int, ((-2147483648 ≤ lf i ∧ lf i ≤ 4294968319) ∨ lf i = 1099511627776)) (xr : ∀ i : Int, ((-2147483648 ≤ rt i ∧ rt i ≤ 4294968319) ∨ rt i = 1099511627776)) (xe : ∀ i : Int, ((-2147483648 ≤ eu i ∧ eu i ≤ 4294968319) ∨ eu i = 1099511627776)) (xt : ∀ i : Int, -1 ≤ tg i ∧ tg i ≤ 1023) (xp : ∀ i : Int, -1 ≤ pt i ∧ pt i ≤ 1023) : ∃ bl sd : Int → Int, EQK ek g1 g2 B P R rs fs ps pr as op tg pt lf rt eu ar bl sd pl := by
  obtain ⟨v1, v2, v3, vr, va, v4, v5, v6, bl, sd, K, S⟩ := v
  obtain ⟨c1, c2, c3, c4, c5, c6, c7, c8⟩ := v1
  have gr := GR.of c5
  have P0 : 0 ≤ P := by have := c3.top 0 (by omega) (by omega); have := c3.z; omega
  have R0 : 0 ≤ R := by have := c2.top 0 (by omega) (by omega); have := c2.z; omega
  have po0 : ∀ b : Int, 0 ≤ b → b < B → 0 ≤ po b := fun b b0 b1 => by
    obtain ⟨k, r⟩ := v5 b b0 b1
    exact (r.re0 f gr).2
  refine ⟨bl, sd, S, K, c6, gr, ⟨c1, R0, P0⟩, ⟨S.num, fun s a b => ?_, fun a b b0 b1 h => h.pl f d o b0 b1 (po0 b b0 b1)⟩, fun i a b => ⟨c7 i a b, (xp i).2⟩, fun b b0 b1 => ?_, ⟨c3.z, v4⟩, xl, xr, xe, fun i => (xt i).2, fun i a b => (vr i a b).2.2⟩
  · rcases Int.lt_or_le s 0 with w | w
    · exact (K.pbl s a w).1
    · exact (K.rbl s w b).1
  · obtain ⟨k, n, r⟩ := v5 b b0 b1
    exact ⟨n, k, r⟩
theorem EQI.rows {ek g1 g2 : Int → Int} {B P R n b m sc : Int} {rs fs ps pr as op tg pt lf rt eu ar bl sd pl ii o l' r' e' st : Int → Int} (k : EQK ek g1 g2 B P R rs fs ps pr as op tg pt lf rt eu ar bl sd pl) (h : EQI ek g1 g2 B P R op tg pt lf rt eu bl sd pl ii o l' r' e' st sc n b (m - P)) (b0 : 0 ≤ b) (b1 : b < B) (e : m = fs (b + 1)) : EQI ek g1 g2 B P R op tg pt lf rt eu bl sd pl ii o l' r' e' st sc n b (rs b) := by
  subst e
  obtain ⟨S, K, L, gr, nn, _⟩ := k
  have fm := K.fm b b0 b1
  have rm := K.rm b b0 b1
  refine h.jump nn.2.2 (fun s s0 s1 e => ?_)
  rcases Int.lt_or_le s 0 with w | w
  · have q := K.pbl s s0 w
    rw [e] at q
    exact ⟨fun _ => by omega, fun _ => by omega⟩
  · have q := K.rbl s w s1
    rw [e] at q
    exact ⟨fun _ => by omega, fun _ => by omega⟩
theorem EQI.fin' {ek g1 g2 : Int → Int} {B P R n b cs sc y : Int} {rs fs ps pr as op tg pt lf rt eu ar bl sd pl ii o l' r' e' st : Int → Int} (k : EQK ek g1 g2 B P R rs fs ps pr as op tg pt lf rt eu ar bl sd pl) (h : EQI ek g1 g2 B P R op tg pt lf rt eu bl sd pl ii o l' r' e' st sc n b cs) (inj : ∀ x : Int, 0 ≤ x → x < B → pl x = n → x = b) (b0 : 0 ≤ b) (b1 : b < B) (pb : pl b = n) (n0 : 0 ≤ n) (e : rs (b + 1) ≤ cs) (ey : y = rsI ii 1000 (e' b)) : EQO ek g1 g2 B P R op tg pt lf rt eu bl sd pl ii o l' r' (zup e' b y) (n + 1) := by
  have k0 := k
  obtain ⟨S, K, L, gr, nn, _⟩ := k
  have rm := K.rm b b0 b1
  refine h.fin k0 inj b0 b1 pb n0 (fun s s0 s1 w => ?_) ey
  rcases Int.lt_or_le s 0 with z | z
  · omega
  · have q := K.rbl s z s1
    rw [w] at q; omega
/-- operands looked at: the one that isn't the PHI itself -/
def VPK (as ar : Int → Int) (i it on k : Int) : Prop := ∀ j : Int, 0 ≤ j → j < k → ar (as i + j) = on ∨ ar (as i + j) = it
theorem VPK.init (as ar : Int → Int) (i it on : Int) : VPK as ar i it on 0 := fun j a b => by omega
theorem VPK.skip {as ar : Int → Int} {i it on k : Int} (h : VPK as ar i it on k) (e : ar (as i + k) = on ∨ ar (as i + k) = it) : VPK as ar i it on (k + 1) := fun j a b => by
  by_cases c : j = k
  · rw [c]; exact e
  · exact h j a (by omega)
theorem VPK.set {as ar : Int → Int} {i it on on' k n : Int} (h : VPK as ar i it on k) (z : on = 1099511627776) (nn : ∀ j : Int, 0 ≤ j → j < n → ¬ ar (as i + j) = 1099511627776) (l : k ≤ n) (e : ar (as i + k) = on') : VPK as ar i it on' (k + 1) := fun j a b => by
  by_cases c : j = k
  · rw [c]; exact Or.inl e
  · rcases h j a (by omega) with q | q
    · rw [z] at q; exact absurd q (nn j a (by omega))
    · exact Or.inr q
/-- a ROW stands for its like, or is replaced by one that stands -/
def RBL (op tg ii st o' ii' st' : Int → Int) (sc sc' i : Int) : Prop := ((o' = op ∧ ii' = ii) ∧ st' = zup st sc i ∧ sc' = sc + 1) ∨ (o' = zup op i (-1) ∧ (∃ j : Int, 0 ≤ j ∧ j < sc ∧ ii' = zup ii (tg i) (4294967296 + tg (st j))) ∧ st' = st ∧ sc' = sc)
theorem RBL.sc {op tg ii st o' ii' st' : Int → Int} {sc sc' i : Int} (h : RBL op tg ii st o' ii' st' sc sc' i) : sc ≤ sc' ∧ sc' ≤ sc + 1 := by
  rcases h with ⟨_, _, e⟩ | ⟨_, _, _, e⟩ <;> rw [e] <;> exact ⟨by omega, by omega⟩
theorem DT.zero {ek g1 g2 ps pr po bp id : Int → Int} {B rd : Int} (d : DT ek g1 g2 B ps pr po bp rd id) : id 0 = -1 := by
  obtain ⟨id0, e, _⟩ := d
  rw [e, zup_eq]
/-- the path's last is the IDOM -/
theorem idom_dm {ek g1 g2 ps pr po bp id pl od : Int → Int} {B rd b p : Int} (f : FW ek g1 g2 B po bp rd) (gr : GR ek g1 g2 B) (L : PL ek g1 g2 B ps pr) (d : DT ek g1 g2 B ps pr po bp rd id) (o : OD B po id pl od rd) (b0 : 0 ≤ b) (b1 : b < B) (pb : 0 ≤ pl b) (p0 : 0 ≤ p) (e : p = id b) : DM ek g1 g2 p b ∧ ¬ p = b := by
  have bz : ¬ b = 0 := fun z => by rw [z, d.zero] at e; omega
  have q := o.anc b (by omega) b1 pb
  refine ⟨d.dom f gr L (by rw [e]; exact Anc.up bz q.1 Anc.refl), fun z => ?_⟩
  rw [← e, z] at q; omega
