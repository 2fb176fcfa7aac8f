/-- every way from block 0 to b goes through a -/
def DM (ek g1 g2 : Int → Int) (a b : Int) : Prop := ∀ k : Nat, ¬ RA ek g1 g2 (fun _ => 0) a k b
theorem RA.plain {ek g1 g2 po : Int → Int} {c b : Int} {k : Nat} (h : RA ek g1 g2 po c k b) : ∃ k' : Nat, RA ek g1 g2 (fun _ => 0) c k' b := by
  induction h using RA.ind with
  | start k n => exact ⟨0, RA.start 0 n⟩
  | fwd r e l n ih => obtain ⟨k', h⟩ := ih; exact ⟨k' + 1, RA.back h e n⟩
  | back r e n ih => obtain ⟨k', h⟩ := ih; exact ⟨k' + 1, RA.back h e n⟩
theorem DM.refl {ek g1 g2 : Int → Int} {a : Int} : DM ek g1 g2 a a := fun k r => r.ne rfl
theorem DM.trans {ek g1 g2 : Int → Int} {a b c : Int} (h1 : DM ek g1 g2 a b) (h2 : DM ek g1 g2 b c) : DM ek g1 g2 a c := by
  intro k r
  rcases r.split b with x | x
  · exact h2 k x
  · exact h1 k x
theorem RA.re0 {ek g1 g2 po po' bp : Int → Int} {B rd c b : Int} {k : Nat} (f : FW ek g1 g2 B po bp rd) (g : GR ek g1 g2 B) (h : RA ek g1 g2 po' c k b) : (0 ≤ b ∧ b < B) ∧ 0 ≤ po b := by
  have st : ∀ p b : Int, ((0 ≤ p ∧ p < B) ∧ 0 ≤ po p) → ED ek g1 g2 p b → (0 ≤ b ∧ b < B) ∧ 0 ≤ po b := by
    intro p b x e
    refine ⟨g.goal p b x.1.1 x.1.2 e, ?_⟩
    obtain ⟨i, i0, i1, rfl⟩ := e
    exact f.clo p i x.1.1 x.1.2 x.2 i0 i1
  induction h using RA.ind with
  | start k n => have := f.zero; have := f.r1; exact ⟨⟨by omega, by omega⟩, by omega⟩
  | fwd r e l n ih => exact st _ _ ih e
  | back r e n ih => exact st _ _ ih e
/-- who hangs from a in the tree is dominated by a -/
theorem DT.dom {ek g1 g2 ps pr po bp id' : Int → Int} {B rd : Int} (f : FW ek g1 g2 B po bp rd) (g : GR ek g1 g2 B) (L : PL ek g1 g2 B ps pr) (d : DT ek g1 g2 B ps pr po bp rd id') {a b : Int} (h : Anc id' a b) : DM ek g1 g2 a b := by
  obtain ⟨id, e, I, fu, fx, lo⟩ := d
  have hA : Anc id a b := by
    clear fx lo fu
    induction h using Anc.ind with
    | refl => exact Anc.refl
    | up n p q ih =>
      rename_i b
      rw [e, zup_ne _ _ n] at p ih
      exact Anc.up n p ih
  have key : ∀ (k : Nat) (c : Int), RA ek g1 g2 (fun _ => 0) a k c → ¬ Anc id a c := by
    intro k c r
    induction r using RA.ind with
    | start k n =>
      intro w
      rcases w.cas with x | x
      · exact n x.symm
      · exact x.1 rfl
    | fwd r e2 l n ih => omega
    | back r e2 n ih =>
      rename_i k p c
      intro w
      rcases w.cas with x | x
      · exact n x
      · have rp := r.re0 f g
        apply ih
        have rc : (0 ≤ c ∧ c < B) := g.goal p c rp.1.1 rp.1.2 e2
        have pc : 0 ≤ po c := by
          obtain ⟨i, i0, i1, i2⟩ := e2
          rw [← i2]; exact f.clo p i rp.1.1 rp.1.2 rp.2 i0 i1
        have bc := f.pop c rc.1 rc.2 pc
        have jr : po c ≤ rd - 2 := by
          rcases Int.lt_or_le (po c) (rd - 1) with y | y
          · omega
          · exfalso
            have : po c = rd - 1 := by omega
            rw [this, f.last] at bc
            exact x.1 bc.2.symm
        have m := fx (po c) pc (by omega) jr
        rw [bc.2] at m
        obtain ⟨j, j0, j1, j2⟩ := L.edge rp.1.1 rp.1.2 e2
        have ip : 0 ≤ id p := by
          have q := f.pop p rp.1.1 rp.1.2 rp.2
          have := fu (po p) rp.2 q.1
          rw [q.2] at this; exact this
        have := (m.some x.2.1).2.1 j j0 j1 (by rw [j2]; exact ip)
        rw [j2] at this
        exact x.2.2.trans this
  exact fun k r => key k b r hA
/-- an operand that stands in block b in front of place i: what it names is set, and set before -/
def UOK (ek g1 g2 : Int → Int) (P R : Int) (T sd bl : Int → Int) (x b i : Int) : Prop := isg x → ((-P ≤ sd (x - 4294967296) ∧ sd (x - 4294967296) < R) ∧ T (sd (x - 4294967296)) = x - 4294967296) ∧ DM ek g1 g2 (bl (sd (x - 4294967296))) b ∧ (bl (sd (x - 4294967296)) = b → sd (x - 4294967296) < i)
/-- each register is set once, and before it is used -/
abbrev SI (ek g1 g2 : Int → Int) (B P R : Int) (fs ps pr as tg pt lf rt eu ar bl sd : Int → Int) : Prop := (∀ s : Int, -P ≤ s → s < R → 0 ≤ TT tg pt P s → sd (TT tg pt P s) = s) ∧ (∀ i : Int, 0 ≤ i → i < R → UOK ek g1 g2 P R (TT tg pt P) sd bl (lf i) (bl i) i ∧ UOK ek g1 g2 P R (TT tg pt P) sd bl (rt i) (bl i) i) ∧ (∀ b : Int, 0 ≤ b → b < B → UOK ek g1 g2 P R (TT tg pt P) sd bl (eu b) b R) ∧ (∀ q x p : Int, 0 ≤ x → x < B → SLT fs ps pr as q x p → UOK ek g1 g2 P R (TT tg pt P) sd bl (ar q) p R)
theorem SI.num {ek g1 g2 : Int → Int} {B P R : Int} {fs ps pr as tg pt lf rt eu ar bl sd : Int → Int} (h : SI ek g1 g2 B P R fs ps pr as tg pt lf rt eu ar bl sd) : ∀ s : Int, -P ≤ s → s < R → 0 ≤ TT tg pt P s → sd (TT tg pt P s) = s := h.1
theorem SI.row {ek g1 g2 : Int → Int} {B P R : Int} {fs ps pr as tg pt lf rt eu ar bl sd : Int → Int} (h : SI ek g1 g2 B P R fs ps pr as tg pt lf rt eu ar bl sd) : ∀ i : Int, 0 ≤ i → i < R → UOK ek g1 g2 P R (TT tg pt P) sd bl (lf i) (bl i) i ∧ UOK ek g1 g2 P R (TT tg pt P) sd bl (rt i) (bl i) i := h.2.1
theorem SI.fin {ek g1 g2 : Int → Int} {B P R : Int} {fs ps pr as tg pt lf rt eu ar bl sd : Int → Int} (h : SI ek g1 g2 B P R fs ps pr as tg pt lf rt eu ar bl sd) : ∀ b : Int, 0 ≤ b → b < B → UOK ek g1 g2 P R (TT tg pt P) sd bl (eu b) b R := h.2.2.1
theorem SI.arg {ek g1 g2 : Int → Int} {B P R : Int} {fs ps pr as tg pt lf rt eu ar bl sd : Int → Int} (h : SI ek g1 g2 B P R fs ps pr as tg pt lf rt eu ar bl sd) : ∀ q x p : Int, 0 ≤ x → x < B → SLT fs ps pr as q x p → UOK ek g1 g2 P R (TT tg pt P) sd bl (ar q) p R := h.2.2.2
/-- what the renaming gives, where every block is come to -/
theorem SI.of {ek g1 g2 ps pr po bp id pl od fs as bl tg pt lf rt eu ar dn sd db : Int → Int} {B P R rd g : Int} (f : FW ek g1 g2 B po bp rd) (gr : GR ek g1 g2 B) (L : PL ek g1 g2 B ps pr) (d : DT ek g1 g2 B ps pr po bp rd id) (o : OD B po id pl od rd) (hP : 0 ≤ P) (all : ∀ b : Int, 0 ≤ b → b < B → 0 ≤ po b) (blr : ∀ s : Int, -P ≤ s → s < R → 0 ≤ bl s ∧ bl s < B) (h : RN B P R fs ps pr as bl id pl tg pt lf rt eu ar dn sd db g rd (-1) (-P)) : SI ek g1 g2 B P R fs ps pr as tg pt lf rt eu ar bl sd := by
  have pl0 : ∀ b : Int, 0 ≤ b → b < B → 0 ≤ pl b ∧ pl b < rd := by
    intro b a c
    have q := o.rch b a c (all b a c)
    exact ⟨q, (o.plc b a c q).1⟩
  have dn1 : ∀ s : Int, -P ≤ s → s < R → dn s = 1 := by
    intro s a c
    have br := blr s a c
    exact (h.dnd s a c).mpr (Or.inl (pl0 _ br.1 br.2))
  have use : ∀ x b i : Int, RV g id db x b → (isg x → db (x - 4294967296) = b → sd (x - 4294967296) < i) → UOK ek g1 g2 P R (TT tg pt P) sd bl x b i := by
    intro x b i r o2 w
    have q := r w
    have n := h.st.inv _ q.1 q.2.1
    refine ⟨⟨n.1, n.2.2.2⟩, ?_, fun e => o2 w (by rw [n.2.2.1]; exact e)⟩
    rw [← n.2.2.1]
    exact d.dom f gr L q.2.2
  refine ⟨fun s a c e => (h.st.num s a c (dn1 s a c) e).2.1, fun i a c => ?_, fun b a c => ?_, fun q x p a c s => ?_⟩
  · have r := h.rowu i a c (dn1 i (by omega) c)
    exact ⟨use _ _ _ r.1.1 r.1.2, use _ _ _ r.2.1 r.2.2⟩
  · have q := pl0 b a c
    refine use _ _ _ (h.endu b a c q.1 q.2) (fun w _ => ?_)
    have r := (h.endu b a c q.1 q.2) w
    exact (h.st.inv _ r.1 r.2.1).1.2
  · have p0 : 0 ≤ p ∧ p < B := by
      obtain ⟨i, k', _, _, a1, a2, _, e⟩ := s
      have := (L.out x (ps x + k') a c (by omega) (by omega)).1
      rw [e] at this; exact this
    have q' := pl0 p p0.1 p0.2
    refine use _ _ _ (h.argu q x p a c s q'.1 q'.2) (fun w _ => ?_)
    have r := (h.argu q x p a c s q'.1 q'.2) w
    exact (h.st.inv _ r.1 r.2.1).1.2
/-- the same, of ROWs and PHIs that aren't marked as gone -/
abbrev SIK (ek g1 g2 : Int → Int) (B P R : Int) (fs ps pr as o tg pt pm lf rt eu ar bl sd : Int → Int) : Prop := (∀ s : Int, -P ≤ s → s < R → 0 ≤ TT tg pt P s → sd (TT tg pt P s) = s) ∧ (∀ i : Int, 0 ≤ i → i < P → ¬ pm i = -1 → pm i = pt i) ∧ (∀ i : Int, 0 ≤ i → i < R → ¬ o i = -1 → UOK ek g1 g2 P R (TT tg pt P) sd bl (lf i) (bl i) i ∧ UOK ek g1 g2 P R (TT tg pt P) sd bl (rt i) (bl i) i) ∧ (∀ b : Int, 0 ≤ b → b < B → UOK ek g1 g2 P R (TT tg pt P) sd bl (eu b) b R) ∧ (∀ x i k : Int, 0 ≤ x → x < B → fs x ≤ i → i < fs (x + 1) → ¬ pm i = -1 → 0 ≤ k → k < ps (x + 1) - ps x → UOK ek g1 g2 P R (TT tg pt P) sd bl (ar (as i + k)) (pr (ps x + k)) R)
theorem SIK.num {ek g1 g2 : Int → Int} {B P R : Int} {fs ps pr as o tg pt pm lf rt eu ar bl sd : Int → Int} (h : SIK ek g1 g2 B P R fs ps pr as o tg pt pm lf rt eu ar bl sd) : ∀ s : Int, -P ≤ s → s < R → 0 ≤ TT tg pt P s → sd (TT tg pt P s) = s := h.1
theorem SIK.pmk {ek g1 g2 : Int → Int} {B P R : Int} {fs ps pr as o tg pt pm lf rt eu ar bl sd : Int → Int} (h : SIK ek g1 g2 B P R fs ps pr as o tg pt pm lf rt eu ar bl sd) : ∀ i : Int, 0 ≤ i → i < P → ¬ pm i = -1 → pm i = pt i := h.2.1
theorem SIK.row {ek g1 g2 : Int → Int} {B P R : Int} {fs ps pr as o tg pt pm lf rt eu ar bl sd : Int → Int} (h : SIK ek g1 g2 B P R fs ps pr as o tg pt pm lf rt eu ar bl sd) : ∀ i : Int, 0 ≤ i → i < R → ¬ o i = -1 → UOK ek g1 g2 P R (TT tg pt P) sd bl (lf i) (bl i) i ∧ UOK ek g1 g2 P R (TT tg pt P) sd bl (rt i) (bl i) i := h.2.2.1
theorem SIK.fin {ek g1 g2 : Int → Int} {B P R : Int} {fs ps pr as o tg pt pm lf rt eu ar bl sd : Int → Int} (h : SIK ek g1 g2 B P R fs ps pr as o tg pt pm lf rt eu ar bl sd) : ∀ b : Int, 0 ≤ b → b < B → UOK ek g1 g2 P R (TT tg pt P) sd bl (eu b) b R := h.2.2.2.1
theorem SIK.arg {ek g1 g2 : Int → Int} {B P R : Int} {fs ps pr as o tg pt pm lf rt eu ar bl sd : Int → Int} (h : SIK ek g1 g2 B P R fs ps pr as o tg pt pm lf rt eu ar bl sd) : ∀ x i k : Int, 0 ≤ x → x < B → fs x ≤ i → i < fs (x + 1) → ¬ pm i = -1 → 0 ≤ k → k < ps (x + 1) - ps x → UOK ek g1 g2 P R (TT tg pt P) sd bl (ar (as i + k)) (pr (ps x + k)) R := h.2.2.2.2
/-- what an operand names stays -/
def STY (o pm sd : Int → Int) (P x : Int) : Prop := isg x → (0 ≤ sd (x - 4294967296) → ¬ o (sd (x - 4294967296)) = -1) ∧ (sd (x - 4294967296) < 0 → ¬ pm (sd (x - 4294967296) + P) = -1)
theorem SI.mark {ek g1 g2 : Int → Int} {B P R : Int} {fs ps pr as tg pt lf rt eu ar bl sd : Int → Int} (h : SI ek g1 g2 B P R fs ps pr as tg pt lf rt eu ar bl sd) (o pm : Int → Int) (e : ∀ i : Int, 0 ≤ i → i < P → ¬ pm i = -1 → pm i = pt i) : SIK ek g1 g2 B P R fs ps pr as o tg pt pm lf rt eu ar bl sd :=
  ⟨h.num, e, fun i a b _ => h.row i a b, h.fin, fun x i k a b c d _ f g => h.arg _ x _ a b ⟨i, k, c, d, f, g, rfl, rfl⟩⟩
/-- taking out what is marked as gone -/
theorem SIK.sweep {ek g1 g2 : Int → Int} {B P R : Int} {rs fs ps pr as o tg pt pm lf rt eu ar bl sd o' tg' lf' rt' rs' pt' as' fs' f g : Int → Int} {n m : Int} (h : SIK ek g1 g2 B P R fs ps pr as o tg pt pm lf rt eu ar bl sd) (s : SWS o tg lf rt rs pm as fs o' tg' lf' rt' rs' pt' as' fs' f g n R m P B) (hP : 0 ≤ P) (hR : 0 ≤ R)
    (kr : ∀ i : Int, 0 ≤ i → i < R → ¬ o i = -1 → STY o pm sd P (lf i) ∧ STY o pm sd P (rt i)) (ke : ∀ b : Int, 0 ≤ b → b < B → STY o pm sd P (eu b))
    (ka : ∀ x i k : Int, 0 ≤ x → x < B → fs x ≤ i → i < fs (x + 1) → ¬ pm i = -1 → 0 ≤ k → k < ps (x + 1) - ps x → STY o pm sd P (ar (as i + k))) :
    ∃ bl' sd' : Int → Int, SI ek g1 g2 B m n fs' ps pr as' tg' pt' lf' rt' eu ar bl' sd' ∧ (∀ i : Int, 0 ≤ i → i < n → bl' i = bl (f i)) ∧ (∀ i : Int, 0 ≤ i → i < m → bl' (i - m) = bl (g i - P)) := by
  -- where an old site has gone
  have exn : ∀ t : Int, ∃ u : Int, (0 ≤ t → t < R → ¬ o t = -1 → (0 ≤ u ∧ u < n ∧ f u = t)) ∧ (-P ≤ t → t < 0 → ¬ pm (t + P) = -1 → (-m ≤ u ∧ u < 0 ∧ g (u + m) = t + P)) := by
    intro t
    rcases Int.lt_or_le t 0 with w | w
    · by_cases q : -P ≤ t ∧ ¬ pm (t + P) = -1
      · obtain ⟨i, i0, i1, i2⟩ := s.k2.ont (t + P) (by omega) (by omega) q.2
        exact ⟨i - m, fun _ => by omega, fun _ _ _ => ⟨by omega, by omega, by rw [show i - m + m = i by omega]; exact i2⟩⟩
      · exact ⟨0, fun _ => by omega, fun a b c => absurd ⟨a, c⟩ q⟩
    · by_cases q : t < R ∧ ¬ o t = -1
      · obtain ⟨i, i0, i1, i2⟩ := s.k1.ont t w q.1 q.2
        exact ⟨i, fun _ _ _ => ⟨i0, i1, i2⟩, fun a b c => by omega⟩
      · exact ⟨0, fun a b c => absurd ⟨b, c⟩ q, fun a b c => by omega⟩
  obtain ⟨nw, hnw⟩ : ∃ nw : Int → Int, ∀ t : Int, (0 ≤ t → t < R → ¬ o t = -1 → (0 ≤ nw t ∧ nw t < n ∧ f (nw t) = t)) ∧ (-P ≤ t → t < 0 → ¬ pm (t + P) = -1 → (-m ≤ nw t ∧ nw t < 0 ∧ g (nw t + m) = t + P)) := ⟨fun t => Classical.choose (exn t), fun t => Classical.choose_spec (exn t)⟩
  obtain ⟨od, hod⟩ : ∃ od : Int → Int, ∀ u : Int, od u = (if 0 ≤ u then f u else g (u + m) - P) := ⟨fun u => if 0 ≤ u then f u else g (u + m) - P, fun _ => rfl⟩
  have n0 := s.k1.n0
  have m0 := s.k2.n0
  have odr : ∀ i : Int, 0 ≤ i → od i = f i := fun i a => by rw [hod, if_pos a]
  have odp : ∀ u : Int, u < 0 → od u = g (u + m) - P := fun u a => by rw [hod, if_neg (by omega)]
  have tt : ∀ u : Int, -m ≤ u → u < n → TT tg' pt' m u = TT tg pt P (od u) := by
    intro u a b
    unfold TT
    rcases Int.lt_or_le u 0 with w | w
    · have dm := s.k2.dom (u + m) (by omega) (by omega)
      rw [if_neg (by omega), odp u w, if_neg (by omega), show g (u + m) - P + P = g (u + m) by omega]
      rw [s.cp.1 (u + m) (by omega) (by omega)]
      exact h.pmk _ dm.1.1 dm.1.2 dm.2
    · have dm := s.k1.dom u w b
      rw [if_pos w, odr u w, if_pos dm.1.1]
      exact s.ct.1 u w b
  have finj : ∀ i j : Int, 0 ≤ i → i < n → 0 ≤ j → j < n → f i = f j → i = j := by
    intro i j a b c d e
    rcases Int.lt_trichotomy i j with w | w | w
    · have := s.k1.mon i j a w d; omega
    · exact w
    · have := s.k1.mon j i c w b; omega
  have ginj : ∀ i j : Int, 0 ≤ i → i < m → 0 ≤ j → j < m → g i = g j → i = j := by
    intro i j a b c d e
    rcases Int.lt_trichotomy i j with w | w | w
    · have := s.k2.mon i j a w d; omega
    · exact w
    · have := s.k2.mon j i c w b; omega
  have nwod : ∀ u : Int, -m ≤ u → u < n → nw (od u) = u := by
    intro u a b
    rcases Int.lt_or_le u 0 with w | w
    · have dm := s.k2.dom (u + m) (by omega) (by omega)
      have q := (hnw (od u)).2 (by rw [odp u w]; omega) (by rw [odp u w]; omega) (by rw [odp u w, show g (u + m) - P + P = g (u + m) by omega]; exact dm.2)
      have e : g (nw (od u) + m) = g (u + m) := by rw [q.2.2, odp u w]; omega
      have := ginj _ _ (by omega) (by omega) (by omega) (by omega) e
      omega
    · have dm := s.k1.dom u w b
      have q := (hnw (od u)).1 (by rw [odr u w]; omega) (by rw [odr u w]; omega) (by rw [odr u w]; exact dm.2)
      exact finj _ _ q.1 q.2.1 w b (by rw [q.2.2, odr u w])
  have odnw : ∀ t : Int, -P ≤ t → t < R → ((0 ≤ t → ¬ o t = -1) ∧ (t < 0 → ¬ pm (t + P) = -1)) → (-m ≤ nw t ∧ nw t < n) ∧ od (nw t) = t ∧ (0 ≤ t → 0 ≤ nw t) ∧ (t < 0 → nw t < 0) := by
    intro t a b c
    rcases Int.lt_or_le t 0 with w | w
    · have q := (hnw t).2 a w (c.2 w)
      exact ⟨by omega, by rw [odp _ q.2.1, q.2.2]; omega, fun x => by omega, fun _ => q.2.1⟩
    · have q := (hnw t).1 w b (c.1 w)
      exact ⟨by omega, by rw [odr _ q.1]; exact q.2.2, fun _ => q.1, fun x => by omega⟩
  obtain ⟨bl', hbl'⟩ : ∃ bl' : Int → Int, ∀ u : Int, bl' u = bl (od u) := ⟨fun u => bl (od u), fun _ => rfl⟩
  obtain ⟨sd', hsd'⟩ : ∃ sd' : Int → Int, ∀ v : Int, sd' v = nw (sd v) := ⟨fun v => nw (sd v), fun _ => rfl⟩
  have use : ∀ x b i i' : Int, UOK ek g1 g2 P R (TT tg pt P) sd bl x b i → (isg x → (0 ≤ sd (x - 4294967296) → ¬ o (sd (x - 4294967296)) = -1) ∧ (sd (x - 4294967296) < 0 → ¬ pm (sd (x - 4294967296) + P) = -1)) → (∀ t : Int, -P ≤ t → t < i → (-m ≤ nw t ∧ nw t < n) → od (nw t) = t → (0 ≤ t → 0 ≤ nw t) → (t < 0 → nw t < 0) → nw t < i') → UOK ek g1 g2 m n (TT tg' pt' m) sd' bl' x b i' := by
    intro x b i i' u c ord w
    obtain ⟨⟨u1, u2⟩, u3, u4⟩ := u w
    have q := odnw _ u1.1 u1.2 (c w)
    refine ⟨⟨by rw [hsd']; exact q.1, ?_⟩, ?_, ?_⟩
    · rw [hsd', tt _ q.1.1 q.1.2, q.2.1]; exact u2
    · rw [hsd', hbl', q.2.1]; exact u3
    · rw [hsd', hbl', q.2.1]
      intro e
      exact ord _ u1.1 (u4 e) q.1 q.2.1 q.2.2.1 q.2.2.2
  refine ⟨bl', sd', ⟨fun u a b e => ?_, fun i a b => ?_, fun b a c => ?_, fun q x p a b sl => ?_⟩, fun i a b => ?_, fun i a b => ?_⟩
  · rw [hsd']
    rw [tt u a b] at e ⊢
    have odk : -P ≤ od u ∧ od u < R := by
      rcases Int.lt_or_le u 0 with w | w
      · have dm := s.k2.dom (u + m) (by omega) (by omega)
        rw [odp u w]; omega
      · have dm := s.k1.dom u w b
        rw [odr u w]; omega
    rw [h.num (od u) odk.1 odk.2 e]
    exact nwod u a b
  · have dm := s.k1.dom i a b
    have r := h.row (f i) dm.1.1 dm.1.2 dm.2
    have kk := kr (f i) dm.1.1 dm.1.2 dm.2
    have ord : ∀ t : Int, -P ≤ t → t < f i → (-m ≤ nw t ∧ nw t < n) → od (nw t) = t → (0 ≤ t → 0 ≤ nw t) → (t < 0 → nw t < 0) → nw t < i := by
      intro t t0 t1 t2 t3 t4 t5
      rcases Int.lt_or_le t 0 with w | w
      · have := t5 w; omega
      · have n1 := t4 w
        rw [odr _ n1] at t3
        rcases Int.lt_or_le (nw t) i with y | y
        · exact y
        · exfalso
          rcases Int.lt_or_le i (nw t) with z | z
          · have := s.k1.mon i (nw t) a z t2.2; omega
          · have : nw t = i := by omega
            rw [this] at t3; omega
    have e1 := s.cl.1 i a b
    have e2 := s.cr.1 i a b
    rw [e1, e2, hbl' i, odr i a]
    exact ⟨use _ _ _ _ r.1 kk.1 ord, use _ _ _ _ r.2 kk.2 ord⟩
  · exact use _ _ _ _ (h.fin b a c) (ke b a c) (fun t _ _ t2 _ _ _ => t2.2)
  · obtain ⟨i, k', a1, a2, a3, a4, a5, a6⟩ := sl
    have q1 := s.b2 x a (by omega)
    have q2 := s.b2 (x + 1) (by omega) (by omega)
    have im : 0 ≤ i ∧ i < m := by omega
    have c1 := q1.2 i im.1 im.2
    have c2 := q2.2 i im.1 im.2
    have dm := s.k2.dom i im.1 im.2
    rw [a5, s.ca.1 i im.1 im.2, ← a6]
    exact use _ _ _ _ (h.arg x (g i) k' a b (by omega) (by omega) dm.2 a3 a4) (ka x (g i) k' a b (by omega) (by omega) dm.2 a3 a4) (fun t _ _ t2 _ _ _ => t2.2)
  · rw [hbl', odr i a]
  · rw [hbl', odp _ (by omega), show i - m + m = i by omega]
theorem BLK.sweep {B P R n m : Int} {rs fs bl o tg lf rt pm as o' tg' lf' rt' rs' pt' as' fs' f g bl' : Int → Int} (k : BLK B P R rs fs bl) (s : SWS o tg lf rt rs pm as fs o' tg' lf' rt' rs' pt' as' fs' f g n R m P B) (hr : MS B R rs) (hf : MS B P fs) (zr : rs' 0 = 0) (zf : fs' 0 = 0) (e1 : ∀ i : Int, 0 ≤ i → i < n → bl' i = bl (f i)) (e2 : ∀ i : Int, 0 ≤ i → i < m → bl' (i - m) = bl (g i - P)) : MS B n rs' ∧ MS B m fs' ∧ BLK B m n rs' fs' bl' := by
  have M1 := s.b1.ms s.k1 hr zr
  have M2 := s.b2.ms s.k2 hf zf
  have up1 : ∀ x : Int, 0 ≤ x → x < B → rs' (x + 1) ≤ n := fun x a b => by rw [← M1.e]; exact M1.le' (by omega) (by omega) (by omega)
  have up2 : ∀ x : Int, 0 ≤ x → x < B → fs' (x + 1) ≤ m := fun x a b => by rw [← M2.e]; exact M2.le' (by omega) (by omega) (by omega)
  have lo1 : ∀ x : Int, 0 ≤ x → x < B → 0 ≤ rs' x := fun x a b => by rw [← M1.z]; exact M1.le' (by omega) (by omega) (by omega)
  have lo2 : ∀ x : Int, 0 ≤ x → x < B → 0 ≤ fs' x := fun x a b => by rw [← M2.z]; exact M2.le' (by omega) (by omega) (by omega)
  refine ⟨M1, M2, fun x i a b c d => ?_, fun x i a b c d => ?_, fun t a b => ?_, fun t a b => ?_, fun x a b => ⟨lo1 x a b, M1.mo x a b, up1 x a b⟩, fun x a b => ⟨lo2 x a b, M2.mo x a b, up2 x a b⟩⟩
  · have u := up1 x a b
    have l := lo1 x a b
    have q1 := (s.b1 x a (by omega)).2 i (by omega) (by omega)
    have q2 := (s.b1 (x + 1) (by omega) (by omega)).2 i (by omega) (by omega)
    rw [e1 i (by omega) (by omega)]
    exact k.row x (f i) a b (by omega) (by omega)
  · have u := up2 x a b
    have l := lo2 x a b
    have q1 := (s.b2 x a (by omega)).2 i (by omega) (by omega)
    have q2 := (s.b2 (x + 1) (by omega) (by omega)).2 i (by omega) (by omega)
    rw [e2 i (by omega) (by omega)]
    exact k.phi x (g i) a b (by omega) (by omega)
  · have dm := s.k1.dom t a b
    have r := k.rbl (f t) dm.1.1 dm.1.2
    rw [e1 t a b]
    have q1 := (s.b1 (bl (f t)) r.1.1 (by omega)).2 t a b
    have q2 := (s.b1 (bl (f t) + 1) (by omega) (by omega)).2 t a b
    exact ⟨r.1, by omega, by omega⟩
  · have i0 : 0 ≤ t + m ∧ t + m < m := by omega
    have dm := s.k2.dom (t + m) i0.1 i0.2
    have r := k.pbl (g (t + m) - P) (by omega) (by omega)
    have e := e2 (t + m) i0.1 i0.2
    rw [show t + m - m = t by omega] at e
    rw [e]
    rw [show g (t + m) - P + P = g (t + m) by omega] at r
    have q1 := (s.b2 (bl (g (t + m) - P)) r.1.1 (by omega)).2 (t + m) i0.1 i0.2
    have q2 := (s.b2 (bl (g (t + m) - P) + 1) (by omega) (by omega)).2 (t + m) i0.1 i0.2
    exact ⟨r.1, by omega, by omega⟩
/-- marks only grow; where nothing changed they are the same; each change takes one of those that weren't -/
abbrev MKS (mk mk' : Int → Int) (c c' : Int) : Prop := (∀ r : Int, mk r = 1 → mk' r = 1) ∧ (c ≤ c') ∧ (c' = 0 → mk' = mk) ∧ (un mk' 1024 + c' ≤ un mk 1024 + c)
theorem MKS.up {mk mk' : Int → Int} {c c' : Int} (h : MKS mk mk' c c') : ∀ r : Int, mk r = 1 → mk' r = 1 := h.1
theorem MKS.le {mk mk' : Int → Int} {c c' : Int} (h : MKS mk mk' c c') : c ≤ c' := h.2.1
theorem MKS.eq {mk mk' : Int → Int} {c c' : Int} (h : MKS mk mk' c c') : c' = 0 → mk' = mk := h.2.2.1
theorem MKS.cnt {mk mk' : Int → Int} {c c' : Int} (h : MKS mk mk' c c') : un mk' 1024 + c' ≤ un mk 1024 + c := h.2.2.2
theorem MKS.refl (mk : Int → Int) (c : Int) : MKS mk mk c c := ⟨fun _ h => h, Int.le_refl _, fun _ => rfl, Int.le_refl _⟩
theorem MKS.trans {a b c : Int → Int} {x y z : Int} (h1 : MKS a b x y) (h2 : MKS b c y z) (y0 : 0 ≤ y) : MKS a c x z := by
  refine ⟨fun r h => h2.up r (h1.up r h), by have := h1.le; have := h2.le; omega, fun e => ?_, by have := h1.cnt; have := h2.cnt; omega⟩
  have e2 := h2.eq e
  have := h2.le
  rw [e2, h1.eq (by omega)]
theorem MKS.set {mk : Int → Int} {c r : Int} (r0 : 0 ≤ r) (r1 : r < 1024) (m : mk r = 0) (c0 : 0 ≤ c) (c1 : c ≤ 1) : MKS mk (zup mk r 1) c 1 := by
  refine ⟨fun q h => ?_, c1, fun e => by omega, ?_⟩
  · unfold zup; split
    · rfl
    · exact h
  · have := (un_set mk (k := r) (v := 1) 1024 r0 (by omega)).1 m (by omega)
    rw [this]; omega
/-- what an operand names is marked -/
def OPM (mk : Int → Int) (x : Int) : Prop := isg x → mk (x - 4294967296) = 1
theorem OPM.up {mk mk' : Int → Int} {x : Int} (h : OPM mk x) (u : ∀ r : Int, mk r = 1 → mk' r = 1) : OPM mk' x := fun g => u _ (h g)
/-- a division that may end a run -/
def mfF (o x : Int) : Int := if (o = 6 ∨ o = 7) ∧ (x = 0 ∨ (4294967296 ≤ x ∧ x < 1099511627776)) then 1 else 0
