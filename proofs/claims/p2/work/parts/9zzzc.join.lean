/-- every block that doesn't lead stands behind its one PRED -/
def FJ2 (n : Int) (ps pr ld fw : Int → Int) : Prop := ∀ x : Int, 0 ≤ x → x < n → ¬ ld x = 1 → fw (pr (ps x)) = x ∧ ps (x + 1) - ps x = 1
theorem FJ2.init {n : Int} {ps pr ld fw : Int → Int} (a : ∀ x : Int, 0 ≤ x → x < n → ld x = 1) : FJ2 n ps pr ld fw := fun x x0 x1 e => absurd (a x x0 x1) e
theorem FJ2.skip {B n : Int} {ek ps pr ld fw : Int → Int} (h : FJ2 n ps pr ld fw) (j : FJN B n ek ps pr ld fw) (n1 : n < B) : FJ2 (n + 1) ps pr ld fw := fun x x0 x1 e => by
  by_cases w : x = n
  · have := j.2 x x0 (by omega); omega
  · exact h x x0 (by omega) e
theorem FJ2.set {B n p : Int} {ek g1 g2 ps pr ld fw : Int → Int} (h : FJ2 n ps pr ld fw) (j : FJN B n ek ps pr ld fw) (L : PL ek g1 g2 B ps pr) (jg : ∀ b : Int, 0 ≤ b → b < B → ek b = 0 → g1 b = g2 b) (n0 : 0 < n) (n1 : n < B) (e : pr (ps n) = p) (k : ek p = 0) (o : ps (n + 1) - ps n = 1) : FJ2 (n + 1) ps pr (zup ld n 0) (zup fw p n) := fun x x0 x1 c => by
  by_cases w : x = n
  · rw [w, e, zup_eq]; exact ⟨rfl, o⟩
  · rw [zup_ne _ _ w] at c
    have q2 := h x x0 (by omega) c
    have q := q2.1
    have ne : ¬ pr (ps x) = p := fun z => by
      have r := (L.out n (ps n) (by omega) n1 (by omega) (by omega))
      rw [e] at r
      have jj := j.1 p r.1.1 r.1.2
      rw [← z, q] at jj
      rcases jj with jj | jj
      · omega
      · have s := (L.out x (ps x) x0 (by omega) (by omega) (by omega)).2
        rw [z] at s
        have gg := jg p r.1.1 r.1.2 k
        have one : ∀ b : Int, ED ek g1 g2 p b → b = g1 p := fun b ⟨i, _, _, i2⟩ => by
          unfold glF at i2
          split at i2
          · exact i2.symm
          · rw [gg]; exact i2.symm
        exact w (by rw [one _ s, one _ r.2])
    rw [zup_ne _ _ ne]; exact q2
/-- what stands instead of a PHI's register: its one operand -/
def IJN (B : Int) (ld fs pt as ar ii : Int → Int) (n m : Int) : Prop := (∀ r : Int, 0 ≤ r → r < 1024 → ii r = 1099511627776 ∨ ∃ x i : Int, (0 < x ∧ x < B) ∧ ¬ ld x = 1 ∧ fs x ≤ i ∧ i < fs (x + 1) ∧ r = pt i ∧ ii r = ar (as i)) ∧ (∀ x i : Int, 0 ≤ x → x < B → ¬ ld x = 1 → fs x ≤ i → i < fs (x + 1) → (x < n ∨ (x = n ∧ i < m)) → ii (pt i) = ar (as i))
theorem IJN.init {B n m : Int} {ld fs pt as ar ii : Int → Int} (a : ∀ r : Int, 0 ≤ r → r < 1024 → ii r = 1099511627776) (l : ∀ x : Int, 0 ≤ x → x < B → ld x = 1) : IJN B ld fs pt as ar ii n m := ⟨fun r r0 r1 => Or.inl (a r r0 r1), fun x i x0 x1 e => absurd (l x x0 x1) e⟩
theorem IJN.lead {B n m : Int} {ld fs pt as ar ii : Int → Int} (h : IJN B ld fs pt as ar ii n m) (n0 : 0 ≤ n) (ln : ld n = 1) : IJN B (zup ld n 0) fs pt as ar ii n (fs n) := ⟨fun r r0 r1 => by
  rcases h.1 r r0 r1 with q | ⟨x, i, q1, q2, q3⟩
  · exact Or.inl q
  · exact Or.inr ⟨x, i, q1, by rw [zup_ne _ _ (fun z => q2 (by rw [z]; exact ln))]; exact q2, q3⟩, fun x i x0 x1 e i0 i1 w => by
  by_cases c : x = n
  · rw [c] at i0; omega
  · rw [zup_ne _ _ c] at e; exact h.2 x i x0 x1 e i0 i1 (by omega)⟩
theorem IJN.set {B P n m v : Int} {ld fs pt as ar ii : Int → Int} (h : IJN B ld fs pt as ar ii n m) (M : MS B P fs) (pu : ∀ i j : Int, 0 ≤ i → i < P → 0 ≤ j → j < P → pt i = pt j → i = j) (n0 : 0 < n) (n1 : n < B) (ln : ¬ ld n = 1) (m0 : fs n ≤ m) (m1 : m < fs (n + 1)) (e : v = ar (as m)) : IJN B ld fs pt as ar (zup ii (pt m) v) n (m + 1) := by
  subst e
  have rg : ∀ x i : Int, 0 ≤ x → x < B → fs x ≤ i → i < fs (x + 1) → 0 ≤ i ∧ i < P := fun x i x0 x1 i0 i1 => by
    have := M.le' (a := 0) (b := x) (by omega) x0 (by omega); have := M.z
    have := M.le' (a := x + 1) (b := B) (by omega) (by omega) (Int.le_refl _); have := M.e
    omega
  have mr := rg n m (by omega) n1 m0 m1
  refine ⟨fun r r0 r1 => ?_, fun x i x0 x1 el i0 i1 w => ?_⟩
  · by_cases c : r = pt m
    · rw [c, zup_eq]; exact Or.inr ⟨n, m, ⟨n0, n1⟩, ln, m0, m1, rfl, rfl⟩
    · rw [zup_ne _ _ c]; exact h.1 r r0 r1
  · by_cases c : pt i = pt m
    · have ir := rg x i x0 x1 i0 i1
      have := pu i m ir.1 ir.2 mr.1 mr.2 c
      rw [this, zup_eq]
    · rw [zup_ne _ _ c]
      refine h.2 x i x0 x1 el i0 i1 ?_
      have : ¬ i = m := fun z => c (by rw [z])
      omega
theorem IJN.next {B n m : Int} {ld fs pt as ar ii : Int → Int} (h : IJN B ld fs pt as ar ii n m) (k : ld n = 1 ∨ fs (n + 1) ≤ m) : IJN B ld fs pt as ar ii (n + 1) (fs (n + 1)) := ⟨h.1, fun x i x0 x1 e i0 i1 w => by
  refine h.2 x i x0 x1 e i0 i1 ?_
  rcases w with w | w
  · by_cases c : x = n
    · rw [c] at e i1
      rcases k with k | k
      · exact absurd k e
      · exact Or.inr ⟨c, by omega⟩
    · exact Or.inl (by omega)
  · rw [w.1] at i0; omega⟩
theorem FJN.chn {B : Int} {ek ps pr ld fw : Int → Int} (h : FJN B B ek ps pr ld fw) : CHN B ld fw := ⟨fun p p0 p1 => by
  rcases h.1 p p0 p1 with q | q
  · exact Or.inl q
  · exact Or.inr ⟨by omega, by omega⟩, fun p q p0 p1 q0 q1 e n => by
  rcases h.1 p p0 p1 with a | a
  · exact absurd a n
  · rcases h.1 q q0 q1 with b | b
    · rw [e] at n; exact absurd b n
    · rw [← a.2.2.2.2.1, ← b.2.2.2.2.1, e]⟩
theorem FJ2.gcl {B : Int} {ek g1 g2 ps pr ld fw : Int → Int} (h : FJ2 B ps pr ld fw) (L : PL ek g1 g2 B ps pr) (hG : HGP ek g1 g2 B) : GCL B ld fw ek g1 g2 := fun x x0 x1 f _ e => by
  have g := hG x x0 x1 e
  have key : ∀ y : Int, 0 ≤ y → y < B → ED ek g1 g2 x y → ld y = 1 := fun y y0 y1 ed => by
    by_cases w : ld y = 1
    · exact w
    · exfalso
      have q := h y y0 y1 w
      obtain ⟨k, k0, k1, k2⟩ := L.edge x0 x1 ed
      rw [show ps y = k by omega, k2, f] at q; omega
  exact ⟨key _ g.1.1 g.1.2 (ED.one e), key _ g.2.1 g.2.2 (ED.two e)⟩
theorem PL.gpd {B : Int} {ek g1 g2 ps pr : Int → Int} (L : PL ek g1 g2 B ps pr) (ld fw : Int → Int) : GPD B ld fw ek g1 g2 ps pr := fun x g x0 x1 _ _ e w => by
  rcases w with w | w
  · rw [w]; exact L.edge x0 x1 (ED.one e)
  · rw [w]; exact L.edge x0 x1 (ED.two e)
/-- every block is come to by a short way -/
theorem FW.len {ek g1 g2 po bp : Int → Int} {B rd : Int} (f : FW ek g1 g2 B po bp rd) : ∀ (n : Nat) (x : Int), 0 ≤ x → x < B → 0 ≤ po x → rd - 1 - po x ≤ n → ∃ m k : Nat, m ≤ n ∧ raS ek g1 g2 (fun _ => 0) (-1) m k x := by
  intro n
  induction n with
  | zero =>
    intro x x0 x1 p e
    by_cases w : x = 0
    · exact ⟨0, 0, Nat.le_refl _, w, by omega⟩
    · obtain ⟨pp, p0, p1, ed, lt⟩ := f.par x (by omega) x1 p
      have := (f.pop pp p0 p1 (by omega)).1
      omega
  | succ n ih =>
    intro x x0 x1 p e
    by_cases w : x = 0
    · exact ⟨0, 0, by omega, w, by omega⟩
    · obtain ⟨pp, p0, p1, ed, lt⟩ := f.par x (by omega) x1 p
      obtain ⟨m, k, m1, r⟩ := ih pp p0 p1 (by omega) (by omega)
      exact ⟨m + 1, k + 1, by omega, by omega, pp, ed, Or.inr ⟨k, rfl, r⟩⟩
theorem raS.rng {ek g1 g2 po : Int → Int} {B c : Int} (gr : GR ek g1 g2 B) (B1 : 1 ≤ B) : ∀ {n k : Nat} {x : Int}, raS ek g1 g2 po c n k x → 0 ≤ x ∧ x < B
  | 0, _, _, h => by have := h.1; omega
  | _ + 1, _, _, ⟨_, p, e, h⟩ => by
    have q : 0 ≤ p ∧ p < B := by
      rcases h with ⟨h, _⟩ | ⟨_, _, h⟩
      · exact raS.rng gr B1 h
      · exact raS.rng gr B1 h
    exact gr p _ q.1 q.2 e
theorem PL.only {ek g1 g2 ps pr : Int → Int} {B p y : Int} (L : PL ek g1 g2 B ps pr) (p0 : 0 ≤ p) (p1 : p < B) (o : ps (y + 1) - ps y = 1) (e : ED ek g1 g2 p y) : p = pr (ps y) := by
  obtain ⟨k, k0, k1, k2⟩ := L.edge p0 p1 e
  rw [show ps y = k by omega]; exact k2.symm
/-- a block's one PRED dominates it -/
theorem DM.only {ek g1 g2 ps pr : Int → Int} {B y : Int} (L : PL ek g1 g2 B ps pr) (gr : GR ek g1 g2 B) (B1 : 1 ≤ B) (y0 : ¬ y = 0) (o : ps (y + 1) - ps y = 1) : DM ek g1 g2 (pr (ps y)) y := by
  intro k ⟨nn, r⟩
  cases nn with
  | zero => exact y0 r.1
  | succ nn =>
    obtain ⟨_, pp, ed, hh⟩ := r
    have h2 : ∃ k2 : Nat, raS ek g1 g2 (fun _ => 0) (pr (ps y)) nn k2 pp := by
      rcases hh with ⟨hh, _⟩ | ⟨k', _, hh⟩
      · exact ⟨k, hh⟩
      · exact ⟨k', hh⟩
    obtain ⟨k2, h2⟩ := h2
    have pr0 := h2.rng gr B1
    have := L.only pr0.1 pr0.2 o ed
    exact RA.ne ⟨nn, h2⟩ this
/-- one step of a replacement keeps what SSA asks of an operand -/
theorem join_step {ek g1 g2 : Int → Int} {B P R : Int} {rs fs ps pr as tg pt lf rt eu ar bl sd ld fw ii : Int → Int} {b i m x : Int} (S : SI ek g1 g2 B P R fs ps pr as tg pt lf rt eu ar bl sd) (K : BLK B P R rs fs bl) (L : PL ek g1 g2 B ps pr) (J : FJN B B ek ps pr ld fw) (J2 : FJ2 B ps pr ld fw) (I : IJN B ld fs pt as ar ii B m) (hT : ∀ i : Int, 0 ≤ i → i < P → 0 ≤ pt i) (rc : ∀ b : Int, 0 ≤ b → b < B → ∃ n k : Nat, raS ek g1 g2 (fun _ => 0) (-1) n k b) (l0 : ld 0 = 1) (gr : GR ek g1 g2 B)
    (g : isg x) (o : x ≤ 4294968319) (u : UOK ek g1 g2 P R (TT tg pt P) sd bl x b i) (b0 : 0 ≤ b) (b1 : b < B) (ne : ¬ ii (x - 4294967296) = 1099511627776) : UOK ek g1 g2 P R (TT tg pt P) sd bl (ii (x - 4294967296)) b i ∧ (isg (ii (x - 4294967296)) → ∀ n k : Nat, raS ek g1 g2 (fun _ => 0) (-1) n k (bl (sd (x - 4294967296))) → ∃ n' k' : Nat, n' < n ∧ raS ek g1 g2 (fun _ => 0) (-1) n' k' (bl (sd (ii (x - 4294967296) - 4294967296)))) := by
  have gg := g
  unfold isg at gg
  obtain ⟨⟨u1, u2⟩, u3, u4⟩ := u g
  rcases I.1 (x - 4294967296) (by omega) (by omega) with q | ⟨y, j, y0, yl, j0, j1, e, ev⟩
  · exact absurd q ne
  have fm := K.fm y (by omega) y0.2
  have ts : TT tg pt P (j - P) = pt j := by unfold TT; rw [if_neg (by omega), show j - P + P = j by omega]
  have sn := S.num (j - P) (by omega) (by have := u1; have R0 : 0 ≤ R := (by have := (K.rm y (by omega) y0.2); omega); omega) (by rw [ts]; exact hT j (by omega) (by omega))
  rw [ts, ← e] at sn
  have by' : bl (j - P) = y := K.phi y j (by omega) y0.2 j0 j1
  rw [sn, by'] at u3
  have jy := J2 y (by omega) y0.2 yl
  have po := L.out y (ps y) (by omega) y0.2 (by omega) (by omega)
  have py : ¬ pr (ps y) = y := by
    rcases J.1 (pr (ps y)) po.1.1 po.1.2 with w | w
    · omega
    · intro z; rw [jy.1] at w; omega
  have dpy := DM.only L gr (by omega : 1 ≤ B) (fun z => by rw [z] at yl; exact yl l0) jy.2
  have sl : SLT fs ps pr as (as j) y (pr (ps y)) := ⟨j, 0, j0, j1, by omega, by omega, by omega, by rw [show ps y + 0 = ps y by omega]⟩
  have ua := S.arg (as j) y _ (by omega) y0.2 sl
  rw [← ev] at ua
  refine ⟨fun w => ?_, fun w n k r => ?_⟩
  · obtain ⟨a1, a2, a3⟩ := ua w
    have db := (a2.trans dpy).trans u3
    refine ⟨a1, db, fun z => ?_⟩
    exfalso
    rw [z] at a2
    have bey := a2.trans dpy
    by_cases c : b = y
    · rw [c] at a2
      obtain ⟨n, k, r⟩ := rc y (by omega) y0.2
      exact (DM.anti dpy a2 py n k (-1)).2 r
    · obtain ⟨n, k, r⟩ := rc b b0 b1
      exact (DM.anti bey u3 c n k (-1)).1 r
  · obtain ⟨a1, a2, a3⟩ := ua w
    rw [sn, by'] at r
    have d1 := a2.trans dpy
    have nq : ¬ bl (sd (ii (x - 4294967296) - 4294967296)) = y := fun z => by
      rw [z] at a2
      obtain ⟨n, k, r⟩ := rc y (by omega) y0.2
      exact (DM.anti dpy a2 py n k (-1)).2 r
    rcases r.split (bl (sd (ii (x - 4294967296) - 4294967296))) with q | ⟨n', k', _, q2, q3⟩
    · exact absurd ⟨n, q⟩ (d1 k)
    · exact ⟨n', k', q2 nq, q3⟩
/-- nothing stands instead of it -/
def STB (ii : Int → Int) (x : Int) : Prop := isg x → ii (x - 4294967296) = 1099511627776
theorem join_rs {ek g1 g2 : Int → Int} {B P R : Int} {rs fs ps pr as tg pt lf rt eu ar bl sd ld fw ii : Int → Int} {b i m : Int} (S : SI ek g1 g2 B P R fs ps pr as tg pt lf rt eu ar bl sd) (K : BLK B P R rs fs bl) (L : PL ek g1 g2 B ps pr) (J : FJN B B ek ps pr ld fw) (J2 : FJ2 B ps pr ld fw) (I : IJN B ld fs pt as ar ii B m) (hT : ∀ i : Int, 0 ≤ i → i < P → 0 ≤ pt i) (rc : ∀ b : Int, 0 ≤ b → b < B → ∃ n k : Nat, raS ek g1 g2 (fun _ => 0) (-1) n k b) (l0 : ld 0 = 1) (gr : GR ek g1 g2 B) (io : ∀ r : Int, ((-2147483648 ≤ ii r ∧ ii r ≤ 4294968319) ∨ ii r = 1099511627776)) (b0 : 0 ≤ b) (b1 : b < B) : ∀ (l N : Nat) (x : Int), l < N → ((-2147483648 ≤ x ∧ x ≤ 4294968319) ∨ x = 1099511627776) → UOK ek g1 g2 P R (TT tg pt P) sd bl x b i → (isg x → ∃ n k : Nat, n ≤ l ∧ raS ek g1 g2 (fun _ => 0) (-1) n k (bl (sd (x - 4294967296)))) → UOK ek g1 g2 P R (TT tg pt P) sd bl (rsI ii N x) b i ∧ STB ii (rsI ii N x) := by
  intro l
  induction l with
  | zero =>
    intro N x lN o u pth
    by_cases w : 4294967296 ≤ x ∧ x < 1099511627776
    · by_cases c : ii (x - 4294967296) = 1099511627776
      · rw [rsI_no c]; exact ⟨u, fun _ => c⟩
      · exfalso
        have st := join_step S K L J J2 I hT rc l0 gr w (by omega) u b0 b1 c
        obtain ⟨n, k, n0, r⟩ := pth w
        have nz : n = 0 := by omega
        rw [nz] at r
        rcases I.1 (x - 4294967296) (by omega) (by omega) with q | ⟨y, j, y0, yl, j0, j1, e, ev⟩
        · exact c q
        · have fm := K.fm y (by omega) y0.2
          have ts : TT tg pt P (j - P) = pt j := by unfold TT; rw [if_neg (by omega), show j - P + P = j by omega]
          have R0 : 0 ≤ R := by have := (K.rm y (by omega) y0.2); omega
          have sn := S.num (j - P) (by omega) (by omega) (by rw [ts]; exact hT j (by omega) (by omega))
          rw [ts, ← e] at sn
          rw [sn, K.phi y j (by omega) y0.2 j0 j1] at r
          have z : y = 0 := r.1
          omega
    · rw [rsI_stop w]; exact ⟨u, fun g => absurd g w⟩
  | succ l ih =>
    intro N x lN o u pth
    by_cases w : 4294967296 ≤ x ∧ x < 1099511627776
    · by_cases c : ii (x - 4294967296) = 1099511627776
      · rw [rsI_no c]; exact ⟨u, fun _ => c⟩
      · have st := join_step S K L J J2 I hT rc l0 gr w (by omega) u b0 b1 c
        obtain ⟨n, k, n0, r⟩ := pth w
        cases N with
        | zero => omega
        | succ N =>
          have e : rsI ii (N + 1) x = rsI ii N (ii (x - 4294967296)) := by
            show (if _ then _ else _) = _
            rw [if_pos w, if_neg c]
          rw [e]
          refine ih N _ (by omega) (io _) st.1 (fun g => ?_)
          obtain ⟨n', k', q1, q2⟩ := st.2 g n k r
          exact ⟨n', k', by omega, q2⟩
    · rw [rsI_stop w]; exact ⟨u, fun g => absurd g w⟩
/-- who comes before in a chain dominates -/
theorem GT1.dm2 {B : Int} {ld fw rs fo la nu tk st cp ek g1 g2 : Int → Int} {b T : Int} (h : GT1 B ld fw rs b T fo la nu tk st cp (-1)) (l0 : ld 0 = 1) (gr : GR ek g1 g2 B) (O : ∀ p q : Int, 0 ≤ p → p < B → ¬ fw p = -1 → ED ek g1 g2 q (fw p) → 0 ≤ q → q < B → q = p) : ∀ (n : Nat) (x y : Int), 0 ≤ x → x < B → tk x = 1 → 0 ≤ y → y < B → tk y = 1 → nu x = nu y → cp y = cp x + n → DM ek g1 g2 x y := by
  have one := h.one
  obtain ⟨a1, a2, a3, a4, a5, a6, a7, a8, a9⟩ := h
  intro n
  induction n with
  | zero =>
    intro x y x0 x1 tx y0 y1 ty e c
    have cx := (a9 x x0 x1 tx).1
    rw [one (cp x).toNat x y x0 x1 tx y0 y1 ty e (by omega) (by omega)]
    exact DM.refl
  | succ n ih =>
    intro x y x0 x1 tx y0 y1 ty e c
    have cx := (a9 x x0 x1 tx).1
    have w : ¬ ld y = 1 := fun w => by have := (a9 y y0 y1 ty).2 w; omega
    obtain ⟨p, p0, p1, p2, p3, p4⟩ := a4 y y0 y1 ty w
    rcases a5 p p0 p1 p2 p3 with q | q
    · omega
    · rw [p4] at q
      have dm := ih x p x0 x1 tx p0 p1 p2 (by omega) (by omega)
      intro k r
      obtain ⟨nn, r⟩ := r
      cases nn with
      | zero =>
        obtain ⟨e0, _⟩ := r
        rw [e0] at w; exact w l0
      | succ nn =>
        obtain ⟨nx, pp, ed, hh⟩ := r
        have h2 : ∃ k2 : Nat, raS ek g1 g2 (fun _ => 0) x nn k2 pp := by
          rcases hh with ⟨hh, _⟩ | ⟨k', _, hh⟩
          · exact ⟨k, hh⟩
          · exact ⟨k', hh⟩
        obtain ⟨k2, h2⟩ := h2
        have p9 := h2.rng gr (by omega)
        have pe := O p pp p0 p1 (by omega) (by rw [p4]; exact ed) p9.1 p9.2
        rw [pe] at hh
        rcases hh with ⟨hh, _⟩ | ⟨k', _, hh⟩
        · exact dm k ⟨nn, hh⟩
        · exact dm k' ⟨nn, hh⟩
/-- gathering keeps SSA -/
theorem gather_SI2 {B R P C T R' P' A' : Int} {ld fw rs op tg lf rt ek eu g1 g2 ps pr fs pt as ar bl sd rs' o' t' l' r' ek' eu' h1 h2 fo la nu tk st cp G1 G2 ps' pr' fs' pt' as' ar' : Int → Int}
    (S : SI ek g1 g2 B P R fs ps pr as tg pt lf rt eu ar bl sd) (K : BLK B P R rs fs bl) (mR : MS B R rs) (mF : MS B P fs) (B1 : 1 ≤ B) (l0 : ld 0 = 1)
    (h : GTH B ld fw rs op tg lf rt ek eu g1 g2 B T R' rs' o' t' l' r' ek' eu' h1 h2 fo la nu tk st cp (-1)) (N : NGL T g1 g2 ek' G1 G2 fo la nu)
    (E : ∀ p : Int, 0 ≤ p → p < B → tk p = 1 → ¬ fw p = -1 → ED ek g1 g2 p (fw p)) (gr : GR ek g1 g2 B) (O : ∀ p q : Int, 0 ≤ p → p < B → ¬ fw p = -1 → ED ek g1 g2 q (fw p) → 0 ≤ q → q < B → q = p)
    (Q : PHG fo la fs pt as ar ps pr ps' pr' P C T P' A' fs' pt' as' ar') (M' : MS T P' fs') (L' : PL ek' G1 G2 T ps' pr')
    (rc : ∀ x : Int, 0 ≤ x → x < B → tk x = 1 → ∃ k : Nat, RA ek g1 g2 (fun _ => 0) (-1) k x) (dc : ∀ d x : Int, 0 ≤ d → d < B → 0 ≤ x → x < B → tk x = 1 → DM ek g1 g2 d x → tk d = 1)
    (ur : ∀ i : Int, 0 ≤ i → i < R → tk (bl i) = 1 → UPH ld bl sd (lf i) ∧ UPH ld bl sd (rt i)) (ue : ∀ b : Int, 0 ≤ b → b < B → tk b = 1 → UPH ld bl sd (eu b)) (ua : ∀ q x p : Int, 0 ≤ x → x < B → ld x = 1 → 0 ≤ p → p < B → tk p = 1 → SLT fs ps pr as q x p → UPH ld bl sd (ar q)) :
    ∃ bl' sd' : Int → Int, BLK T P' R' rs' fs' bl' ∧ SI ek' G1 G2 T P' R' fs' ps' pr' as' t' pt' l' r' eu' ar' bl' sd' ∧ (∀ u : Int, -P' ≤ u → u < R' → ∃ s : Int, -P ≤ s ∧ s < R ∧ TT t' pt' P' u = TT tg pt P s) := by
  have X : GTX B ld fw rs op tg lf rt ek eu g1 g2 B T R' rs' o' t' l' r' ek' eu' h1 h2 fo la nu := ⟨tk, st, cp, h⟩
  have MR := X.ms
  obtain ⟨bl', K'⟩ := BLK.ex MR M'
  obtain ⟨nw, hnw⟩ : ∃ nw : Int → Int, ∀ s : Int, (0 ≤ s → nw s = st (bl s) + (s - rs (bl s))) ∧ (s < 0 → nw s = fs' (nu (bl s)) + (s + P - fs (bl s)) - P') := ⟨fun s => if 0 ≤ s then st (bl s) + (s - rs (bl s)) else fs' (nu (bl s)) + (s + P - fs (bl s)) - P', fun s => ⟨fun a => if_pos a, fun a => if_neg (by omega)⟩⟩
  have T0 : 0 ≤ T := X.rng.1
  have fsr : ∀ y : Int, 0 ≤ y → y < T → 0 ≤ fs' y ∧ fs' (y + 1) ≤ P' ∧ fs' (y + 1) = fs' y + (fs (fo y + 1) - fs (fo y)) := by
    intro y y0 y1
    have a := M'.le' (a := 0) (b := y) (Int.le_refl _) y0 (by omega)
    have b := M'.le' (a := y + 1) (b := T) (by omega) (by omega) (Int.le_refl _)
    have := M'.z; have := M'.e
    exact ⟨by omega, by omega, Q.2.1.2.2 y y0 y1⟩
  -- a row of a taken block
  have row : ∀ i : Int, 0 ≤ i → i < R → tk (bl i) = 1 → (0 ≤ nw i ∧ nw i < R') ∧ TT t' pt' P' (nw i) = TT tg pt P i ∧ bl' (nw i) = nu (bl i) ∧ (0 ≤ nu (bl i) ∧ nu (bl i) < T) ∧ l' (nw i) = lf i ∧ r' (nw i) = rt i := by
    intro i i0 i1 ti
    have kb := K.rbl i i0 i1
    obtain ⟨p1, p2, p3⟩ := h.2.1.1 (bl i) kb.1.1 kb.1.2 ti
    have e := (hnw i).1 i0
    have nr : 0 ≤ nu (bl i) ∧ nu (bl i) < T := by omega
    have rx := p3 i kb.2.1 kb.2.2
    rw [← e] at rx
    have r0 := MR.le' (a := 0) (b := nu (bl i)) (Int.le_refl _) nr.1 (by omega)
    have := MR.z
    have ni : 0 ≤ nw i ∧ nw i < R' := by omega
    refine ⟨ni, ?_, K'.row (nu (bl i)) (nw i) nr.1 nr.2 (by omega) (by have := p2.2.2 nr.2; omega), nr, rx.2.2.1, rx.2.2.2⟩
    unfold TT; rw [if_pos ni.1, if_pos i0]; exact rx.2.1
  -- a PHI of a block that leads
  have phi : ∀ s : Int, -P ≤ s → s < 0 → tk (bl s) = 1 → ld (bl s) = 1 → (-P' ≤ nw s ∧ nw s < 0) ∧ TT t' pt' P' (nw s) = TT tg pt P s ∧ bl' (nw s) = nu (bl s) ∧ (0 ≤ nu (bl s) ∧ nu (bl s) < T) := by
    intro s s0 s1 ts ls
    have kb := K.pbl s s0 s1
    have e := (hnw s).2 s1
    obtain ⟨nr, fe⟩ := X.lead (bl s) kb.1.1 kb.1.2 kb.1.2 ls
    have f := fsr (nu (bl s)) nr.1 nr.2
    rw [fe] at f
    have px := Q.2.2.1 (nu (bl s)) (s + P) nr.1 nr.2 (by rw [fe]; exact kb.2.1) (by rw [fe]; exact kb.2.2)
    rw [fe] at px
    refine ⟨by omega, ?_, ?_, nr⟩
    · unfold TT; rw [if_neg (by omega), if_neg (by omega), show nw s + P' = fs' (nu (bl s)) + (s + P - fs (bl s)) by omega]; exact px.1
    · have := K'.phi (nu (bl s)) (nw s + P') nr.1 nr.2 (by omega) (by omega)
      rw [show nw s + P' - P' = nw s by omega] at this; exact this
  -- where each new site comes from
  have src : ∀ u : Int, -P' ≤ u → u < R' → ∃ s : Int, (-P ≤ s ∧ s < R) ∧ nw s = u ∧ TT t' pt' P' u = TT tg pt P s ∧ tk (bl s) = 1 ∧ (0 ≤ u → 0 ≤ s) := by
    intro u u0 u1
    rcases Int.lt_or_le u 0 with w | w
    · have kb := K'.pbl u u0 w
      have b := X.blk (bl' u) kb.1.1 kb.1.2
      have f := fsr (bl' u) kb.1.1 kb.1.2
      have fr := mF.le' (a := 0) (b := fo (bl' u)) (by omega) (by omega) (by omega)
      have f1 := mF.le' (a := fo (bl' u) + 1) (b := B) (by omega) (by omega) (Int.le_refl _)
      have := mF.z; have := mF.e
      have e : bl (u + P' - fs' (bl' u) + fs (fo (bl' u)) - P) = fo (bl' u) := K.phi (fo (bl' u)) (u + P' - fs' (bl' u) + fs (fo (bl' u))) b.1.1 b.1.2 (by omega) (by omega)
      have tkf := (h.1.2.2.1 (fo (bl' u)) b.1.1 b.1.2 b.2.1).mpr b.1.2
      have sr : -P ≤ u + P' - fs' (bl' u) + fs (fo (bl' u)) - P ∧ u + P' - fs' (bl' u) + fs (fo (bl' u)) - P < 0 := by omega
      have ph := phi _ sr.1 sr.2 (by rw [e]; exact tkf) (by rw [e]; exact b.2.1)
      have nwe : nw (u + P' - fs' (bl' u) + fs (fo (bl' u)) - P) = u := by
        rw [(hnw _).2 sr.2, e, b.2.2.1]; omega
      have mR0 := mR.top 0 (by omega) (by omega)
      have := mR.z
      exact ⟨_, ⟨sr.1, by omega⟩, nwe, by rw [nwe] at ph; exact ph.2.1, by rw [e]; exact tkf, fun a => by omega⟩
    · obtain ⟨x, i, x0, x1, x2, x3, x4⟩ := h.2.1.2.1 u w u1
      have i0 : 0 ≤ i ∧ i < R := by
        have a := mR.le' (a := 0) (b := x) (by omega) (by omega) (by omega)
        have b := mR.le' (a := x + 1) (b := B) (by omega) (by omega) (Int.le_refl _)
        have := mR.z; have := mR.e; omega
      have be := K.row x i x0.1 x0.2 x2 x3
      have rw' := row i i0.1 i0.2 (by rw [be]; exact x1)
      have nwe : nw i = u := by rw [(hnw i).1 i0.1, be]; omega
      have P0 : 0 ≤ P := by have := mF.le' (a := 0) (b := B) (by omega) (by omega) (Int.le_refl _); have := mF.z; have := mF.e; omega
      exact ⟨i, ⟨by omega, i0.2⟩, nwe, by rw [nwe] at rw'; exact rw'.2.1, by rw [be]; exact x1, fun _ => i0.1⟩
  -- an operand of a taken block
  have use : ∀ x b i i' : Int, 0 ≤ b → b < B → tk b = 1 → 0 ≤ i' → st b ≤ i' → (∀ s : Int, 0 ≤ s → s < i → bl s = b → s < R → st b + (s - rs b) < i') → UPH ld bl sd x → UOK ek g1 g2 P R (TT tg pt P) sd bl x b i → UOK ek' G1 G2 P' R' (TT t' pt' P') (fun v => nw (sd v)) bl' x (nu b) i' := by
    intro x b i i' b0 b1 tb i0 sb ord up u w
    obtain ⟨⟨u1, u2⟩, u3, u4⟩ := u w
    have P'0 : 0 ≤ P' := by have := M'.le' (a := 0) (b := T) (by omega) (by omega) (Int.le_refl _); have := M'.z; have := M'.e; omega
    have R'0 : 0 ≤ R' := by have := MR.le' (a := 0) (b := T) (by omega) (by omega) (Int.le_refl _); have := MR.z; have := MR.e; omega
    have dr : 0 ≤ bl (sd (x - 4294967296)) ∧ bl (sd (x - 4294967296)) < B := by
      rcases Int.lt_or_le (sd (x - 4294967296)) 0 with z | z
      · exact (K.pbl _ u1.1 z).1
      · exact (K.rbl _ z u1.2).1
    have td := dc _ b dr.1 dr.2 b0 b1 tb u3
    have dm := h.dom B1 l0 N E b0 b1 tb u3
    rcases Int.lt_or_le (sd (x - 4294967296)) 0 with z | z
    · have ph := phi _ u1.1 z td (up w z)
      refine ⟨⟨⟨ph.1.1, by show nw _ < R'; omega⟩, by show TT t' pt' P' (nw _) = _; rw [ph.2.1]; exact u2⟩, by show DM _ _ _ (bl' (nw _)) _; rw [ph.2.2.1]; exact dm, fun _ => by show nw _ < i'; omega⟩
    · have ro := row _ z u1.2 td
      refine ⟨⟨⟨by show -P' ≤ nw _; omega, ro.1.2⟩, by show TT t' pt' P' (nw _) = _; rw [ro.2.1]; exact u2⟩, by show DM _ _ _ (bl' (nw _)) _; rw [ro.2.2.1]; exact dm, fun e => ?_⟩
      show nw _ < i'
      have e2 : nu (bl (sd (x - 4294967296))) = nu b := by rw [← ro.2.2.1]; exact e
      by_cases db : bl (sd (x - 4294967296)) = b
      · have := ord _ z (u4 db) db u1.2
        rw [(hnw _).1 z, db]; exact this
      · have kb := K.rbl _ z u1.2
        have cd := (h.1.2.2.2.2.2.2.2.2 _ dr.1 dr.2 td).1
        have cb := (h.1.2.2.2.2.2.2.2.2 b b0 b1 tb).1
        rcases Int.lt_or_le (cp (bl (sd (x - 4294967296)))) (cp b) with y | y
        · have := h.1.before mR (cp b - cp (bl (sd (x - 4294967296))) - 1).toNat _ b dr.1 dr.2 td b0 b1 tb e2 (by omega)
          rw [(hnw _).1 z]; omega
        · exfalso
          have back := h.1.dm2 l0 gr O (cp (bl (sd (x - 4294967296))) - cp b).toNat b _ b0 b1 tb dr.1 dr.2 td e2.symm (by omega)
          obtain ⟨k, nn, rr⟩ := rc b b0 b1 tb
          exact (DM.anti u3 back db nn k (-1)).2 rr
  refine ⟨bl', fun v => nw (sd v), K', ⟨fun u u0 u1 e => ?_, fun j j0 j1 => ?_, fun y y0 y1 => ?_, fun q y p y0 y1 sl => ?_⟩, fun u u0 u1 => ?_⟩
  · obtain ⟨s, s0, s1, s2, s3, _⟩ := src u u0 u1
    show nw (sd (TT t' pt' P' u)) = u
    rw [s2] at e ⊢
    rw [S.num s s0.1 s0.2 e]; exact s1
  · obtain ⟨s, s0, s1, s2, s3, s4⟩ := src j (by have := M'.le' (a := 0) (b := T) (by omega) (by omega) (Int.le_refl _); have := M'.z; have := M'.e; omega) j1
    have sp := s4 j0
    have ro := row s sp s0.2 s3
    rw [s1] at ro
    have kb := K.rbl s sp s0.2
    have u := S.row s sp s0.2
    have up := ur s sp s0.2 s3
    have je : j = st (bl s) + (s - rs (bl s)) := by rw [← s1]; exact (hnw s).1 sp
    rw [ro.2.2.2.2.1, ro.2.2.2.2.2, ro.2.2.1]
    have ord : ∀ s2 : Int, 0 ≤ s2 → s2 < s → bl s2 = bl s → s2 < R → st (bl s) + (s2 - rs (bl s)) < j := fun s2 _ a _ _ => by omega
    exact ⟨use _ _ s j kb.1.1 kb.1.2 s3 j0 (by omega) ord up.1 u.1, use _ _ s j kb.1.1 kb.1.2 s3 j0 (by omega) ord up.2 u.2⟩
  · obtain ⟨q1, q2, q3, q4, q5, q6, q7, q8, q9, q10, q11, q12, q13⟩ := h.2.2.1 y y0 y1
    have pl := h.2.1.1 (la y) q5.1 q5.2 q6
    have R'0 : 0 ≤ R' := by have := MR.le' (a := 0) (b := T) (by omega) (by omega) (Int.le_refl _); have := MR.z; have := MR.e; omega
    have mo := mR.mo (la y) q5.1 q5.2
    have := use (eu (la y)) (la y) R R' q5.1 q5.2 q6 R'0 (by have := pl.2.1; omega) (fun s a _ b c => by have kb := K.rbl s a c; rw [b] at kb; have := pl.2.1; omega) (ue _ q5.1 q5.2 q6) (S.fin _ q5.1 q5.2)
    rw [q7] at this
    rw [q11]; exact this
  · obtain ⟨i, k, a1, a2, a3, a4, a5, a6⟩ := sl
    have b := X.blk y y0 y1
    have f := fsr y y0 y1
    have px := Q.2.2.1 y (i - fs' y + fs (fo y)) y0 y1 (by omega) (by omega)
    rw [show fs' y + (i - fs' y + fs (fo y) - fs (fo y)) = i by omega] at px
    obtain ⟨w, w0, w1, w2, w3⟩ := px.2.2 k a3 a4
    rw [a6] at w2
    have pr0 := (L'.out y (ps' y + k) y0 y1 (by omega) (by omega)).1
    rw [a6] at pr0
    obtain ⟨q1, q2, q3, q4, q5, q6, q7, q8, q9, q10, q11, q12, q13⟩ := h.2.2.1 p pr0.1 pr0.2
    have slo : SLT fs ps pr as (as (i - fs' y + fs (fo y)) + w) (fo y) (la p) := ⟨i - fs' y + fs (fo y), w, by omega, by omega, w0, w1, rfl, w2⟩
    have pl := h.2.1.1 (la p) q5.1 q5.2 q6
    have R'0 : 0 ≤ R' := by have := MR.le' (a := 0) (b := T) (by omega) (by omega) (Int.le_refl _); have := MR.z; have := MR.e; omega
    have mo := mR.mo (la p) q5.1 q5.2
    have := use (ar (as (i - fs' y + fs (fo y)) + w)) (la p) R R' q5.1 q5.2 q6 R'0 (by have := pl.2.1; omega) (fun s a _ b c => by have kb := K.rbl s a c; rw [b] at kb; have := pl.2.1; omega) (ua _ _ _ b.1.1 b.1.2 b.2.1 q5.1 q5.2 q6 slo) (S.arg _ _ _ b.1.1 b.1.2 slo)
    rw [q7] at this
    rw [a5, w3]; exact this
  · obtain ⟨s, s0, s1, s2, s3, _⟩ := src u u0 u1
    exact ⟨s, s0.1, s0.2, s2⟩
/-- JOINS keep SSA -/
theorem SSV.joined {B R P C T R' P' A' na rd m : Int} {rs op tg lf rt ek eu g1 g2 ps pr fs pt as ar po bp l2 r2 u2 ar2 ii ld fw rs' o' t' l' r' ek' eu' G1 G2 fo la nu ps' pr' fs' pt' as' ar' : Int → Int}
    (v : SSV B R P C rs op tg lf rt ek eu g1 g2 ps pr fs pt as ar) (f : FW ek g1 g2 B po bp rd) (rB : rd ≤ 300) (J : FJN B B ek ps pr ld fw) (J2 : FJ2 B ps pr ld fw) (I : IJN B ld fs pt as ar ii B m) (io : ∀ r : Int, ((-2147483648 ≤ ii r ∧ ii r ≤ 4294968319) ∨ ii r = 1099511627776))
    (sl : SBR ii lf l2 R) (sr : SBR ii rt r2 R) (se : SBR ii eu u2 B) (sa : SBA B fs ps as ii ar ar2)
    (xl : ∀ i : Int, ((-2147483648 ≤ lf i ∧ lf i ≤ 4294968319) ∨ lf i = 1099511627776)) (xr : ∀ i : Int, ((-2147483648 ≤ rt i ∧ rt i ≤ 4294968319) ∨ rt i = 1099511627776)) (xe : ∀ i : Int, ((-2147483648 ≤ eu i ∧ eu i ≤ 4294968319) ∨ eu i = 1099511627776)) (xa : ∀ i : Int, ((-2147483648 ≤ ar i ∧ ar i ≤ 4294968319) ∨ ar i = 1099511627776))
    (G : GAF B ld fw rs op tg l2 r2 ek u2 g1 g2 T R' rs' o' t' l' r' ek' eu' G1 G2 fo la nu) (Q : PHG fo la fs pt as ar2 ps pr ps' pr' P C T P' A' fs' pt' as' ar') (cg : CGD T R' P' na rs' o' t' ek' G1 G2 ps' pr' fs' pt' as') (am : AMF T fs' ps' as') (ab : ∀ b i : Int, 0 ≤ b → b < T → fs' b ≤ i → i < fs' (b + 1) → as' i + (ps' (b + 1) - ps' b) ≤ A') :
    SSV T R' P' A' rs' o' t' l' r' ek' eu' G1 G2 ps' pr' fs' pt' as' ar' := by
  obtain ⟨v1, v2, v3, vr, va, v4, v5, v6, bl, sd, K, S⟩ := v
  obtain ⟨B1, mR, mF, hU, hG, L, hT, hA⟩ := v1
  have gr := GR.of hG
  have l0 : ld 0 = 1 := by have := J.2 0 (by omega) (by omega); omega
  have po0 : ∀ b : Int, 0 ≤ b → b < B → 0 ≤ po b := fun b b0 b1 => by
    obtain ⟨k, r⟩ := v5 b b0 b1
    exact (r.re0 f gr).2
  have len : ∀ b : Int, 0 ≤ b → b < B → ∃ n k : Nat, n ≤ 300 ∧ raS ek g1 g2 (fun _ => 0) (-1) n k b := fun b b0 b1 => f.len 300 b b0 b1 (po0 b b0 b1) (by have := po0 b b0 b1; omega)
  have rc : ∀ b : Int, 0 ≤ b → b < B → ∃ n k : Nat, raS ek g1 g2 (fun _ => 0) (-1) n k b := fun b b0 b1 => by
    obtain ⟨n, k, _, r⟩ := len b b0 b1
    exact ⟨n, k, r⟩
  have blr : ∀ s : Int, -P ≤ s → s < R → 0 ≤ bl s ∧ bl s < B := fun s a b => by
    rcases Int.lt_or_le s 0 with w | w
    · exact (K.pbl s a w).1
    · exact (K.rbl s w b).1
  have one : ∀ x b i : Int, 0 ≤ b → b < B → ((-2147483648 ≤ x ∧ x ≤ 4294968319) ∨ x = 1099511627776) → UOK ek g1 g2 P R (TT tg pt P) sd bl x b i → UOK ek g1 g2 P R (TT tg pt P) sd bl (rsI ii 1000 x) b i ∧ STB ii (rsI ii 1000 x) := fun x b i b0 b1 o u => join_rs S K L J J2 I hT rc l0 gr io b0 b1 300 1000 x (by omega) o u (fun g => by
    obtain ⟨⟨u1, _⟩, _, _⟩ := u g
    have br := blr _ u1.1 u1.2
    exact len _ br.1 br.2)
  have pr0 : ∀ q x p : Int, 0 ≤ x → x < B → SLT fs ps pr as q x p → 0 ≤ p ∧ p < B := fun q x p x0 x1 s => by
    obtain ⟨i, k, _, _, a3, a4, _, a6⟩ := s
    have := (L.out x (ps x + k) x0 x1 (by omega) (by omega)).1
    rw [a6] at this; exact this
  have arow := fun i (i0 : 0 ≤ i) (i1 : i < R) => (⟨one _ _ _ (K.rbl i i0 i1).1.1 (K.rbl i i0 i1).1.2 (xl i) (S.row i i0 i1).1, one _ _ _ (K.rbl i i0 i1).1.1 (K.rbl i i0 i1).1.2 (xr i) (S.row i i0 i1).2⟩ : (UOK ek g1 g2 P R (TT tg pt P) sd bl (rsI ii 1000 (lf i)) (bl i) i ∧ STB ii (rsI ii 1000 (lf i))) ∧ (UOK ek g1 g2 P R (TT tg pt P) sd bl (rsI ii 1000 (rt i)) (bl i) i ∧ STB ii (rsI ii 1000 (rt i))))
  have aend := fun b (b0 : 0 ≤ b) (b1 : b < B) => one _ b R b0 b1 (xe b) (S.fin b b0 b1)
  have aarg : ∀ q x p : Int, 0 ≤ x → x < B → SLT fs ps pr as q x p → (UOK ek g1 g2 P R (TT tg pt P) sd bl (ar2 q) p R ∧ STB ii (ar2 q)) ∧ ar2 q = rsI ii 1000 (ar q) := fun q x p x0 x1 s => by
    have p9 := pr0 q x p x0 x1 s
    have u := one (ar q) p R p9.1 p9.2 (xa q) (S.arg q x p x0 x1 s)
    obtain ⟨i, k, a1, a2, a3, a4, a5, a6⟩ := s
    have e := sa x i k x0 x1 a1 a2 a3 a4
    rw [← a5] at e
    rw [e]; exact ⟨u, rfl⟩
  have S2 : SI ek g1 g2 B P R fs ps pr as tg pt l2 r2 u2 ar2 bl sd := ⟨S.num, fun i i0 i1 => by
    rw [(sl i).1 i0 i1, (sr i).1 i0 i1]; exact ⟨(arow i i0 i1).1.1, (arow i i0 i1).2.1⟩, fun b b0 b1 => by
    rw [(se b).1 b0 b1]; exact (aend b b0 b1).1, fun q x p x0 x1 s => (aarg q x p x0 x1 s).1.1⟩
  -- no operand names a PHI of a block that is joined
  have uph : ∀ x b i : Int, UOK ek g1 g2 P R (TT tg pt P) sd bl x b i → STB ii x → UPH ld bl sd x := fun x b i u st g s0 => by
    obtain ⟨⟨u1, u2'⟩, _, _⟩ := u g
    have kb := K.pbl _ u1.1 s0
    by_cases w : ld (bl (sd (x - 4294967296))) = 1
    · exact w
    · exfalso
      have e := I.2 _ (sd (x - 4294967296) + P) kb.1.1 kb.1.2 w kb.2.1 kb.2.2 (Or.inl kb.1.2)
      have te : pt (sd (x - 4294967296) + P) = x - 4294967296 := by unfold TT at u2'; rw [if_neg (by omega)] at u2'; exact u2'
      rw [te, st g] at e
      have jy := J2 _ kb.1.1 kb.1.2 w
      exact va (as (sd (x - 4294967296) + P)) _ (pr (ps (bl (sd (x - 4294967296))))) kb.1.1 kb.1.2 ⟨sd (x - 4294967296) + P, 0, kb.2.1, kb.2.2, by omega, by omega, by omega, by rw [show ∀ z : Int, z + 0 = z from fun z => by omega]⟩ e.symm
  have C9 := J.chn
  have cl := J2.gcl L hG
  obtain ⟨hh1, hh2, X, ra1, ra2⟩ := G
  have N : NGL T g1 g2 ek' G1 G2 fo la nu := X.goal ra1 ra2 hG cl
  have X0 := X
  obtain ⟨tk, st, cp, H⟩ := X
  -- every block is taken
  have alltk : ∀ (n k : Nat) (x : Int), 0 ≤ x → x < B → raS ek g1 g2 (fun _ => 0) (-1) n k x → tk x = 1 := by
    intro n
    induction n with
    | zero => intro k x x0 x1 r; have e : x = 0 := r.1; rw [e]; exact (H.1.2.2.1 0 (by omega) (by omega) l0).mpr (by omega)
    | succ n ih =>
      intro k x x0 x1 r
      by_cases w : ld x = 1
      · exact (H.1.2.2.1 x x0 x1 w).mpr x1
      · obtain ⟨_, p, ed, hh⟩ := r
        have h2 : ∃ k2 : Nat, raS ek g1 g2 (fun _ => 0) (-1) n k2 p := by
          rcases hh with ⟨hh, _⟩ | ⟨k', _, hh⟩
          · exact ⟨k, hh⟩
          · exact ⟨k', hh⟩
        obtain ⟨k2, h2⟩ := h2
        have p9 := h2.rng gr B1
        have jy := J2 x x0 x1 w
        have pe := L.only p9.1 p9.2 jy.2 ed
        have tp := ih k2 p p9.1 p9.2 h2
        rcases H.1.2.2.2.2.1 p p9.1 p9.2 tp (by omega) with q | q
        · rw [← pe, q] at jy; omega
        · rw [← pe] at jy; rw [jy.1] at q; exact q.1
  have tkall : ∀ x : Int, 0 ≤ x → x < B → tk x = 1 := fun x x0 x1 => by
    obtain ⟨n, k, r⟩ := rc x x0 x1
    exact alltk n k x x0 x1 r
  have jfw : ∀ p : Int, 0 ≤ p → p < B → ¬ fw p = -1 → (0 < fw p ∧ fw p < B) ∧ ek p = 0 ∧ ps (fw p + 1) - ps (fw p) = 1 ∧ pr (ps (fw p)) = p := fun p p0 p1 e => by
    rcases J.1 p p0 p1 with q | q
    · exact absurd q e
    · exact ⟨q.1, q.2.2.1, q.2.2.2.1, q.2.2.2.2.1⟩
  have E : ∀ p : Int, 0 ≤ p → p < B → tk p = 1 → ¬ fw p = -1 → ED ek g1 g2 p (fw p) := fun p p0 p1 _ e => by
    have q := jfw p p0 p1 e
    have := (L.out (fw p) (ps (fw p)) (by omega) q.1.2 (by omega) (by omega)).2
    rw [q.2.2.2] at this; exact this
  have M' := cg.2.2.1
  have L' := cg.2.2.2.2.2.1
  have O : ∀ p q : Int, 0 ≤ p → p < B → ¬ fw p = -1 → ED ek g1 g2 q (fw p) → 0 ≤ q → q < B → q = p := fun p q p0 p1 e ed q0 q1 => by
    have j := jfw p p0 p1 e
    rw [L.only q0 q1 j.2.2.1 ed]; exact j.2.2.2
  obtain ⟨bl', sd', K', S', src⟩ := gather_SI2 S2 K mR mF B1 l0 H N E gr O Q M' L' (fun x x0 x1 _ => by
      obtain ⟨n, k, r⟩ := rc x x0 x1
      exact ⟨k, n, r⟩) (fun d x d0 d1 _ _ _ _ => tkall d d0 d1)
    (fun i i0 i1 _ => by
      rw [(sl i).1 i0 i1, (sr i).1 i0 i1]
      exact ⟨uph _ _ _ (arow i i0 i1).1.1 (arow i i0 i1).1.2, uph _ _ _ (arow i i0 i1).2.1 (arow i i0 i1).2.2⟩) (fun b b0 b1 _ => by rw [(se b).1 b0 b1]; exact uph _ _ _ (aend b b0 b1).1 (aend b b0 b1).2) (fun q x p x0 x1 _ _ _ _ s => uph _ _ _ (aarg q x p x0 x1 s).1.1 (aarg q x p x0 x1 s).1.2)
  have T1 := cg.1
  have z0 := X0.zero (by omega) (Int.le_refl _) l0
  have fo0 : fo 0 = 0 := by have := (X0.lead 0 (by omega) (by omega) (by omega) l0).2; rw [z0] at this; exact this
  have rsn : ∀ x : Int, ¬ x = 1099511627776 → ∀ n : Nat, ¬ rsI ii n x = 1099511627776 := fun x nx n => by
    induction n generalizing x with
    | zero => exact nx
    | succ n ih =>
      show ¬ (if _ then _ else _) = _
      split
      · split
        · exact nx
        · rename_i c; exact ih _ c
      · exact nx
  have ar2f : ARF B fs ps pr as ar2 := fun q x p x0 x1 s => by
    rw [(aarg q x p x0 x1 s).2]; exact rsn _ (va q x p x0 x1 s) _
  refine ⟨⟨cg.1, cg.2.1, cg.2.2.1, cg.2.2.2.1, cg.2.2.2.2.1, cg.2.2.2.2.2.1, cg.2.2.2.2.2.2.1, ab⟩, am, fun y y0 y1 => ?_, fun j j0 j1 => ?_, Q.arf ar2f X0 L', ?_, fun y y0 y1 => ?_, fun u u0 u1 => ?_, bl', sd', K', S'⟩
  · obtain ⟨b1, b2, b3, b4, b5, b6, b7, b8, b9, b10⟩ := X0.blk y y0 y1
    have nz : ∀ w : Int, 0 ≤ w → w < T → 1 ≤ fo w → 1 ≤ w := fun w w0 w1 e => by
      by_cases q : w = 0
      · rw [q, fo0] at e; omega
      · omega
    have en := v3 (la y) b4.1 b4.2
    refine ⟨fun e => ?_, fun e => ?_, fun e => ?_⟩
    · have g9 := N y y0 y1 (by omega)
      rw [g9.1.1, g9.2.1, en.1 (by rw [← b7]; exact e)]
    · rw [b8, (se (la y)).1 b4.1 b4.2]; exact rsn _ (en.2.1 (by rw [← b7]; exact e)) _
    · have g9 := N y y0 y1 e
      have o1' := en.2.2 (by rw [← b7]; exact e)
      exact ⟨nz _ g9.1.2.1.1 g9.1.2.1.2 (by rw [g9.1.2.2]; omega), nz _ g9.2.2.1.1 g9.2.2.1.2 (by rw [g9.2.2.2]; omega)⟩
  · obtain ⟨x, i, x0, x1, x2, x3, x4⟩ := H.2.1.2.1 j j0 j1
    have rx := (H.2.1.1 x x0.1 x0.2 x1).2.2 i x2 x3
    rw [← x4] at rx
    have q0 := mR.le' (a := 0) (b := x) (by omega) (by omega) (by omega)
    have q1 := mR.le' (a := x + 1) (b := B) (by omega) (by omega) (Int.le_refl _)
    have := mR.z; have := mR.e
    have w := vr i (by omega) (by omega)
    rw [rx.1, rx.2.2.1, rx.2.2.2, (sl i).1 (by omega) (by omega), (sr i).1 (by omega) (by omega)]
    refine ⟨w.1, fun z => ?_, fun z => rsI_nno _ _ (w.2.2 z)⟩
    have y := w.2.1 z
    rw [rsI_stop y.1, rsI_stop y.2]; exact y
  · have := Q.2.1.2.2 0 (by omega) (by omega)
    rw [fo0, show (0 : Int) + 1 = 1 by omega, v4] at this
    have := M'.z; have := mF.z; omega
  · obtain ⟨b1, b2, b3, _⟩ := X0.blk y y0 y1
    have key : ∀ (n k : Nat) (x : Int), raS ek g1 g2 (fun _ => 0) (-1) n k x → ∃ k' : Nat, RA ek' G1 G2 (fun _ => 0) (-1) k' (nu x) := by
      intro n
      induction n with
      | zero => intro k x r; have e : x = 0 := r.1; rw [e, z0]; exact ⟨0, RA.start 0 (by omega)⟩
      | succ n ih =>
        intro k x r
        have xr := r.rng gr B1
        obtain ⟨_, p, ed, hh⟩ := r
        have h2 : ∃ k2 : Nat, raS ek g1 g2 (fun _ => 0) (-1) n k2 p := by
          rcases hh with ⟨hh, _⟩ | ⟨k', _, hh⟩
          · exact ⟨k, hh⟩
          · exact ⟨k', hh⟩
        obtain ⟨k2, h2⟩ := h2
        have p9 := h2.rng gr B1
        obtain ⟨k3, r3⟩ := ih k2 p h2
        have tp := tkall p p9.1 p9.2
        have ne : ¬ ek p = 2 := by
          obtain ⟨i, i0, i1, i2⟩ := ed
          exact gcF_ne (ek := ek) (g1 := g1) (g2 := g2) (by omega)
        have two : x = g1 p ∨ x = g2 p := by
          obtain ⟨i, i0, i1, i2⟩ := ed
          unfold glF at i2
          split at i2
          · exact Or.inl i2.symm
          · exact Or.inr i2.symm
        by_cases fp : fw p = -1
        · have lp := H.1.2.2.2.2.2.2.2.1 p p9.1 p9.2 tp fp (by omega)
          have np := (H.2.1.1 p p9.1 p9.2 tp).1.1
          have bp := X0.blk (nu p) np lp.1
          have ne' : ¬ ek' (nu p) = 2 := by rw [bp.2.2.2.2.2.2.1, lp.2]; exact ne
          have g9 := N (nu p) np lp.1 ne'
          rw [lp.2] at g9
          have nx := (H.2.1.1 x xr.1 xr.2 (tkall x xr.1 xr.2)).1.1
          refine ⟨k3 + 1, RA.back r3 ?_ (by omega)⟩
          rcases two with w | w
          · rw [w, ← g9.1.1]; exact ED.one ne'
          · rw [w, ← g9.2.1]; exact ED.two ne'
        · have j := jfw p p9.1 p9.2 fp
          have gg := (v3 p p9.1 p9.2).1 j.2.1
          have two' : fw p = g1 p := by
            obtain ⟨i, i0, i1, i2⟩ := E p p9.1 p9.2 tp fp
            unfold glF at i2
            split at i2
            · exact i2.symm
            · rw [gg]; exact i2.symm
          have xe' : fw p = x := by
            rcases two with w | w
            · rw [two', w]
            · rw [two', w, gg]
          rcases H.1.2.2.2.2.1 p p9.1 p9.2 tp (by omega) with q | q
          · exact absurd q fp
          · rw [xe'] at q; rw [q.2.2.1]; exact ⟨k3, r3⟩
    obtain ⟨n, k, r⟩ := rc (fo y) b1.1 b1.2
    have := key n k (fo y) r
    rw [b3] at this; exact this
  · obtain ⟨s, s0, s1, s2⟩ := src u u0 u1
    rw [s2]; exact v6 s s0 s1
/-- IFs with one goal twice have become JUMPs -/
def STI (ek eu g1 g2 ek' eu' : Int → Int) : Prop := ∀ b : Int, (ek' b = ek b ∧ eu' b = eu b) ∨ (ek b = 1 ∧ g1 b = g2 b ∧ ek' b = 0 ∧ eu' b = 1099511627776)
theorem STI.refl (ek eu g1 g2 : Int → Int) : STI ek eu g1 g2 ek eu := fun _ => Or.inl ⟨rfl, rfl⟩
theorem STI.set {ek eu g1 g2 ek' eu' : Int → Int} {d : Int} (h : STI ek eu g1 g2 ek' eu') (e : ek' d = 1) (g : g1 d = g2 d) : STI ek eu g1 g2 (zup ek' d 0) (zup eu' d 1099511627776) := fun b => by
  by_cases c : b = d
  · rw [c, zup_eq, zup_eq]
    rcases h d with q | q
    · rw [q.1] at e; exact Or.inr ⟨e, g, rfl, rfl⟩
    · omega
  · rw [zup_ne _ _ c, zup_ne _ _ c]; exact h b
theorem STI.gc {ek eu g1 g2 ek' eu' : Int → Int} (h : STI ek eu g1 g2 ek' eu') (p : Int) : gcF ek' g1 g2 p = gcF ek g1 g2 p := by
  unfold gcF
  rcases h p with q | q
  · rw [q.1]
  · rw [if_neg (show ¬ ek' p = 2 by omega), if_neg (show ¬ ek p = 2 by omega)]
theorem STI.ed {ek eu g1 g2 ek' eu' : Int → Int} (h : STI ek eu g1 g2 ek' eu') (p b : Int) : ED ek' g1 g2 p b ↔ ED ek g1 g2 p b := by
  unfold ED; rw [h.gc p]
theorem STI.ne {ek eu g1 g2 ek' eu' : Int → Int} (h : STI ek eu g1 g2 ek' eu') (p : Int) (e : ¬ ek' p = 2) : ¬ ek p = 2 := by
  rcases h p with q | q
  · rw [← q.1]; exact e
  · omega
theorem SSV.straight {B R P C : Int} {rs op tg lf rt ek eu g1 g2 ps pr fs pt as ar ek' eu' : Int → Int} (v : SSV B R P C rs op tg lf rt ek eu g1 g2 ps pr fs pt as ar) (h : STI ek eu g1 g2 ek' eu') : SSV B R P C rs op tg lf rt ek' eu' g1 g2 ps pr fs pt as ar := by
  obtain ⟨v1, v2, v3, vr, va, v4, v5, v6, bl, sd, K, S⟩ := v
  obtain ⟨c1, c2, c3, c4, c5, c6, c7, c8⟩ := v1
  have pl : PL ek' g1 g2 B ps pr := ⟨c6.1, fun p i p0 p1 i0 i1 => c6.ins p i p0 p1 i0 (by rw [← h.gc p]; exact i1), fun b k b0 b1 k0 k1 => ⟨(c6.out b k b0 b1 k0 k1).1, (h.ed _ _).mpr (c6.out b k b0 b1 k0 k1).2⟩, c6.inc⟩
  have pth : ∀ (n k : Nat) (x : Int), raS ek g1 g2 (fun _ => 0) (-1) n k x → raS ek' g1 g2 (fun _ => 0) (-1) n k x := by
    intro n
    induction n with
    | zero => intro k x q; exact q
    | succ n ih =>
      intro k x q
      obtain ⟨q1, p, q2, q3⟩ := q
      refine ⟨q1, p, (h.ed _ _).mpr q2, ?_⟩
      rcases q3 with ⟨q3, q4⟩ | ⟨k', q3, q4⟩
      · exact Or.inl ⟨ih k p q3, q4⟩
      · exact Or.inr ⟨k', q3, ih k' p q4⟩
  refine ⟨⟨c1, c2, c3, c4, fun b b0 b1 e => c5 b b0 b1 (h.ne b e), pl, c7, c8⟩, v2, fun b b0 b1 => ?_, vr, va, v4, fun b b0 b1 => ?_, v6, bl, sd, K, S.ends (fun p b => (h.ed p b).mp) (fun b => ?_)⟩
  · have en := v3 b b0 b1
    refine ⟨fun e => ?_, fun e => ?_, fun e => en.2.2 (h.ne b e)⟩
    · rcases h b with q | q
      · exact en.1 (by rw [← q.1]; exact e)
      · exact q.2.1
    · rcases h b with q | q
      · rw [q.2]; exact en.2.1 (by rw [← q.1]; exact e)
      · omega
  · obtain ⟨k, n, r⟩ := v5 b b0 b1
    exact ⟨k, n, pth n k b r⟩
  · rcases h b with q | q
    · exact Or.inl q.2
    · right; rw [q.2.2.2]; unfold isg; omega
theorem SSV.pu {B R P C : Int} {rs op tg lf rt ek eu g1 g2 ps pr fs pt as ar : Int → Int} (v : SSV B R P C rs op tg lf rt ek eu g1 g2 ps pr fs pt as ar) : ∀ i j : Int, 0 ≤ i → i < P → 0 ≤ j → j < P → pt i = pt j → i = j := fun i j i0 i1 j0 j1 e => by
  obtain ⟨v1, v2, v3, vr, va, v4, v5, v6, bl, sd, K, S⟩ := v
  have c1 := v1.1
  have R0 : 0 ≤ R := by have := v1.2.1.top 0 (by omega) (by omega); have := v1.2.1.z; omega
  have hT := v1.2.2.2.2.2.2.1
  have a := S.num (i - P) (by omega) (by omega) (by unfold TT; rw [if_neg (by omega), show i - P + P = i by omega]; exact hT i i0 i1)
  have b := S.num (j - P) (by omega) (by omega) (by unfold TT; rw [if_neg (by omega), show j - P + P = j by omega]; exact hT j j0 j1)
  unfold TT at a b
  rw [if_neg (by omega), show i - P + P = i by omega] at a
  rw [if_neg (by omega), show j - P + P = j by omega, ← e, a] at b
  omega
