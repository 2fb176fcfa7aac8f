theorem OPN.stay {B R P : Int} {rs op tg lf rt ek eu g1 g2 ps pr fs pt as ar kd ii gn o1 o2 : Int → Int} {n m : Int} {rs' o' t' l' r' ek' eu' g1' g2' fs' pt' as' ar' : Int → Int} (h : FLD B R P rs op tg lf rt ek eu g1 g2 ps pr fs pt as ar kd ii gn o1 o2 n m rs' o' t' l' r' ek' eu' g1' g2' fs' pt' as' ar') (xe : ∀ i : Int, ((-2147483648 ≤ eu i ∧ eu i ≤ 4294968319) ∨ eu i = 1099511627776)) : ∀ p b : Int, 0 ≤ p → p < B → OPN g1 g2 o1 o2 p b → ED ek' g1' g2' p b := by
  obtain ⟨h1, h2, h3, hV, pm, o, l2, r2, u2, f, g, a1, a2, a3, a4, a5, a6, a7, a8⟩ := h
  intro p b p0 p1 w
  have hv := hV p p0 p1
  have q := rsI_num h1 (xe p)
  have ue : u2 p = rsI ii 1000 (eu p) := (a5 p).1 p0 p1
  have two : kdF kd (eu p) = 2 → ¬ u2 p < 4294967296 := fun z => by
    rw [ue, q.2 (by omega)]
    unfold kdF at z
    by_cases c : 4294967296 ≤ eu p ∧ eu p < 1099511627776
    · omega
    · rw [if_neg c] at z; omega
  have one : kdF kd (eu p) = 1 → u2 p = nvF ii (eu p) := fun z => by rw [ue, q.1 z]
  rcases w with ⟨w1, w2⟩ | ⟨w1, w2⟩
  · obtain ⟨gp, ne⟩ := h2.2.2.1 p p0 p1 (Or.inl w1)
    rcases (a7 p).1 ⟨p0, p1, gp⟩ with ⟨b1, b2, b3, b4⟩ | ⟨b1, b2, b3, b4, b5⟩
    · have hv := hv.1 w1
      rcases b4 with ⟨z, y1, y2⟩ | ⟨z, y1, y2⟩
      · exfalso
        rcases hv with hv | ⟨_, hv | hv⟩
        · omega
        · exact two hv b1.2
        · rw [one hv.1] at z; exact hv.2 z
      · rw [← w2, ← y1]; exact ED.one (by omega)
    · rw [← w2, ← b4]; exact ED.one (by rw [b2]; exact ne)
  · obtain ⟨gp, ne⟩ := h2.2.2.1 p p0 p1 (Or.inr w1)
    rcases (a7 p).1 ⟨p0, p1, gp⟩ with ⟨b1, b2, b3, b4⟩ | ⟨b1, b2, b3, b4, b5⟩
    · have hv := hv.2 w1
      rcases b4 with ⟨z, y1, y2⟩ | ⟨z, y1, y2⟩
      · rw [← w2, ← y2]; exact ED.two (by omega)
      · exfalso
        rcases hv with hv | ⟨_, hv | hv⟩
        · omega
        · exact two hv b1.2
        · rw [one hv.1] at z; exact z hv.2
    · rw [← w2, ← b5]; exact ED.two (by rw [b2]; exact ne)
/-- open ways in the folded function -/
theorem OPR.walk {B : Int} {ek g1 g2 g1o g2o o1 o2 : Int → Int} (ed : ∀ p b : Int, 0 ≤ p → p < B → OPN g1o g2o o1 o2 p b → ED ek g1 g2 p b) (gr : ∀ p b : Int, 0 ≤ p → p < B → OPN g1o g2o o1 o2 p b → 0 ≤ b ∧ b < B) (B1 : 1 ≤ B) (d : Int) : ∀ {k : Nat} {b : Int}, OPR g1o g2o o1 o2 k b → (0 ≤ b ∧ b < B) ∧ ((∃ j : Nat, j < k ∧ OPR g1o g2o o1 o2 j d) ∨ d = b ∨ RA ek g1 g2 (fun _ => 0) d k b)
  | 0, b, e => by
    have e' : b = 0 := e
    rw [e']
    refine ⟨by omega, ?_⟩
    by_cases w : d = 0
    · exact Or.inr (Or.inl w)
    · exact Or.inr (Or.inr (RA.start 0 w))
  | k + 1, b, ⟨p, r, o⟩ => by
    obtain ⟨pr, q⟩ := OPR.walk ed gr B1 d r
    refine ⟨gr p b pr.1 pr.2 o, ?_⟩
    rcases q with ⟨j, j1, j2⟩ | q | q
    · exact Or.inl ⟨j, by omega, j2⟩
    · rw [q]; exact Or.inl ⟨k, by omega, r⟩
    · by_cases w : d = b
      · exact Or.inr (Or.inl w)
      · exact Or.inr (Or.inr (RA.back q (ed p b pr.1 pr.2 o) (fun z => w z.symm)))
theorem PHG.arf {B P C T R' P' A' b : Int} {ld fw rs o t l r ek eu g1 g2 rs' o' t' l' r' ek' eu' h1 h2 fo la nu fs pt as ar ps pr ps' pr' fs' pt' as' ar' e1 e2 e3 : Int → Int} (Q : PHG fo la fs pt as ar ps pr ps' pr' P C T P' A' fs' pt' as' ar') (f : ARF B fs ps pr as ar) (X : GTX B ld fw rs o t l r ek eu g1 g2 b T R' rs' o' t' l' r' ek' eu' h1 h2 fo la nu) (_L : PL e1 e2 e3 T ps' pr') : ARF T fs' ps' pr' as' ar' := fun q y p y0 y1 sl => by
  obtain ⟨i, k, a1, a2, a3, a4, a5, a6⟩ := sl
  have bk := X.blk y y0 y1
  have fe := Q.2.1.2.2 y y0 y1
  have px := Q.2.2.1 y (i - fs' y + fs (fo y)) y0 y1 (by omega) (by omega)
  rw [show fs' y + (i - fs' y + fs (fo y) - fs (fo y)) = i by omega] at px
  obtain ⟨w, w0, w1, w2, w3⟩ := px.2.2 k a3 a4
  rw [a5, w3]
  exact f _ (fo y) _ bk.1.1 bk.1.2 ⟨i - fs' y + fs (fo y), w, by omega, by omega, w0, w1, rfl, w2⟩
/-- CONSTANTS keep SSA -/
theorem SSV.folded {B R P C T R' P' A' na : Int} {rs op tg lf rt ek eu g1 g2 ps pr fs pt as ar kd ii gn o1 o2 : Int → Int} {n m : Int} {rs1 op1 t1 l1 r1 ek1 eu1 g11 g21 fs1 pt1 as1 ar1 : Int → Int} {ld fw rs' o' t' l' r' ek' eu' G1 G2 fo la nu ps' pr' fs' pt' as' ar' : Int → Int}
    (v : SSV B R P C rs op tg lf rt ek eu g1 g2 ps pr fs pt as ar) (h : FLD B R P rs op tg lf rt ek eu g1 g2 ps pr fs pt as ar kd ii gn o1 o2 n m rs1 op1 t1 l1 r1 ek1 eu1 g11 g21 fs1 pt1 as1 ar1) (kr : ∀ r : Int, 0 ≤ kd r ∧ kd r ≤ 2) (er : ∀ b : Int, 0 ≤ ek b ∧ ek b ≤ 2)
    (xl : ∀ i : Int, ((-2147483648 ≤ lf i ∧ lf i ≤ 4294968319) ∨ lf i = 1099511627776)) (xr : ∀ i : Int, ((-2147483648 ≤ rt i ∧ rt i ≤ 4294968319) ∨ rt i = 1099511627776)) (xe : ∀ i : Int, ((-2147483648 ≤ eu i ∧ eu i ≤ 4294968319) ∨ eu i = 1099511627776)) (xa : ∀ i : Int, ((-2147483648 ≤ ar i ∧ ar i ≤ 4294968319) ∨ ar i = 1099511627776))
    (G : GAF B ld fw rs1 op1 t1 l1 r1 ek1 eu1 g11 g21 T R' rs' o' t' l' r' ek' eu' G1 G2 fo la nu) (Q : PHG fo la fs1 pt1 as1 ar1 ps pr ps' pr' m C T P' A' fs' pt' as' ar') (cg : CGD T R' P' na rs' o' t' ek' G1 G2 ps' pr' fs' pt' as') (am : AMF T fs' ps' as') (ab : ∀ b i : Int, 0 ≤ b → b < T → fs' b ≤ i → i < fs' (b + 1) → as' i + (ps' (b + 1) - ps' b) ≤ A') (hl : ∀ x : Int, 0 ≤ x → x < B → ld x = gn x) (hf : ∀ x : Int, 0 ≤ x → x < B → fw x = -1) :
    SSV T R' P' A' rs' o' t' l' r' ek' eu' G1 G2 ps' pr' fs' pt' as' ar' := by
  have ok := h.ok v kr er xe
  obtain ⟨⟨bl, sd, K, S⟩, tl, rwf, f1, arf⟩ := h.si v xl xr xe xa
  have st9 := OPN.stay h xe
  obtain ⟨v1, v2, v3, vr, va, v4, v5, v6, _⟩ := v
  obtain ⟨h1, h2, h3, hV, pm, o, l2, r2, u2, f, g, a1, a2, a3, a4, a5, a6, a7, a8⟩ := h
  have B1 := ok.1.1
  have mR := ok.1.2.1
  have mF := ok.1.2.2.1
  have hG := ok.2.2.1
  have l0 : ld 0 = 1 := by rw [hl 0 (by omega) (by omega)]; exact ok.2.2.2.1
  have cl : GCL B ld fw ek1 g11 g21 := GCL.alone hl hf hG ok.2.2.2.2.1
  obtain ⟨hh1, hh2, X, ra1, ra2⟩ := G
  have N : NGL T g11 g21 ek' G1 G2 fo la nu := X.goal ra1 ra2 hG cl
  have X0 := X
  obtain ⟨tk, st, cp, H⟩ := X
  have tg1 : ∀ x : Int, 0 ≤ x → x < B → tk x = 1 → ld x = 1 := fun x x0 x1 e => by
    by_cases w : ld x = 1
    · exact w
    · obtain ⟨p, p0, p1, _, _, p4⟩ := H.1.2.2.2.1 x x0 x1 e w
      rw [hf p p0 p1] at p4; omega
  have gtk : ∀ x : Int, 0 ≤ x → x < B → gn x = 1 → tk x = 1 := fun x x0 x1 e => (H.1.2.2.1 x x0 x1 (by rw [hl x x0 x1]; exact e)).mpr x1
  have grng : ∀ p b : Int, 0 ≤ p → p < B → OPN g1 g2 o1 o2 p b → 0 ≤ b ∧ b < B := fun p b p0 p1 w => by
    have c5 := v1.2.2.2.2.1
    rcases w with ⟨w1, w2⟩ | ⟨w1, w2⟩
    · have := c5 p p0 p1 (h2.2.2.1 p p0 p1 (Or.inl w1)).2; omega
    · have := c5 p p0 p1 (h2.2.2.1 p p0 p1 (Or.inr w1)).2; omega
  have gr : ∀ (k : Nat) (b : Int), OPR g1 g2 o1 o2 k b → gn b = 1 := by
    intro k b r
    cases k with
    | zero => have e : b = 0 := r; rw [e]; exact h2.1
    | succ k =>
      obtain ⟨p, rp, q⟩ := r
      have pr0 := (OPR.walk st9 grng B1 0 rp).1
      exact h2.2.2.2 p b pr0.1 pr0.2 q
  have dc : ∀ d x : Int, 0 ≤ d → d < B → 0 ≤ x → x < B → tk x = 1 → DM ek1 g11 g21 d x → tk d = 1 := by
    intro d x d0 d1 x0 x1 tx dm
    have gx : gn x = 1 := by rw [← hl x x0 x1]; exact tg1 x x0 x1 tx
    obtain ⟨k, r⟩ := h2.2.1 x x0 x1 gx
    rcases (OPR.walk st9 grng B1 d r).2 with ⟨j, _, j2⟩ | q | q
    · exact gtk d d0 d1 (gr j d j2)
    · rw [q]; exact tx
    · exact absurd q (dm k)
  have uph : ∀ x b i : Int, 0 ≤ b → b < B → tk b = 1 → UOK ek1 g11 g21 m n (TT t1 pt1 m) sd bl x b i → UPH ld bl sd x := by
    intro x b i b0 b1 tb u w s0
    obtain ⟨⟨u1, u2'⟩, u3, _⟩ := u w
    have kb := K.pbl _ u1.1 s0
    exact tg1 _ kb.1.1 kb.1.2 (dc _ b kb.1.1 kb.1.2 b0 b1 tb u3)
  have M' := cg.2.2.1
  have L' := cg.2.2.2.2.2.1
  obtain ⟨bl', sd', K', S', src⟩ := gather_SI S K mR mF B1 l0 H N (fun p p0 p1 _ e => absurd (hf p p0 p1) e) (fun p q p0 p1 e _ => absurd (hf p p0 p1) e) Q M' L' (fun x x0 x1 tx => by
      have gx : gn x = 1 := by rw [← hl x x0 x1]; exact tg1 x x0 x1 tx
      obtain ⟨k, r⟩ := h2.2.1 x x0 x1 gx
      rcases (OPR.walk st9 grng B1 (-1) r).2 with ⟨j, _, j2⟩ | q | q
      · have := (OPR.walk st9 grng B1 0 j2).1; omega
      · omega
      · exact ⟨k, q⟩) dc
    (fun i i0 i1 ti => by
      have kb := K.rbl i i0 i1
      have u := S.row i i0 i1
      exact ⟨uph _ _ _ kb.1.1 kb.1.2 ti u.1, uph _ _ _ kb.1.1 kb.1.2 ti u.2⟩) (fun b b0 b1 tb => uph _ _ _ b0 b1 tb (S.fin b b0 b1)) (fun q x p x0 x1 _ p0 p1 tp sl => uph _ _ _ p0 p1 tp (S.arg q x p x0 x1 sl))
  have T1 := cg.1
  have z0 := X0.zero (by omega) (Int.le_refl _) l0
  have fo0 : fo 0 = 0 := by have := (X0.lead 0 (by omega) (by omega) (by omega) l0).2; rw [z0] at this; exact this
  refine ⟨⟨cg.1, cg.2.1, cg.2.2.1, cg.2.2.2.1, cg.2.2.2.2.1, cg.2.2.2.2.2.1, cg.2.2.2.2.2.2.1, ab⟩, am, fun y y0 y1 => ?_, fun j j0 j1 => ?_, Q.arf arf X0 L', ?_, fun y y0 y1 => ?_, fun u u0 u1 => ?_, bl', sd', K', S'⟩
  · obtain ⟨b1, b2, b3, b4, b5, b6, b7, b8, b9, b10⟩ := X0.blk y y0 y1
    have lay : gn (la y) = 1 := by
      rw [← hl _ b4.1 b4.2]
      rcases X0.tkn y y0 y1 with q | ⟨p, p0, p1, p2⟩
      · exact q
      · rw [hf p p0 p1] at p2; omega
    have nz : ∀ w : Int, 0 ≤ w → w < T → 1 ≤ fo w → 1 ≤ w := fun w w0 w1 e => by
      by_cases q : w = 0
      · rw [q, fo0] at e; omega
      · omega
    have en := v3 (la y) b4.1 b4.2
    have fe := (a7 (la y)).1 ⟨b4.1, b4.2, lay⟩
    refine ⟨fun e => ?_, fun e => ?_, fun e => ?_⟩
    · have g9 := N y y0 y1 (by omega)
      have ge : g11 (la y) = g21 (la y) := by
        rcases fe with ⟨c1, c2, c3, c4⟩ | ⟨c1, c2, c3, c4, c5⟩
        · rcases c4 with ⟨_, y1', y2'⟩ | ⟨_, y1', y2'⟩ <;> rw [y1', y2']
        · rw [c4, c5]; exact en.1 (by rw [← c2, ← b7]; exact e)
      rw [g9.1.1, g9.2.1, ge]
    · rw [b8]
      rcases fe with ⟨c1, c2, c3, c4⟩ | ⟨c1, c2, c3, c4, c5⟩
      · rw [b7, c2] at e; omega
      · have e1 : ek (la y) = 1 := by rw [← c2, ← b7]; exact e
        have nn := en.2.1 e1
        rw [c3, (a5 (la y)).1 b4.1 b4.2]
        have q := rsI_num h1 (xe (la y))
        by_cases k : kdF kd (eu (la y)) = 1
        · rw [q.1 k]; have := nvF_rng h1 k (xe (la y)) nn; omega
        · rw [q.2 k]; exact nn
    · have g9 := N y y0 y1 e
      have sb := a7.sub (la y) (by rw [← b7]; exact e)
      have o1' := en.2.2 sb.1
      refine ⟨nz _ g9.1.2.1.1 g9.1.2.1.2 ?_, nz _ g9.2.2.1.1 g9.2.2.1.2 ?_⟩
      · rw [g9.1.2.2]; rcases sb.2.1 with q | q <;> rw [q] <;> omega
      · rw [g9.2.2.2]; rcases sb.2.2 with q | q <;> rw [q] <;> omega
  · obtain ⟨x, i, x0, x1, x2, x3, x4⟩ := H.2.1.2.1 j j0 j1
    have rx := (H.2.1.1 x x0.1 x0.2 x1).2.2 i x2 x3
    rw [← x4] at rx
    have q0 := mR.le' (a := 0) (b := x) (by omega) (by omega) (by omega)
    have q1 := mR.le' (a := x + 1) (b := B) (by omega) (by omega) (Int.le_refl _)
    have := mR.z; have := mR.e
    have w := rwf i (by omega) (by omega)
    rw [rx.1, rx.2.2.1, rx.2.2.2]; exact w
  · have := Q.2.1.2.2 0 (by omega) (by omega)
    rw [fo0, show (0 : Int) + 1 = 1 by omega, f1] at this
    have := M'.z; have := mF.z; omega
  · obtain ⟨b1, b2, b3, _⟩ := X0.blk y y0 y1
    have gx : gn (fo y) = 1 := by rw [← hl _ b1.1 b1.2]; exact b2
    obtain ⟨k, r⟩ := h2.2.1 (fo y) b1.1 b1.2 gx
    have key : ∀ (k : Nat) (b : Int), OPR g1 g2 o1 o2 k b → RA ek' G1 G2 (fun _ => 0) (-1) k (nu b) := by
      intro k
      induction k with
      | zero => intro b e; have e' : b = 0 := e; rw [e', z0]; exact RA.start 0 (by omega)
      | succ k ih =>
        intro b e
        have e0 := e
        obtain ⟨p, rp, q⟩ := e
        have pr0 := (OPR.walk st9 grng B1 0 rp).1
        have br0 := (OPR.walk st9 grng B1 0 e0).1
        have tp := gtk p pr0.1 pr0.2 (gr k p rp)
        have lp := H.1.2.2.2.2.2.2.2.1 p pr0.1 pr0.2 tp (hf p pr0.1 pr0.2) (by omega)
        have np := (H.2.1.1 p pr0.1 pr0.2 tp).1.1
        obtain ⟨i, i0, i1, i2⟩ := st9 p b pr0.1 pr0.2 q
        have ne : ¬ ek1 p = 2 := gcF_ne (ek := ek1) (g1 := g11) (g2 := g21) (by omega)
        have bp := X0.blk (nu p) np lp.1
        have ne' : ¬ ek' (nu p) = 2 := by rw [bp.2.2.2.2.2.2.1, lp.2]; exact ne
        have g9 := N (nu p) np lp.1 ne'
        rw [lp.2] at g9
        have nb : 0 ≤ nu b := (H.2.1.1 b br0.1 br0.2 (gtk b br0.1 br0.2 (gr (k + 1) b e0))).1.1
        refine RA.back (ih p rp) ?_ (by omega)
        unfold glF at i2
        split at i2
        · rw [← i2, ← g9.1.1]; exact ED.one ne'
        · rw [← i2, ← g9.2.1]; exact ED.two ne'
    have := key k (fo y) r
    rw [b3] at this; exact ⟨k, this⟩
  · obtain ⟨s, s0, s1, s2⟩ := src u u0 u1
    rw [s2]; exact tl s s0 s1
/-- in SSA every block stands in the ORDER -/
theorem SSV.all {B R P C rd : Int} {rs op tg lf rt ek eu g1 g2 ps pr fs pt as ar po bp id pl od : Int → Int} (v : SSV B R P C rs op tg lf rt ek eu g1 g2 ps pr fs pt as ar) (f : FW ek g1 g2 B po bp rd) (o : OD B po id pl od rd) : ∀ b : Int, 0 ≤ b → b < B → ∃ n : Int, 0 ≤ n ∧ n < rd ∧ od n = b := fun b b0 b1 => by
  obtain ⟨k, r⟩ := v.2.2.2.2.2.2.1 b b0 b1
  have q := r.re0 f (GR.of v.1.2.2.2.2.1)
  have p := o.rch b b0 b1 q.2
  have w := o.plc b b0 b1 p
  exact ⟨pl b, p, w.1, w.2.1⟩
theorem SSV.po {B R P C rd : Int} {rs op tg lf rt ek eu g1 g2 ps pr fs pt as ar po bp : Int → Int} (v : SSV B R P C rs op tg lf rt ek eu g1 g2 ps pr fs pt as ar) (f : FW ek g1 g2 B po bp rd) : ∀ b : Int, 0 ≤ b → b < B → 0 ≤ po b := fun b b0 b1 => by
  obtain ⟨k, r⟩ := v.2.2.2.2.2.2.1 b b0 b1
  exact (r.re0 f (GR.of v.1.2.2.2.2.1)).2
