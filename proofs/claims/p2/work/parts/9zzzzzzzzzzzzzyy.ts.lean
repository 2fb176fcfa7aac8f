/-! PHIs stand where they are wanted: so what is used has been set on every way -/
section PHA9
variable {L L' : List Nat} {P Q R : PO} {cO cI cZ : ClassId} {ed la x : Nat} {b c d i j k n o p q r : Int} {lv : Int → Int → Int}
theorem naming2 {LIV PHI SET : Int → Prop} (hz : LIV 0 → SET 0) (hp : ∀ b : Int, PHI b → SET b) (hl : ∀ p q : Int, RCH P la (-1) p → EDG P la p q → LIV q → SET p ∨ LIV p) (hf : ∀ p q : Int, SET p → FRO P la p q → LIV q → PHI q) (h : RCH P la (-1) b) : LIV b → PHI b ∨ (b = 0 ∧ SET 0) ∨ ∃ d : Int, SET d ∧ DOM P la d b ∧ d ≠ b := by
  have key := h (fun c => RCH P la (-1) c ∧ (LIV c → PHI c ∨ (c = 0 ∧ SET 0) ∨ ∃ d : Int, SET d ∧ DOM P la d c ∧ d ≠ c)) (fun _ => ⟨RCH.zero (by decide), fun w => Or.inr (Or.inl ⟨rfl, hz w⟩)⟩) (fun p q s e ne => by
    have rq : RCH P la (-1) q := s.1.step e ne
    refine ⟨rq, fun w => ?_⟩
    have dd : ∃ d : Int, SET d ∧ DOM P la d p := by
      rcases hl p q s.1 e w with k | k
      · exact ⟨p, k, DOM.refl s.1⟩
      · rcases s.2 k with k | ⟨k1, k2⟩ | ⟨d, k1, k2, _⟩
        · exact ⟨p, hp p k, DOM.refl s.1⟩
        · exact ⟨p, by rw [k1]; exact k2, DOM.refl s.1⟩
        · exact ⟨d, k1, k2⟩
    obtain ⟨d, d1, d2⟩ := dd
    by_cases z : d ≠ q ∧ DOM P la d q
    · exact Or.inr (Or.inr ⟨d, d1, z.2, z.1⟩)
    · exact Or.inl (hf d q d1 ⟨d2.1, z, p, d2, e⟩ w))
  exact key.2
/-- a PHI of block b: its register lives there, it has an operand of each block that leads there and of no other -/
def PHQ (Q R : PO) (la : Nat) (lv : Int → Int → Int) (b : Int) (x : Nat) : Prop := (0 ≤ R.pt x ∧ R.pt x ≤ 1001 ∧ lv b (R.pt x) ≠ 0 ∧ R.pg x = 0) ∧ (∀ i : Int, 0 ≤ i → i < R.pn x → R.ia (R.pr x) i ≠ 0 ∧ R.ia (R.pu x) i = R.pt x ∧ EDG Q la (R.ia (R.pp x) i) b) ∧ (∀ p : Int, 0 ≤ p → p < Q.lz la → EDG Q la p b → HPP R x p) ∧ ∀ i j : Int, 0 ≤ i → i < j → j < R.pn x → R.ia (R.pp x) i ≠ R.ia (R.pp x) j
/-- blocks, rows and ends are as they were -/
def PHS (Q R : PO) (la : Nat) : Prop := R.lz la = Q.lz la ∧ ∀ b : Int, 0 ≤ b → b < Q.lz la → R.el la b = Q.el la b ∧ (R.bp (Q.el la b) = Q.bp (Q.el la b) ∧ R.br (Q.el la b) = Q.br (Q.el la b) ∧ R.be (Q.el la b) = Q.be (Q.el la b) ∧ R.bf (Q.el la b) = Q.bf (Q.el la b) ∧ R.bs (Q.el la b) = Q.bs (Q.el la b)) ∧ (R.lz (Q.br (Q.el la b)) = Q.lz (Q.br (Q.el la b)) ∧ ∀ k : Int, 0 ≤ k → k < Q.lz (Q.br (Q.el la b)) → R.el (Q.br (Q.el la b)) k = Q.el (Q.br (Q.el la b)) k ∧ ∀ f : Nat, R.1 f (Q.el (Q.br (Q.el la b)) k) = Q.1 f (Q.el (Q.br (Q.el la b)) k)) ∧ ∀ f : Nat, R.1 f (Q.be (Q.el la b)) = Q.1 f (Q.be (Q.el la b))
/-- registers in front of o have their PHIs -/
def PHA (Q R : PO) (la : Nat) (lv : Int → Int → Int) (o : Int) : Prop := PHS Q R la ∧ ((∀ b k : Int, 0 ≤ b → b < Q.lz la → 0 ≤ k → k < R.lz (Q.bp (Q.el la b)) → PHQ Q R la lv b (R.el (Q.bp (Q.el la b)) k)) ∧ ∀ b c j k : Int, 0 ≤ b → b < Q.lz la → 0 ≤ c → c < Q.lz la → 0 ≤ j → j < R.lz (Q.bp (Q.el la b)) → 0 ≤ k → k < R.lz (Q.bp (Q.el la c)) → R.el (Q.bp (Q.el la b)) j = R.el (Q.bp (Q.el la c)) k → b = c ∧ j = k) ∧ (R.lz (Q.bp (Q.el la 0)) = 0 ∧ ∀ b : Int, 0 ≤ b → b < Q.lz la → R.lz (Q.bp (Q.el la b)) ≤ 1900) ∧ ∀ r p q : Int, 0 ≤ r → r < o → 0 ≤ p → p < Q.lz la → SIB R la p r → FRO Q la p q → lv q r ≠ 0 → SPH R la q r
theorem PHS.edy (h : PHS Q R la) : EDY Q R la := ⟨h.1, fun b b0 b1 c => by
  have w := h.2 b b0 b1
  have o : R.ro (Q.be (Q.el la b)) = Q.ro (Q.be (Q.el la b)) := w.2.2.2 0
  unfold EDG
  rw [w.1, w.2.1.2.2.1, w.2.1.2.2.2.1, w.2.1.2.2.2.2, o]⟩
theorem PHS.srw (h : PHS Q R la) (b0 : 0 ≤ b) (b1 : b < Q.lz la) : SRW R la b i r ↔ SRW Q la b i r := by
  have w := h.2 b b0 b1
  unfold SRW
  rw [w.1, w.2.1.2.1, w.2.2.1.1]
  constructor
  · rintro ⟨k, k0, k1, k2, s, e⟩
    have u := w.2.2.1.2 k k0 k2
    rw [u.1, show R.ro (Q.el (Q.br (Q.el la b)) k) = Q.ro (Q.el (Q.br (Q.el la b)) k) from u.2 0] at s
    rw [u.1, show R.rt (Q.el (Q.br (Q.el la b)) k) = Q.rt (Q.el (Q.br (Q.el la b)) k) from u.2 1] at e
    exact ⟨k, k0, k1, k2, s, e⟩
  · rintro ⟨k, k0, k1, k2, s, e⟩
    have u := w.2.2.1.2 k k0 k2
    refine ⟨k, k0, k1, k2, ?_, ?_⟩
    · rw [u.1, show R.ro (Q.el (Q.br (Q.el la b)) k) = Q.ro (Q.el (Q.br (Q.el la b)) k) from u.2 0]; exact s
    · rw [u.1, show R.rt (Q.el (Q.br (Q.el la b)) k) = Q.rt (Q.el (Q.br (Q.el la b)) k) from u.2 1]; exact e
/-- where it lives, of whatever register: a PHI, or a block that dominates sets it -/
theorem PHA.name (h : PHA Q R la lv 1002) (hq : PLF Q la) (aq : ALP L Q cO cI cZ ed la) (ra : ALR Q la) (lu : LUB Q lv la (Q.lz la) (-1)) (hz : ∀ r : Int, 0 ≤ r → r ≤ 1001 → lv 0 r ≠ 0 → SRW Q la 0 n r) (r0 : 0 ≤ r) (r1 : r ≤ 1001) (b0 : 0 ≤ b) (b1 : b < Q.lz la) (l : lv b r ≠ 0) : SPH R la b r ∨ b = 0 ∨ DA9 R la r b := by
  have s := h.1
  have l0 := hq.1.1
  have ed9 := s.edy
  have zr : ∀ p : Int, RCH Q la (-1) p → 0 ≤ p ∧ p < Q.lz la := fun p q => q.rng aq.1.1 (by omega)
  have key := naming2 (P := Q) (la := la) (b := b) (LIV := fun c => lv c r ≠ 0) (PHI := fun c => (0 ≤ c ∧ c < Q.lz la) ∧ SPH R la c r) (SET := fun c => (0 ≤ c ∧ c < Q.lz la) ∧ SIB R la c r) (fun q => by
    refine ⟨⟨Int.le_refl 0, l0⟩, Or.inr ?_⟩
    have t := hz r r0 r1 q
    rw [← s.srw (Int.le_refl 0) l0] at t
    exact t.all) (fun c q => ⟨q.1, Or.inl q.2⟩) (fun p q rp e w => by
    have rg := zr p rp
    by_cases t : SRW Q la p (Q.lz (Q.br (Q.el la p))) r
    · refine Or.inl ⟨rg, Or.inr ?_⟩
      rw [← s.srw rg.1 rg.2] at t
      exact t.all
    · exact Or.inr (lu p r (by omega) rg.2 r0 r1 ((hq.tfl aq rg.1 rg.2).mpr (Or.inr ⟨Or.inr ⟨q, e, w⟩, t⟩)))) (fun p q w f l9 => by
    have k := h.2.2.2 r p q r0 (by omega) w.1.1 w.1.2 w.2 f l9
    obtain ⟨p9, d9, e9⟩ := f.2.2
    have rg := zr p9 d9.2.1
    exact ⟨EDG.rng aq rg.1 rg.2 e9, k⟩) (ra b b0 b1) l
  rcases key with k | ⟨k, _⟩ | ⟨d, ⟨dr, k1⟩, k2, k3⟩
  · exact Or.inl k.2
  · exact Or.inr (Or.inl k)
  · exact Or.inr (Or.inr ⟨d, dr.1, by rw [s.1]; exact dr.2, k1, (ed9.dom aq l0).mpr k2, k3⟩)
/-- a use has been set, whichever way was come -/
theorem PHA.use (h : PHA Q R la lv 1002) (hq : PLF Q la) (aq : ALP L Q cO cI cZ ed la) (ra : ALR Q la) (lu : LUB Q lv la (Q.lz la) (-1)) (hz : ∀ r : Int, 0 ≤ r → r ≤ 1001 → lv 0 r ≠ 0 → SRW Q la 0 n r) (r0 : 0 ≤ r) (r1 : r ≤ 1001) (b0 : 0 ≤ b) (b1 : b < Q.lz la) (nj : b = 0 → n ≤ j) (t : ¬ SRW Q la b j r → lv b r ≠ 0) : AVT R la (DA9 R la) b j r := by
  have s := h.1
  by_cases w : SRW Q la b j r
  · exact Or.inr (Or.inr ((s.srw b0 b1).mpr w))
  · rcases h.name hq aq ra lu hz r0 r1 b0 b1 (t w) with k | k | k
    · exact Or.inr (Or.inl k)
    · refine absurd ?_ w
      have l := t w
      rw [k] at l ⊢
      exact (hz r r0 r1 l).mono (nj k)
    · exact Or.inl k
theorem PHA.ura (h : PHA Q R la lv 1002) (hq : PLF Q la) (aq : ALP L Q cO cI cZ ed la) (ra : ALR Q la) (lu : LUB Q lv la (Q.lz la) (-1)) (hz : ∀ r : Int, 0 ≤ r → r ≤ 1001 → lv 0 r ≠ 0 → SRW Q la 0 n r) (b0 : 0 ≤ b) (b1 : b < Q.lz la) (e : ∀ f : Nat, R.1 f x = Q.1 f x) (rk : ROK9 Q x) (nj : ∀ r : Int, RUS Q x r → b = 0 → n ≤ j) (t : ∀ r : Int, 0 ≤ r → r ≤ 1001 → RUS Q x r → ¬ SRW Q la b j r → lv b r ≠ 0) : URA R la (DA9 R la) b j x := by
  have e0 : R.ro x = Q.ro x := e 0
  have e2 : R.ra x = Q.ra x := e 2
  have e3 : R.rb x = Q.rb x := e 3
  have e4 : R.rA x = Q.rA x := e 4
  have e5 : R.rB x = Q.rB x := e 5
  unfold URA
  rw [e0, e2, e3, e4, e5]
  refine ⟨?_, ?_⟩
  · by_cases z : rUsA (Q.ro x) (Q.rA x) = 0
    · exact Or.inl z
    · have g := rk.2.2.2.2.2.2.2.1.resolve_left z
      have u : RUS Q x (Q.ra x) := Or.inl ⟨z, rfl⟩
      exact Or.inr (h.use hq aq ra lu hz g.1 g.2 b0 b1 (nj _ u) (t _ g.1 g.2 u))
  · by_cases z : rUsB (Q.ro x) (Q.rB x) = 0
    · exact Or.inl z
    · have g := rk.2.2.2.2.2.2.2.2.resolve_left z
      have u : RUS Q x (Q.rb x) := Or.inr ⟨z, rfl⟩
      exact Or.inr (h.use hq aq ra lu hz g.1 g.2 b0 b1 (nj _ u) (t _ g.1 g.2 u))
/-- the function with its PHIs wants names, and nothing else -/
theorem PHA.nfp (h : PHA Q R la lv 1002) (hq : PLF Q la) (aq : ALP L Q cO cI cZ ed la) (ar : ALP L' R cO cI cZ ed la) (ra : ALR Q la) (lu : LUB Q lv la (Q.lz la) (-1)) (hz : ∀ r : Int, 0 ≤ r → r ≤ 1001 → lv 0 r ≠ 0 → SRW Q la 0 n r) (n1 : n ≤ Q.lz (Q.br (Q.el la 0))) (zu : ∀ j r : Int, 0 ≤ j → j < n → ¬ RUS Q (Q.el (Q.br (Q.el la 0)) j) r) (ns : NST R la ≤ 1000) : NFP R la ∧ PRG R la := by
  have s := h.1
  have l0 := hq.1.1
  have ed9 := s.edy
  have zl := s.1
  have bk := fun (b : Int) (b0 : 0 ≤ b) (b1 : b < Q.lz la) => s.2 b b0 b1
  have ro : ∀ b : Int, 0 ≤ b → b < Q.lz la → R.ro (R.be (R.el la b)) = Q.ro (Q.be (Q.el la b)) := fun b b0 b1 => by
    have w := bk b b0 b1
    rw [w.1, w.2.1.2.2.1]; exact w.2.2.2 0
  have pq : ∀ b k : Int, 0 ≤ b → b < R.lz la → 0 ≤ k → k < R.lz (R.bp (R.el la b)) → PHQ Q R la lv b (R.el (R.bp (R.el la b)) k) := fun b k b0 b1 k0 k1 => by
    rw [zl] at b1
    have w := bk b b0 b1
    rw [w.1, w.2.1.1] at k1 ⊢
    exact h.2.1.1 b k b0 b1 k0 k1
  have pg : PRG R la := fun b k i b0 b1 k0 k1 i0 i1 => ((pq b k b0 b1 k0 k1).2.1 i i0 i1).1
  refine ⟨⟨⟨by omega, ⟨?_, fun b b0 b1 => ?_, fun p b p0 p1 b0 b1 w v i i0 i1 => ?_⟩, ⟨fun b c j k b0 b1 c0 c1 j0 j1 k0 k1 e => ?_, fun b c j k b0 b1 c0 c1 j0 j1 k0 k1 e => ?_, fun b c b0 b1 c0 c1 e => ?_⟩, fun b b0 b1 => ed9.rch aq l0 (ra b b0 (by omega))⟩, ⟨fun b b0 b1 => ?_, ns⟩, ⟨⟨fun p p0 p1 e => ?_, fun b b0 b1 => ?_⟩, fun b k i b0 b1 k0 k1 i0 i1 => ?_, fun b k i j b0 b1 k0 k1 i0 ij j1 => ?_⟩, fun b b0 b1 => ⟨fun k k0 k1 => (pq b k b0 b1 k0 k1).1.2.2.2, fun k k0 k1 => ?_⟩⟩, pg⟩
  · have w := bk 0 (Int.le_refl 0) l0
    rw [w.1, w.2.1.1]; exact h.2.2.1.1
  · rw [zl] at b1
    have w := bk b b0 b1
    rw [ro b b0 b1, w.1, w.2.1.1]
    exact ⟨h.2.2.1.2 b b0 b1, (hq.1.2 b b0 b1).2⟩
  · have q := pq b i b0 b1 i0 i1
    rw [zl] at p1
    refine q.2.2.1 p p0 p1 ((ed9.2 p p0 p1 b).mp (EDG.yaw w v))
  · rw [zl] at b1 c1
    have wb := bk b b0 b1
    have wc := bk c c0 c1
    rw [wb.1, wb.2.1.2.1, wb.2.2.1.1] at j1
    rw [wc.1, wc.2.1.2.1, wc.2.2.1.1] at k1
    rw [wb.1, wb.2.1.2.1, (wb.2.2.1.2 j j0 j1).1, wc.1, wc.2.1.2.1, (wc.2.2.1.2 k k0 k1).1] at e
    exact hq.2.1.1 b c j k b0 b1 c0 c1 j0 j1 k0 k1 e
  · rw [zl] at b1 c1
    have wb := bk b b0 b1
    have wc := bk c c0 c1
    rw [wb.1, wb.2.1.1] at j1
    rw [wc.1, wc.2.1.1] at k1
    rw [wb.1, wb.2.1.1, wc.1, wc.2.1.1] at e
    exact h.2.1.2 b c j k b0 b1 c0 c1 j0 j1 k0 k1 e
  · rw [zl] at b1 c1
    have wb := bk b b0 b1
    have wc := bk c c0 c1
    rw [wb.1, wb.2.1.2.2.1, wc.1, wc.2.1.2.2.1] at e
    exact hq.2.1.2.2 b c b0 b1 c0 c1 e
  · have b2 := b1
    rw [zl] at b1
    have w := bk b b0 b1
    refine ⟨fun k k0 k1 i i0 i1 => Or.inr ?_, fun j j0 j1 => ?_, ?_⟩
    · have q := pq b k b0 b2 k0 k1
      have o := q.2.1 i i0 i1
      have kx := ar.kphi b0 b2 k0 k1
      have rg := (ar.pik kx.1 kx.2).2.2.2.2.2.2 i i0 i1
      have pb := ar.2.2.1 _ ⟨b, b0, b2, rfl⟩ k k0 k1 i i0 i1
      rw [zl] at pb
      rw [o.2.1]
      have lp : SRW Q la (R.ia (R.pp (R.el (R.bp (R.el la b)) k)) i) (Q.lz (Q.br (Q.el la (R.ia (R.pp (R.el (R.bp (R.el la b)) k)) i)))) (R.pt (R.el (R.bp (R.el la b)) k)) ∨ lv (R.ia (R.pp (R.el (R.bp (R.el la b)) k)) i) (R.pt (R.el (R.bp (R.el la b)) k)) ≠ 0 := by
        by_cases t : SRW Q la (R.ia (R.pp (R.el (R.bp (R.el la b)) k)) i) (Q.lz (Q.br (Q.el la (R.ia (R.pp (R.el (R.bp (R.el la b)) k)) i)))) (R.pt (R.el (R.bp (R.el la b)) k))
        · exact Or.inl t
        · exact Or.inr (lu _ _ (by omega) pb q.1.1 q.1.2.1 ((hq.tfl aq rg.1.1 pb).mpr (Or.inr ⟨Or.inr ⟨b, o.2.2, q.1.2.2.1⟩, t⟩)))
      rcases lp with t | t
      · exact Or.inr (Or.inr ((s.srw rg.1.1 pb).mpr t).all)
      · rcases h.name hq aq ra lu hz q.1.1 q.1.2.1 rg.1.1 pb t with k9 | k9 | k9
        · exact Or.inr (Or.inl k9)
        · refine Or.inr (Or.inr ?_)
          rw [k9] at t ⊢
          exact ((s.srw (Int.le_refl 0) l0).mpr (hz _ q.1.1 q.1.2.1 t)).all
        · exact Or.inl k9
    · rw [w.1, w.2.1.2.1, w.2.2.1.1] at j1
      have u := w.2.2.1.2 j j0 j1
      rw [w.1, w.2.1.2.1, u.1]
      have kx := aq.krow b0 b1 j0 j1
      refine h.ura hq aq ra lu hz b0 b1 u.2 (aq.rok kx.1 kx.2) (fun r v z => ?_) (fun r r0 r1 v t => lu b r (by omega) b1 r0 r1 ((hq.tfl aq b0 b1).mpr (Or.inl ⟨j, j0, j1, v, t⟩)))
      by_cases g : n ≤ j
      · exact g
      · rw [z] at v; exact absurd v (zu j r j0 (by omega))
    · rw [w.1, w.2.1.2.1, w.2.2.1.1, w.2.1.2.2.1]
      have kx := aq.kend b0 b1
      refine h.ura hq aq ra lu hz b0 b1 w.2.2.2 (aq.rok kx.1 kx.2.1) (fun r v z => ?_) (fun r r0 r1 v t => lu b r (by omega) b1 r0 r1 ((hq.tfl aq b0 b1).mpr (Or.inr ⟨Or.inl v, t⟩)))
      rw [z]; exact n1
  · rw [zl] at p1
    exact hq.2.2.1.1 p p0 p1 ((ed9.2 p p0 p1 0).mp e)
  · rw [zl] at b1
    have w := bk b b0 b1
    rw [ro b b0 b1, w.1, w.2.1.2.2.2.1, w.2.1.2.2.2.2]
    exact hq.2.2.1.2 b b0 b1
  · have q := pq b k b0 b1 k0 k1
    have o := (q.2.1 i i0 i1).2.2
    have kx := ar.kphi b0 b1 k0 k1
    have rg := (ar.pik kx.1 kx.2).2.2.2.2.2.2 i i0 i1
    have pb := ar.2.2.1 _ ⟨b, b0, b1, rfl⟩ k k0 k1 i i0 i1
    rw [zl] at pb
    exact (ed9.2 _ rg.1.1 pb b).mpr o
  · exact (pq b k b0 b1 k0 k1).2.2.2 i j i0 ij j1
  · rw [zl] at b1
    have w := bk b b0 b1
    rw [w.1, w.2.1.2.1, w.2.2.1.1] at k1
    have u := w.2.2.1.2 k k0 k1
    rw [w.1, w.2.1.2.1, u.1]
    exact (show R.rg _ = Q.rg _ from u.2 6).trans ((hq.2.2.2 b b0 b1).2 k k0 k1)
end PHA9
