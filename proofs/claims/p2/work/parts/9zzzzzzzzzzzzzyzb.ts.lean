/-! zero rows come one by one -/
/-- x has come into the rows of block 0, at place n -/
def ZAD (L : List Nat) (R : PO) (L2 : List Nat) (R' : PO) (la : Nat) (n : Int) (x : Nat) : Prop := (OBS L R L2 R' ∧ UNT R R' la) ∧ (∀ c : Int, 0 ≤ c → c < R.lz la → UNT R R' (R.bp (R.el la c)) ∧ (c ≠ 0 → UNT R R' (R.br (R.el la c)))) ∧ (0 ≤ n ∧ n ≤ R.lz (R.br (R.el la 0)) ∧ R'.lz (R.br (R.el la 0)) = R.lz (R.br (R.el la 0)) + 1) ∧ (∀ k : Int, 0 ≤ k → k < n → R'.el (R.br (R.el la 0)) k = R.el (R.br (R.el la 0)) k) ∧ R'.el (R.br (R.el la 0)) n = x ∧ ∀ k : Int, n ≤ k → k < R.lz (R.br (R.el la 0)) → R'.el (R.br (R.el la 0)) (k + 1) = R.el (R.br (R.el la 0)) k
section ZAD9
variable {L L2 : List Nat} {P R R' : PO} {cO cI cZ : ClassId} {ed la x : Nat} {b c j k n r : Int} {Z : Int → Prop}
theorem ZRI.first (P : PO) (la : Nat) : ZRI P P la 0 (fun _ => False) := ⟨⟨rfl, Int.le_refl 0⟩, fun _ _ _ => ⟨rfl, ⟨rfl, rfl, rfl, rfl, rfl⟩, rfl, fun _ => rfl⟩, fun _ _ _ => ⟨rfl, fun _ _ _ => ⟨rfl, fun _ => rfl⟩⟩, ⟨by omega, fun k _ _ => ⟨by rw [show (0 : Int) + k = k from by omega], fun _ => rfl⟩, fun k a b => by omega⟩, fun r q => q.elim⟩
theorem ZAD.num (h : ZAD L R L2 R' la n x) {y : Nat} (m : y ∈ L) (a : R.kd y ≠ 30) (b : R.kd y ≠ 31) : SM9 y R R' := (h.1.1 y m a b).2
/-- blocks and ends stay -/
theorem ZAD.blk (h : ZAD L R L2 R' la n x) (ar : ALP L R cO cI cZ ed la) (c0 : 0 ≤ c) (c1 : c < R.lz la) : R'.el la c = R.el la c ∧ (R'.bp (R.el la c) = R.bp (R.el la c) ∧ R'.br (R.el la c) = R.br (R.el la c) ∧ R'.be (R.el la c) = R.be (R.el la c) ∧ R'.bf (R.el la c) = R.bf (R.el la c) ∧ R'.bs (R.el la c) = R.bs (R.el la c)) ∧ ∀ f : Nat, R'.1 f (R.be (R.el la c)) = R.1 f (R.be (R.el la c)) := by
  have ib := ar.inb ⟨c, c0, c1, rfl⟩
  have ke := ar.kend c0 c1
  have g := h.num ib.1.1 (by rw [ib.1.2]; decide) (by rw [ib.1.2]; decide)
  have ge := h.num ke.1 (by rw [ke.2.1]; decide) (by rw [ke.2.1]; decide)
  exact ⟨h.1.2.2 c c0 c1, ⟨g.2.1 1, g.2.1 2, g.2.1 3, g.1 0, g.1 1⟩, ge.1⟩
theorem ZAD.row (h : ZAD L R L2 R' la n x) (ar : ALP L R cO cI cZ ed la) (c0 : 0 ≤ c) (c1 : c < R.lz la) (k0 : 0 ≤ k) (k1 : k < R.lz (R.br (R.el la c))) : ∀ f : Nat, R'.1 f (R.el (R.br (R.el la c)) k) = R.1 f (R.el (R.br (R.el la c)) k) := by
  have kr := ar.krow c0 c1 k0 k1
  exact (h.num kr.1 (by rw [kr.2]; decide) (by rw [kr.2]; decide)).1
/-- rows of block 0: x, or one of before -/
theorem ZAD.get (h : ZAD L R L2 R' la n x) (k0 : 0 ≤ k) (k1 : k < R'.lz (R.br (R.el la 0))) : (k = n ∧ R'.el (R.br (R.el la 0)) k = x) ∨ ∃ j : Int, 0 ≤ j ∧ j < R.lz (R.br (R.el la 0)) ∧ R'.el (R.br (R.el la 0)) k = R.el (R.br (R.el la 0)) j ∧ ((k < n ∧ j = k) ∨ (n < k ∧ j = k - 1)) := by
  obtain ⟨_, _, ⟨n0, n1, z⟩, lo, md, hi⟩ := h
  rw [z] at k1
  rcases Int.lt_trichotomy k n with t | t | t
  · exact Or.inr ⟨k, k0, by omega, lo k k0 t, Or.inl ⟨t, rfl⟩⟩
  · exact Or.inl ⟨t, by rw [t]; exact md⟩
  · have q := hi (k - 1) (by omega) (by omega)
    rw [show k - 1 + 1 = k from by omega] at q
    exact Or.inr ⟨k - 1, by omega, by omega, q, Or.inr ⟨t, rfl⟩⟩
theorem PLF.add (hp : PLF R la) (h : ZAD L R L2 R' la n x) (ar : ALP L R cO cI cZ ed la) (mx : x ∈ L) (kx : R.kd x = 17) (fr : ∀ c k : Int, 0 ≤ c → c < R.lz la → 0 ≤ k → k < R.lz (R.br (R.el la c)) → R.el (R.br (R.el la c)) k ≠ x) (gx : R.rg x = 0) : PLF R' la := by
  obtain ⟨⟨h0, h1⟩, nd, en, gn⟩ := hp
  have zl := h.1.2.1
  have gxr : R'.rg x = 0 := ((h.num mx (by rw [kx]; decide) (by rw [kx]; decide)).1 6).trans gx
  have rw9 : ∀ c k : Int, 0 ≤ c → c < R.lz la → 0 ≤ k → k < R'.lz (R'.br (R'.el la c)) → (c = 0 ∧ k = n ∧ R'.el (R'.br (R'.el la c)) k = x) ∨ ∃ j : Int, 0 ≤ j ∧ j < R.lz (R.br (R.el la c)) ∧ R'.el (R'.br (R'.el la c)) k = R.el (R.br (R.el la c)) j ∧ ((c ≠ 0 ∧ j = k) ∨ (c = 0 ∧ ((k < n ∧ j = k) ∨ (n < k ∧ j = k - 1)))) := fun c k c0 c1 k0 k1 => by
    have w := h.blk ar c0 c1
    rw [w.1, w.2.1.2.1] at k1 ⊢
    by_cases e : c = 0
    · subst e
      rcases h.get k0 k1 with t | ⟨j, j0, j1, t, u⟩
      · exact Or.inl ⟨rfl, t⟩
      · exact Or.inr ⟨j, j0, j1, t, Or.inr ⟨rfl, u⟩⟩
    · have u := (h.2.1 c c0 c1).2 e
      rw [u.1] at k1
      exact Or.inr ⟨k, k0, k1, u.2 k k0 k1, Or.inl ⟨e, rfl⟩⟩
  have no : ∀ c : Int, 0 ≤ c → c < R.lz la → R'.lz (R'.bp (R'.el la c)) = 0 := fun c c0 c1 => by
    have w := h.blk ar c0 c1
    rw [w.1, w.2.1.1, (h.2.1 c c0 c1).1.1]
    exact (h1 c c0 c1).1
  refine ⟨⟨by omega, fun c c0 c1 => ?_⟩, ⟨fun b c j k b0 b1 c0 c1 j0 j1 k0 k1 e => ?_, fun b c j k b0 b1 c0 c1 j0 j1 => ?_, fun b c b0 b1 c0 c1 e => ?_⟩, ⟨fun p p0 p1 e => ?_, fun c c0 c1 => ?_⟩, fun c c0 c1 => ⟨fun k k0 k1 => ?_, fun k k0 k1 => ?_⟩⟩
  · rw [zl] at c1
    have w := h.blk ar c0 c1
    refine ⟨no c c0 c1, ?_⟩
    rw [w.1, w.2.1.2.2.1, show R'.ro (R.be (R.el la c)) = R.ro (R.be (R.el la c)) from w.2.2 0]
    exact (h1 c c0 c1).2
  · rw [zl] at b1 c1
    rcases rw9 b j b0 b1 j0 j1 with ⟨tb, tj, t⟩ | ⟨j', j2, j3, t, tj⟩
    · rcases rw9 c k c0 c1 k0 k1 with ⟨ub, uk, u⟩ | ⟨k', k2, k3, u, uk⟩
      · exact ⟨tb.trans ub.symm, tj.trans uk.symm⟩
      · rw [t, u] at e; exact absurd e.symm (fr c k' c0 c1 k2 k3)
    · rcases rw9 c k c0 c1 k0 k1 with ⟨ub, uk, u⟩ | ⟨k', k2, k3, u, uk⟩
      · rw [t, u] at e; exact absurd e (fr b j' b0 b1 j2 j3)
      · rw [t, u] at e
        have q := nd.1 b c j' k' b0 b1 c0 c1 j2 j3 k2 k3 e
        exact ⟨q.1, by omega⟩
  · rw [zl] at b1
    rw [no b b0 b1] at j1
    omega
  · rw [zl] at b1 c1
    have wb := h.blk ar b0 b1
    have wc := h.blk ar c0 c1
    rw [wb.1, wb.2.1.2.2.1, wc.1, wc.2.1.2.2.1] at e
    exact nd.2.2 b c b0 b1 c0 c1 e
  · rw [zl] at p1
    have w := h.blk ar p0 p1
    refine en.1 p p0 p1 ?_
    unfold EDG at e ⊢
    rw [w.1, w.2.1.2.2.1, w.2.1.2.2.2.1, w.2.1.2.2.2.2, show R'.ro (R.be (R.el la p)) = R.ro (R.be (R.el la p)) from w.2.2 0] at e
    exact e
  · rw [zl] at c1
    have w := h.blk ar c0 c1
    rw [w.1, w.2.1.2.2.1, w.2.1.2.2.2.1, w.2.1.2.2.2.2, show R'.ro (R.be (R.el la c)) = R.ro (R.be (R.el la c)) from w.2.2 0]
    exact en.2 c c0 c1
  · rw [zl] at c1
    rw [no c c0 c1] at k1
    omega
  · rw [zl] at c1
    rcases rw9 c k c0 c1 k0 k1 with ⟨_, _, t⟩ | ⟨j, j0, j1, t, _⟩
    · rw [t]; exact gxr
    · rw [t]; exact (h.row ar c0 c1 j0 j1 6).trans ((gn c c0 c1).2 j j0 j1)
theorem ZRI.add {t : Int} (h : ZRI P R la n Z) (l0 : 0 < P.lz la) (a : ZAD L R L2 R' la n x) (ar : ALP L R cO cI cZ ed la) (mx : x ∈ L) (kx : R.kd x = 17) (ux : rUsA (R.ro x) (R.rA x) = 0 ∧ rUsB (R.ro x) (R.rB x) = 0) (sx : rSets (R.ro x) ≠ 0) (tx : R.rt x = t) : ZRI P R' la (n + 1) (fun r => Z r ∨ r = t) := by
  obtain ⟨⟨hz, hn⟩, hb, hr, ⟨hl, ho, hw⟩, hs⟩ := h
  have zl := a.1.2.1
  have b0 := hb 0 (Int.le_refl 0) l0
  have gx := a.num mx (by rw [kx]; decide) (by rw [kx]; decide)
  have e0 : R.br (R.el la 0) = P.br (P.el la 0) := by rw [b0.1]; exact b0.2.1.2.1
  have z9 := a.2.2.1
  have lo := a.2.2.2.1
  have md := a.2.2.2.2.1
  have hi := a.2.2.2.2.2
  rw [e0] at z9 lo md hi
  have rows : ∀ k : Int, 0 ≤ k → k < R.lz (P.br (P.el la 0)) → ∀ f : Nat, R'.1 f (R.el (P.br (P.el la 0)) k) = R.1 f (R.el (P.br (P.el la 0)) k) := fun k k0 k1 => by
    have q := a.row ar (c := 0) (k := k) (Int.le_refl 0) (by omega) k0 (by rw [e0]; exact k1)
    rw [e0] at q
    exact q
  have lp : n ≤ R.lz (P.br (P.el la 0)) := z9.2.1
  refine ⟨⟨zl.trans hz, by omega⟩, fun b p0 p1 => ?_, fun b p0 p1 => ?_, ⟨by omega, fun k k0 k1 => ?_, fun k k0 k1 => ?_⟩, fun r q => ?_⟩
  · have w := hb b p0 p1
    have v := a.blk ar (c := b) p0 (by rw [hz]; exact p1)
    rw [w.1] at v
    have u := (a.2.1 b p0 (by rw [hz]; exact p1)).1
    rw [w.1, w.2.1.1] at u
    refine ⟨v.1, ⟨v.2.1.1.trans w.2.1.1, v.2.1.2.1.trans w.2.1.2.1, v.2.1.2.2.1.trans w.2.1.2.2.1, v.2.1.2.2.2.1.trans w.2.1.2.2.2.1, v.2.1.2.2.2.2.trans w.2.1.2.2.2.2⟩, u.1.trans w.2.2.1, fun f => ?_⟩
    have g := v.2.2 f
    rw [w.2.1.2.2.1] at g
    exact g.trans (w.2.2.2 f)
  · have w := hb b (by omega) p1
    have v := hr b p0 p1
    have u := (a.2.1 b (by omega) (by rw [hz]; exact p1)).2 (by omega)
    rw [w.1, w.2.1.2.1] at u
    refine ⟨u.1.trans v.1, fun k k0 k1 => ?_⟩
    have g := v.2 k k0 k1
    have y := a.row ar (c := b) (k := k) (by omega) (by rw [hz]; exact p1) k0 (by rw [w.1, w.2.1.2.1, v.1]; exact k1)
    rw [w.1, w.2.1.2.1, g.1] at y
    exact ⟨(u.2 k k0 (by rw [v.1]; exact k1)).trans g.1, fun f => (y f).trans (g.2 f)⟩
  · have g := ho k k0 k1
    have q := hi (n + k) (by omega) (by omega)
    have y := rows (n + k) (by omega) (by omega)
    rw [g.1] at y
    refine ⟨by rw [show n + 1 + k = n + k + 1 from by omega, q]; exact g.1, fun f => (y f).trans (g.2 f)⟩
  · by_cases e : k = n
    · rw [e, md]
      refine ⟨⟨?_, ?_⟩, ?_, Or.inr ?_⟩
      · rw [show R'.ro x = R.ro x from gx.1 0, show R'.rA x = R.rA x from gx.1 4]; exact ux.1
      · rw [show R'.ro x = R.ro x from gx.1 0, show R'.rB x = R.rB x from gx.1 5]; exact ux.2
      · rw [show R'.ro x = R.ro x from gx.1 0]; exact sx
      · exact (show R'.rt x = R.rt x from gx.1 1).trans tx
    · have g := hw k k0 (by omega)
      have y := rows k k0 (by omega)
      rw [lo k k0 (by omega)]
      rw [show R'.ro (R.el (P.br (P.el la 0)) k) = R.ro (R.el (P.br (P.el la 0)) k) from y 0, show R'.rA (R.el (P.br (P.el la 0)) k) = R.rA (R.el (P.br (P.el la 0)) k) from y 4, show R'.rB (R.el (P.br (P.el la 0)) k) = R.rB (R.el (P.br (P.el la 0)) k) from y 5, show R'.rt (R.el (P.br (P.el la 0)) k) = R.rt (R.el (P.br (P.el la 0)) k) from y 1]
      exact ⟨g.1, g.2.1, Or.inl g.2.2⟩
  · rcases q with q | q
    · obtain ⟨k, k0, k1, e⟩ := hs r q
      refine ⟨k, k0, by omega, ?_⟩
      rw [lo k k0 k1]
      exact (show R'.rt _ = R.rt _ from rows k k0 (by omega) 1).trans e
    · exact ⟨n, hn, by omega, by rw [md]; exact ((show R'.rt x = R.rt x from gx.1 1).trans tx).trans q.symm⟩
end ZAD9
