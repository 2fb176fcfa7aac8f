/-! plain functions (no PHIs), and what drop makes of them when just what is come to is kept -/
def PLF (P : PO) (la : Nat) : Prop := (0 < P.lz la ∧ ∀ b : Int, 0 ≤ b → b < P.lz la → P.lz (P.bp (P.el la b)) = 0 ∧ (30 ≤ P.ro (P.be (P.el la b)) ∧ P.ro (P.be (P.el la b)) ≤ 32)) ∧ NDR P la ∧ ENE P la ∧ GN0 P la
section PLF9
variable {L L' : List Nat} {P Q : PO} {cO cI cZ : ClassId} {ed la x : Nat} {g a s : Int → Int} {b c k m r : Int}
theorem PLF.kst (h : PLF P la) (al : ALP L P cO cI cZ ed la) (rg : RCX P la (-1) g (P.lz la)) : KST P la g := by
  obtain ⟨⟨h0, h1⟩, h2, h3, h4⟩ := h
  refine ⟨⟨h0, (rg 0 (Int.le_refl 0) h0).mpr (RCH.zero (by decide))⟩, fun b b0 b1 kb => ⟨fun q => ?_, fun q => (h3.2 b b0 b1).1 q⟩, fun b c j k b0 b1 _ c0 c1 _ j0 j1 k0 k1 e => ?_⟩
  · have rb := (rg b b0 b1).mp kb
    have e1 := EDG.yaw (P := P) (la := la) (p := b) q (Or.inl rfl)
    have w1 := EDG.rng al b0 b1 e1
    have r1 := (rg _ w1.1 w1.2).mpr (rb.step e1 (by omega))
    refine ⟨r1, ?_⟩
    by_cases j : P.ro (P.be (P.el la b)) = 30
    · rw [(h3.2 b b0 b1).2 j]; exact r1
    · have e2 := EDG.yaw (P := P) (la := la) (p := b) q (Or.inr ⟨j, rfl⟩)
      have w2 := EDG.rng al b0 b1 e2
      exact (rg _ w2.1 w2.2).mpr (rb.step e2 (by omega))
  · rw [(h1 b b0 b1).1] at j1
    omega
theorem PLF.dre (h : PLF P la) (al : ALP L P cO cI cZ ed la) (rg : RCX P la (-1) g (P.lz la)) (d : DRE P Q la g a s m) : PLF Q la ∧ ALR Q la := by
  have ks := h.kst al rg
  obtain ⟨⟨h0, h1⟩, h2, h3, h4⟩ := h
  have z := d.1.2.1
  have a0 := d.off (Int.le_refl 0) ks.1.1 ks.1.2
  have m0 : 0 < m := by omega
  have es : s 0 = 0 := d.1.2.2.2
  have inj : ∀ b c : Int, 0 ≤ b → b < m → 0 ≤ c → c < m → s b = s c → b = c := fun b c b0 b1 c0 c1 e => by
    have x := (d.on b0 b1).2.2
    have y := (d.on c0 c1).2.2
    rw [← x, ← y, e]
  refine ⟨⟨⟨by omega, fun b b0 b1 => ?_⟩, ⟨fun b c j k b0 b1 c0 c1 j0 j1 k0 k1 e => ?_, fun b c j k b0 b1 c0 c1 j0 j1 k0 k1 e => ?_, fun b c b0 b1 c0 c1 e => ?_⟩, ⟨fun p p0 p1 e => ?_, fun b b0 b1 => ?_⟩, GNK.dre (fun b b0 b1 _ => h4 b b0 b1) d al⟩, fun b b0 b1 => ?_⟩
  · rw [z] at b1
    have o := d.on b0 b1
    rw [(d.nph b0 b1).1, d.ebe b0 b1, d.ro al o.1.1 o.1.2]
    exact h1 (s b) o.1.1 o.1.2
  · rw [z] at b1 c1
    have ob := d.on b0 b1
    have oc := d.on c0 c1
    rw [(d.nph b0 b1).2] at j1
    rw [(d.nph c0 c1).2] at k1
    rw [d.erw b0 b1 j0 j1, d.erw c0 c1 k0 k1] at e
    have q := h2.1 (s b) (s c) j k ob.1.1 ob.1.2 oc.1.1 oc.1.2 j0 j1 k0 k1 e
    exact ⟨inj b c b0 b1 c0 c1 q.1, q.2⟩
  · rw [z] at b1
    have ob := d.on b0 b1
    rw [(d.nph b0 b1).1, (h1 (s b) ob.1.1 ob.1.2).1] at j1
    omega
  · rw [z] at b1 c1
    have ob := d.on b0 b1
    have oc := d.on c0 c1
    rw [d.ebe b0 b1, d.ebe c0 c1] at e
    exact inj b c b0 b1 c0 c1 (h2.2.2 (s b) (s c) ob.1.1 ob.1.2 oc.1.1 oc.1.2 e)
  · rw [z] at p1
    have o := d.on p0 p1
    have q := (d.edg al ks p0 p1 (Int.le_refl 0) m0).mp e
    rw [es] at q
    exact h3.1 (s p) o.1.1 o.1.2 q
  · rw [z] at b1
    have o := d.on b0 b1
    have gd := d.2.2.2.2.1 (s b) o.1.1 o.1.2 o.2.1
    rw [d.ebe b0 b1, d.ro al o.1.1 o.1.2, d.2.1 b b0 b1]
    refine ⟨fun q => ?_, fun q => ?_⟩
    · have t := gd.2 q
      rw [t.1, t.2]; exact (h3.2 (s b) o.1.1 o.1.2).1 q
    · have t := gd.1 (by omega)
      rw [t.1, t.2, (h3.2 (s b) o.1.1 o.1.2).2 q]
  · rw [z] at b1
    have o := d.on b0 b1
    exact d.rch al ks b0 b1 ((rg (s b) o.1.1 o.1.2).mp o.2.1)
theorem PLF.drx (h : PLF P la) (al : ALP L P cO cI cZ ed la) (rg : RCX P la (-1) g (P.lz la)) (d : DRX P Q la g a) : PLF Q la ∧ ALR Q la := by
  obtain ⟨s, m, e⟩ := d.dre al (h.kst al rg)
  exact h.dre al rg e
/-- a plain function seen by its parts -/
theorem PLF.fne (h : PLF P la) (v : FNE P Q la) : PLF Q la := by
  obtain ⟨⟨h0, h1⟩, h2, h3, h4⟩ := h
  have cm : CMP P la := ⟨(h1 0 (Int.le_refl 0) h0).1, fun b b0 b1 => ⟨by rw [(h1 b b0 b1).1]; decide, (h1 b b0 b1).2⟩, fun p b p0 p1 b0 b1 _ _ i i0 i1 => by rw [(h1 b b0 b1).1] at i1; omega⟩
  have cq := cm.fne v h0
  refine ⟨⟨by rw [v.1]; exact h0, fun b b0 b1 => ⟨?_, (cq.2.1 b b0 b1).2⟩⟩, h2.fne v, h3.fne v, h4.fne v⟩
  rw [v.1] at b1
  obtain ⟨eb, wb⟩ := v.2 b b0 b1
  rw [eb, wb.1.1, wb.2.1.1]
  exact (h1 b b0 b1).1
end PLF9
/-! what lives in a plain function; rows that come in front of its first block and set what lives there -/
section PLF8
variable {L : List Nat} {P Q : PO} {cO cI cZ : ClassId} {ed la x : Nat} {b c k n r : Int} {lv g : Int → Int → Int}
theorem PLF.beh (h : PLF P la) (al : ALP L P cO cI cZ ed la) (b0 : 0 ≤ b) (b1 : b < P.lz la) : BEH P lv la b r ↔ ∃ c : Int, EDG P la b c ∧ lv c r ≠ 0 := by
  have no : ∀ k : Int, 0 ≤ k → k < rWays (P.ro (P.be (P.el la b))) (P.bf (P.el la b)) (P.bs (P.el la b)) → P.lz (WYL P la (P.el la b) k) = 0 := fun k k0 k1 => by
    have w := EDG.rng al b0 b1 (⟨k, k0, k1, rfl⟩ : EDG P la b (rWay (P.bf (P.el la b)) (P.bs (P.el la b)) k))
    exact (h.1.2 _ w.1 w.2).1
  constructor
  · rintro (⟨k, k0, k1, q, _⟩ | ⟨k, k0, k1, j, z, j0, j1, _⟩)
    · exact ⟨_, ⟨k, k0, k1, rfl⟩, q⟩
    · rw [no k k0 k1] at j1; omega
  · rintro ⟨c, ⟨k, k0, k1, e⟩, q⟩
    refine Or.inl ⟨k, k0, k1, by rw [e]; exact q, fun ⟨j, j0, j1, _⟩ => ?_⟩
    rw [no k k0 k1] at j1; omega
theorem PLF.rst (h : PLF P la) (b0 : 0 ≤ b) (b1 : b < P.lz la) : ¬ RST P (P.be (P.el la b)) r := fun q => by
  have o := (h.1.2 b b0 b1).2
  have s := rSets_spec (P.ro (P.be (P.el la b)))
  have t := q.1
  omega
/-- what lives at the beginning of a block of a plain function -/
theorem PLF.tfl (h : PLF P la) (al : ALP L P cO cI cZ ed la) (b0 : 0 ≤ b) (b1 : b < P.lz la) : TFL P lv la b r ↔ (∃ i : Int, 0 ≤ i ∧ i < P.lz (P.br (P.el la b)) ∧ RUS P (P.el (P.br (P.el la b)) i) r ∧ ¬ SRW P la b i r) ∨ ((RUS P (P.be (P.el la b)) r ∨ ∃ c : Int, EDG P la b c ∧ lv c r ≠ 0) ∧ ¬ SRW P la b (P.lz (P.br (P.el la b))) r) := by
  have ns : ∀ i : Int, i ≤ P.lz (P.br (P.el la b)) → ((∀ k : Int, 0 ≤ k → k < i → ¬ RST P (P.el (P.br (P.el la b)) k) r) ↔ ¬ SRW P la b i r) := fun i i1 => ⟨fun q ⟨k, k0, k1, _, s, e⟩ => q k k0 k1 ⟨s, e⟩, fun q k k0 k1 t => q ⟨k, k0, k1, by omega, t.1, t.2⟩⟩
  unfold TFL BKS EDS
  rw [h.beh al b0 b1]
  constructor
  · rintro (⟨i, i0, i1, u, w⟩ | ⟨e, w⟩)
    · exact Or.inl ⟨i, i0, i1, u, (ns i (by omega)).mp w⟩
    · exact Or.inr ⟨e.imp id (fun q => q.1), (ns _ (Int.le_refl _)).mp w⟩
  · rintro (⟨i, i0, i1, u, w⟩ | ⟨e, w⟩)
    · exact Or.inl ⟨i, i0, i1, u, (ns i (by omega)).mpr w⟩
    · exact Or.inr ⟨e.imp id (fun q => ⟨q, h.rst b0 b1⟩), (ns _ (Int.le_refl _)).mpr w⟩
end PLF8
/-- n rows have come in front of block 0: they use nothing, and set just what Z says -/
def ZRI (P Q : PO) (la : Nat) (n : Int) (Z : Int → Prop) : Prop := (Q.lz la = P.lz la ∧ 0 ≤ n) ∧ (∀ b : Int, 0 ≤ b → b < P.lz la → Q.el la b = P.el la b ∧ (Q.bp (P.el la b) = P.bp (P.el la b) ∧ Q.br (P.el la b) = P.br (P.el la b) ∧ Q.be (P.el la b) = P.be (P.el la b) ∧ Q.bf (P.el la b) = P.bf (P.el la b) ∧ Q.bs (P.el la b) = P.bs (P.el la b)) ∧ Q.lz (P.bp (P.el la b)) = P.lz (P.bp (P.el la b)) ∧ ∀ f : Nat, Q.1 f (P.be (P.el la b)) = P.1 f (P.be (P.el la b))) ∧ (∀ b : Int, 0 < b → b < P.lz la → Q.lz (P.br (P.el la b)) = P.lz (P.br (P.el la b)) ∧ ∀ k : Int, 0 ≤ k → k < P.lz (P.br (P.el la b)) → Q.el (P.br (P.el la b)) k = P.el (P.br (P.el la b)) k ∧ ∀ f : Nat, Q.1 f (P.el (P.br (P.el la b)) k) = P.1 f (P.el (P.br (P.el la b)) k)) ∧ (Q.lz (P.br (P.el la 0)) = P.lz (P.br (P.el la 0)) + n ∧ (∀ k : Int, 0 ≤ k → k < P.lz (P.br (P.el la 0)) → Q.el (P.br (P.el la 0)) (n + k) = P.el (P.br (P.el la 0)) k ∧ ∀ f : Nat, Q.1 f (P.el (P.br (P.el la 0)) k) = P.1 f (P.el (P.br (P.el la 0)) k)) ∧ ∀ k : Int, 0 ≤ k → k < n → (rUsA (Q.ro (Q.el (P.br (P.el la 0)) k)) (Q.rA (Q.el (P.br (P.el la 0)) k)) = 0 ∧ rUsB (Q.ro (Q.el (P.br (P.el la 0)) k)) (Q.rB (Q.el (P.br (P.el la 0)) k)) = 0) ∧ rSets (Q.ro (Q.el (P.br (P.el la 0)) k)) ≠ 0 ∧ Z (Q.rt (Q.el (P.br (P.el la 0)) k))) ∧ ∀ r : Int, Z r → ∃ k : Int, 0 ≤ k ∧ k < n ∧ Q.rt (Q.el (P.br (P.el la 0)) k) = r
section ZRI9
variable {L L' : List Nat} {P Q : PO} {cO cI cZ : ClassId} {ed la x : Nat} {b c i j k n p r : Int} {lv lv' g : Int → Int → Int} {Z : Int → Prop}
theorem ZRI.edg (h : ZRI P Q la n Z) (b0 : 0 ≤ b) (b1 : b < P.lz la) : EDG Q la b c ↔ EDG P la b c := by
  have w := h.2.1 b b0 b1
  have o : Q.ro (P.be (P.el la b)) = P.ro (P.be (P.el la b)) := w.2.2.2 0
  unfold EDG
  rw [w.1, w.2.1.2.2.1, w.2.1.2.2.2.1, w.2.1.2.2.2.2, o]
theorem ZRI.srw (h : ZRI P Q la n Z) (b0 : 0 < b) (b1 : b < P.lz la) : SRW Q la b i r ↔ SRW P la b i r := by
  have w := h.2.1 b (by omega) b1
  have v := h.2.2.1 b b0 b1
  unfold SRW
  rw [w.1, w.2.1.2.1, v.1]
  constructor
  · rintro ⟨k, k0, k1, k2, s, e⟩
    have u := v.2 k k0 k2
    rw [u.1, show Q.ro (P.el (P.br (P.el la b)) k) = P.ro (P.el (P.br (P.el la b)) k) from u.2 0] at s
    rw [u.1, show Q.rt (P.el (P.br (P.el la b)) k) = P.rt (P.el (P.br (P.el la b)) k) from u.2 1] at e
    exact ⟨k, k0, k1, k2, s, e⟩
  · rintro ⟨k, k0, k1, k2, s, e⟩
    have u := v.2 k k0 k2
    refine ⟨k, k0, k1, k2, ?_, ?_⟩
    · rw [u.1, show Q.ro (P.el (P.br (P.el la b)) k) = P.ro (P.el (P.br (P.el la b)) k) from u.2 0]; exact s
    · rw [u.1, show Q.rt (P.el (P.br (P.el la b)) k) = P.rt (P.el (P.br (P.el la b)) k) from u.2 1]; exact e
/-- in block 0, of what no such row sets -/
theorem ZRI.srw0 (h : ZRI P Q la n Z) (l0 : 0 < P.lz la) (nz : ¬ Z r) (i0 : 0 ≤ i) : SRW Q la 0 (n + i) r ↔ SRW P la 0 i r := by
  have w := h.2.1 0 (Int.le_refl 0) l0
  have v := h.2.2.2.1
  have n0 := h.1.2
  unfold SRW
  rw [w.1, w.2.1.2.1, v.1]
  constructor
  · rintro ⟨k, k0, k1, k2, s, e⟩
    by_cases t : k < n
    · have u := (v.2.2 k k0 t).2.2
      rw [e] at u
      exact absurd u nz
    · have u := v.2.1 (k - n) (by omega) (by omega)
      rw [show n + (k - n) = k from by omega] at u
      rw [u.1, show Q.ro (P.el (P.br (P.el la 0)) (k - n)) = P.ro (P.el (P.br (P.el la 0)) (k - n)) from u.2 0] at s
      rw [u.1, show Q.rt (P.el (P.br (P.el la 0)) (k - n)) = P.rt (P.el (P.br (P.el la 0)) (k - n)) from u.2 1] at e
      exact ⟨k - n, by omega, by omega, by omega, s, e⟩
  · rintro ⟨k, k0, k1, k2, s, e⟩
    have u := v.2.1 k k0 k2
    refine ⟨n + k, by omega, by omega, by omega, ?_, ?_⟩
    · rw [u.1, show Q.ro (P.el (P.br (P.el la 0)) k) = P.ro (P.el (P.br (P.el la 0)) k) from u.2 0]; exact s
    · rw [u.1, show Q.rt (P.el (P.br (P.el la 0)) k) = P.rt (P.el (P.br (P.el la 0)) k) from u.2 1]; exact e
theorem RUS.of (h : RUS Q x r) (e : ∀ f : Nat, Q.1 f x = P.1 f x) : RUS P x r := by
  have e0 : Q.ro x = P.ro x := e 0
  have e2 : Q.ra x = P.ra x := e 2
  have e3 : Q.rb x = P.rb x := e 3
  have e4 : Q.rA x = P.rA x := e 4
  have e5 : Q.rB x = P.rB x := e 5
  unfold RUS at h
  rw [e0, e2, e3, e4, e5] at h
  exact h
/-- what lives does so as before, of what no such row sets -/
theorem ZRI.tfl (h : ZRI P Q la n Z) (hp : PLF P la) (hq : PLF Q la) (al : ALP L P cO cI cZ ed la) (aq : ALP L' Q cO cI cZ ed la) (nz : ¬ Z r) (b0 : 0 ≤ b) (b1 : b < P.lz la) (m : ∀ c : Int, lv c r ≠ 0 → lv' c r ≠ 0) (t : TFL Q lv la b r) : TFL P lv' la b r := by
  rw [hq.tfl aq b0 (by rw [h.1.1]; exact b1)] at t
  rw [hp.tfl al b0 b1]
  have w := h.2.1 b b0 b1
  have ed9 : (RUS Q (Q.be (Q.el la b)) r ∨ ∃ c : Int, EDG Q la b c ∧ lv c r ≠ 0) → (RUS P (P.be (P.el la b)) r ∨ ∃ c : Int, EDG P la b c ∧ lv' c r ≠ 0) := fun q => by
    rw [w.1, w.2.1.2.2.1] at q
    rcases q with q | ⟨c, e, q⟩
    · exact Or.inl (q.of w.2.2.2)
    · exact Or.inr ⟨c, (h.edg b0 b1).mp e, m c q⟩
  by_cases z : b = 0
  · subst z
    have v := h.2.2.2.1
    have n0 := h.1.2
    have lp := (al.inb ⟨0, b0, b1, rfl⟩).2.1.2.2.1.1
    rcases t with ⟨i, i0, i1, u, s⟩ | ⟨e, s⟩
    · rw [w.1, w.2.1.2.1] at i1 u
      by_cases t : i < n
      · have q := (v.2.2 i i0 t).1
        rcases u with u | u
        · exact absurd q.1 u.1
        · exact absurd q.2 u.1
      · rw [v.1] at i1
        have q := v.2.1 (i - n) (by omega) (by omega)
        rw [show n + (i - n) = i from by omega] at q
        rw [q.1] at u
        refine Or.inl ⟨i - n, by omega, by omega, u.of q.2, fun k => s ?_⟩
        have k2 := (h.srw0 b1 nz (i := i - n) (by omega)).mpr k
        rw [show n + (i - n) = i from by omega] at k2
        exact k2
    · refine Or.inr ⟨ed9 e, fun k => s ?_⟩
      have k2 := (h.srw0 b1 nz lp).mpr k
      rw [w.1, w.2.1.2.1, v.1, show P.lz (P.br (P.el la 0)) + n = n + P.lz (P.br (P.el la 0)) from by omega]
      exact k2
  · have v := h.2.2.1 b (by omega) b1
    rcases t with ⟨i, i0, i1, u, s⟩ | ⟨e, s⟩
    · rw [w.1, w.2.1.2.1] at i1 u
      rw [v.1] at i1
      have q := v.2 i i0 i1
      rw [q.1] at u
      exact Or.inl ⟨i, i0, i1, u.of q.2, fun k => s ((h.srw (by omega) b1).mpr k)⟩
    · rw [w.1, w.2.1.2.1, v.1] at s
      exact Or.inr ⟨ed9 e, fun k => s ((h.srw (by omega) b1).mpr k)⟩
/-- what lives in front of all is set in the first block -/
theorem ZRI.hz (h : ZRI P Q la n (fun r => 0 ≤ r ∧ r ≤ 1001 ∧ lv 0 r ≠ 0)) (hp : PLF P la) (hq : PLF Q la) (al : ALP L P cO cI cZ ed la) (aq : ALP L' Q cO cI cZ ed la) (u1 : LUB P lv la (P.lz la) (-1)) (m2 : LSM Q lv' la (P.lz la)) (r0 : 0 ≤ r) (r1 : r ≤ 1001) (q : lv' 0 r ≠ 0) : SRW Q la 0 n r := Classical.byContradiction fun ns => by
  have l0 := hp.1.1
  have w := h.2.1 0 (Int.le_refl 0) l0
  have nz : ¬ (0 ≤ r ∧ r ≤ 1001 ∧ lv 0 r ≠ 0) := fun z => ns (by
    obtain ⟨k, k0, k1, e⟩ := h.2.2.2.2 r z
    have v := h.2.2.2.1
    have lp := (al.inb ⟨0, Int.le_refl 0, l0, rfl⟩).2.1.2.2.1.1
    refine ⟨k, k0, k1, ?_, ?_, ?_⟩
    · rw [w.1, w.2.1.2.1, v.1]; omega
    · rw [w.1, w.2.1.2.1]; exact (v.2.2 k k0 k1).2.1
    · rw [w.1, w.2.1.2.1]; exact e)
  have key := m2 (fun b x => if x = r ∧ 0 ≤ b ∧ b < P.lz la then lv b r else 1) (fun b x o => by
    show (if x = r ∧ 0 ≤ b ∧ b < P.lz la then lv b r else 1) ≠ 0
    rw [if_neg (fun z => o ⟨z.2.1, z.2.2, by omega, by omega⟩)]
    decide) (fun b x b0 b1 x0 x1 t => by
    show (if x = r ∧ 0 ≤ b ∧ b < P.lz la then lv b r else 1) ≠ 0
    by_cases z : x = r
    · subst z
      rw [if_pos ⟨rfl, by omega, b1⟩]
      refine u1 b x b0 b1 x0 x1 ?_
      rw [hq.tfl aq (by omega) (by rw [h.1.1]; exact b1)] at t
      refine h.tfl (lv := fun c y => if 0 ≤ c ∧ c < P.lz la then lv c y else 0) hp hq al aq nz (by omega) b1 (fun c => ?_) ?_
      · show (if 0 ≤ c ∧ c < P.lz la then lv c x else 0) ≠ 0 → lv c x ≠ 0
        split
        · exact id
        · intro z; exact absurd rfl z
      · rw [hq.tfl aq (by omega) (by rw [h.1.1]; exact b1)]
        refine t.imp id (fun ⟨e, s⟩ => ⟨e.imp id (fun ⟨c, e, y⟩ => ⟨c, e, ?_⟩), s⟩)
        have rg := EDG.rng al (by omega) b1 ((h.edg (by omega) b1).mp e)
        show (if 0 ≤ c ∧ c < P.lz la then lv c x else 0) ≠ 0
        rw [if_pos rg]
        have y2 : (if x = x ∧ 0 ≤ c ∧ c < P.lz la then lv c x else 1) ≠ 0 := y
        rw [if_pos ⟨rfl, rg⟩] at y2
        exact y2
    · rw [if_neg (fun y => z y.1)]
      decide)
  have y : (if r = r ∧ 0 ≤ (0 : Int) ∧ 0 < P.lz la then lv 0 r else 1) ≠ 0 := key 0 r q
  rw [if_pos ⟨rfl, Int.le_refl 0, l0⟩] at y
  exact nz ⟨r0, r1, y⟩
end ZRI9
