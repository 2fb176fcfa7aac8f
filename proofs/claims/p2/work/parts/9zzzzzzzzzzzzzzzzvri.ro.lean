/-! toPlain: the split, over the whole pool -/
section SPM9
variable {L L' : List Nat} {P Q Q' Q1 Q2 R : PO} {cO cI cZ : ClassId} {ed la lb lr lp x : Nat} {b m n p s c s' c' y : Int} {g : Nat → Nat}
theorem SPX.kin {g h : Nat → Nat} : SPX (P.kin g) (Q.kin h) la y b ↔ SPX P Q la y b := Iff.rfl
theorem SPX.hand {F : Nat → Prop} (h : SPX (P.kin g) Q la y b) : SPX P (Q.park F) la y b := h
theorem SPL.ne (G' : GLR L' Q' cO cI cZ ed) (G : GLR L Q cO cI cZ ed) (c0 : CLF L Q la 12) (ke : KEG [la, lb] L Q L' Q') (w : CB9 la lb x m L Q L' Q') (ds : DST Q' lb) (em : m = Q.lz la) (bz : LBZ Q la lb) (y0 : 0 ≤ y) (y1 : y < Q.lz la) : (Q'.be x ∈ L' ∧ Q'.kd (Q'.be x) = 17 ∧ Q'.ek (Q'.be x) = 1) ∧ (Q.el la y ∈ L' ∧ Q'.kd (Q.el la y) = 12) ∧ Q'.be x ≠ x ∧ Q'.be x ≠ Q.el la y ∧ x ≠ Q.el la y := by
  have B := (G.lk c0).2.2.2.2 y y0 y1
  have k := ke.mem B.2.1 B.2.2 (by decide)
  have e := (G'.gb w.1.1 w.1.2.1).1
  have d := ds y (Q.lz la) y0 y1 (by have t := w.2.1.2.1; omega)
  have xb := w.1.2.2.1
  rw [em] at xb
  rw [← xb, w.2.2.2.1 y y0 (by have t := bz.1; omega), ← bz.2 y y0 y1] at d
  exact ⟨e, k, fun q => by have t := w.1.2.1; rw [← q, e.2.1] at t; omega, fun q => by have t := k.2; rw [← q, e.2.1] at t; omega, fun q => d.1 q.symm⟩
theorem ATB.spl (h : ATB L Q cO cI cZ ed la lb lr lp n p s c) (hz : LMZ L Q la lb lr lp) (hed : ed ∉ L) (G' : GLR L' Q' cO cI cZ ed) (V' : LVA L' Q') (ke : KEG [la, lb] L Q L' Q') (w : CB9 la lb x m L Q L' Q') (ds : DST Q' lb) (nb : NBK x L Q L' Q') (cp : CPB9 la lb x L Q Q') (em : m = Q.lz la) (w1 : RW1 (Q'.be x) Q' Q1) (w2 : RW1 x Q1 Q2) (w3 : RW1 (Q.el la y) Q2 R) (G3 : GLR L' R cO cI cZ ed) (ve : Q1.ro (Q'.be x) = 30 ∧ Q1.rA (Q'.be x) = 0 ∧ ROKR Q1 (Q'.be x)) (v1 : Q2.bf x = b) (v2 : Q2.bs x = b) (y0 : 0 ≤ y) (y1 : y < Q.lz la) (b0 : 0 ≤ b) (b1 : b < Q.lz la) (l9 : Q.lz la ≤ 179) (yo : Q.ro (Q.be (Q.el la y)) = 31) (gy : (Q.bf (Q.el la y) = b ∧ Q.bs (Q.el la y) ≠ b ∧ R.bf (Q.el la y) = Q.lz la ∧ R.bs (Q.el la y) = Q.bs (Q.el la y)) ∨ (Q.bf (Q.el la y) ≠ b ∧ Q.bs (Q.el la y) = b ∧ R.bf (Q.el la y) = Q.bf (Q.el la y) ∧ R.bs (Q.el la y) = Q.lz la)) (hs : s' - s ≤ PSI wSL L' Q' - PSI wSL L Q) (hc : c' - c ≤ PSI wCE L' Q' - PSI wCE L Q) : ATB L' R cO cI cZ ed la lb lr lp n p s' c' ∧ SPX Q R la y b ∧ LMZ L' R la lb lr lp ∧ LVA L' R := by
  obtain ⟨⟨G, f, v⟩, ⟨c1, c2, c3, ne⟩, ⟨u1, u2⟩, ⟨d1, d2, n0, n1, p0, p1, q1, q2⟩, ps, pc⟩ := h
  have c0 := f.1
  obtain ⟨e9, k9, e1, e2, e3⟩ := SPL.ne G' G c0 ke w ds em hz.2 y0 y1
  have r2 : R.2 = Q'.2 := w3.1.trans (w2.1.trans w1.1)
  have r21 : R.2.1 = Q'.2.1 := by rw [r2]
  have r1 : ∀ z : Nat, z ≠ Q'.be x → z ≠ x → z ≠ Q.el la y → ∀ g : Nat, R.1 g z = Q'.1 g z := fun z a1 a2 a3 g => (w3.2 z a3 g).trans ((w2.2 z a2 g).trans (w1.2 z a1 g))
  have rE : ∀ g : Nat, R.1 g (Q'.be x) = Q1.1 g (Q'.be x) := fun g => (w3.2 _ e2 g).trans (w2.2 _ e1 g)
  have rX : ∀ g : Nat, R.1 g x = Q2.1 g x := fun g => w3.2 _ e3 g
  have vk : ROKR R (Q'.be x) := by
    have t := ve.2.2
    unfold ROKR at t ⊢
    rw [show R.ro (Q'.be x) = Q1.ro (Q'.be x) from rE 0, show R.rt (Q'.be x) = Q1.rt (Q'.be x) from rE 1, show R.ra (Q'.be x) = Q1.ra (Q'.be x) from rE 2, show R.rb (Q'.be x) = Q1.rb (Q'.be x) from rE 3, show R.rA (Q'.be x) = Q1.rA (Q'.be x) from rE 4, show R.rB (Q'.be x) = Q1.rB (Q'.be x) from rE 5, show R.rg (Q'.be x) = Q1.rg (Q'.be x) from rE 6, show R.ek (Q'.be x) = Q1.ek (Q'.be x) from by unfold PO.ek; rw [r21, show Q1.2.1 = Q'.2.1 from by rw [w1.1]]]
    exact t
  have S := SPL.of G hed G' f c1 ne ke w ds nb em hz.2 r2 r1 ⟨(rE 0).trans ve.1, (rE 4).trans ve.2.1, vk⟩ ((rX 0).trans v1) ((rX 1).trans v2) y0 y1 b0 b1 l9 yo gy
  have rl : ∀ l : Nat, Q'.kd l = 30 → ∀ g : Nat, R.1 g l = Q'.1 g l := fun l kl g => r1 l (fun e => by rw [e, e9.2.1] at kl; omega) (fun e => by rw [e, w.1.2.1] at kl; omega) (fun e => by rw [e, k9.2] at kl; omega) g
  have EL : ∀ (l : Nat) (i : Int), R.el l i = Q'.el l i := fun l i => by unfold PO.el PO.le PO.oa; rw [r2]
  have CL : ∀ (l j : Nat), CLF L Q l j → CLF L' R l j := fun l j q => by
    have t := q.kg9 ke
    exact ⟨t.1, (show R.kd l = Q'.kd l from by unfold PO.kd; rw [r21]).trans t.2.1, (show R.ek l = Q'.ek l from by unfold PO.ek; rw [r21]).trans t.2.2.1, (show R.ow l = Q'.ow l from by unfold PO.ow; rw [r21]).trans t.2.2.2⟩
  have ls : ∀ (l j : Nat), CLF L Q l j → j ≠ 12 → R.lz l = Q.lz l ∧ ∀ i : Int, 0 ≤ i → i < Q.lz l → R.el l i = Q.el l i := fun l j q j9 => by
    have k := KEG.listE ke q (fun t => by
      rcases List.mem_cons.mp t with t | t
      · have a := q.2.2.1; rw [t, c0.2.2.1] at a; omega
      · have a := q.2.2.1; rw [List.mem_singleton.mp t, c1.2.2.1] at a; omega)
    have kl := (q.kg9 ke).2.1
    exact ⟨(rl l kl 0).trans k.1, fun i i0 i1 => (EL l i).trans (k.2 i i0 i1)⟩
  have l2 := ls lr 17 c2 (by decide)
  have l3 := ls lp 15 c3 (by decide)
  have V3 : LVA L' R := LVA.same V' r21
  have z1 := w.2.1.1
  have zR : R.lz la = Q.lz la + 1 := (rl la (c0.kg9 ke).2.1 0).trans z1
  have zB : R.lz lb = Q'.lz lb := rl lb (c1.kg9 ke).2.1 0
  refine ⟨⟨⟨G3, S.2.1, V3⟩, ⟨CL lb 12 c1, CL lr 17 c2, CL lp 15 c3, ne⟩, ⟨fun k k0 k1 q => ?_, fun k k0 k1 q => ?_⟩, ⟨fun i j i0 ij j1 => ?_, fun i j i0 ij j1 => ?_, n0, by rw [l2.1]; exact n1, p0, by rw [l3.1]; exact p1, by rw [l2.1]; exact q1, by rw [l3.1]; exact q2⟩, ?_, ?_⟩, S.1, ⟨?_, ?_, fun i i0 i1 => ?_⟩, V3⟩
  · rw [l2.1] at k1
    rw [l2.2 k (by omega) k1] at q
    have t := (G.lk c2).2.2.2.2 k (by omega) k1
    exact u1 k k0 k1 (S.2.2 _ t.2.1 (Or.inl ⟨t.2.2, (G.1.1 lr c2.1 c2.2.1).2.2 c2.2.2.1 k (by omega) k1⟩) q)
  · rw [l3.1] at k1
    rw [l3.2 k (by omega) k1] at q
    have t := (G.lk c3).2.2.2.2 k (by omega) k1
    exact u2 k k0 k1 (S.2.2 _ t.2.1 (Or.inr t.2.2) q)
  · rw [l2.1] at j1
    rw [l2.2 i i0 (by omega), l2.2 j (by omega) j1]; exact d1 i j i0 ij j1
  · rw [l3.1] at j1
    rw [l3.2 i i0 (by omega), l3.2 j (by omega) j1]; exact d2 i j i0 ij j1
  · rw [PSI.same (w := wSL) (L := L') r21]; omega
  · rw [PSI.same (w := wCE) (L := L') r21]; omega
  · have t := hz.1.blk G G' V' v c0 c1 c2 c3 ke w ds nb cp (by omega) (by omega) l9
    exact ((t.rwk w1 (Or.inl e9.2.1)).rwk w2 (Or.inr (Or.inl ((show Q1.kd x = Q'.kd x from by unfold PO.kd; rw [w1.1]).trans w.1.2.1)))).rwk w3 (Or.inr (Or.inl ((show Q2.kd (Q.el la y) = Q'.kd (Q.el la y) from by unfold PO.kd; rw [w2.1, w1.1]).trans k9.2)))
  · have t := w.2.1.2.1
    omega
  · rw [zR] at i1
    rw [EL, EL]
    by_cases t : i < Q.lz la
    · rw [w.2.2.1 i i0 t, w.2.2.2.1 i i0 (by have t := hz.2.1; omega)]; exact hz.2.2 i i0 t
    · rw [show i = Q.lz la from by omega, ← w.1.2.2.2.1, ← em]; exact w.1.2.2.1
theorem TKA.spl (t : ∀ z : Nat, z ∈ L → 43 ≤ P.kd z → g z = P.kd z) (G' : GLR L' Q' cO cI cZ ed) (c0 : CLF L (P.kin g) la 12) (c1 : CLF L (P.kin g) lb 12) (w : CB9 la lb x m L (P.kin g) L' Q') (nb : NBK x L (P.kin g) L' Q') (e9 : Q'.be x ∈ L' ∧ Q'.kd (Q'.be x) = 17) {v : Nat} (k9 : v ∈ L' ∧ Q'.kd v = 12) (w1 : RW1 (Q'.be x) Q' Q1) (w2 : RW1 x Q1 Q2) (w3 : RW1 v Q2 R) (F : Nat → Prop) : TKA L P L' (R.park F) := by
  have r2 : R.2 = Q'.2 := w3.1.trans (w2.1.trans w1.1)
  have oX := G'.owc x w.1.1 w.1.2.1
  have ch : CHG (fun z => TS9 (fun z => z = la ∨ z = lb ∨ z = Q'.bp x ∨ z = Q'.br x) (P.kin g) z ∨ z = Q'.be x ∨ z = x ∨ z = v) L (P.kin g) L' R := fun z mz nz => by
    have q := w.2.2.2.2 z mz (fun s => nz (Or.inl s))
    have r : ∀ f : Nat, R.1 f z = Q'.1 f z := fun f => (w3.2 z (fun e => nz (Or.inr (Or.inr (Or.inr e)))) f).trans ((w2.2 z (fun e => nz (Or.inr (Or.inr (Or.inl e)))) f).trans (w1.2 z (fun e => nz (Or.inr (Or.inl e))) f))
    exact ⟨q.1, fun f => (r f).trans (q.2.1 f), fun f => (show R.2.1 f z = Q'.2.1 f z by rw [r2]).trans (q.2.2.1 f), by unfold PO.oa; rw [r2]; exact q.2.2.2.1, by unfold PO.ia; rw [r2]; exact q.2.2.2.2.1, by unfold PO.ac; rw [r2]; exact q.2.2.2.2.2⟩
  refine TKA.kin t ch (fun z mz gz s => ?_) F
  have kk : ∀ u : Nat, u ∈ L' → z = u → Q'.kd u = g z := fun u mu e => by rw [← e]; exact (nb z (by rw [e]; exact mu)).1 mz
  have gl : g la = 30 := c0.2.1
  have gb : g lb = 30 := c1.2.1
  rcases s with ((s | s | s | s) | s) | s | s | s
  · rw [s, gl] at gz; omega
  · rw [s, gb] at gz; omega
  · have q := kk _ oX.2.2.2.1 s; rw [oX.2.2.2.2] at q; omega
  · have q := kk _ oX.1.2.2.1 s; rw [oX.1.2.2.2] at q; omega
  · have q : g z = 31 := s.1; omega
  · have q := kk _ e9.1 s; rw [e9.2] at q; omega
  · have q := kk _ w.1.1 s; rw [w.1.2.1] at q; omega
  · have q := kk _ k9.1 s; rw [k9.2] at q; omega
end SPM9
