/-! behind drop: a function again -/
/-- kept blocks lead to kept blocks, the first is kept, none of their PHIs stands twice -/
def KST (P : PO) (la : Nat) (st : Int → Int) : Prop := (0 < P.lz la ∧ st 0 ≠ 0) ∧ (∀ b : Int, 0 ≤ b → b < P.lz la → st b ≠ 0 → (P.ro (P.be (P.el la b)) ≠ 32 → st (P.bf (P.el la b)) ≠ 0 ∧ st (P.bs (P.el la b)) ≠ 0) ∧ (P.ro (P.be (P.el la b)) = 32 → P.bf (P.el la b) = 0 ∧ P.bs (P.el la b) = 0)) ∧ ∀ b c j k : Int, 0 ≤ b → b < P.lz la → st b ≠ 0 → 0 ≤ c → c < P.lz la → st c ≠ 0 → 0 ≤ j → j < P.lz (P.bp (P.el la b)) → 0 ≤ k → k < P.lz (P.bp (P.el la c)) → P.el (P.bp (P.el la b)) j = P.el (P.bp (P.el la c)) k → b = c ∧ j = k
/-- the blocks that st marks stay, in their order, with new numbers -/
def DRX (P Q : PO) (la : Nat) (st a : Int → Int) : Prop := ∃ (P1 : PO) (m : Int), DR1 P P1 la st a (P.lz la) m m ∧ UNV P1 Q (VDR P1 la m m 0) ∧ DRD P1 Q la a m m 0
section DRX9
variable {L : List Nat} {P Q Q' : PO} {cO cI cZ : ClassId} {ed x z la : Nat} {st a s : Int → Int} {b c i j k m n p : Int}
theorem PIK.putp {v : Int} {q : Nat} (h : PIK L P cI cZ x) (eq : P.pp x = q) (i0 : 0 ≤ i) (i1 : i < P.pn x) (v0 : 0 ≤ v) (v1 : v ≤ 299) (e : Q = P.ri9 q (zup (P.ia q) i v)) : PH1 x P Q ∧ PIK L Q cI cZ x ∧ (Q.pn x = P.pn x ∧ Q.pt x = P.pt x ∧ Q.pg x = P.pg x) ∧ (Q.ia (P.pu x) = P.ia (P.pu x) ∧ Q.ia (P.pr x) = P.ia (P.pr x) ∧ Q.ia (P.pp x) = zup (P.ia (P.pp x)) i v) := by
  subst eq
  have w : PH1 x P Q := by rw [e]; exact PH1.num h.2.1.2.2.2
  have a1 : Q.ia (P.pu x) = P.ia (P.pu x) := by rw [e]; exact ri9_of _ _ (fun q => by have s := h.2.2.1.2.1; rw [q, h.2.1.2.1] at s; omega)
  have a3 : Q.ia (P.pr x) = P.ia (P.pr x) := by rw [e]; exact ri9_of _ _ (fun q => by have s := h.2.2.2.1.2.1; rw [q, h.2.1.2.1] at s; omega)
  have a2 : Q.ia (P.pp x) = zup (P.ia (P.pp x)) i v := by rw [e]; exact ri9_at _ _ _
  have n1 : Q.pn x = P.pn x := by rw [e]; rfl
  have n0 : Q.pt x = P.pt x := by rw [e]; rfl
  have n2 : Q.pg x = P.pg x := by rw [e]; rfl
  have b1 : Q.pp x = P.pp x := by rw [e]; rfl
  have b2 : Q.pu x = P.pu x := by rw [e]; rfl
  have b3 : Q.pr x = P.pr x := by rw [e]; rfl
  have hn := h.2.2.2.2.1
  have ht := h.2.2.2.2.2.1
  refine ⟨w, h.of w (by omega) (by omega) (by rw [n0, n2]; exact ht) (fun j j0 j1 => ?_), ⟨n1, n0, n2⟩, a1, a3, a2⟩
  have q := h.ef j0 (by omega)
  unfold PEF at q ⊢
  rw [b1, b2, b3, a1, a2, a3]
  by_cases s : j = i
  · rw [s, zup_eq]
    rw [s] at q
    exact ⟨⟨v0, v1⟩, q.2⟩
  · rw [zup_ne _ _ s]; exact q
theorem NMB.lo (h : NMB st a s n m) (k0 : 0 ≤ k) (k1 : k < n) (q : st k ≠ 0) : 0 ≤ a k ∧ a k < m := ((h.2.1 k k0 k1).1 q).1
theorem NMB.hi (h : NMB st a s n m) (k0 : 0 ≤ k) (k1 : k < n) (q : 0 ≤ a k) : st k ≠ 0 := fun e => by
  have t := (h.2.1 k k0 k1).2 e
  omega
theorem LS1.bl9 (w : LS1 la P Q) (al : ALP L P cO cI cZ ed la) (c0 : 0 ≤ c) (c1 : c < P.lz la) : (Q.bp (P.el la c) = P.bp (P.el la c) ∧ Q.br (P.el la c) = P.br (P.el la c) ∧ Q.be (P.el la c) = P.be (P.el la c)) ∧ (Q.bf (P.el la c) = P.bf (P.el la c) ∧ Q.bs (P.el la c) = P.bs (P.el la c)) ∧ (Q.lz (P.bp (P.el la c)) = P.lz (P.bp (P.el la c)) ∧ Q.lz (P.br (P.el la c)) = P.lz (P.br (P.el la c))) ∧ (∀ k : Int, 0 ≤ k → k < P.lz (P.bp (P.el la c)) → Q.el (P.bp (P.el la c)) k = P.el (P.bp (P.el la c)) k) ∧ ∀ k : Int, 0 ≤ k → k < P.lz (P.br (P.el la c)) → Q.el (P.br (P.el la c)) k = P.el (P.br (P.el la c)) k := by
  have ib := al.inb ⟨c, c0, c1, rfl⟩
  have kl := al.lok.2.1
  have o : OWA L P cO ed := al.2.1.1
  have f := o.fl1 al.lok.1 kl (by omega)
  have oc := al.2.1.2.2.1 _ ib.1.1 ib.1.2
  have nb : P.el la c ≠ la := kd_ne ib.1.2 kl (by decide)
  have n1 : P.bp (P.el la c) ≠ la := fun e => by have q := oc.2.1; rw [e, al.2.1.2.1] at q; omega
  have n2 : P.br (P.el la c) ≠ la := fun e => by have q := oc.1.1; rw [e, al.2.1.2.1] at q; omega
  refine ⟨⟨?_, ?_, ?_⟩, ⟨w.2.2.1 _ nb 0, w.2.2.1 _ nb 1⟩, ⟨w.2.2.1 _ n1 0, w.2.2.1 _ n2 0⟩, fun k k0 k1 => o.els w al.lok.1 kl f ib.2.2.1.1 ib.2.2.1.2.1 n1 k0 k1, fun k k0 k1 => o.els w al.lok.1 kl f ib.2.1.1 ib.2.1.2.1 n2 k0 k1⟩
  · show Q.2.1 1 _ = P.2.1 1 _; rw [w.1]
  · show Q.2.1 2 _ = P.2.1 2 _; rw [w.1]
  · show Q.2.1 3 _ = P.2.1 3 _; rw [w.1]
theorem DR1.at (h : DR1 P Q la st a (P.lz la) m m) (b0 : 0 ≤ b) (b1 : b < m) : ∃ c : Int, (0 ≤ c ∧ c < P.lz la) ∧ st c ≠ 0 ∧ a c = b ∧ Q.el la b = P.el la c := by
  obtain ⟨w, ez, s, nm, el, _⟩ := h
  have t := nm.2.2.1 b b0 b1
  exact ⟨s b, ⟨by omega, t.1.2⟩, t.2.1, t.2.2, el b b0 b1⟩
theorem DR1.ro (h : DR1 P Q la st a (P.lz la) m m) (al : ALP L P cO cI cZ ed la) (c0 : 0 ≤ c) (c1 : c < P.lz la) : Q.ro (P.be (P.el la c)) = P.ro (P.be (P.el la c)) := h.1.2.2.1 _ (kd_ne (al.kend c0 c1).2.1 al.lok.2.1 (by decide)) 0
theorem DR1.bpk (h : DR1 P Q la st a (P.lz la) m m) (al : ALP L P cO cI cZ ed la) (k : KST P la st) : BPK L Q cI cZ la := by
  have w := h.1
  have ez := h.2.1
  refine ⟨fun b b0 b1 => ?_, fun b j b0 b1 j0 j1 => ?_, fun b c b0 bc c1 e => ?_, fun b c j i b0 b1 c0 c1 j0 j1 i0 i1 e => ?_⟩
  · obtain ⟨c, c1, _, _, e⟩ := h.at b0 (by omega)
    have v := w.bl9 al c1.1 c1.2
    have ib := al.inb ⟨c, c1.1, c1.2, rfl⟩
    rw [e, v.1.2.2, v.1.1, w.kd, w.kd, w.kd]
    exact ⟨ib.1.2, (al.kend c1.1 c1.2).2.1, ib.2.2.1.2.1⟩
  · obtain ⟨c, c1, _, _, e⟩ := h.at b0 (by omega)
    have v := w.bl9 al c1.1 c1.2
    rw [e, v.1.1] at j1 ⊢
    rw [v.2.2.1.1] at j1
    rw [v.2.2.2.1 j j0 j1]
    have kp := al.kphi c1.1 c1.2 j0 j1
    exact w.pik (kd_ne kp.2 al.lok.2.1 (by decide)) (al.pik kp.1 kp.2)
  · obtain ⟨w, ez, s, nm, el, _⟩ := h
    have t1 := nm.2.2.1 b b0 (by omega)
    have t2 := nm.2.2.1 c (by omega) (by omega)
    rw [el b b0 (by omega), el c (by omega) (by omega)] at e
    have lt := nm.2.2.2 b c b0 bc (by omega)
    exact al.2.1.2.2.2 (s b) (s c) (by omega) lt t2.1.2 e
  · obtain ⟨b', b1', sb, ab, eb⟩ := h.at b0 (by omega)
    obtain ⟨c', c1', sc, ac, ec⟩ := h.at c0 (by omega)
    have v := w.bl9 al b1'.1 b1'.2
    have u := w.bl9 al c1'.1 c1'.2
    rw [eb, v.1.1] at j1 e
    rw [ec, u.1.1] at i1 e
    rw [v.2.2.1.1] at j1
    rw [u.2.2.1.1] at i1
    rw [v.2.2.2.1 j j0 j1, u.2.2.2.1 i i0 i1] at e
    have q := k.2.2 b' c' j i b1'.1 b1'.2 sb c1'.1 c1'.2 sc j0 j1 i0 i1 e
    exact ⟨by rw [← ab, ← ac, q.1], q.2⟩
theorem DR1.pos (h : DR1 P Q la st a (P.lz la) m m) (k : KST P la st) : 0 < m := by
  obtain ⟨w, ez, s, nm, el, _⟩ := h
  have t := nm.lo (Int.le_refl 0) k.1.1 k.1.2
  omega
theorem DR1.goal (h : DR1 P Q la st a (P.lz la) m m) (al : ALP L P cO cI cZ ed la) (k : KST P la st) (b0 : 0 ≤ b) (b1 : b < m) (ex : x = Q.el la b) : (Q.ro (Q.be x) ≠ 32 → (0 ≤ a (Q.bf x) ∧ a (Q.bf x) < m) ∧ (0 ≤ a (Q.bs x) ∧ a (Q.bs x) < m)) ∧ (Q.ro (Q.be x) = 32 → Q.bf x = 0 ∧ Q.bs x = 0) ∧ (0 ≤ Q.bf x ∧ Q.bf x < P.lz la ∧ 0 ≤ Q.bs x ∧ Q.bs x < P.lz la) := by
  obtain ⟨c, c1, sc, ac, e⟩ := h.at b0 b1
  have v := h.1.bl9 al c1.1 c1.2
  have ro := h.ro al c1.1 c1.2
  have g := (al.inb ⟨c, c1.1, c1.2, rfl⟩).2.2.2.2
  rw [ex, e, v.1.2.2, ro, v.2.1.1, v.2.1.2]
  obtain ⟨w, ez, s, nm, el, _⟩ := h
  have kk := k.2.1 c c1.1 c1.2 sc
  refine ⟨fun q => ?_, kk.2, g⟩
  have t := kk.1 q
  exact ⟨nm.lo g.1 g.2.1 t.1, nm.lo g.2.2.1 g.2.2.2 t.2⟩
theorem DR1.prb (h : DR1 P Q la st a (P.lz la) m m) (al : ALP L P cO cI cZ ed la) (b0 : 0 ≤ b) (b1 : b < m) (j0 : 0 ≤ j) (j1 : j < Q.lz (Q.bp (Q.el la b))) (ex : x = Q.el (Q.bp (Q.el la b)) j) (i0 : 0 ≤ i) (i1 : i < Q.pn x) : (0 ≤ Q.ia (Q.pp x) i ∧ Q.ia (Q.pp x) i < P.lz la) ∧ a (Q.ia (Q.pp x) i) < m := by
  obtain ⟨c, c1, sc, ac, e⟩ := h.at b0 b1
  have w := h.1
  have v := w.bl9 al c1.1 c1.2
  rw [e, v.1.1] at j1 ex
  rw [v.2.2.1.1] at j1
  rw [v.2.2.2.1 j j0 j1] at ex
  have kp := al.kphi c1.1 c1.2 j0 j1
  rw [← ex] at kp
  have nx : x ≠ la := kd_ne kp.2 al.lok.2.1 (by decide)
  have pp : Q.pp x = P.pp x := by unfold PO.pp; rw [w.1]
  have ia : ∀ y : Nat, Q.ia y = P.ia y := fun y => by show Q.2.2.2.1 y = P.2.2.2.1 y; rw [w.2.1]
  have pn : Q.pn x = P.pn x := w.2.2.1 x nx 1
  rw [pn] at i1
  rw [pp, ia]
  have pb : P.ia (P.pp x) i < P.lz la := by
    have q := al.2.2.1 _ ⟨c, c1.1, c1.2, rfl⟩ j j0 j1
    rw [← ex] at q; exact q i i0 i1
  have p0 := ((al.pik kp.1 kp.2).2.2.2.2.2.2 i i0 i1).1.1
  refine ⟨⟨p0, pb⟩, ?_⟩
  obtain ⟨w, ez, s, nm, el, _⟩ := h
  have t := nm.2.1 _ p0 pb
  have m0 := nm.1
  by_cases q : st (P.ia (P.pp x) i) = 0
  · have := t.2 q; omega
  · exact (t.1 q).1.2
theorem DRX.alp (h : DRX P Q la st a) (g : GLF L Q cO cI cZ ed) (al : ALP L P cO cI cZ ed la) (k : KST P la st) : ALP L Q cO cI cZ ed la := by
  obtain ⟨P1, m, h1, u, d⟩ := h
  have bk := h1.bpk al k
  have m0 := h1.pos k
  have mr := h1.rng
  have k1 : P1.kd la = 30 := (h1.1.kd la).trans al.lok.2.1
  have z : Q.lz la = m := (u.1.2.2 la k1).trans h1.2.1
  have z3 := al.1.1.2.1
  refine g.alp al.lok.1 ((u.kd la).trans k1) ?_ (by omega) (fun i i0 i1 => ?_) (fun i j i0 ij j1 => ?_) (fun y ib j j0 j1 => ?_)
  · show Q.2.1 8 la = 12
    rw [u.1.1]; exact (h1.1.ek la).trans al.2.1.2.1
  · have gg := h1.goal al k i0 (by omega) rfl
    have dd := d.1 i i0 (by rw [h1.2.1]; omega) (by omega)
    rw [u.el, z]
    by_cases q : P1.ro (P1.be (P1.el la i)) = 32
    · have t := dd.2 q; have v := gg.2.1 q; omega
    · have t := dd.1 q; have v := gg.1 q; omega
  · rw [u.el, u.el]; exact bk.2.2.1 i j i0 ij (by rw [h1.2.1]; omega)
  · obtain ⟨b, b0, b1, ey⟩ := ib
    rw [z] at b1
    rw [u.el] at ey
    have b2 : b < P1.lz la := by rw [h1.2.1]; exact b1
    rw [u.bp, u.1.2.2 _ (by rw [ey]; exact (bk.1 b b0 b2).2.2), ey] at j1
    rw [u.bp, u.el, ey, z]
    obtain ⟨⟨μ, _, _, cc, _, _⟩, _, _⟩ := d.2 b j b0 b2 j0 j1 (Or.inl b1)
    intro i i0 i1
    rw [u.pp]
    have t := cc i i0 i1
    rw [(t.2.2.2 (by omega)).2]
    exact (h1.prb al b0 b1 j0 j1 rfl t.1.1 t.1.2).2
theorem DRX.len (h : DRX P Q la st a) (al : ALP L P cO cI cZ ed la) : Q.lz la ≤ P.lz la := by
  obtain ⟨P1, m, h1, u, d⟩ := h
  have k1 : P1.kd la = 30 := (h1.1.kd la).trans al.lok.2.1
  have z : Q.lz la = m := (u.1.2.2 la k1).trans h1.2.1
  have mr := h1.rng
  omega
theorem DRX.tot (h : DRX P Q la st a) (al : ALP L P cO cI cZ ed la) (k : KST P la st) : Q.tot 2 la ≤ P.tot 2 la ∧ Q.tot 1 la ≤ P.tot 1 la := by
  obtain ⟨P1, m, h1, u, d⟩ := h
  have k1 : P1.kd la = 30 := (h1.1.kd la).trans al.lok.2.1
  have z : Q.lz la = m := (u.1.2.2 la k1).trans h1.2.1
  obtain ⟨w, ez, s, nm, el, _⟩ := h1
  have mr := nm.1
  have key : ∀ (f : Nat), (∀ c : Int, 0 ≤ c → c < P.lz la → P1.2.1 f (P.el la c) = P.2.1 f (P.el la c) ∧ P1.lz (P.2.1 f (P.el la c)) = P.lz (P.2.1 f (P.el la c)) ∧ P1.kd (P.2.1 f (P.el la c)) = 30 ∧ 0 ≤ P.lz (P.2.1 f (P.el la c))) → Q.tot f la ≤ P.tot f la := fun f hf => by
    unfold PO.tot
    rw [z]
    have e1 : sumI (fun i => Q.lz (Q.2.1 f (Q.el la i))) m.toNat = sumI (fun j => (fun c => P.lz (P.2.1 f (P.el la c))) (s j)) m.toNat := sumI_eq (fun i i0 i1 => by
      have t := nm.2.2.1 i i0 (by omega)
      have v := hf (s i) (by omega) t.1.2
      show Q.lz (Q.2.1 f (Q.el la i)) = P.lz (P.2.1 f (P.el la (s i)))
      rw [u.el, el i i0 (by omega), u.1.1, v.1, u.1.2.2 _ v.2.2.1, v.2.1])
    rw [e1]
    refine sumI_ord m.toNat _ (fun b b0 b1 => (hf b b0 (by omega)).2.2.2) (fun j j0 j1 => ?_) (fun i j i0 ij j1 => ?_)
    · have t := nm.2.2.1 j j0 (by omega); exact ⟨by omega, by omega⟩
    · have t := nm.2.2.2 i j i0 ij (by omega); omega
  refine ⟨key 2 (fun c c0 c1 => ?_), key 1 (fun c c0 c1 => ?_)⟩
  · have v := w.bl9 al c0 c1
    have lk := (al.inb ⟨c, c0, c1, rfl⟩).2.1
    exact ⟨v.1.2.1, v.2.2.1.2, (w.kd _).trans lk.2.1, lk.2.2.1.1⟩
  · have v := w.bl9 al c0 c1
    have lk := (al.inb ⟨c, c0, c1, rfl⟩).2.2.1
    exact ⟨v.1.1, v.2.2.1.1, (w.kd _).trans lk.2.1, lk.2.2.1.1⟩
end DRX9
