/-! drop told directly: what stands where, by the enumeration s of what is kept -/
def DRE (P Q : PO) (la : Nat) (st a s : Int → Int) (m : Int) : Prop := (NMB st a s (P.lz la) m ∧ Q.lz la = m ∧ a 0 = 0 ∧ s 0 = 0) ∧ (∀ b : Int, 0 ≤ b → b < m → Q.el la b = P.el la (s b)) ∧ (∀ c : Int, 0 ≤ c → c < P.lz la → (Q.bp (P.el la c) = P.bp (P.el la c) ∧ Q.br (P.el la c) = P.br (P.el la c) ∧ Q.be (P.el la c) = P.be (P.el la c)) ∧ (Q.lz (P.bp (P.el la c)) = P.lz (P.bp (P.el la c)) ∧ Q.lz (P.br (P.el la c)) = P.lz (P.br (P.el la c))) ∧ (∀ k : Int, 0 ≤ k → k < P.lz (P.bp (P.el la c)) → Q.el (P.bp (P.el la c)) k = P.el (P.bp (P.el la c)) k) ∧ ∀ k : Int, 0 ≤ k → k < P.lz (P.br (P.el la c)) → Q.el (P.br (P.el la c)) k = P.el (P.br (P.el la c)) k) ∧ (∀ z : Nat, P.kd z = 17 → ∀ f : Nat, Q.1 f z = P.1 f z) ∧ (∀ c : Int, 0 ≤ c → c < P.lz la → st c ≠ 0 → GDN P Q a (P.el la c)) ∧ ∀ c k : Int, 0 ≤ c → c < P.lz la → st c ≠ 0 → 0 ≤ k → k < P.lz (P.bp (P.el la c)) → LSN P Q a (P.el (P.bp (P.el la c)) k) (-1) ∧ (Q.pt (P.el (P.bp (P.el la c)) k) = P.pt (P.el (P.bp (P.el la c)) k) ∧ Q.pg (P.el (P.bp (P.el la c)) k) = P.pg (P.el (P.bp (P.el la c)) k)) ∧ Q.pp (P.el (P.bp (P.el la c)) k) = P.pp (P.el (P.bp (P.el la c)) k) ∧ Q.pu (P.el (P.bp (P.el la c)) k) = P.pu (P.el (P.bp (P.el la c)) k) ∧ Q.pr (P.el (P.bp (P.el la c)) k) = P.pr (P.el (P.bp (P.el la c)) k)
section DRE9
variable {L : List Nat} {P Q : PO} {cO cI cZ : ClassId} {ed x z la : Nat} {st a s : Int → Int} {A : Int → Int → Prop} {b c d i j k m n p r : Int}
theorem DRX.dre (h : DRX P Q la st a) (al : ALP L P cO cI cZ ed la) (kst : KST P la st) : ∃ (s : Int → Int) (m : Int), DRE P Q la st a s m := by
  obtain ⟨P1, m, h1, u, dd⟩ := h
  have bk := h1.bpk al kst
  have w := h1.1
  have kl : P1.kd la = 30 := (w.kd la).trans al.lok.2.1
  have zq : Q.lz la = m := (u.1.2.2 la kl).trans h1.2.1
  have hro := fun c (c0 : 0 ≤ c) (c1 : c < P.lz la) => h1.ro al c0 c1
  obtain ⟨_, ez, s, nm, el, _⟩ := h1
  have a0 := (nm.2.1 0 (Int.le_refl _) kst.1.1).1 kst.1.2
  have ia0 := nm.2.2.1 (a 0) a0.1.1 a0.1.2
  have z0 : a 0 = 0 := by omega
  have ia : ∀ y : Nat, P1.ia y = P.ia y := fun y => by show P1.2.2.2.1 y = P.2.2.2.1 y; rw [w.2.1]
  refine ⟨s, m, ⟨nm, zq, z0, by have q := a0.2; rw [z0] at q; exact q⟩, fun b b0 b1 => by rw [u.el]; exact el b b0 b1, fun c c0 c1 => ?_, fun y k f => ?_, fun c c0 c1 sc => ?_, fun c k c0 c1 sc k0 k1 => ?_⟩
  · have v := w.bl9 al c0 c1
    have ib := al.inb ⟨c, c0, c1, rfl⟩
    refine ⟨⟨(u.bp _).trans v.1.1, (u.br _).trans v.1.2.1, (u.be _).trans v.1.2.2⟩, ⟨(u.1.2.2 _ ((w.kd _).trans ib.2.2.1.2.1)).trans v.2.2.1.1, (u.1.2.2 _ ((w.kd _).trans ib.2.1.2.1)).trans v.2.2.1.2⟩, fun k k0 k1 => by rw [u.el]; exact v.2.2.2.1 k k0 k1, fun k k0 k1 => by rw [u.el]; exact v.2.2.2.2 k k0 k1⟩
  · have ny : y ≠ la := kd_ne k al.lok.2.1 (by decide)
    rw [u.2.1 y (fun q => by have t := q.kd bk; rw [w.kd, k] at t; omega) f]
    exact w.2.2.1 y ny f
  · have t := (nm.2.1 c c0 c1).1 sc
    have v := w.bl9 al c0 c1
    have g := dd.1 (a c) t.1.1 (by rw [ez]; exact t.1.2) t.1.2
    rw [el _ t.1.1 t.1.2, t.2] at g
    have g1 := g.1
    have g2 := g.2
    rw [v.1.2.2, hro c c0 c1, v.2.1.1, v.2.1.2] at g1 g2
    exact ⟨g1, g2⟩
  · have t := (nm.2.1 c c0 c1).1 sc
    have v := w.bl9 al c0 c1
    have e : P1.el la (a c) = P.el la c := by rw [el _ t.1.1 t.1.2, t.2]
    have g := dd.2 (a c) k t.1.1 (by rw [ez]; exact t.1.2) k0 (by rw [e, v.1.1, v.2.2.1.1]; exact k1) (Or.inl t.1.2)
    rw [e, v.1.1, v.2.2.2.1 k k0 k1] at g
    have kp := al.kphi c0 c1 k0 k1
    have nx : P.el (P.bp (P.el la c)) k ≠ la := kd_ne kp.2 al.lok.2.1 (by decide)
    have f : ∀ f : Nat, P1.1 f (P.el (P.bp (P.el la c)) k) = P.1 f (P.el (P.bp (P.el la c)) k) := fun f => w.2.2.1 _ nx f
    have pp : P1.pp (P.el (P.bp (P.el la c)) k) = P.pp (P.el (P.bp (P.el la c)) k) := by unfold PO.pp; rw [w.1]
    have pu : P1.pu (P.el (P.bp (P.el la c)) k) = P.pu (P.el (P.bp (P.el la c)) k) := by unfold PO.pu; rw [w.1]
    have pr : P1.pr (P.el (P.bp (P.el la c)) k) = P.pr (P.el (P.bp (P.el la c)) k) := by unfold PO.pr; rw [w.1]
    have pn : P1.pn (P.el (P.bp (P.el la c)) k) = P.pn (P.el (P.bp (P.el la c)) k) := f 1
    refine ⟨?_, ⟨g.2.1.trans (f 0), g.2.2.trans (f 2)⟩, (u.pp _).trans pp, (u.pu _).trans pu, (u.pr _).trans pr⟩
    have l := g.1
    unfold LSN at l ⊢
    rw [pn, pp, pu, pr, ia, ia, ia] at l
    exact l
theorem DRE.on (h : DRE P Q la st a s m) (b0 : 0 ≤ b) (b1 : b < m) : (0 ≤ s b ∧ s b < P.lz la) ∧ st (s b) ≠ 0 ∧ a (s b) = b := by
  have t := h.1.1.2.2.1 b b0 b1
  exact ⟨⟨by omega, t.1.2⟩, t.2.1, t.2.2⟩
theorem DRE.off (h : DRE P Q la st a s m) (c0 : 0 ≤ c) (c1 : c < P.lz la) (q : st c ≠ 0) : (0 ≤ a c ∧ a c < m) ∧ s (a c) = c := (h.1.1.2.1 c c0 c1).1 q
theorem DRE.ro (h : DRE P Q la st a s m) (al : ALP L P cO cI cZ ed la) (c0 : 0 ≤ c) (c1 : c < P.lz la) : Q.ro (P.be (P.el la c)) = P.ro (P.be (P.el la c)) := h.2.2.2.1 _ (al.kend c0 c1).2.1 0
theorem DRE.edg (h : DRE P Q la st a s m) (al : ALP L P cO cI cZ ed la) (kst : KST P la st) (p0 : 0 ≤ p) (p1 : p < m) (b0 : 0 ≤ b) (b1 : b < m) : EDG Q la p b ↔ EDG P la (s p) (s b) := by
  have t := h.on p0 p1
  have tb := h.on b0 b1
  have g := (al.inb ⟨s p, t.1.1, t.1.2, rfl⟩).2.2.2.2
  have v := h.2.2.1 (s p) t.1.1 t.1.2
  have ro := h.ro al t.1.1 t.1.2
  have gd := h.2.2.2.2.1 (s p) t.1.1 t.1.2 t.2.1
  have kk := (kst.2.1 (s p) t.1.1 t.1.2 t.2.1).1
  have el := h.2.1 p p0 p1
  have key : P.ro (P.be (P.el la (s p))) ≠ 32 → (Q.bf (P.el la (s p)) = b ↔ P.bf (P.el la (s p)) = s b) ∧ (Q.bs (P.el la (s p)) = b ↔ P.bs (P.el la (s p)) = s b) := fun q => by
    have e := gd.1 q
    have f1 := h.off g.1 g.2.1 (kk q).1
    have f2 := h.off g.2.2.1 g.2.2.2 (kk q).2
    rw [e.1, e.2]
    refine ⟨⟨fun y => ?_, fun y => ?_⟩, ⟨fun y => ?_, fun y => ?_⟩⟩
    · rw [← f1.2, y]
    · rw [y]; exact tb.2.2
    · rw [← f2.2, y]
    · rw [y]; exact tb.2.2
  constructor
  · intro e
    have y := e.way
    rw [el, v.1.2.2, ro] at y
    have q := key y.1
    exact EDG.yaw y.1 (y.2.imp q.1.mp (fun u => ⟨u.1, q.2.mp u.2⟩))
  · intro e
    have y := e.way
    have q := key y.1
    refine EDG.yaw ?_ ?_
    · rw [el, v.1.2.2, ro]; exact y.1
    · rw [el, v.1.2.2, ro]; exact y.2.imp q.1.mpr (fun u => ⟨u.1, q.2.mpr u.2⟩)
theorem DRE.eto (h : DRE P Q la st a s m) (al : ALP L P cO cI cZ ed la) (kst : KST P la st) (c0 : 0 ≤ c) (c1 : c < P.lz la) (q : st c ≠ 0) (e : EDG P la c d) : (0 ≤ d ∧ d < P.lz la) ∧ st d ≠ 0 := by
  have g := (al.inb ⟨c, c0, c1, rfl⟩).2.2.2.2
  have kk := (kst.2.1 c c0 c1 q).1
  have y := e.way
  have k2 := kk y.1
  rcases y.2 with w | w
  · rw [← w]; exact ⟨⟨g.1, g.2.1⟩, k2.1⟩
  · rw [← w.2]; exact ⟨⟨g.2.2.1, g.2.2.2⟩, k2.2⟩
theorem DRE.rch (h : DRE P Q la st a s m) (al : ALP L P cO cI cZ ed la) (kst : KST P la st) (b0 : 0 ≤ b) (b1 : b < m) (q : RCH P la (-1) (s b)) : RCH Q la (-1) b := fun S z f => by
  have r := q (fun c => (0 ≤ c ∧ c < P.lz la) ∧ st c ≠ 0 ∧ S (a c)) (fun _ => ⟨⟨Int.le_refl _, kst.1.1⟩, kst.1.2, by rw [h.1.2.2.1]; exact z (by decide)⟩) (fun c d y e _ => by
    have t := h.eto al kst y.1.1 y.1.2 y.2.1 e
    have o1 := h.off y.1.1 y.1.2 y.2.1
    have o2 := h.off t.1.1 t.1.2 t.2
    refine ⟨t.1, t.2, f (a c) (a d) y.2.2 ?_ (by omega)⟩
    rw [h.edg al kst o1.1.1 o1.1.2 o2.1.1 o2.1.2, o1.2, o2.2]; exact e)
  have o := h.on b0 b1
  rw [o.2.2] at r
  exact r.2.2
theorem DRE.nph (h : DRE P Q la st a s m) (b0 : 0 ≤ b) (b1 : b < m) : Q.lz (Q.bp (Q.el la b)) = P.lz (P.bp (P.el la (s b))) ∧ Q.lz (Q.br (Q.el la b)) = P.lz (P.br (P.el la (s b))) := by
  have o := h.on b0 b1
  have v := h.2.2.1 (s b) o.1.1 o.1.2
  rw [h.2.1 b b0 b1, v.1.1, v.1.2.1]; exact v.2.1
theorem DRE.eph (h : DRE P Q la st a s m) (b0 : 0 ≤ b) (b1 : b < m) (k0 : 0 ≤ k) (k1 : k < P.lz (P.bp (P.el la (s b)))) : Q.el (Q.bp (Q.el la b)) k = P.el (P.bp (P.el la (s b))) k := by
  have o := h.on b0 b1
  have v := h.2.2.1 (s b) o.1.1 o.1.2
  rw [h.2.1 b b0 b1, v.1.1]; exact v.2.2.1 k k0 k1
theorem DRE.erw (h : DRE P Q la st a s m) (b0 : 0 ≤ b) (b1 : b < m) (k0 : 0 ≤ k) (k1 : k < P.lz (P.br (P.el la (s b)))) : Q.el (Q.br (Q.el la b)) k = P.el (P.br (P.el la (s b))) k := by
  have o := h.on b0 b1
  have v := h.2.2.1 (s b) o.1.1 o.1.2
  rw [h.2.1 b b0 b1, v.1.2.1]; exact v.2.2.2 k k0 k1
theorem DRE.ebe (h : DRE P Q la st a s m) (b0 : 0 ≤ b) (b1 : b < m) : Q.be (Q.el la b) = P.be (P.el la (s b)) := by
  have o := h.on b0 b1
  rw [h.2.1 b b0 b1]; exact (h.2.2.1 (s b) o.1.1 o.1.2).1.2.2
theorem SPH.dre (y : SPH P la (s b) r) (h : DRE P Q la st a s m) (b0 : 0 ≤ b) (b1 : b < m) : SPH Q la b r := by
  obtain ⟨k, k0, k1, e⟩ := y
  have o := h.on b0 b1
  exact ⟨k, k0, by rw [(h.nph b0 b1).1]; exact k1, by rw [h.eph b0 b1 k0 k1, (h.2.2.2.2.2 (s b) k o.1.1 o.1.2 o.2.1 k0 k1).2.1.1]; exact e⟩
theorem SRW.dre (y : SRW P la (s b) j r) (h : DRE P Q la st a s m) (al : ALP L P cO cI cZ ed la) (b0 : 0 ≤ b) (b1 : b < m) : SRW Q la b j r := by
  obtain ⟨k, k0, kj, k1, q, e⟩ := y
  have o := h.on b0 b1
  have f := h.2.2.2.1 _ (al.krow o.1.1 o.1.2 k0 k1).2
  refine ⟨k, k0, kj, by rw [(h.nph b0 b1).2]; exact k1, ?_, ?_⟩
  · rw [h.erw b0 b1 k0 k1]; rw [show Q.ro (P.el (P.br (P.el la (s b))) k) = P.ro (P.el (P.br (P.el la (s b))) k) from f _]; exact q
  · rw [h.erw b0 b1 k0 k1]; exact (show Q.rt (P.el (P.br (P.el la (s b))) k) = P.rt (P.el (P.br (P.el la (s b))) k) from f _).trans e
theorem SIB.dre (y : SIB P la (s b) r) (h : DRE P Q la st a s m) (al : ALP L P cO cI cZ ed la) (b0 : 0 ≤ b) (b1 : b < m) : SIB Q la b r := by
  rcases y with y | y
  · exact Or.inl (y.dre h b0 b1)
  · refine Or.inr ?_
    rw [(h.nph b0 b1).2]; exact y.dre h al b0 b1
theorem AVT.dre (y : AVT P la A (s b) j r) (h : DRE P Q la st a s m) (al : ALP L P cO cI cZ ed la) (b0 : 0 ≤ b) (b1 : b < m) : AVT Q la (fun r b => A r (s b)) b j r := y.imp id (fun q => q.imp (fun t => t.dre h b0 b1) (fun t => t.dre h al b0 b1))
theorem URA.dre (y : URA P la A (s b) j x) (h : DRE P Q la st a s m) (al : ALP L P cO cI cZ ed la) (b0 : 0 ≤ b) (b1 : b < m) (kx : P.kd x = 17) : URA Q la (fun r b => A r (s b)) b j x := by
  have e := h.2.2.2.1 x kx
  unfold URA
  rw [show Q.ro x = P.ro x from e _, show Q.rA x = P.rA x from e _, show Q.rB x = P.rB x from e _, show Q.ra x = P.ra x from e _, show Q.rb x = P.rb x from e _]
  exact ⟨y.1.imp id (fun q => q.dre h al b0 b1), y.2.imp id (fun q => q.dre h al b0 b1)⟩
end DRE9
