/-- rows of b behind those of y, n of them so far -/
def JAP (L : List Nat) (P : PO) (L' : List Nat) (Q : PO) (la : Nat) (b y n : Int) : Prop := OBS L P L' Q ∧ (UNT P Q la ∧ ∀ c : Int, 0 ≤ c → c < P.lz la → UNT P Q (P.bp (P.el la c)) ∧ (c ≠ y → UNT P Q (P.br (P.el la c)))) ∧ Q.lz (P.br (P.el la y)) = P.lz (P.br (P.el la y)) + n ∧ (∀ k : Int, 0 ≤ k → k < P.lz (P.br (P.el la y)) → Q.el (P.br (P.el la y)) k = P.el (P.br (P.el la y)) k) ∧ ∀ k : Int, 0 ≤ k → k < n → Q.el (P.br (P.el la y)) (P.lz (P.br (P.el la y)) + k) = P.el (P.br (P.el la b)) k
/-- numbers change at S alone -/
def JEP (P M : PO) (S : Nat → Prop) : Prop := M.2 = P.2 ∧ ∀ z : Nat, ¬ S z → ∀ f : Nat, M.1 f z = P.1 f z
/-- PREDs b are y in the PHIs in front of place (i, j) -/
def JHP (P M Q : PO) (la : Nat) (b y i j : Int) : Prop := (Q.1 = M.1 ∧ Q.2.1 = M.2.1 ∧ Q.2.2.1 = M.2.2.1) ∧ ∀ c k : Int, 0 ≤ c → c < P.lz la → 0 ≤ k → k < P.lz (P.bp (P.el la c)) → (Q.ia (P.pu (P.el (P.bp (P.el la c)) k)) = P.ia (P.pu (P.el (P.bp (P.el la c)) k)) ∧ Q.ia (P.pr (P.el (P.bp (P.el la c)) k)) = P.ia (P.pr (P.el (P.bp (P.el la c)) k))) ∧ ((c < i ∨ (c = i ∧ k < j)) → ∀ t : Int, 0 ≤ t → t < P.pn (P.el (P.bp (P.el la c)) k) → (P.ia (P.pp (P.el (P.bp (P.el la c)) k)) t ≠ b → Q.ia (P.pp (P.el (P.bp (P.el la c)) k)) t = P.ia (P.pp (P.el (P.bp (P.el la c)) k)) t) ∧ (P.ia (P.pp (P.el (P.bp (P.el la c)) k)) t = b → Q.ia (P.pp (P.el (P.bp (P.el la c)) k)) t = y)) ∧ (¬ (c < i ∨ (c = i ∧ k < j)) → Q.ia (P.pp (P.el (P.bp (P.el la c)) k)) = P.ia (P.pp (P.el (P.bp (P.el la c)) k)))
section JAP9
variable {L L1 L' : List Nat} {P Q1 Q2 Q Q' M M' : PO} {cO cI cZ : ClassId} {ed l la x q q0 : Nat} {b c d i j k n p y : Int} {S : Nat → Prop}
theorem OBS.refl9 (L : List Nat) (P : PO) : OBS L P L P := fun _ m _ _ => ⟨m, fun _ => rfl, fun _ => rfl, rfl, rfl, rfl⟩
theorem ALP.lsx (a : ALP L P cO cI cZ ed la) (c0 : 0 ≤ c) (c1 : c < P.lz la) : (P.ek (P.br (P.el la c)) = 17 ∧ P.ow (P.br (P.el la c)) = P.el la c ∧ P.br (P.el la c) ∈ L ∧ P.kd (P.br (P.el la c)) = 30) ∧ P.ek (P.bp (P.el la c)) = 15 ∧ P.ow (P.bp (P.el la c)) = P.el la c ∧ P.bp (P.el la c) ∈ L ∧ P.kd (P.bp (P.el la c)) = 30 := by
  have r := (a.inb ⟨c, c0, c1, rfl⟩).1
  exact a.2.1.2.2.1 _ r.1 r.2
theorem ALP.dfx (a : ALP L P cO cI cZ ed la) (b0 : 0 ≤ b) (b1 : b < P.lz la) (c0 : 0 ≤ c) (c1 : c < P.lz la) (n : b ≠ c) : P.el la b ≠ P.el la c := by
  rcases Int.lt_or_le b c with q | q
  · exact a.2.1.2.2.2 b c b0 q c1
  · exact fun s => a.2.1.2.2.2 c b c0 (by omega) b1 s.symm
theorem JAP.first (L : List Nat) (P : PO) (la : Nat) (b y : Int) : JAP L P L P la b y 0 := ⟨OBS.refl9 L P, ⟨UNT.refl _ _, fun c _ _ => ⟨UNT.refl _ _, fun _ => UNT.refl _ _⟩⟩, by omega, fun _ _ _ => rfl, fun k k0 k1 => by omega⟩
theorem JAP.to {m : Int} (h : JAP L P L' Q la b y n) (e : n = m) : JAP L P L' Q la b y m := by rw [← e]; exact h
theorem JAP.blk (h : JAP L P L' Q la b y n) (a : ALP L P cO cI cZ ed la) (c0 : 0 ≤ c) (c1 : c < P.lz la) : Q.el la c = P.el la c ∧ (Q.bp (P.el la c) = P.bp (P.el la c) ∧ Q.br (P.el la c) = P.br (P.el la c) ∧ Q.be (P.el la c) = P.be (P.el la c)) ∧ Q.bf (P.el la c) = P.bf (P.el la c) ∧ Q.bs (P.el la c) = P.bs (P.el la c) := ⟨h.2.1.1.2 c c0 c1, OBS.blk h.1 (a.inb ⟨c, c0, c1, rfl⟩).1.1 (a.inb ⟨c, c0, c1, rfl⟩).1.2⟩
theorem JAP.add (h : JAP L P L1 Q1 la b y n) (a : ALP L P cO cI cZ ed la) (a1 : ALP L1 Q1 cO cI cZ ed la) (w : GL1 l q0 L1 Q1 L' Q) (fx : Q1.fl l = 1 ∨ Q1.le l ∉ L1) (z : Q.lz l = Q1.lz l + 1) (at9 : Q.oa q0 (Q1.lz l).toNat = some x) (old : ∀ j : Nat, (j : Int) < Q1.lz l → Q.oa q0 j = Q1.oa (Q1.le l) j) (el : P.br (P.el la y) = l) (ex : x = P.el (P.br (P.el la b)) n) (y0 : 0 ≤ y) (y1 : y < P.lz la) (n0 : 0 ≤ n) : JAP L P L' Q la b y (n + 1) := by
  have zl : Q1.lz la = P.lz la := h.2.1.1.1
  have ly := a1.lsx y0 (by rw [zl]; exact y1)
  have by9 := h.blk a y0 y1
  rw [by9.1, by9.2.1.2.1, el] at ly
  have ml := ly.1.2.2.1
  have kl := ly.1.2.2.2
  have ut : ∀ m : Nat, m ∈ L1 → Q1.kd m = 30 → m ≠ l → (∃ k : Nat, LOK L1 Q1 cO k m) → UNT Q1 Q m := fun m mm km nn lm => a1.untg w ml kl fx mm km nn lm
  have lla : la ≠ l := fun e => by
    have t := a1.2.1.2.1
    rw [e, ly.1.1] at t
    exact absurd t (by decide)
  have hz := h.2.2.1
  rw [el] at hz
  have p0 : 0 ≤ P.lz l := by rw [← el]; exact (a.inb ⟨y, y0, y1, rfl⟩).2.1.2.2.1.1
  refine ⟨h.1.trans (OBS.gl1 a1 w ml kl fx), ⟨h.2.1.1.trans (ut la a1.lok.1 a1.lok.2.1 lla ⟨_, a1.lok⟩), fun c c0 c1 => ?_⟩, ?_, fun k k0 k1 => ?_, fun k k0 k1 => ?_⟩
  · have c1' : c < Q1.lz la := by rw [zl]; exact c1
    have e := h.blk a c0 c1
    have lc := a1.lsx c0 c1'
    have lr : LOK L1 Q1 cO 17 (P.br (P.el la c)) := by
      have t := (a1.inb ⟨c, c0, c1', rfl⟩).2.1
      rw [e.1, e.2.1.2.1] at t
      exact t
    have lp : LOK L1 Q1 cO 15 (P.bp (P.el la c)) := by
      have t := (a1.inb ⟨c, c0, c1', rfl⟩).2.2.1
      rw [e.1, e.2.1.1] at t
      exact t
    rw [e.1, e.2.1.1, e.2.1.2.1] at lc
    refine ⟨(h.2.1.2 c c0 c1).1.trans (ut _ lp.1 lp.2.1 (fun q => ?_) ⟨_, lp⟩), fun cy => ((h.2.1.2 c c0 c1).2 cy).trans (ut _ lr.1 lr.2.1 (fun q => ?_) ⟨_, lr⟩)⟩
    · have t := lc.2.1
      rw [q, ly.1.1] at t
      exact absurd t (by decide)
    · exact a.dfx c0 c1 y0 y1 cy (by rw [← lc.1.2.1, q, ly.1.2.1])
  · rw [el, z, hz]; omega
  · have t := h.2.2.2.1 k k0 k1
    rw [el] at t k1 ⊢
    exact (w.elx old k0 (by rw [hz]; omega)).trans t
  · by_cases q : k < n
    · have t := h.2.2.2.2 k k0 q
      rw [el] at t ⊢
      exact (w.elx old (by omega) (by rw [hz]; omega)).trans t
    · have e : k = n := by omega
      have t := w.elast at9
      rw [hz] at t
      rw [el, e, t, ex]
theorem JEP.refl (P : PO) (S : Nat → Prop) : JEP P P S := ⟨rfl, fun _ _ _ => rfl⟩
theorem JEP.rw1 (h : JEP P M S) (w : RW1 x M M') (s : S x) : JEP P M' S := ⟨w.1.trans h.1, fun z n f => (w.2 z (fun e => n (by rw [e]; exact s)) f).trans (h.2 z n f)⟩
theorem JAP.phi (h : JAP L P L1 Q1 la b y n) (e : JEP Q1 M S) (a : ALP L P cO cI cZ ed la) (sn : ∀ z : Nat, S z → P.kd z = 17 ∨ P.kd z = 12) (c0 : 0 ≤ c) (c1 : c < P.lz la) : (M.el la c = P.el la c ∧ M.bp (P.el la c) = P.bp (P.el la c)) ∧ M.lz (P.bp (P.el la c)) = P.lz (P.bp (P.el la c)) ∧ ∀ k : Int, 0 ≤ k → k < P.lz (P.bp (P.el la c)) → M.el (P.bp (P.el la c)) k = P.el (P.bp (P.el la c)) k ∧ PVE P M (P.el (P.bp (P.el la c)) k) := by
  have m2 := e.1
  have nS : ∀ z : Nat, P.kd z = 30 ∨ P.kd z = 15 → ¬ S z := fun z q s => by
    have t := sn z s
    omega
  have bl := h.blk a c0 c1
  have ls := a.lsx c0 c1
  have elm : ∀ (l : Nat) (k : Int), M.el l k = Q1.el l k := fun l k => by unfold PO.el PO.oa PO.le; rw [m2]
  have r : ∀ f z : Nat, M.2.1 f z = Q1.2.1 f z := fun f z => by rw [m2]
  have i9 : ∀ z : Nat, M.ia z = Q1.ia z := fun z => by show M.2.2.2.1 z = Q1.2.2.2.1 z; rw [m2]
  refine ⟨⟨(elm la c).trans bl.1, (r _ _).trans bl.2.1.1⟩, (e.2 _ (nS _ (Or.inl ls.2.2.2.2)) 0).trans (h.2.1.2 c c0 c1).1.1, fun k k0 k1 => ?_⟩
  have kp := a.kphi c0 c1 k0 k1
  have w := OBS.phi h.1 (a.pik kp.1 kp.2)
  exact ⟨(elm _ _).trans ((h.2.1.2 c c0 c1).1.2 k k0 k1), fun f => (e.2 _ (nS _ (Or.inr kp.2)) f).trans (w.1 f), ⟨(r _ _).trans w.2.1.1, (r _ _).trans w.2.1.2.1, (r _ _).trans w.2.1.2.2⟩, (i9 _).trans w.2.2.1, (i9 _).trans w.2.2.2.1, (i9 _).trans w.2.2.2.2⟩
theorem JHP.first (h : JAP L P L1 Q1 la b y n) (e : JEP Q1 M S) (a : ALP L P cO cI cZ ed la) (sn : ∀ z : Nat, S z → P.kd z = 17 ∨ P.kd z = 12) : JHP P M M la b y 0 0 := ⟨⟨rfl, rfl, rfl⟩, fun c k c0 c1 k0 k1 => by
  have v := ((h.phi e a sn c0 c1).2.2 k k0 k1).2
  exact ⟨⟨v.2.2.2.1, v.2.2.2.2⟩, fun q => by omega, fun _ => v.2.2.1⟩⟩
theorem JHP.plne (h : JHP P M Q la b y i j) (v : PVE P M x) (i0 : 0 ≤ i) (i1 : i < P.lz la) (j0 : 0 ≤ j) (j1 : j < P.lz (P.bp (P.el la i))) (hx : x = P.el (P.bp (P.el la i)) j) (p9 : PLNE Q x p d) : PLNE P x p d := by
  have e1 : Q.pn x = P.pn x := (show Q.pn x = M.pn x by unfold PO.pn; rw [h.1.1]).trans (v.1 _)
  have e2 : Q.pp x = P.pp x := (show Q.pp x = M.pp x by unfold PO.pp; rw [h.1.2.1]).trans v.2.1.1
  have e3 : Q.ia (P.pp x) = P.ia (P.pp x) := by rw [hx]; exact (h.2 i j i0 i1 j0 j1).2.2 (by omega)
  unfold PLNE PLCE at p9 ⊢
  rw [e1, e2, e3] at p9
  exact p9
theorem JHP.put (h : JHP P M Q la b y i j) (a : ALP L P cO cI cZ ed la) (nd : NDR P la) (od : OPD P la) (i0 : 0 ≤ i) (i1 : i < P.lz la) (j0 : 0 ≤ j) (j1 : j < P.lz (P.bp (P.el la i))) (hx : x = P.el (P.bp (P.el la i)) j) (eq : q = P.pp x) (pl : PLCE P x b d) (e : Q' = Q.ri9 q (zup (Q.ia q) d y)) : JHP P M Q' la b y i (j + 1) := by
  subst e
  have kx := a.kphi i0 i1 j0 j1
  rw [← hx] at kx
  have wx := a.pik kx.1 kx.2
  refine ⟨h.1, fun c k c0 c1 k0 k1 => ?_⟩
  have kp := a.kphi c0 c1 k0 k1
  have w := a.pik kp.1 kp.2
  have o := h.2 c k c0 c1 k0 k1
  have nu : P.pu (P.el (P.bp (P.el la c)) k) ≠ q := fun t => by
    have u := w.2.2.1.2.1
    rw [t, eq, wx.2.1.2.1] at u
    exact absurd u (by decide)
  have nr : P.pr (P.el (P.bp (P.el la c)) k) ≠ q := fun t => by
    have u := w.2.2.2.1.2.1
    rw [t, eq, wx.2.1.2.1] at u
    exact absurd u (by decide)
  have np : ¬ (c = i ∧ k = j) → P.pp (P.el (P.bp (P.el la c)) k) ≠ q := fun z t => z (nd.2.1 c i k j c0 c1 i0 i1 k0 k1 j0 j1 (by
    have u := w.2.1.2.2.2
    rw [t, eq, wx.2.1.2.2.2] at u
    exact u.symm.trans hx))
  have go : ∀ z : Nat, z ≠ q → (Q.ri9 q (zup (Q.ia q) d y)).ia z = Q.ia z := fun z n => if_neg n
  refine ⟨⟨(go _ nu).trans o.1.1, (go _ nr).trans o.1.2⟩, fun t => ?_, fun t => ?_⟩
  · by_cases z : c = i ∧ k = j
    · have ex : P.el (P.bp (P.el la c)) k = x := by rw [z.1, z.2, hx]
      intro t t0 t1
      have s := o.2.2 (by omega)
      rw [ex] at s t1 ⊢
      have v : (Q.ri9 q (zup (Q.ia q) d y)).ia (P.pp x) t = zup (P.ia (P.pp x)) d y t := by
        rw [← eq] at s ⊢
        show (if q = q then zup (Q.ia q) d y else Q.2.2.2.1 q) t = _
        rw [if_pos rfl, s]
      rw [v]
      unfold zup
      by_cases td : t = d
      · rw [if_pos td, td]
        exact ⟨fun u => absurd pl.2.2.1 u, fun _ => rfl⟩
      · rw [if_neg td]
        refine ⟨fun _ => rfl, fun u => ?_⟩
        have kk := pl.2.2.1
        rw [hx] at t1 u kk
        have d1 := pl.2.1
        rw [hx] at d1
        rcases Int.lt_or_le t d with g | g
        · exact absurd (u.trans kk.symm) (od i j t d i0 i1 j0 j1 t0 g d1)
        · exact absurd (kk.trans u.symm) (od i j d t i0 i1 j0 j1 pl.1 (by omega) t1)
    · intro t t0 t1
      rw [go _ (np z)]
      exact o.2.1 (by omega) t t0 t1
  · rw [go _ (np (by omega))]
    exact o.2.2 (by omega)
theorem JHP.skip (h : JHP P M Q la b y i j) (hx : x = P.el (P.bp (P.el la i)) j) (no : ∀ t : Int, 0 ≤ t → t < P.pn x → P.ia (P.pp x) t ≠ b) : JHP P M Q la b y i (j + 1) := ⟨h.1, fun c k c0 c1 k0 k1 => by
  have o := h.2 c k c0 c1 k0 k1
  refine ⟨o.1, fun t => ?_, fun t => o.2.2 (by omega)⟩
  by_cases z : c = i ∧ k = j
  · have ex : P.el (P.bp (P.el la c)) k = x := by rw [z.1, z.2, hx]
    have s := o.2.2 (by omega)
    rw [ex] at s ⊢
    exact fun t t0 t1 => ⟨fun _ => by rw [s], fun u => absurd u (no t t0 t1)⟩
  · exact o.2.1 (by omega)⟩
theorem JHP.next (h : JHP P M Q la b y i j) (e : P.lz (P.bp (P.el la i)) ≤ j) : JHP P M Q la b y (i + 1) 0 := ⟨h.1, fun c k c0 c1 k0 k1 => by
  have o := h.2 c k c0 c1 k0 k1
  refine ⟨o.1, fun t => o.2.1 ?_, fun t => o.2.2 (by omega)⟩
  by_cases z : c = i
  · rw [z] at k1
    omega
  · omega⟩
theorem JMR.of (h : JAP L P L1 Q1 la b y n) (hn : P.lz (P.br (P.el la b)) ≤ n) (hm : n ≤ P.lz (P.br (P.el la b))) (e : JEP Q1 M (fun z => z = P.be (P.el la y) ∨ z = P.el la y)) (g : JHP P M Q2 la b y i j) (gi : P.lz la ≤ i) (e2 : JEP Q2 Q (fun z => z = P.el la b)) (a : ALP L P cO cI cZ ed la) (nd : NDR P la) (b0 : 0 ≤ b) (b1 : b < P.lz la) (y0 : 0 ≤ y) (y1 : y < P.lz la) (yb : y ≠ b) (fe : M.ro (P.be (P.el la y)) = Q1.ro (P.be (P.el la b)) ∧ (M.rA (P.be (P.el la y)) = Q1.rA (P.be (P.el la b)) ∧ M.rB (P.be (P.el la y)) = Q1.rB (P.be (P.el la b))) ∧ M.ra (P.be (P.el la y)) = Q1.ra (P.be (P.el la b)) ∧ M.rb (P.be (P.el la y)) = Q1.rb (P.be (P.el la b))) (fb : M.bf (P.el la y) = Q1.bf (P.el la b) ∧ M.bs (P.el la y) = Q1.bs (P.el la b)) : JMR P Q la b y := by
  have R1 : Q.2.1 = Q1.2.1 := (show Q.2.1 = Q2.2.1 by rw [e2.1]).trans (g.1.2.1.trans (show M.2.1 = Q1.2.1 by rw [e.1]))
  have R2 : Q.2.2.1 = Q1.2.2.1 := (show Q.2.2.1 = Q2.2.2.1 by rw [e2.1]).trans (g.1.2.2.trans (show M.2.2.1 = Q1.2.2.1 by rw [e.1]))
  have r : ∀ f z : Nat, Q.2.1 f z = Q1.2.1 f z := fun f z => by rw [R1]
  have el : ∀ (l : Nat) (k : Int), Q.el l k = Q1.el l k := fun l k => by unfold PO.el PO.oa PO.le; rw [R1, R2]
  have NM : ∀ z : Nat, z ≠ P.el la b → ∀ f : Nat, Q.1 f z = M.1 f z := fun z n f => (e2.2 z n f).trans (by rw [g.1.1])
  have N : ∀ z : Nat, z ≠ P.be (P.el la y) → z ≠ P.el la y → z ≠ P.el la b → ∀ f : Nat, Q.1 f z = Q1.1 f z := fun z n1 n2 n3 f => (NM z n3 f).trans (e.2 z (fun q => q.elim n1 n2) f)
  have ey := a.kend y0 y1
  have eb := a.kend b0 b1
  have ky := (a.inb ⟨y, y0, y1, rfl⟩).1
  have kb := (a.inb ⟨b, b0, b1, rfl⟩).1
  have nk : ∀ z : Nat, P.kd z ≠ 17 → P.kd z ≠ 12 → ∀ f : Nat, Q.1 f z = Q1.1 f z := fun z n1 n2 => N z (fun q => n1 (by rw [q]; exact ey.2.1)) (fun q => n2 (by rw [q]; exact ky.2)) (fun q => n2 (by rw [q]; exact kb.2))
  have un : ∀ l : Nat, P.kd l = 30 → UNT P Q1 l → UNT P Q l := fun l k u => ⟨(nk l (by omega) (by omega) 0).trans u.1, fun k k0 k1 => (el _ _).trans (u.2 k k0 k1)⟩
  have k17 : ∀ z : Nat, P.kd z = 17 → z ≠ P.el la y ∧ z ≠ P.el la b := fun z k => ⟨fun q => by rw [q, ky.2] at k; exact absurd k (by decide), fun q => by rw [q, kb.2] at k; exact absurd k (by decide)⟩
  have k12 : ∀ z : Nat, P.kd z = 12 → z ≠ P.be (P.el la y) := fun z k q => by rw [q, ey.2.1] at k; exact absurd k (by decide)
  have xy : P.el la y ≠ P.el la b := a.dfx y0 y1 b0 b1 yb
  refine ⟨⟨(un la a.lok.2.1 h.2.1.1).1, fun c c0 c1 => ?_⟩, fun c c0 c1 => ⟨un _ (a.lsx c0 c1).2.2.2.2 (h.2.1.2 c c0 c1).1, fun q => un _ (a.lsx c0 c1).1.2.2.2 ((h.2.1.2 c c0 c1).2 q)⟩, ⟨?_, fun k k0 k1 => (el _ _).trans (h.2.2.2.1 k k0 k1), fun k k0 k1 => (el _ _).trans (h.2.2.2.2 k k0 (by omega))⟩, fun c k c0 c1 k0 k1 f => ?_, ⟨fun c c0 c1 cy f => ?_, ?_, ⟨?_, ?_⟩, ?_, ?_⟩, ⟨fun c c0 c1 cy cb => ?_, ?_, ?_⟩, fun c k c0 c1 k0 k1 => ?_⟩
  · have bl := h.blk a c0 c1
    exact ⟨(el _ _).trans bl.1, (r _ _).trans bl.2.1.1, (r _ _).trans bl.2.1.2.1, (r _ _).trans bl.2.1.2.2⟩
  · have kl := (a.lsx y0 y1).1.2.2.2
    have t : Q.lz (P.br (P.el la y)) = Q1.lz (P.br (P.el la y)) := nk _ (by omega) (by omega) 0
    rw [t, h.2.2.1]
    omega
  · have kr := a.krow c0 c1 k0 k1
    have er := a.erow c0 c1 k0 k1
    have t := k17 _ kr.2
    exact (N _ (fun q => er (by rw [q]; exact ey.2.2)) t.1 t.2 f).trans (OBS.row h.1 kr.1 kr.2 f)
  · have ec := a.kend c0 c1
    have t := k17 _ ec.2.1
    exact (N _ (fun q => cy (nd.2.2 c y c0 c1 y0 y1 q)) t.1 t.2 f).trans (OBS.row h.1 ec.1 ec.2.1 f)
  · exact (NM _ (k17 _ ey.2.1).2 _).trans (fe.1.trans (OBS.row h.1 eb.1 eb.2.1 _))
  · exact (NM _ (k17 _ ey.2.1).2 _).trans (fe.2.1.1.trans (OBS.row h.1 eb.1 eb.2.1 _))
  · exact (NM _ (k17 _ ey.2.1).2 _).trans (fe.2.1.2.trans (OBS.row h.1 eb.1 eb.2.1 _))
  · exact (NM _ (k17 _ ey.2.1).2 _).trans (fe.2.2.1.trans (OBS.row h.1 eb.1 eb.2.1 _))
  · exact (NM _ (k17 _ ey.2.1).2 _).trans (fe.2.2.2.trans (OBS.row h.1 eb.1 eb.2.1 _))
  · have kc := (a.inb ⟨c, c0, c1, rfl⟩).1
    have bl := h.blk a c0 c1
    have t := N _ (k12 _ kc.2) (a.dfx c0 c1 y0 y1 cy) (a.dfx c0 c1 b0 b1 cb)
    exact ⟨(t _).trans bl.2.2.1, (t _).trans bl.2.2.2⟩
  · exact (NM _ xy _).trans (fb.1.trans (h.blk a b0 b1).2.2.1)
  · exact (NM _ xy _).trans (fb.2.trans (h.blk a b0 b1).2.2.2)
  · have v := ((h.phi e a (fun z q => q.elim (fun t => Or.inl (by rw [t]; exact ey.2.1)) (fun t => Or.inr (by rw [t]; exact ky.2))) c0 c1).2.2 k k0 k1).2
    have kp := a.kphi c0 c1 k0 k1
    have nb : P.el (P.bp (P.el la c)) k ≠ P.el la b := fun q => by
      have t := kp.2
      rw [q, kb.2] at t
      exact absurd t (by decide)
    have o := g.2 c k c0 c1 k0 k1
    have rM : ∀ f z : Nat, Q.2.1 f z = M.2.1 f z := fun f z => by rw [e2.1, g.1.2.1]
    have iM : ∀ z : Nat, Q.ia z = Q2.ia z := fun z => by show Q.2.2.2.1 z = Q2.2.2.2.1 z; rw [e2.1]
    have n9 : ∀ f : Nat, Q.1 f (P.el (P.bp (P.el la c)) k) = P.1 f (P.el (P.bp (P.el la c)) k) := fun f => (NM _ nb f).trans (v.1 f)
    have u := o.2.1 (by omega)
    refine ⟨⟨n9 _, n9 _, n9 _⟩, ⟨(rM _ _).trans v.2.1.1, (rM _ _).trans v.2.1.2.1, (rM _ _).trans v.2.1.2.2⟩, fun t t0 t1 => ?_⟩
    rw [iM, iM, iM, o.1.1, o.1.2]
    exact ⟨⟨rfl, rfl⟩, (u t t0 t1).1, (u t t0 t1).2⟩
end JAP9
