/-! toPlain: what is kept of the function while rows come where its PHIs were -/
/-- a way of an IF is split: all is as it was but y's goal; one block more, that jumps where the way led -/
def SPX (P Q : PO) (la : Nat) (y b : Int) : Prop := (Q.lz la = P.lz la + 1 ∧ (0 ≤ y ∧ y < P.lz la) ∧ (0 ≤ b ∧ b < P.lz la)) ∧ (∀ c : Int, 0 ≤ c → c < P.lz la → Q.el la c = P.el la c ∧ (Q.bp (P.el la c) = P.bp (P.el la c) ∧ Q.br (P.el la c) = P.br (P.el la c) ∧ Q.be (P.el la c) = P.be (P.el la c)) ∧ (c ≠ y → Q.bf (P.el la c) = P.bf (P.el la c) ∧ Q.bs (P.el la c) = P.bs (P.el la c)) ∧ (Q.lz (P.bp (P.el la c)) = P.lz (P.bp (P.el la c)) ∧ ∀ k : Int, 0 ≤ k → k < P.lz (P.bp (P.el la c)) → Q.el (P.bp (P.el la c)) k = P.el (P.bp (P.el la c)) k ∧ PVE P Q (P.el (P.bp (P.el la c)) k)) ∧ (Q.lz (P.br (P.el la c)) = P.lz (P.br (P.el la c)) ∧ ∀ k : Int, 0 ≤ k → k < P.lz (P.br (P.el la c)) → Q.el (P.br (P.el la c)) k = P.el (P.br (P.el la c)) k ∧ ∀ f : Nat, Q.1 f (P.el (P.br (P.el la c)) k) = P.1 f (P.el (P.br (P.el la c)) k)) ∧ ∀ f : Nat, Q.1 f (P.be (P.el la c)) = P.1 f (P.be (P.el la c))) ∧ (P.ro (P.be (P.el la y)) = 31 ∧ ((P.bf (P.el la y) = b ∧ P.bs (P.el la y) ≠ b ∧ Q.bf (P.el la y) = P.lz la ∧ Q.bs (P.el la y) = P.bs (P.el la y)) ∨ (P.bf (P.el la y) ≠ b ∧ P.bs (P.el la y) = b ∧ Q.bf (P.el la y) = P.bf (P.el la y) ∧ Q.bs (P.el la y) = P.lz la))) ∧ (Q.lz (Q.bp (Q.el la (P.lz la))) = 0 ∧ Q.lz (Q.br (Q.el la (P.lz la))) = 0 ∧ Q.ro (Q.be (Q.el la (P.lz la))) = 30 ∧ Q.bf (Q.el la (P.lz la)) = b ∧ Q.bs (Q.el la (P.lz la)) = b) ∧ ∀ c : Int, 0 ≤ c → c < P.lz la → P.be (P.el la c) ≠ Q.be (Q.el la (P.lz la))
/-- under way: the PHIs of block b are done for the PREDs below p; n blocks at first, m PHIs at most, no PHI sets t -/
def TPI (Q : PO) (la : Nat) (n m t b p : Int) : Prop := ((0 < n ∧ n ≤ Q.lz la ∧ 0 ≤ m ∧ m ≤ 1200) ∧ NDR Q la ∧ ENE Q la ∧ GN0 Q la ∧ TXH Q la ∧ I6P Q la) ∧ (∀ c : Int, 0 ≤ c → c < Q.lz la → (30 ≤ Q.ro (Q.be (Q.el la c)) ∧ Q.ro (Q.be (Q.el la c)) ≤ 32) ∧ (Q.lz (Q.bp (Q.el la c)) ≤ m ∧ Q.lz (Q.bp (Q.el la c)) ≤ 400 ∧ (c = 0 ∨ n ≤ c → Q.lz (Q.bp (Q.el la c)) = 0)) ∧ (∀ j : Int, 0 ≤ j → j < Q.lz (Q.bp (Q.el la c)) → Q.pt (Q.el (Q.bp (Q.el la c)) j) ≠ t) ∧ (Q.lz (Q.br (Q.el la c)) ≤ 1200 - m ∨ (Q.lz (Q.br (Q.el la c)) ≤ 1601 ∧ (n ≤ c ∨ ∀ d : Int, EDG Q la c d → d < b ∨ (d = b ∧ c < p))))) ∧ ∀ c q : Int, 0 ≤ c → c < n → 0 ≤ q → q < n → (b < c ∨ (b = c ∧ p ≤ q)) → EDG Q la q c → ∀ j : Int, 0 ≤ j → j < Q.lz (Q.bp (Q.el la c)) → HPP Q (Q.el (Q.bp (Q.el la c)) j) q
section TPL9
variable {L L' : List Nat} {P Q R : PO} {cO cI cZ : ClassId} {ed la x : Nat} {b c d k m n p q t y : Int}
theorem PVE.hpp (v : PVE P Q x) (h : HPP P x q) : HPP Q x q := by
  obtain ⟨k, k0, k1, e⟩ := h
  exact ⟨k, k0, by rw [show Q.pn x = P.pn x from v.1 1]; exact k1, by rw [v.2.1.1, v.2.2.1]; exact e⟩
theorem TPI.first (l0 : 0 < P.lz la) (a : ALP L P cO cI cZ ed la) (cm : CMP P la) (nd : NDR P la) (en : ENE P la) (gn : GN0 P la) (fk : FKX P la) (ts : P.tot 2 la + P.tot 1 la ≤ 1200) (nt : ∀ c j : Int, 0 ≤ c → c < P.lz la → 0 ≤ j → j < P.lz (P.bp (P.el la c)) → P.pt (P.el (P.bp (P.el la c)) j) ≠ t) (rw2 : ∀ c : Int, 0 ≤ c → c < P.lz la → P.lz (P.br (P.el la c)) ≤ P.tot 2 la) : TPI P la (P.lz la) (P.tot 1 la) t 0 0 := by
  have tn := a.totnn
  refine ⟨⟨⟨l0, Int.le_refl _, by omega, by omega⟩, nd, en, gn, fk.1.1, fk.1.2⟩, fun c c0 c1 => ⟨(cm.2.1 c c0 c1).2, ⟨tot_ge a c0 c1, fk.2 c c0 c1, fun e => ?_⟩, fun j j0 j1 => nt c j c0 c1 j0 j1, Or.inl ?_⟩, fun c q c0 c1 q0 q1 _ e j j0 j1 => ?_⟩
  · rcases e with e | e
    · rw [e]; exact cm.1
    · omega
  · have r := rw2 c c0 c1
    omega
  · have w := e.way
    exact cm.2.2 q c q0 q1 c0 c1 w.1 w.2 j j0 j1
theorem TPI.next (h : TPI Q la n m t b p) : TPI Q la n m t b (p + 1) := ⟨h.1, fun c c0 c1 => by
  obtain ⟨h1, h2, h3, h4⟩ := h.2.1 c c0 c1
  refine ⟨h1, h2, h3, h4.imp id (fun q => ⟨q.1, q.2.imp id (fun w d e => (w d e).imp id (fun u => ⟨u.1, by omega⟩))⟩)⟩, fun c q c0 c1 q0 q1 o => h.2.2 c q c0 c1 q0 q1 (by omega)⟩
theorem TPI.nextb (h : TPI Q la n m t b p) : TPI Q la n m t (b + 1) 0 := ⟨h.1, fun c c0 c1 => by
  obtain ⟨h1, h2, h3, h4⟩ := h.2.1 c c0 c1
  refine ⟨h1, h2, h3, h4.imp id (fun q => ⟨q.1, q.2.imp id (fun w d e => Or.inl (by have u := w d e; omega))⟩)⟩, fun c q c0 c1 q0 q1 o => h.2.2 c q c0 c1 q0 q1 (by omega)⟩
theorem TPI.rowp (h : TPI Q la n m t b p) (p0 : 0 ≤ p) (p1 : p < n) (e : EDG Q la p b) : Q.lz (Q.br (Q.el la p)) ≤ 1200 - m := by
  have z := h.1.1
  rcases (h.2.1 p p0 (by omega)).2.2.2 with w | ⟨_, w | w⟩
  · exact w
  · omega
  · have u := w b e
    omega
/-- rows have come at the end of a block -/
theorem TPI.rox (h : TPI Q la n m t b p) (w : ROA Q R la y k) (aQ : ALP L Q cO cI cZ ed la) (aR : ALP L' R cO cI cZ ed la) (rb : 0 ≤ y → y < Q.lz la → Q.lz (Q.br (Q.el la y)) + k ≤ 1200 - m ∨ (Q.lz (Q.br (Q.el la y)) + k ≤ 1601 ∧ (n ≤ y ∨ ∀ d : Int, EDG Q la y d → d < b ∨ (d = b ∧ y < p)))) : TPI R la n m t b p := by
  obtain ⟨⟨⟨n0, n1, m0, m1⟩, nd, en, gn, tx, i6⟩, h2, h3⟩ := h
  have zl := w.1.1
  have ey := w.edy
  refine ⟨⟨⟨n0, by omega, m0, m1⟩, w.2.2 nd, ⟨fun q q0 q1 e => en.1 q q0 (by omega) ((ey.2 q q0 (by omega) 0).mp e), fun c c0 c1 => ?_⟩, fun c c0 c1 => ?_, ⟨tx.1.wyr w.wyr aR, tx.2.rsb (w.rsb aQ.lr0)⟩, i6.edy ey⟩, fun c c0 c1 => ?_, fun c q c0 c1 q0 q1 o e j j0 j1 => ?_⟩
  · rw [zl] at c1
    have u := w.blk c0 c1
    rw [u.2.2.1, u.2.2.2.1, u.2.2.2.2]; exact en.2 c c0 c1
  · rw [zl] at c1
    have g := gn c c0 c1
    obtain ⟨eb, v⟩ := w.2.1 c c0 c1
    rw [eb, v.1.1, v.1.2.1]
    refine ⟨fun k k0 k1 => ?_, fun k k0 k1 => ?_⟩
    · rw [v.2.1.1] at k1
      have u := v.2.1.2 k k0 k1
      rw [u.1, show R.pg (Q.el (Q.bp (Q.el la c)) k) = Q.pg (Q.el (Q.bp (Q.el la c)) k) from u.2.1 2]; exact g.1 k k0 k1
    · rw [v.2.2.1.1] at k1
      by_cases s : k < Q.lz (Q.br (Q.el la c))
      · have u := v.2.2.1.2.1 k k0 s
        rw [u.1, show R.rg (Q.el (Q.br (Q.el la c)) k) = Q.rg (Q.el (Q.br (Q.el la c)) k) from u.2 6]; exact g.2 k k0 s
      · exact (v.2.2.1.2.2 k (by omega) k1).2
  · rw [zl] at c1
    have u := w.blk c0 c1
    obtain ⟨eb, v⟩ := w.2.1 c c0 c1
    obtain ⟨g1, g2, g3, g4⟩ := h2 c c0 c1
    rw [u.1, u.2.1, u.2.2.2.2]
    refine ⟨g1, g2, fun j j0 j1 => ?_, ?_⟩
    · have s := v.2.1.2 j j0 j1
      rw [eb, v.1.1, s.1, show R.pt (Q.el (Q.bp (Q.el la c)) j) = Q.pt (Q.el (Q.bp (Q.el la c)) j) from s.2.1 0]; exact g3 j j0 j1
    · by_cases s : c = y
      · rw [if_pos s]
        rw [s] at c0 c1 ⊢
        rcases rb c0 c1 with r | ⟨r, r2⟩
        · exact Or.inl r
        · exact Or.inr ⟨r, r2.imp id (fun z d e => z d ((ey.2 y c0 c1 d).mp e))⟩
      · rw [if_neg s, Int.add_zero]
        exact g4.imp id (fun r => ⟨r.1, r.2.imp id (fun z d e => z d ((ey.2 c c0 c1 d).mp e))⟩)
  · have c2 : c < Q.lz la := by omega
    have u := w.blk c0 c2
    obtain ⟨eb, v⟩ := w.2.1 c c0 c2
    rw [u.1] at j1
    have s := v.2.1.2 j j0 j1
    rw [eb, v.1.1, s.1]
    exact s.2.hpp (h3 c q c0 c1 q0 q1 o ((ey.2 q q0 (by omega) c).mp e) j j0 j1)
theorem TPI.fne (h : TPI Q la n m t b p) (v : FNE Q R la) (aQ : ALP L Q cO cI cZ ed la) (aR : ALP L' R cO cI cZ ed la) : TPI R la n m t b p := h.rox (ROA.fne v (-1)) aQ aR (fun y0 => by omega)
/-- PRED p has one way only: its rows are at its end -/
theorem TPI.one (h : TPI Q la n m t b p) (w : ROA Q R la p k) (aQ : ALP L Q cO cI cZ ed la) (aR : ALP L' R cO cI cZ ed la) (p0 : 0 ≤ p) (p1 : p < n) (e : EDG Q la p b) (o : ∀ d : Int, EDG Q la p d → d = b) (k1 : k ≤ 2 * Q.lz (Q.bp (Q.el la b)) + 1) (b0 : 0 ≤ b) (b1 : b < n) : TPI R la n m t b (p + 1) := by
  have r := h.rowp p0 p1 e
  have z := h.1.1
  have g := (h.2.1 b b0 (by omega)).2.1
  exact h.next.rox w aQ aR (fun _ _ => Or.inr ⟨by omega, Or.inr (fun d e => Or.inr ⟨o d e, by omega⟩)⟩)
/-- rows in a block that has come by a split -/
theorem TPI.two (h : TPI Q la n m t b p) (w : ROA Q R la y k) (aQ : ALP L Q cO cI cZ ed la) (aR : ALP L' R cO cI cZ ed la) (y0 : n ≤ y) (rz : Q.lz (Q.br (Q.el la y)) = 0) (k1 : k ≤ 2 * Q.lz (Q.bp (Q.el la b)) + 1) (b0 : 0 ≤ b) (b1 : b < n) : TPI R la n m t b (p + 1) := by
  have z := h.1.1
  have g := (h.2.1 b b0 (by omega)).2.1
  exact h.next.rox w aQ aR (fun _ _ => Or.inr ⟨by omega, Or.inl y0⟩)
theorem SPX.edg (h : SPX P Q la y b) (c0 : 0 ≤ c) (c1 : c < P.lz la) (n : c ≠ y) : EDG Q la c d ↔ EDG P la c d := by
  have u := h.2.1 c c0 c1
  unfold EDG
  rw [u.1, u.2.1.2.2, (u.2.2.1 n).1, (u.2.2.1 n).2, show Q.ro (P.be (P.el la c)) = P.ro (P.be (P.el la c)) from u.2.2.2.2.2 0]
theorem SPX.edb (h : SPX P Q la y b) : EDG P la y b := EDG.yaw (by rw [h.2.2.1.1]; decide) (h.2.2.1.2.elim (fun w => Or.inl w.1) (fun w => Or.inr ⟨by rw [h.2.2.1.1]; decide, w.2.1⟩))
theorem SPX.spw (h : SPX P Q la y b) : SPW P Q la y b := by
  have hy := h.2.1 y h.1.2.1.1 h.1.2.1.2
  refine ⟨⟨h.1.1, h.1.2.1, h.1.2.2, h.2.2.1.1, h.edb⟩, fun p c p0 p1 n e => (h.edg p0 p1 n).mp e, fun c e => ?_, fun c e => ?_, fun p p0 p1 o => ?_, ?_, fun p p0 p1 => ?_, h.2.2.2.1.1⟩
  · have w := e.way.2
    rw [hy.1] at w
    have yw : ∀ c : Int, P.bf (P.el la y) = c ∨ P.bs (P.el la y) = c → EDG P la y c := fun c u => EDG.yaw (by rw [h.2.2.1.1]; decide) (u.elim Or.inl (fun z => Or.inr ⟨by rw [h.2.2.1.1]; decide, z⟩))
    rcases h.2.2.1.2 with ⟨u1, u2, u3, u4⟩ | ⟨u1, u2, u3, u4⟩
    · rcases w with w | ⟨_, w⟩
      · exact Or.inr (w.symm.trans u3)
      · exact Or.inl ⟨yw c (Or.inr (u4.symm.trans w)), by rw [← w, u4]; exact u2⟩
    · rcases w with w | ⟨_, w⟩
      · exact Or.inl ⟨yw c (Or.inl (u3.symm.trans w)), by rw [← w, u3]; exact u1⟩
      · exact Or.inr (w.symm.trans u4)
  · have w := e.way.2
    rcases w with w | ⟨_, w⟩
    · exact w.symm.trans h.2.2.2.1.2.2.2.1
    · exact w.symm.trans h.2.2.2.1.2.2.2.2
  · have u := h.2.1 p p0 p1
    rw [u.1, u.2.1.2.2, show Q.ro (P.be (P.el la p)) = P.ro (P.be (P.el la p)) from u.2.2.2.2.2 0] at o
    exact o
  · rw [h.2.2.2.1.2.2.1]; decide
  · have u := h.2.1 p p0 p1
    rw [u.1, u.2.1.1, u.2.2.2.1.1]; exact Int.le_refl _
theorem SPX.ndr (h : SPX P Q la y b) (nd : NDR P la) : NDR Q la := by
  have z := h.1.1
  refine ⟨fun b c j k b0 b1 c0 c1 j0 j1 k0 k1 e => ?_, fun b c j k b0 b1 c0 c1 j0 j1 k0 k1 e => ?_, fun b c b0 b1 c0 c1 e => ?_⟩
  · by_cases s : b < P.lz la
    · by_cases r : c < P.lz la
      · have u := h.2.1 b b0 s
        have v := h.2.1 c c0 r
        rw [u.1, u.2.1.2.1, u.2.2.2.2.1.1] at j1
        rw [v.1, v.2.1.2.1, v.2.2.2.2.1.1] at k1
        rw [u.1, u.2.1.2.1, v.1, v.2.1.2.1, (u.2.2.2.2.1.2 j j0 j1).1, (v.2.2.2.2.1.2 k k0 k1).1] at e
        exact nd.1 b c j k b0 s c0 r j0 j1 k0 k1 e
      · rw [show c = P.lz la from by omega, h.2.2.2.1.2.1] at k1; omega
    · rw [show b = P.lz la from by omega, h.2.2.2.1.2.1] at j1; omega
  · by_cases s : b < P.lz la
    · by_cases r : c < P.lz la
      · have u := h.2.1 b b0 s
        have v := h.2.1 c c0 r
        rw [u.1, u.2.1.1, u.2.2.2.1.1] at j1
        rw [v.1, v.2.1.1, v.2.2.2.1.1] at k1
        rw [u.1, u.2.1.1, v.1, v.2.1.1, (u.2.2.2.1.2 j j0 j1).1, (v.2.2.2.1.2 k k0 k1).1] at e
        exact nd.2.1 b c j k b0 s c0 r j0 j1 k0 k1 e
      · rw [show c = P.lz la from by omega, h.2.2.2.1.1] at k1; omega
    · rw [show b = P.lz la from by omega, h.2.2.2.1.1] at j1; omega
  · by_cases s : b < P.lz la
    · have u := h.2.1 b b0 s
      by_cases r : c < P.lz la
      · have v := h.2.1 c c0 r
        rw [u.1, u.2.1.2.2, v.1, v.2.1.2.2] at e
        exact nd.2.2 b c b0 s c0 r e
      · rw [show c = P.lz la from by omega, u.1, u.2.1.2.2] at e
        exact absurd e (h.2.2.2.2 b b0 s)
    · by_cases r : c < P.lz la
      · have v := h.2.1 c c0 r
        rw [show b = P.lz la from by omega, v.1, v.2.1.2.2] at e
        exact absurd e.symm (h.2.2.2.2 c c0 r)
      · omega
theorem SPX.rsb (h : SPX P Q la y b) : RSB P Q la := fun c k c0 c1 k0 k1 o => by
  have z := h.1.1
  by_cases s : c < P.lz la
  · have u := h.2.1 c c0 s
    rw [u.1, u.2.1.2.1] at k1 o
    rw [u.2.2.2.2.1.1] at k1
    have v := u.2.2.2.2.1.2 k k0 k1
    rw [v.1, show Q.ro (P.el (P.br (P.el la c)) k) = P.ro (P.el (P.br (P.el la c)) k) from v.2 0] at o
    exact ⟨c, k, ⟨c0, s⟩, ⟨k0, k1⟩, by rw [u.1, u.2.1.2.1, v.1], o⟩
  · rw [show c = P.lz la from by omega, h.2.2.2.1.2.1] at k1; omega
theorem TPI.spx (h : TPI Q la n m t b p) (s : SPX Q R la p b) (aQ : ALP L Q cO cI cZ ed la) (p1 : p < n) (b1 : b < n) (ph : 0 < Q.lz (Q.bp (Q.el la b))) : TPI R la n m t b p := by
  have p0 := s.1.2.1.1
  have b0 := s.1.2.2.1
  have r0 := h.rowp p0 p1 s.edb
  have sp := s.spw
  have bz : b ≠ 0 := fun e => by
    have g := (h.2.1 b b0 s.1.2.2.2).2.1.2.2 (Or.inl e)
    omega
  obtain ⟨⟨⟨n0, n1, m0, m1⟩, nd, en, gn, tx, i6⟩, h2, h3⟩ := h
  have zl := s.1.1
  refine ⟨⟨⟨n0, by omega, m0, m1⟩, s.ndr nd, ⟨fun q q0 q1 e => ?_, fun c c0 c1 => ?_⟩, fun c c0 c1 => ?_, ⟨tx.1.spw sp (Or.inr ph) aQ, tx.2.rsb s.rsb⟩, i6.1.spw sp aQ, i6.2.spw sp aQ⟩, fun c c0 c1 => ?_, fun c q c0 c1 q0 q1 o e j j0 j1 => ?_⟩
  · by_cases z : q = Q.lz la
    · rw [z] at e; exact bz (sp.2.2.2.1 0 e).symm
    · by_cases y : q = p
      · rw [y] at e
        rcases sp.2.2.1 0 e with w | w
        · exact en.1 p p0 s.1.2.1.2 w.1
        · omega
      · exact en.1 q q0 (by omega) ((s.edg q0 (by omega) y).mp e)
  · by_cases z : c = Q.lz la
    · rw [z, s.2.2.2.1.2.2.1, s.2.2.2.1.2.2.2.1, s.2.2.2.1.2.2.2.2]
      exact ⟨fun w => absurd w (by decide), fun _ => rfl⟩
    · have u := s.2.1 c c0 (by omega)
      rw [u.1, u.2.1.2.2, show R.ro (Q.be (Q.el la c)) = Q.ro (Q.be (Q.el la c)) from u.2.2.2.2.2 0]
      by_cases y : c = p
      · rw [y, s.2.2.1.1]
        exact ⟨fun w => absurd w (by decide), fun w => absurd w (by decide)⟩
      · rw [(u.2.2.1 y).1, (u.2.2.1 y).2]; exact en.2 c c0 (by omega)
  · by_cases z : c = Q.lz la
    · rw [z]
      exact ⟨fun k k0 k1 => by rw [s.2.2.2.1.1] at k1; omega, fun k k0 k1 => by rw [s.2.2.2.1.2.1] at k1; omega⟩
    · have u := s.2.1 c c0 (by omega)
      have g := gn c c0 (by omega)
      rw [u.1, u.2.1.1, u.2.1.2.1]
      refine ⟨fun k k0 k1 => ?_, fun k k0 k1 => ?_⟩
      · rw [u.2.2.2.1.1] at k1
        have v := u.2.2.2.1.2 k k0 k1
        rw [v.1, show R.pg (Q.el (Q.bp (Q.el la c)) k) = Q.pg (Q.el (Q.bp (Q.el la c)) k) from v.2.1 2]; exact g.1 k k0 k1
      · rw [u.2.2.2.2.1.1] at k1
        have v := u.2.2.2.2.1.2 k k0 k1
        rw [v.1, show R.rg (Q.el (Q.br (Q.el la c)) k) = Q.rg (Q.el (Q.br (Q.el la c)) k) from v.2 6]; exact g.2 k k0 k1
  · by_cases z : c = Q.lz la
    · rw [z, s.2.2.2.1.1, s.2.2.2.1.2.1, s.2.2.2.1.2.2.1]
      exact ⟨by decide, ⟨m0, by decide, fun _ => rfl⟩, fun j j0 j1 => by omega, Or.inl (by omega)⟩
    · have u := s.2.1 c c0 (by omega)
      obtain ⟨g1, g2, g3, g4⟩ := h2 c c0 (by omega)
      rw [u.1, u.2.1.1, u.2.1.2.1, u.2.1.2.2, u.2.2.2.1.1, u.2.2.2.2.1.1, show R.ro (Q.be (Q.el la c)) = Q.ro (Q.be (Q.el la c)) from u.2.2.2.2.2 0]
      refine ⟨g1, g2, fun j j0 j1 => ?_, ?_⟩
      · have v := u.2.2.2.1.2 j j0 j1
        rw [v.1, show R.pt (Q.el (Q.bp (Q.el la c)) j) = Q.pt (Q.el (Q.bp (Q.el la c)) j) from v.2.1 0]; exact g3 j j0 j1
      · by_cases y : c = p
        · rw [y]; exact Or.inl r0
        · exact g4.imp id (fun w => ⟨w.1, w.2.imp id (fun z d e => z d ((s.edg c0 (by omega) y).mp e))⟩)
  · have u := s.2.1 c c0 (by omega)
    have eq : EDG Q la q c := by
      by_cases y : q = p
      · rw [y] at e ⊢
        rcases sp.2.2.1 c e with w | w
        · exact w.1
        · omega
      · exact (s.edg q0 (by omega) y).mp e
    rw [u.1, u.2.1.1, u.2.2.2.1.1] at j1
    have v := u.2.2.2.1.2 j j0 j1
    rw [u.1, u.2.1.1, v.1]
    exact v.2.hpp (h3 c q c0 c1 q0 q1 o eq j j0 j1)
end TPL9
