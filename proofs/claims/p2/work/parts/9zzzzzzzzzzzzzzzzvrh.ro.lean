/-! toPlain: a block has come for a way that is split; its END, its goals, the PRED's goal have been put: the function is one again -/
section SPL9
variable {L L' : List Nat} {Q Q' R : PO} {cO cI cZ : ClassId} {ed la lb lr lp x z : Nat} {b c j k m n p s s' c' t y : Int}
theorem PIK.sm {x : Nat} (h : PIK L Q cI cZ x) (e : ∀ v : Nat, v = x ∨ v = Q.pp x ∨ v = Q.pu x ∨ v = Q.pr x → v ∈ L' ∧ SM9 v Q R) : PIK L' R cI cZ x := by
  obtain ⟨⟨a1, a2⟩, ⟨b1, b2, b3, b4⟩, ⟨c1, c2, c3, c4⟩, ⟨d1, d2, d3, d4⟩, n1, n2, n3⟩ := h
  have s := e x (Or.inl rfl)
  have p := e _ (Or.inr (Or.inl rfl))
  have u := e _ (Or.inr (Or.inr (Or.inl rfl)))
  have r := e _ (Or.inr (Or.inr (Or.inr rfl)))
  have ep : R.pp x = Q.pp x := s.2.2.1 1
  have eu : R.pu x = Q.pu x := s.2.2.1 2
  have er : R.pr x = Q.pr x := s.2.2.1 3
  have pn : R.pn x = Q.pn x := s.2.1 1
  have pt : R.pt x = Q.pt x := s.2.1 0
  have pg : R.pg x = Q.pg x := s.2.1 2
  have ap : R.an (Q.pp x) = Q.an (Q.pp x) := p.2.2.1 1
  have au : R.an (Q.pu x) = Q.an (Q.pu x) := u.2.2.1 1
  have ar : R.an (Q.pr x) = Q.an (Q.pr x) := r.2.2.1 1
  unfold PIK
  rw [ep, eu, er, pn, pt, pg, ap, au, ar, p.2.2.2.2.1, u.2.2.2.2.1, r.2.2.2.2.1]
  exact ⟨⟨s.1, (s.2.2.1 0).trans a2⟩, ⟨p.1, (p.2.2.1 0).trans b2, p.2.2.2.2.2.trans b3, (p.2.2.1 9).trans b4⟩, ⟨u.1, (u.2.2.1 0).trans c2, u.2.2.2.2.2.trans c3, (u.2.2.1 9).trans c4⟩, ⟨r.1, (r.2.2.1 0).trans d2, r.2.2.2.2.2.trans d3, (r.2.2.1 9).trans d4⟩, n1, n2, n3⟩
theorem SPL.of (G : GLR L Q cO cI cZ ed) (hed : ed ∉ L) (G' : GLR L' Q' cO cI cZ ed) (f : FOK L Q cO cI cZ la) (c1 : CLF L Q lb 12) (nab : lb ≠ la) (ke : KEG [la, lb] L Q L' Q') (w : CB9 la lb x m L Q L' Q') (ds : DST Q' lb) (nb : NBK x L Q L' Q') (em : m = Q.lz la) (bz : LBZ Q la lb) (r2 : R.2 = Q'.2) (r1 : ∀ z : Nat, z ≠ Q'.be x → z ≠ x → z ≠ Q.el la y → ∀ g : Nat, R.1 g z = Q'.1 g z) (ve : R.ro (Q'.be x) = 30 ∧ R.rA (Q'.be x) = 0 ∧ ROKR R (Q'.be x)) (v1 : R.bf x = b) (v2 : R.bs x = b) (y0 : 0 ≤ y) (y1 : y < Q.lz la) (b0 : 0 ≤ b) (b1 : b < Q.lz la) (l9 : Q.lz la ≤ 179) (yo : Q.ro (Q.be (Q.el la y)) = 31) (gy : (Q.bf (Q.el la y) = b ∧ Q.bs (Q.el la y) ≠ b ∧ R.bf (Q.el la y) = Q.lz la ∧ R.bs (Q.el la y) = Q.bs (Q.el la y)) ∨ (Q.bf (Q.el la y) ≠ b ∧ Q.bs (Q.el la y) = b ∧ R.bf (Q.el la y) = Q.bf (Q.el la y) ∧ R.bs (Q.el la y) = Q.lz la)) : SPX Q R la y b ∧ FOK L' R cO cI cZ la ∧ ∀ z : Nat, z ∈ L → (Q.kd z = 17 ∧ Q.ek z ≠ 1) ∨ Q.kd z = 15 → FNP R la z → FNP Q la z := by
  obtain ⟨c0, fz, fg, fd, fb, fs⟩ := f
  obtain ⟨⟨xm, xk, xb, xa, xp, xr⟩, ⟨z1, z2, _⟩, ea, eb, ch⟩ := w
  rw [em] at xb z2
  have KD : ∀ z : Nat, R.kd z = Q'.kd z := fun z => by unfold PO.kd; rw [r2]
  have RF : ∀ (g z : Nat), R.2.1 g z = Q'.2.1 g z := fun g z => by rw [r2]
  have EL : ∀ (l : Nat) (i : Int), R.el l i = Q'.el l i := fun l i => by unfold PO.el PO.le PO.oa; rw [r2]
  have IA : ∀ z : Nat, R.ia z = Q'.ia z := fun z => by unfold PO.ia; rw [r2]
  have k0 : ∀ z : Nat, z ∈ L → Q.kd z ≠ 31 → Q'.kd z = Q.kd z ∧ Q'.ek z = Q.ek z := fun z mz kz => ⟨(ke.1 z mz kz).2.1, (ke.1 z mz kz).2.2.1⟩
  have KK : ∀ z : Nat, z ∈ L → z ∈ L' → Q'.kd z = Q.kd z := fun z m m' => (nb z m').1 m
  have oX := G'.owc x xm xk
  have eX := (G'.gb xm xk).1
  have blk : ∀ c : Int, 0 ≤ c → c < Q.lz la → Q.el la c ∈ L ∧ Q.kd (Q.el la c) = 12 := fun c c0' c1' => by
    have r := (G.lk c0).2.2.2.2 c c0' c1'
    exact ⟨r.2.1, r.2.2⟩
  have nT : ∀ z : Nat, z ∈ L → Q.kd z ≠ 30 → Q.kd z ≠ 31 → ¬ TS9 (fun z => z = la ∨ z = lb ∨ z = Q'.bp x ∨ z = Q'.br x) Q z := fun z mz n1 n2 t => by
    rcases t with (t | t | t | t) | t
    · rw [t] at n1; exact n1 c0.2.1
    · rw [t] at n1; exact n1 c1.2.1
    · have q := (k0 z mz n2).1; rw [t, oX.2.2.2.2] at q; exact n1 (by rw [t]; exact q.symm)
    · have q := (k0 z mz n2).1; rw [t, oX.1.2.2.2] at q; exact n1 (by rw [t]; exact q.symm)
    · exact n2 t.1
  have num : ∀ z : Nat, z ∈ L → Q.kd z ≠ 30 → Q.kd z ≠ 31 → z ∈ L' ∧ SM9 z Q Q' := fun z mz n1 n2 => ch z mz (nT z mz n1 n2)
  have old : ∀ c : Int, 0 ≤ c → c < Q.lz la → Q.el la c ≠ x ∧ Q'.be (Q.el la c) ≠ Q'.be x := fun c c0' c1' => by
    have d := ds c (Q.lz la) c0' c1' (by omega)
    rw [← xb, eb c c0' (by have t := bz.1; omega), ← bz.2 c c0' c1'] at d
    exact d
  have lst : ∀ (c : Int) (l : Nat), 0 ≤ c → c < Q.lz la → l = Q.br (Q.el la c) ∨ l = Q.bp (Q.el la c) → (l ∈ L ∧ Q.kd l = 30) ∧ UNT Q Q' l := fun c l c0' c1' hl => by
    have B := blk c c0' c1'
    have o := G.owc _ B.1 B.2
    have sB := (num _ B.1 (by rw [B.2]; decide) (by rw [B.2]; decide))
    have kB : Q'.kd (Q.el la c) = 12 := (k0 _ B.1 (by rw [B.2]; decide)).1.trans B.2
    have o' := G'.owc _ sB.1 kB
    have ml : l ∈ L ∧ Q.kd l = 30 ∧ Q.ek l ≠ 12 ∧ Q'.ow l = Q.el la c := by
      rcases hl with e | e
      · rw [e]; exact ⟨o.1.2.2.1, o.1.2.2.2, by rw [o.1.1]; decide, by rw [← show Q'.br (Q.el la c) = Q.br (Q.el la c) from sB.2.2.1 2]; exact o'.1.2.1⟩
      · rw [e]; exact ⟨o.2.2.2.1, o.2.2.2.2, by rw [o.2.1]; decide, by rw [← show Q'.bp (Q.el la c) = Q.bp (Q.el la c) from sB.2.2.1 1]; exact o'.2.2.1⟩
    have nl : ¬ (l = la ∨ l = lb ∨ l = Q'.bp x ∨ l = Q'.br x) := fun t => by
      rcases t with t | t | t | t
      · exact ml.2.2.1 (by rw [t]; exact c0.2.2.1)
      · exact ml.2.2.1 (by rw [t]; exact c1.2.2.1)
      · exact (old c c0' c1').1 (by rw [← ml.2.2.2, t]; exact oX.2.2.1)
      · exact (old c c0' c1').1 (by rw [← ml.2.2.2, t]; exact oX.1.2.1)
    have r := ch.lst2 G.2.2.2.1 ml.1 ml.2.1 (fun t => t.elim nl (fun t => by have q := ml.2.1; omega)) (fun fl mm kk oo t => by
      rcases t with (t | t | t | t) | t
      · rw [t, c0.2.1] at kk; omega
      · rw [t, c1.2.1] at kk; omega
      · have q := KK _ mm (by rw [t]; exact oX.2.2.2.1)
        rw [kk, t, oX.2.2.2.2] at q; omega
      · have q := KK _ mm (by rw [t]; exact oX.1.2.2.1)
        rw [kk, t, oX.1.2.2.2] at q; omega
      · exact nl (by rw [← oo]; exact t.2))
    exact ⟨⟨ml.1, ml.2.1⟩, r.1, r.2.1⟩
  have By := blk y y0 y1
  have ky : Q'.kd (Q.el la y) = 12 := (k0 _ By.1 (by rw [By.2]; decide)).1.trans By.2
  have kla : Q'.kd la = 30 := (k0 la c0.1 (by rw [c0.2.1]; decide)).1.trans c0.2.1
  have rl : ∀ l : Nat, Q'.kd l = 30 → ∀ g : Nat, R.1 g l = Q'.1 g l := fun l kl g => r1 l (fun e => by rw [e, eX.2.1] at kl; omega) (fun e => by rw [e, xk] at kl; omega) (fun e => by rw [e, ky] at kl; omega) g
  have zl : R.lz la = Q.lz la + 1 := (rl la kla 0).trans z1
  have sm : ∀ v : Nat, v ∈ L → Q.kd v ≠ 30 → Q.kd v ≠ 31 → v ≠ Q'.be x → v ≠ x → v ≠ Q.el la y → v ∈ L' ∧ SM9 v Q R := fun v mv n1 n2 e1 e2 e3 => by
    have q := num v mv n1 n2
    exact ⟨q.1, fun g => (r1 v e1 e2 e3 g).trans (q.2.1 g), fun g => (RF g v).trans (q.2.2.1 g), by unfold PO.oa; rw [r2]; exact q.2.2.2.1, (IA v).trans q.2.2.2.2.1, by unfold PO.ac; rw [r2]; exact q.2.2.2.2.2⟩
  have nk : ∀ v : Nat, v ∈ L → Q.kd v ≠ 31 → Q.kd v ≠ 17 → Q.kd v ≠ 12 → v ≠ Q'.be x ∧ v ≠ x ∧ v ≠ Q.el la y := fun v mv n1 n2 n3 => by
    have q := (k0 v mv n1).1
    exact ⟨fun e => n2 (by rw [← q, e]; exact eX.2.1), fun e => n3 (by rw [← q, e]; exact xk), fun e => n3 (by rw [← q, e]; exact ky)⟩
  have UN : ∀ (c : Int) (l : Nat), 0 ≤ c → c < Q.lz la → l = Q.br (Q.el la c) ∨ l = Q.bp (Q.el la c) → UNT Q R l := fun c l c0' c1' hl => by
    have u := lst c l c0' c1' hl
    have kl : Q'.kd l = 30 := (k0 l u.1.1 (by rw [u.1.2]; decide)).1.trans u.1.2
    exact ⟨(rl l kl 0).trans u.2.1, fun k k0' k1' => (EL l k).trans (u.2.2 k k0' k1')⟩
  have ref : ∀ c : Int, 0 ≤ c → c < Q.lz la → R.el la c = Q.el la c ∧ R.bp (Q.el la c) = Q.bp (Q.el la c) ∧ R.br (Q.el la c) = Q.br (Q.el la c) ∧ R.be (Q.el la c) = Q.be (Q.el la c) ∧ Q'.be (Q.el la c) = Q.be (Q.el la c) := fun c c0' c1' => by
    have B := blk c c0' c1'
    have q := (num _ B.1 (by rw [B.2]; decide) (by rw [B.2]; decide)).2
    exact ⟨(EL la c).trans (ea c c0' c1'), (RF 1 _).trans (q.2.1 1), (RF 2 _).trans (q.2.1 2), (RF 3 _).trans (q.2.1 3), q.2.1 3⟩
  have goal : ∀ c : Int, 0 ≤ c → c < Q.lz la → c ≠ y → R.bf (Q.el la c) = Q.bf (Q.el la c) ∧ R.bs (Q.el la c) = Q.bs (Q.el la c) := fun c c0' c1' cy => by
    have B := blk c c0' c1'
    have q := (k0 _ B.1 (by rw [B.2]; decide)).1.trans B.2
    have v := (sm _ B.1 (by rw [B.2]; decide) (by rw [B.2]; decide) (fun e => by rw [e, eX.2.1] at q; omega) (old c c0' c1').1 (fun e => by
      rcases Int.lt_trichotomy c y with t | t | t
      · exact fd c y c0' t y1 e
      · exact cy t
      · exact fd y c y0 t c1' e.symm)).2
    exact ⟨v.1 0, v.1 1⟩
  have row : ∀ c j : Int, 0 ≤ c → c < Q.lz la → 0 ≤ j → j < Q.lz (Q.br (Q.el la c)) → ((Q.el (Q.br (Q.el la c)) j) ∈ L ∧ Q.kd (Q.el (Q.br (Q.el la c)) j) = 17) ∧ SM9 (Q.el (Q.br (Q.el la c)) j) Q R := fun c j c0' c1' j0 j1 => by
    have B := blk c c0' c1'
    have lo := G.lbr B.1 B.2
    have z := lo.2.2.2.2 j j0 j1
    have en := (G.1.1 _ lo.1 lo.2.1).2.2 (G.owc _ B.1 B.2).1.1 j j0 j1
    have q := k0 _ z.2.1 (by rw [z.2.2]; decide)
    refine ⟨⟨z.2.1, z.2.2⟩, (sm _ z.2.1 (by rw [z.2.2]; decide) (by rw [z.2.2]; decide) (fun e => en (by rw [← q.2, e]; exact eX.2.2)) (fun e => ?_) (fun e => ?_)).2⟩
    · have t := q.1; rw [e, xk] at t; rw [← e, z.2.2] at t; omega
    · have t := z.2.2; rw [e, By.2] at t; omega
  have phi : ∀ c j : Int, 0 ≤ c → c < Q.lz la → 0 ≤ j → j < Q.lz (Q.bp (Q.el la c)) → PIK L Q cI cZ (Q.el (Q.bp (Q.el la c)) j) ∧ ∀ v : Nat, v = Q.el (Q.bp (Q.el la c)) j ∨ v = Q.pp (Q.el (Q.bp (Q.el la c)) j) ∨ v = Q.pu (Q.el (Q.bp (Q.el la c)) j) ∨ v = Q.pr (Q.el (Q.bp (Q.el la c)) j) → v ∈ L' ∧ SM9 v Q R := fun c j c0' c1' j0 j1 => by
    have p := (fs c c0' c1').2.2 j j0 j1
    refine ⟨p, fun v hv => ?_⟩
    have mk : v ∈ L ∧ (Q.kd v = 15 ∨ Q.kd v = 40 ∨ Q.kd v = 41 ∨ Q.kd v = 42) := by
      rcases hv with e | e | e | e <;> rw [e]
      · exact ⟨p.1.1, Or.inl p.1.2⟩
      · exact ⟨p.2.1.1, Or.inr (Or.inl p.2.1.2.1)⟩
      · exact ⟨p.2.2.1.1, Or.inr (Or.inr (Or.inl p.2.2.1.2.1))⟩
      · exact ⟨p.2.2.2.1.1, Or.inr (Or.inr (Or.inr p.2.2.2.1.2.1))⟩
    have e := nk v mk.1 (by omega) (by omega) (by omega)
    exact sm v mk.1 (by omega) (by omega) e.1 e.2.1 e.2.2
  have fin : ∀ c : Int, 0 ≤ c → c < Q.lz la → SM9 (Q.be (Q.el la c)) Q R := fun c c0' c1' => by
    have B := blk c c0' c1'
    have z := (G.gb B.1 B.2).1
    have q := k0 _ z.1 (by rw [z.2.1]; decide)
    refine (sm _ z.1 (by rw [z.2.1]; decide) (by rw [z.2.1]; decide) (fun e => (old c c0' c1').2 (by rw [(ref c c0' c1').2.2.2.2]; exact e)) (fun e => ?_) (fun e => ?_)).2
    · have t := q.1; rw [e, xk] at t; rw [← e, z.2.1] at t; omega
    · have t := z.2.1; rw [e, By.2] at t; omega
  have nx : R.el la (Q.lz la) = x ∧ R.be x = Q'.be x ∧ R.lz (R.bp x) = 0 ∧ R.lz (R.br x) = 0 := ⟨(EL la _).trans xa.symm, RF 3 x, by rw [show R.bp x = Q'.bp x from RF 1 x, show R.lz (Q'.bp x) = Q'.lz (Q'.bp x) from rl _ oX.2.2.2.2 0]; exact xp, by rw [show R.br x = Q'.br x from RF 2 x, show R.lz (Q'.br x) = Q'.lz (Q'.br x) from rl _ oX.1.2.2.2 0]; exact xr⟩
  have c3 := c0.kg9 ke
  refine ⟨⟨⟨zl, ⟨y0, y1⟩, b0, b1⟩, fun c c0' c1' => ?_, ⟨yo, gy⟩, ?_, fun c c0' c1' => ?_⟩, ⟨⟨c3.1, (KD la).trans c3.2.1, (RF 8 la).trans c3.2.2.1, (RF 9 la).trans c3.2.2.2⟩, by omega, fun i i0 i1 => ?_, fun i j i0 ij j1 => ?_, fun v hv j j0 j1 => ?_, fun i i0 i1 => ?_⟩, fun z mz kz fz' => ?_⟩
  · have r := ref c c0' c1'
    refine ⟨r.1, ⟨r.2.1, r.2.2.1, r.2.2.2.1⟩, fun cy => goal c c0' c1' cy, ⟨(UN c _ c0' c1' (Or.inr rfl)).1, fun k k0' k1' => ⟨(UN c _ c0' c1' (Or.inr rfl)).2 k k0' k1', ?_⟩⟩, ⟨(UN c _ c0' c1' (Or.inl rfl)).1, fun k k0' k1' => ⟨(UN c _ c0' c1' (Or.inl rfl)).2 k k0' k1', (row c k c0' c1' k0' k1').2.1⟩⟩, (fin c c0' c1').1⟩
    have p := (phi c k c0' c1' k0' k1').2
    have s := (p _ (Or.inl rfl)).2
    exact ⟨s.1, ⟨s.2.1 1, s.2.1 2, s.2.1 3⟩, (p _ (Or.inr (Or.inl rfl))).2.2.2.2.1, (p _ (Or.inr (Or.inr (Or.inl rfl)))).2.2.2.2.1, (p _ (Or.inr (Or.inr (Or.inr rfl)))).2.2.2.2.1⟩
  · rw [nx.1, nx.2.1]
    exact ⟨nx.2.2.1, nx.2.2.2, ve.1, v1, v2⟩
  · rw [nx.1, nx.2.1, ← (ref c c0' c1').2.2.2.2]
    exact (old c c0' c1').2
  · rw [zl] at i1 ⊢
    by_cases t : i < Q.lz la
    · rw [(ref i i0 t).1]
      have g := fg i i0 t
      by_cases iy : i = y
      · rw [iy] at g ⊢
        rcases gy with ⟨_, _, u1, u2⟩ | ⟨_, _, u1, u2⟩ <;> rw [u1, u2] <;> omega
      · rw [(goal i i0 t iy).1, (goal i i0 t iy).2]; omega
    · rw [show i = Q.lz la from by omega, nx.1, v1, v2]; omega
  · rw [zl] at j1
    by_cases t : j < Q.lz la
    · rw [(ref i i0 (by omega)).1, (ref j (by omega) t).1]; exact fd i j i0 ij t
    · rw [show j = Q.lz la from by omega, nx.1, (ref i i0 (by omega)).1]; exact (old i i0 (by omega)).1
  · obtain ⟨i, i0, i1, e⟩ := hv
    rw [zl] at i1 ⊢
    by_cases t : i < Q.lz la
    · have r := ref i i0 t
      rw [e, r.1, r.2.1] at j1 ⊢
      rw [(UN i _ i0 t (Or.inr rfl)).1] at j1
      rw [(UN i _ i0 t (Or.inr rfl)).2 j j0 j1]
      have p := (phi i j i0 t j0 j1).2
      have s := (p _ (Or.inl rfl)).2
      have pb := fb _ ⟨i, i0, t, rfl⟩ j j0 j1
      intro k k0' k1'
      rw [show R.pn (Q.el (Q.bp (Q.el la i)) j) = Q.pn (Q.el (Q.bp (Q.el la i)) j) from s.1 1] at k1'
      rw [show R.pp (Q.el (Q.bp (Q.el la i)) j) = Q.pp (Q.el (Q.bp (Q.el la i)) j) from s.2.1 1, (p _ (Or.inr (Or.inl rfl))).2.2.2.2.1]
      have q := pb k k0' k1'
      omega
    · rw [e, show i = Q.lz la from by omega, nx.1, nx.2.2.1] at j1; omega
  · rw [zl] at i1
    by_cases t : i < Q.lz la
    · have r := ref i i0 t
      have f9 := fs i i0 t
      rw [r.1, r.2.1, r.2.2.1, r.2.2.2.1]
      refine ⟨f9.1.num (fin i i0 t).1, fun j j0 j1 => ?_, fun j j0 j1 => ?_⟩
      · rw [(UN i _ i0 t (Or.inl rfl)).1] at j1
        rw [(UN i _ i0 t (Or.inl rfl)).2 j j0 j1]
        exact (f9.2.1 j j0 j1).num (row i j i0 t j0 j1).2.1
      · rw [(UN i _ i0 t (Or.inr rfl)).1] at j1
        rw [(UN i _ i0 t (Or.inr rfl)).2 j j0 j1]
        have p := phi i j i0 t j0 j1
        exact p.1.sm p.2
    · rw [show i = Q.lz la from by omega, nx.1, nx.2.1]
      refine ⟨?_, fun j j0 j1 => by rw [nx.2.2.2] at j1; omega, fun j j0 j1 => by rw [nx.2.2.1] at j1; omega⟩
      obtain ⟨a1, a2, a3, a4, a5, a6, a7, a8, a9⟩ := ve.2.2
      have u1 := rUsA_spec (R.ro (Q'.be x)) (R.rA (Q'.be x))
      have u2 := rUsB_spec (R.ro (Q'.be x)) (R.rB (Q'.be x))
      have v3 := ve.1
      have v4 := ve.2.1
      have ek : R.ek (Q'.be x) = 1 := (RF 8 _).trans eX.2.2
      exact ⟨a1, ⟨a2.1, a2.2.2 ek⟩, a3, a4, a5, a6, a7, Or.inl (by omega), Or.inl (by omega)⟩
  · have no31 : ∀ l : Nat, l ∈ L' → Q'.kd l = 30 → z ≠ Q'.le l := fun l ml kl e => by
      have o := G'.2.2.2.1 l ml kl
      by_cases ff : Q'.fl l = 1
      · have t := (o.2 ff).2.1
        have q := k0 z mz (by omega)
        rw [← e] at t; omega
      · exact hed (by rw [← (o.1 ff).2, ← e]; exact mz)
    have q := k0 z mz (by omega)
    have LE : ∀ l : Nat, R.le l = Q'.le l := fun l => RF 1 l
    rcases fz' with e | e | ⟨i, ⟨i0, i1⟩, fb'⟩
    · rw [e, c0.2.1] at kz; omega
    · exact absurd (e.trans (LE la)) (no31 la c3.1 c3.2.1)
    · rw [zl] at i1
      by_cases t : i < Q.lz la
      · have r := ref i i0 t
        have B := blk i i0 t
        have lb9 := lst i _ i0 t (Or.inl rfl)
        have lp9 := lst i _ i0 t (Or.inr rfl)
        have km : ∀ l : Nat, l ∈ L ∧ Q.kd l = 30 → l ∈ L' ∧ Q'.kd l = 30 := fun l u => ke.mem u.1 u.2 (by decide)
        rw [r.1] at fb'
        rcases fb' with e | e | e | e | e | e | ⟨j, ⟨j0, j1⟩, e⟩ | ⟨j, ⟨j0, j1⟩, e⟩
        · rw [e, B.2] at kz; omega
        · rw [r.2.2.2.1] at e
          have g := (G.gb B.1 B.2).1
          rw [e, g.2.1, g.2.2] at kz; omega
        · rw [r.2.2.1] at e; rw [e, lb9.1.2] at kz; omega
        · rw [r.2.1] at e; rw [e, lp9.1.2] at kz; omega
        · rw [r.2.2.1, LE] at e; exact absurd e (no31 _ (km _ lb9.1).1 (km _ lb9.1).2)
        · rw [r.2.1, LE] at e; exact absurd e (no31 _ (km _ lp9.1).1 (km _ lp9.1).2)
        · rw [r.2.2.1, (UN i _ i0 t (Or.inl rfl)).1] at j1
          rw [r.2.2.1, (UN i _ i0 t (Or.inl rfl)).2 j j0 j1] at e
          exact Or.inr (Or.inr ⟨i, ⟨i0, t⟩, Or.inr (Or.inr (Or.inr (Or.inr (Or.inr (Or.inr (Or.inl ⟨j, ⟨j0, j1⟩, e⟩))))))⟩)
        · rw [r.2.1, (UN i _ i0 t (Or.inr rfl)).1] at j1
          rw [r.2.1, (UN i _ i0 t (Or.inr rfl)).2 j j0 j1] at e
          have p := (phi i j i0 t j0 j1)
          have s := (p.2 _ (Or.inl rfl)).2
          have in9 : FNQ Q (Q.el (Q.bp (Q.el la i)) j) z := by
            rcases e with e | e | e | e
            · exact Or.inl e
            · exact Or.inr (Or.inl (e.trans (s.2.1 1)))
            · exact Or.inr (Or.inr (Or.inl (e.trans (s.2.1 2))))
            · exact Or.inr (Or.inr (Or.inr (e.trans (s.2.1 3))))
          exact Or.inr (Or.inr ⟨i, ⟨i0, t⟩, Or.inr (Or.inr (Or.inr (Or.inr (Or.inr (Or.inr (Or.inr ⟨j, ⟨j0, j1⟩, in9⟩))))))⟩)
      · rw [show i = Q.lz la from by omega, nx.1] at fb'
        have kq := q.1
        have eq := q.2
        rcases fb' with e | e | e | e | e | e | ⟨j, ⟨j0, j1⟩, e⟩ | ⟨j, ⟨j0, j1⟩, e⟩
        · rw [e, xk] at kq; rw [← e] at kq; omega
        · rw [nx.2.1] at e; rw [e, eX.2.1] at kq; rw [e, eX.2.2] at eq; rw [← e] at kq eq; omega
        · rw [show R.br x = Q'.br x from RF 2 x] at e; rw [e, oX.1.2.2.2] at kq; rw [← e] at kq; omega
        · rw [show R.bp x = Q'.bp x from RF 1 x] at e; rw [e, oX.2.2.2.2] at kq; rw [← e] at kq; omega
        · rw [show R.br x = Q'.br x from RF 2 x, LE] at e; exact absurd e (no31 _ oX.1.2.2.1 oX.1.2.2.2)
        · rw [show R.bp x = Q'.bp x from RF 1 x, LE] at e; exact absurd e (no31 _ oX.2.2.2.1 oX.2.2.2.2)
        · rw [nx.2.2.2] at j1; omega
        · rw [nx.2.2.1] at j1; omega
end SPL9
