/-! the whole pool, numbers up to 3,001: copies of what is known of GLF -/
section GLR201
variable {L L' M LS : List Nat} {P P' P2 Q : PO} {cO cI cZ : ClassId} {ed x y l lb lr lp ls : Nat} {S S' : Nat → Prop} {i n p : Int} {E : List Nat}
theorem CPI.frR (h : CPI P Q lb lr lp ls i n p) (g : GLR L P cO cI cZ ed) (c : CH8 S L P L' P') (kb : LOK L P cO 12 lb) (kr : LOK L P cO 17 lr) (kp : LOK L P cO 15 lp) (ib : i ≤ P.lz lb) (nr : n ≤ P.lz lr) (np : p ≤ P.lz lp) (z1 : LNN 1 Q ls) (z2 : LNN 2 Q ls) (iq : i ≤ Q.lz ls)
    (eb : ∀ k : Int, 0 ≤ k → k < i → P'.el lb k = P.el lb k) (er : ∀ k : Int, 0 ≤ k → k < n → P'.el lr k = P.el lr k) (ep : ∀ k : Int, 0 ≤ k → k < p → P'.el lp k = P.el lp k) (ns : HNS S P lb lr lp i n p) : CPI P' Q lb lr lp ls i n p := by
  obtain ⟨h1, h2, h3, h4, h5⟩ := h
  have bk : ∀ b : Int, 0 ≤ b → b < i → (P.el lb b ∈ L ∧ P.kd (P.el lb b) = 12) ∧ SM8 (P.el lb b) P P' := fun b b0 b1 => by
    have q := (kb.2.2.2.2 b b0 (by omega)).2
    exact ⟨q, (c _ q.1 (ns.1 b b0 b1).1).2⟩
  refine ⟨fun b j b0 b1 j0 j1 q => ?_, fun b j b0 b1 j0 j1 q => ?_, fun b b0 b1 => ?_, fun b b0 b1 => ?_, fun b b0 b1 => ?_⟩
  · have k0 : 0 ≤ OFS 2 Q ls b + j := by have := OFS.nn z2 (b := b) (by omega); omega
    have m := (kr.2.2.2.2 _ k0 (by omega)).2
    rw [er _ k0 q]
    exact (h1 b j b0 b1 j0 j1 q).num (c _ m.1 (ns.2.1 _ k0 q)).2.1
  · have k0 : 0 ≤ OFS 1 Q ls b + j := by have := OFS.nn z1 (b := b) (by omega); omega
    have m := (kp.2.2.2.2 _ k0 (by omega)).2
    have w := g.pikR m.1 m.2
    have u := ns.2.2 _ k0 q
    rw [ep _ k0 q]
    exact (h2 b j b0 b1 j0 j1 q).num (c _ m.1 u.1).2 ((c _ w.2.1.1 u.2.1).2.2.2.2 (by rw [w.2.1.2.1]; decide)) ((c _ w.2.2.1.1 u.2.2.1).2.2.2.2 (by rw [w.2.2.1.2.1]; decide)) ((c _ w.2.2.2.1.1 u.2.2.2).2.2.2.2 (by rw [w.2.2.2.1.2.1]; decide))
  · obtain ⟨⟨mb, kb9⟩, sb⟩ := bk b b0 b1
    have o := (g.owc _ mb kb9).1
    have q := c.lst g.owa o.2.2.1 o.2.2.2 (ns.1 b b0 b1).2.2.1.1 (ns.1 b b0 b1).2.2.1.2
    obtain ⟨a1, a2, a3⟩ := h3 b b0 b1
    have e2 : P'.2.1 2 (P.el lb b) = P.2.1 2 (P.el lb b) := sb.2.1 2
    rw [eb b b0 b1, e2]
    refine ⟨q.1.trans a1, a2, fun j j0 j1 => ?_⟩
    have zz := q.1
    have j2 : j < P.lz (P.2.1 2 (P.el lb b)) := by rw [← show P'.lz (P.2.1 2 (P.el lb b)) = P.lz (P.2.1 2 (P.el lb b)) from zz]; exact j1
    have k0 : 0 ≤ OFS 2 Q ls b + j := by have := OFS.nn z2 (b := b) (by omega); omega
    have k1 : OFS 2 Q ls b + j < n := by
      have a1' : P.lz (P.2.1 2 (P.el lb b)) = Q.lz (Q.2.1 2 (Q.el ls b)) := a1
      omega
    rw [er _ k0 k1]
    exact (q.2.1 j j0 j2).trans (a3 j j0 j2)
  · obtain ⟨⟨mb, kb9⟩, sb⟩ := bk b b0 b1
    have o := (g.owc _ mb kb9).2
    have q := c.lst g.owa o.2.2.1 o.2.2.2 (ns.1 b b0 b1).2.2.2.1 (ns.1 b b0 b1).2.2.2.2
    obtain ⟨a1, a2, a3⟩ := h4 b b0 b1
    have e2 : P'.2.1 1 (P.el lb b) = P.2.1 1 (P.el lb b) := sb.2.1 1
    rw [eb b b0 b1, e2]
    refine ⟨q.1.trans a1, a2, fun j j0 j1 => ?_⟩
    have zz := q.1
    have j2 : j < P.lz (P.2.1 1 (P.el lb b)) := by rw [← show P'.lz (P.2.1 1 (P.el lb b)) = P.lz (P.2.1 1 (P.el lb b)) from zz]; exact j1
    have k0 : 0 ≤ OFS 1 Q ls b + j := by have := OFS.nn z1 (b := b) (by omega); omega
    have k1 : OFS 1 Q ls b + j < p := by
      have a1' : P.lz (P.2.1 1 (P.el lb b)) = Q.lz (Q.2.1 1 (Q.el ls b)) := a1
      omega
    rw [ep _ k0 k1]
    exact (q.2.1 j j0 j2).trans (a3 j j0 j2)
  · obtain ⟨⟨mb, kb9⟩, sb⟩ := bk b b0 b1
    have ge := (g.gb mb kb9).1
    obtain ⟨a1, a2, a3⟩ := h5 b b0 b1
    have e3 : P'.be (P.el lb b) = P.be (P.el lb b) := sb.2.1 3
    rw [eb b b0 b1, e3]
    exact ⟨a1.num (c _ ge.1 (ns.1 b b0 b1).2.1).2.1, (sb.1 0).trans a2, (sb.1 1).trans a3⟩
end GLR201
section GLR202
variable {L L' : List Nat} {P P' : PO} {cO cI cZ : ClassId} {ed x y l la lb lr lp : Nat} {S : Nat → Prop} {i n p : Int} {E : List Nat}
theorem HNS.ofR (g : GLR L P cO cI cZ ed) (kb : LOK L P cO 12 lb) (kr : LOK L P cO 17 lr) (er : P.ek lr = 17) (kp : LOK L P cO 15 lp) (ib : i ≤ P.lz lb) (nr : n ≤ P.lz lr) (np : p ≤ P.lz lp)
    (s12 : ∀ z : Nat, z ∈ L → P.kd z = 12 → S z → ∀ b : Int, 0 ≤ b → b < i → z ≠ P.el lb b) (s17e : ∀ z : Nat, z ∈ L → P.kd z = 17 → P.ek z = 1 → S z → ∀ b : Int, 0 ≤ b → b < i → z ≠ P.be (P.el lb b)) (s17 : ∀ z : Nat, z ∈ L → P.kd z = 17 → P.ek z ≠ 1 → S z → ∀ k : Int, 0 ≤ k → k < n → z ≠ P.el lr k)
    (s30 : ∀ z : Nat, z ∈ L → P.kd z = 30 → S z → ∀ b : Int, 0 ≤ b → b < i → P.ow z ≠ P.el lb b) (s31 : ∀ z : Nat, z ∈ L → P.kd z = 31 → S z → ∀ b : Int, 0 ≤ b → b < i → P.ow (P.ow z) ≠ P.el lb b)
    (s15 : ∀ z : Nat, z ∈ L → P.kd z = 15 → S z → ∀ k : Int, 0 ≤ k → k < p → z ≠ P.el lp k) (s40 : ∀ z : Nat, z ∈ L → 40 ≤ P.kd z → S z → ∀ k : Int, 0 ≤ k → k < p → P.ow z ≠ P.el lp k) : HNS S P lb lr lp i n p := by
  refine ⟨fun b b0 b1 => ?_, fun k k0 k1 s => ?_, fun k k0 k1 => ?_⟩
  · have q := (kb.2.2.2.2 b b0 (by omega)).2
    have o := g.owc _ q.1 q.2
    have ge := (g.gb q.1 q.2).1
    refine ⟨fun s => s12 _ q.1 q.2 s b b0 b1 rfl, fun s => s17e _ ge.1 ge.2.1 ge.2.2 s b b0 b1 rfl, ⟨fun s => s30 _ o.1.2.2.1 o.1.2.2.2 s b b0 b1 o.1.2.1, fun f s => ?_⟩, fun s => s30 _ o.2.2.2.1 o.2.2.2.2 s b b0 b1 o.2.2.1, fun f s => ?_⟩
    · have r := (g.owa _ o.1.2.2.1 o.1.2.2.2).2 f
      exact s31 _ r.1 r.2.1 s b b0 b1 (by rw [r.2.2.1]; exact o.1.2.1)
    · have r := (g.owa _ o.2.2.2.1 o.2.2.2.2).2 f
      exact s31 _ r.1 r.2.1 s b b0 b1 (by rw [r.2.2.1]; exact o.2.2.1)
  · have m := (kr.2.2.2.2 k k0 (by omega)).2
    exact s17 _ m.1 m.2 ((g.gla lr kr.1 kr.2.1).2.2 er k k0 (by omega)) s k k0 k1 rfl
  · have m := (kp.2.2.2.2 k k0 (by omega)).2
    have w := g.pikR m.1 m.2
    exact ⟨fun s => s15 _ m.1 m.2 s k k0 k1 rfl, fun s => s40 _ w.2.1.1 (by rw [w.2.1.2.1]; decide) s k k0 k1 w.2.1.2.2.2, fun s => s40 _ w.2.2.1.1 (by rw [w.2.2.1.2.1]; decide) s k k0 k1 w.2.2.1.2.2.2, fun s => s40 _ w.2.2.2.1.1 (by rw [w.2.2.2.1.2.1]; decide) s k k0 k1 w.2.2.2.1.2.2.2⟩
theorem hns_rowR (g : GLR L P cO cI cZ ed) (kb : LOK L P cO 12 lb) (kr : LOK L P cO 17 lr) (er : P.ek lr = 17) (wr : P.ow lr = lr) (kp : LOK L P cO 15 lp) (ib : i ≤ P.lz lb) (nr : n ≤ P.lz lr) (np : p ≤ P.lz lp) (hx : x ∈ L → (P.kd x = 17 ∧ P.ek x ≠ 1) ∧ ∀ k : Int, 0 ≤ k → k < n → x ≠ P.el lr k) : HNS (fun z => z = x ∨ z = lr ∨ (P.kd z = 31 ∧ P.ow z = lr)) P lb lr lp i n p := by
  have bk : ∀ b : Int, 0 ≤ b → b < i → P.kd (P.el lb b) = 12 := fun b b0 b1 => (kb.2.2.2.2 b b0 (by omega)).2.2
  refine HNS.ofR g kb kr er kp ib nr np (fun z m k s b b0 b1 => ?_) (fun z m k e s b b0 b1 => ?_) (fun z m k e s c c0 c1 => ?_) (fun z m k s b b0 b1 => ?_) (fun z m k s b b0 b1 => ?_) (fun z m k s c c0 c1 => ?_) (fun z m k s c c0 c1 => ?_) <;> rcases s with s | s | s
  · rw [s] at k m; have := (hx m).1.1; omega
  · rw [s, kr.2.1] at k; omega
  · have := s.1; omega
  · rw [s] at m e; exact absurd e (hx m).1.2
  · rw [s, kr.2.1] at k; omega
  · have := s.1; omega
  · rw [s] at m ⊢; exact (hx m).2 c c0 c1
  · rw [s, kr.2.1] at k; omega
  · have := s.1; omega
  · rw [s] at k m; have := (hx m).1.1; omega
  · rw [s, wr]; intro q; have w := bk b b0 b1; rw [← q, kr.2.1] at w; omega
  · have := s.1; omega
  · rw [s] at k m; have := (hx m).1.1; omega
  · rw [s, kr.2.1] at k; omega
  · rw [s.2, wr]; intro q; have w := bk b b0 b1; rw [← q, kr.2.1] at w; omega
  · rw [s] at k m; have := (hx m).1.1; omega
  · rw [s, kr.2.1] at k; omega
  · have := s.1; omega
  · rw [s] at k m; have := (hx m).1.1; omega
  · rw [s, kr.2.1] at k; omega
  · have := s.1; omega
theorem hns_phiR (g : GLR L P cO cI cZ ed) (kb : LOK L P cO 12 lb) (kr : LOK L P cO 17 lr) (er : P.ek lr = 17) (kp : LOK L P cO 15 lp) (wp : P.ow lp = lp) (ib : i ≤ P.lz lb) (nr : n ≤ P.lz lr) (np : p ≤ P.lz lp) (hx : x ∈ L → P.kd x = 15 ∧ ∀ k : Int, 0 ≤ k → k < p → x ≠ P.el lp k) (hy : ∀ k : Int, 0 ≤ k → k < p → P.el lp k ≠ x) : HNS (fun z => z = x ∨ z = lp ∨ (P.kd z = 31 ∧ P.ow z = lp) ∨ (P.ow z = x ∧ 40 ≤ P.kd z)) P lb lr lp i n p := by
  have bk : ∀ b : Int, 0 ≤ b → b < i → P.kd (P.el lb b) = 12 := fun b b0 b1 => (kb.2.2.2.2 b b0 (by omega)).2.2
  refine HNS.ofR g kb kr er kp ib nr np (fun z m k s b b0 b1 => ?_) (fun z m k e s b b0 b1 => ?_) (fun z m k e s c c0 c1 => ?_) (fun z m k s b b0 b1 => ?_) (fun z m k s b b0 b1 => ?_) (fun z m k s c c0 c1 => ?_) (fun z m k s c c0 c1 => ?_) <;> rcases s with s | s | s | s
  · rw [s] at k m; have := (hx m).1; omega
  · rw [s, kp.2.1] at k; omega
  · have := s.1; omega
  · have := s.2; omega
  · rw [s] at k m; have := (hx m).1; omega
  · rw [s, kp.2.1] at k; omega
  · have := s.1; omega
  · have := s.2; omega
  · rw [s] at k m; have := (hx m).1; omega
  · rw [s, kp.2.1] at k; omega
  · have := s.1; omega
  · have := s.2; omega
  · rw [s] at k m; have := (hx m).1; omega
  · rw [s, wp]; intro q; have w := bk b b0 b1; rw [← q, kp.2.1] at w; omega
  · have := s.1; omega
  · have := s.2; omega
  · rw [s] at k m; have := (hx m).1; omega
  · rw [s, kp.2.1] at k; omega
  · rw [s.2, wp]; intro q; have w := bk b b0 b1; rw [← q, kp.2.1] at w; omega
  · have := s.2; omega
  · rw [s] at m ⊢; exact (hx m).2 c c0 c1
  · rw [s, kp.2.1] at k; omega
  · have := s.1; omega
  · have := s.2; omega
  · rw [s] at k m; have := (hx m).1; omega
  · rw [s, kp.2.1] at k; omega
  · have := s.1; omega
  · rw [s.1]; exact fun q => hy c c0 c1 q.symm
theorem hns_addR (g : GLR L P cO cI cZ ed) (kb : LOK L P cO 12 lb) (kr : LOK L P cO 17 lr) (er : P.ek lr = 17) (kp : LOK L P cO 15 lp) (ib : i ≤ P.lz lb) (nr : n ≤ P.lz lr) (np : p ≤ P.lz lp) (kl : P.kd l = 30) (wl : P.ow l = y) (hy : ∀ b : Int, 0 ≤ b → b < i → y ≠ P.el lb b) : HNS (fun z => z = l ∨ (P.kd z = 31 ∧ P.ow z = l)) P lb lr lp i n p := by
  refine HNS.ofR g kb kr er kp ib nr np (fun z m k s b b0 b1 => ?_) (fun z m k e s b b0 b1 => ?_) (fun z m k e s c c0 c1 => ?_) (fun z m k s b b0 b1 => ?_) (fun z m k s b b0 b1 => ?_) (fun z m k s c c0 c1 => ?_) (fun z m k s c c0 c1 => ?_) <;> rcases s with s | s
  · rw [s, kl] at k; omega
  · have := s.1; omega
  · rw [s, kl] at k; omega
  · have := s.1; omega
  · rw [s, kl] at k; omega
  · have := s.1; omega
  · rw [s, wl]; exact hy b b0 b1
  · have := s.1; omega
  · rw [s, kl] at k; omega
  · rw [s.2, wl]; exact hy b b0 b1
  · rw [s, kl] at k; omega
  · have := s.1; omega
  · rw [s, kl] at k; omega
  · have := s.1; omega
theorem hns_oneR (g : GLR L P cO cI cZ ed) (kb : LOK L P cO 12 lb) (kr : LOK L P cO 17 lr) (er : P.ek lr = 17) (kp : LOK L P cO 15 lp) (ib : i ≤ P.lz lb) (nr : n ≤ P.lz lr) (np : p ≤ P.lz lp) (h : (P.kd x = 17 ∧ P.ek x ≠ 1 ∧ ∀ k : Int, 0 ≤ k → k < n → x ≠ P.el lr k) ∨ (P.kd x = 17 ∧ P.ek x = 1 ∧ ∀ b : Int, 0 ≤ b → b < i → x ≠ P.be (P.el lb b)) ∨ (P.kd x = 12 ∧ ∀ b : Int, 0 ≤ b → b < i → x ≠ P.el lb b)) : HNS (fun z => z = x) P lb lr lp i n p := by
  refine HNS.ofR g kb kr er kp ib nr np (fun z m k s b b0 b1 => ?_) (fun z m k e s b b0 b1 => ?_) (fun z m k e s c c0 c1 => ?_) (fun z m k s b b0 b1 => ?_) (fun z m k s b b0 b1 => ?_) (fun z m k s c c0 c1 => ?_) (fun z m k s c c0 c1 => ?_) <;> rw [s] at k <;> rcases h with h | h | h
  · have := h.1; omega
  · have := h.1; omega
  · rw [s]; exact h.2 b b0 b1
  · rw [s] at e; exact absurd e h.2.1
  · rw [s]; exact h.2.2 b b0 b1
  · have := h.1; omega
  · rw [s]; exact h.2.2 c c0 c1
  · rw [s] at e; exact absurd h.2.1 e
  · have := h.1; omega
  · have := h.1; omega
  · have := h.1; omega
  · have := h.1; omega
  · have := h.1; omega
  · have := h.1; omega
  · have := h.1; omega
  · have := h.1; omega
  · have := h.1; omega
  · have := h.1; omega
  · have := h.1; omega
  · have := h.1; omega
  · have := h.1; omega
end GLR202
section GLR203
variable {L L' LS : List Nat} {P P' Q : PO} {cO cI cZ : ClassId} {ed x y l la lb lr lp ls q : Nat} {S : Nat → Prop} {i j m n p r : Int} {E : List Nat}
theorem GLR.lk (g : GLR L P cO cI cZ ed) (c : CLF L P l q) : LOK L P cO q l := by
  have h := (g.gla l c.1 c.2.1).1
  rw [c.2.2.1] at h
  exact h
theorem hns_newR (g : GLR L P cO cI cZ ed) (g' : GLR L' P' cO cI cZ ed) (k : KEG E L P L' P') (c : CB9 la lb x m L P L' P') (ds : DST P' lb) (i0 : i ≤ m) (m1 : m ≤ P.lz lb) (ca : CLF L P la 12) (cb : CLF L P lb 12) (cr : CLF L P lr 17) (cp : CLF L P lp 15) (nr : n ≤ P.lz lr) (np : p ≤ P.lz lp) : HNS (TS9 (fun z => z = la ∨ z = lb ∨ z = P'.bp x ∨ z = P'.br x) P) P lb lr lp i n p := by
  have ox := g'.owc x c.1.1 c.1.2.1
  have nk : ∀ (z d : Nat), z ∈ L → P.kd z = d → d ≠ 30 → d ≠ 31 → ¬ TS9 (fun z => z = la ∨ z = lb ∨ z = P'.bp x ∨ z = P'.br x) P z := fun z d mz kz n0 n1 s => by
    have kz' := (k.mem mz kz n1).2
    rcases s with s | s
    · rcases s with s | s | s | s
      · rw [s, ca.2.1] at kz; exact n0 kz.symm
      · rw [s, cb.2.1] at kz; exact n0 kz.symm
      · rw [s, ox.2.2.2.2] at kz'; exact n0 kz'.symm
      · rw [s, ox.1.2.2.2] at kz'; exact n0 kz'.symm
    · exact n1 (kz.symm.trans s.1)
  have kb := g.lk cb
  have kr := g.lk cr
  have kp := g.lk cp
  refine ⟨fun b b0 b1 => ?_, fun t t0 t1 => ?_, fun t t0 t1 => ?_⟩
  · have w := (kb.2.2.2.2 b b0 (by omega)).2
    have o := g.owc _ w.1 w.2
    have w' := k.mem w.1 w.2 (by decide)
    have o' := g'.owc _ w'.1 w'.2
    have ge := (g.gb w.1 w.2).1
    have ne : P.el lb b ≠ x := by
      have e1 := c.2.2.2.1 b b0 (by omega)
      have t := (ds b m b0 (by omega) (by have := c.2.1.2.1; omega)).1
      rw [e1, ← c.1.2.2.1] at t
      exact t
    have nl : ∀ l9 : Nat, P.kd l9 = 30 → P.ow l9 = P.el lb b → P'.ow l9 = P.el lb b → ¬ (l9 = la ∨ l9 = lb ∨ l9 = P'.bp x ∨ l9 = P'.br x) := fun l9 kl wl wl' s => by
      rcases s with s | s | s | s
      · rw [s, ca.2.2.2] at wl
        have t := w.2
        rw [← wl, ca.2.1] at t
        omega
      · rw [s, cb.2.2.2] at wl
        have t := w.2
        rw [← wl, cb.2.1] at t
        omega
      · rw [s, ox.2.2.1] at wl'; exact ne wl'.symm
      · rw [s, ox.1.2.1] at wl'; exact ne wl'.symm
    have wr' : P'.ow (P.br (P.el lb b)) = P.el lb b := by
      have t := o'.1.2.1
      rw [(k.2 _ w.1 w.2).2.1] at t
      exact t
    have wp' : P'.ow (P.bp (P.el lb b)) = P.el lb b := by
      have t := o'.2.2.1
      rw [(k.2 _ w.1 w.2).1] at t
      exact t
    have nr' : ¬ TS9 (fun z => z = la ∨ z = lb ∨ z = P'.bp x ∨ z = P'.br x) P (P.br (P.el lb b)) := fun s => by
      rcases s with s | s
      · exact nl _ o.1.2.2.2 o.1.2.1 wr' s
      · have t := o.1.2.2.2; have u := s.1; omega
    have np' : ¬ TS9 (fun z => z = la ∨ z = lb ∨ z = P'.bp x ∨ z = P'.br x) P (P.bp (P.el lb b)) := fun s => by
      rcases s with s | s
      · exact nl _ o.2.2.2.2 o.2.2.1 wp' s
      · have t := o.2.2.2.2; have u := s.1; omega
    have ar : ∀ l9 : Nat, l9 ∈ L → P.kd l9 = 30 → ¬ TS9 (fun z => z = la ∨ z = lb ∨ z = P'.bp x ∨ z = P'.br x) P l9 → P.fl l9 = 1 → ¬ TS9 (fun z => z = la ∨ z = lb ∨ z = P'.bp x ∨ z = P'.br x) P (P.le l9) := fun l9 ml kl nl9 f s => by
      have rr := (g.owa _ ml kl).2 f
      have sm := (c.2.2.2.2 l9 ml nl9)
      have f' : P'.fl l9 = 1 := (sm.2.2.1 7).trans f
      have le' : P'.le l9 = P.le l9 := sm.2.2.1 1
      have rr' := (g'.owa _ sm.1 ((sm.2.2.1 0).trans kl)).2 f'
      rw [le'] at rr'
      rcases s with s | s
      · rcases s with s | s | s | s
        · have t := rr.2.1; rw [s, ca.2.1] at t; omega
        · have t := rr.2.1; rw [s, cb.2.1] at t; omega
        · have t := rr'.2.1; rw [s, ox.2.2.2.2] at t; omega
        · have t := rr'.2.1; rw [s, ox.1.2.2.2] at t; omega
      · have t := s.2
        rw [rr.2.2.1] at t
        exact nl9 (Or.inl t)
    exact ⟨nk _ 12 w.1 w.2 (by decide) (by decide), nk _ 17 ge.1 ge.2.1 (by decide) (by decide), ⟨nr', ar _ o.1.2.2.1 o.1.2.2.2 nr'⟩, np', ar _ o.2.2.2.1 o.2.2.2.2 np'⟩
  · have w := (kr.2.2.2.2 t t0 (by omega)).2
    exact nk _ 17 w.1 w.2 (by decide) (by decide)
  · have w := (kp.2.2.2.2 t t0 (by omega)).2
    have v := g.pikR w.1 w.2
    exact ⟨nk _ 15 w.1 w.2 (by decide) (by decide), nk _ 40 v.2.1.1 v.2.1.2.1 (by decide) (by decide), nk _ 41 v.2.2.1.1 v.2.2.1.2.1 (by decide) (by decide), nk _ 42 v.2.2.2.1.1 v.2.2.2.1.2.1 (by decide) (by decide)⟩
theorem CUR.frR (u : CUR P Q lb lr lp ls i j r) (g : GLR L P cO cI cZ ed) (c : CH8 S L P L' P') (cb : CLF L P lb 12) (i0 : 0 ≤ i) (ib : i < P.lz lb) (z1 : 0 ≤ OFS 1 Q ls i) (z2 : 0 ≤ OFS 2 Q ls i) (eb : P'.el lb i = P.el lb i) (er : ∀ k : Int, 0 ≤ k → k < OFS 2 Q ls i + r → P'.el lr k = P.el lr k) (ep : ∀ k : Int, 0 ≤ k → k < OFS 1 Q ls i + j → P'.el lp k = P.el lp k)
    (n0 : ¬ S (P.el lb i)) (n1 : ¬ S (P.br (P.el lb i)) ∧ (P.fl (P.br (P.el lb i)) = 1 → ¬ S (P.le (P.br (P.el lb i))))) (n2 : ¬ S (P.bp (P.el lb i)) ∧ (P.fl (P.bp (P.el lb i)) = 1 → ¬ S (P.le (P.bp (P.el lb i))))) : CUR P' Q lb lr lp ls i j r := by
  have w := ((g.lk cb).2.2.2.2 i i0 ib).2
  have o := g.owc _ w.1 w.2
  have s := (c _ w.1 n0).2
  have a := c.lst g.owa o.1.2.2.1 o.1.2.2.2 n1.1 n1.2
  have b := c.lst g.owa o.2.2.2.1 o.2.2.2.2 n2.1 n2.2
  have e1 : P'.bp (P.el lb i) = P.bp (P.el lb i) := s.2.1 1
  have e2 : P'.br (P.el lb i) = P.br (P.el lb i) := s.2.1 2
  obtain ⟨⟨u1, u2⟩, u3, u4⟩ := u
  unfold CUR
  rw [eb, e1, e2]
  refine ⟨⟨b.1.trans u1, fun k k0 k1 => ?_⟩, a.1.trans u3, fun k k0 k1 => ?_⟩
  · rw [b.2.1 k k0 (by omega), ep _ (by omega) (by omega)]; exact u2 k k0 k1
  · rw [a.2.1 k k0 (by omega), er _ (by omega) (by omega)]; exact u4 k k0 k1
end GLR203
section GLR204
variable {L L' : List Nat} {P P' Q : PO} {cO cI cZ : ClassId} {ed x y l la lb lr lp ls : Nat} {S : Nat → Prop} {i j m n p r t : Int}
theorem CUR.rw1R (u : CUR P Q lb lr lp ls i j r) (w : RW1 x P P') (g : GLR L P cO cI cZ ed) (cb : CLF L P lb 12) (i0 : 0 ≤ i) (ib : i < P.lz lb) (kx : P.kd x ≠ 30) : CUR P' Q lb lr lp ls i j r := by
  have el : ∀ (l : Nat) (k : Int), P'.el l k = P.el l k := fun l k => by unfold PO.el PO.oa PO.le; rw [w.1]
  have bp : ∀ z : Nat, P'.bp z = P.bp z := fun z => by unfold PO.bp; rw [w.1]
  have br : ∀ z : Nat, P'.br z = P.br z := fun z => by unfold PO.br; rw [w.1]
  have lz : ∀ z : Nat, P.kd z = 30 → P'.lz z = P.lz z := fun z k => w.2 z (fun e => kx (by rw [← e]; exact k)) 0
  have q := ((g.lk cb).2.2.2.2 i i0 ib).2
  have o := g.owc _ q.1 q.2
  unfold CUR
  rw [el lb i, bp, br, lz _ o.2.2.2.2, lz _ o.1.2.2.2]
  refine ⟨⟨u.1.1, fun k k0 k1 => ?_⟩, u.2.1, fun k k0 k1 => ?_⟩
  · rw [el, el]; exact u.1.2 k k0 k1
  · rw [el, el]; exact u.2.2 k k0 k1
end GLR204
theorem ROK9.cpR {P Q : PO} {x y : Nat} (h : ROK9 Q y) (e : CRW P x Q y) (g : P.rg x = 0) : ROKR P x := (h.cp e g).r
