/-! LMT: one list, one PHI changed; tables; where nothing but numbers has changed -/
section LMT9B
variable {L L' E : List Nat} {P P' Q Q' : PO} {F : Nat → Prop} {cO cI cZ : ClassId} {ed la lb lr lp x q z : Nat} {n p n' p' s c s' c' : Int} {w : Nat → Int}
theorem cap_sm9 (a : P'.fl z = P.fl z) (b : P'.le z = P.le z) (e : P.fl z = 1 → P'.an (P.le z) = P.an (P.le z)) : P'.cap z = P.cap z := by
  unfold PO.cap
  rw [a, b]
  by_cases f : P.fl z = 1
  · rw [if_pos f, if_pos f, e f]
  · rw [if_neg f, if_neg f]
theorem kc_sm9 (a : ∀ f : Nat, P'.2.1 f z = P.2.1 f z) : P'.kc z = P.kc z := by unfold PO.kc PO.kd; rw [a 0]
theorem LMT.one (h : LMT L P la lb lr lp) (g : ∀ z : Nat, z ∈ L → z ≠ x → (P.kc z = 0 → P.ow z ≠ x) → z ∈ L' ∧ (P.kc z = 18 → P'.lz z = P.lz z) ∧ (∀ f : Nat, P'.2.1 f z = P.2.1 f z) ∧ P'.oa z = P.oa z) (nl : x ≠ lb ∧ x ≠ lr ∧ x ≠ lp) (hn : ∀ z : Nat, z ∈ L' → z ∉ L → P'.kc z = 0) (h0 : ∀ z : Nat, z ∈ L → z ∈ L' → P.kc z = 0 → P'.kc z = 0)
    (hx : x ∈ L → (P.kc x = 18 ∨ P.kc x = 20) ∧ x ∈ L' ∧ (P'.kc x = P.kc x ∧ P'.ow x = P.ow x) ∧ (P.kc x = 18 → (P'.fl x = 1 → P'.le x ∈ L' ∧ P'.kc (P'.le x) = 0 ∧ P'.ow (P'.le x) = x) ∧ (P'.fl x ≠ 1 → P'.lz x = 0)) ∧ (P.kc x = 20 → P'.pp x ∈ L' ∧ P'.kc (P'.pp x) = 0 ∧ P'.ow (P'.pp x) = x ∧ PHL (P'.an (P'.pp x))))
    (cx : x ∈ L → P.kc x = 18 → (x = la → P'.cap x ≤ 244) ∧ ∀ k : Int, 0 ≤ k → k < P.lz lb → (x = P.br (P.el lb k) → 1 ≤ k → P'.cap x ≤ 1851) ∧ (x = P.bp (P.el lb k) → P'.cap x ≤ 823 ∧ (60 ≤ k → P'.cap x < 10))) : LMT L' P' la lb lr lp := by
  have h9 := h
  obtain ⟨⟨a, _⟩, ⟨b1, b2, b3, b4⟩, ⟨c1, c2, c3, c4⟩, d⟩ := h9
  have u : ∀ z : Nat, z ∈ L → z ≠ x → P.kc z ≠ 0 → z ∈ L' ∧ (P.kc z = 18 → P'.lz z = P.lz z) ∧ (∀ f : Nat, P'.2.1 f z = P.2.1 f z) ∧ P'.oa z = P.oa z := fun z m nz kz => g z m nz (fun e => absurd e kz)
  have nx0 : ∀ z : Nat, z ∈ L → P.kc z = 0 → z ≠ x := fun z m k e => by
    have r := (hx (by rw [← e]; exact m)).1
    rw [← e] at r; omega
  have ua : ∀ z : Nat, z ∈ L → z ≠ x → P.kc z = 18 → P.fl z = 1 → P.le z ∈ L' ∧ (∀ f : Nat, P'.2.1 f (P.le z) = P.2.1 f (P.le z)) ∧ P'.oa (P.le z) = P.oa (P.le z) := fun z m nz kz f => by
    have r := (c1 z m kz).1 f
    have t := g (P.le z) r.1 (nx0 _ r.1 r.2.1) (fun _ => by rw [r.2.2]; exact nz)
    exact ⟨t.1, t.2.2⟩
  have ub : ∀ z : Nat, z ∈ L → z ≠ x → P.kc z = 20 → P.pp z ∈ L' ∧ (∀ f : Nat, P'.2.1 f (P.pp z) = P.2.1 f (P.pp z)) := fun z m nz kz => by
    have r := c2 z m kz
    have t := g (P.pp z) r.1 (nx0 _ r.1 r.2.1) (fun _ => by rw [r.2.2.1]; exact nz)
    exact ⟨t.1, t.2.2.1⟩
  have uc : ∀ z : Nat, z ∈ L → z ≠ x → P.kc z = 18 → P'.cap z = P.cap z := fun z m nz kz => by
    have t := (u z m nz (by omega)).2.2.1
    exact cap_sm9 (t 7) (t 1) (fun f => (ua z m nz kz f).2.1 1)
  have hl : ∀ l : Nat, l = lb ∨ l = lr ∨ l = lp → P'.lz l = P.lz l ∧ ∀ i : Int, 0 ≤ i → i < P.lz l → P'.el l i = P.el l i := fun l e => by
    have m := b1 l (Or.inr e)
    have nz : l ≠ x := by
      rcases e with e | e | e
      · rw [e]; exact nl.1.symm
      · rw [e]; exact nl.2.1.symm
      · rw [e]; exact nl.2.2.symm
    have t := u l m.1 nz (by omega)
    refine ⟨t.2.1 m.2, fun i i0 i1 => ?_⟩
    have f : P.fl l = 1 := by
      by_cases f : P.fl l = 1
      · exact f
      · have := (c1 l m.1 m.2).2 f; omega
    have r := ua l m.1 nz m.2 f
    unfold PO.el
    rw [show P'.le l = P.le l from t.2.2.1 1, r.2.2]
  have hb : ∀ z : Nat, z ∈ L → P.kc z = 19 → P'.bp z = P.bp z ∧ P'.br z = P.br z ∧ P'.be z = P.be z := fun z m kz => by
    have nz : z ≠ x := fun e => by have r := (hx (by rw [← e]; exact m)).1; rw [← e] at r; omega
    have t := (u z m nz (by omega)).2.2.1
    exact ⟨t 1, t 2, t 3⟩
  have hc : ∀ z : Nat, z ∈ L → P.kc z ≠ 0 → z ∈ L' ∧ P'.kc z = P.kc z := fun z m kz => by
    by_cases e : z = x
    · have r := hx (by rw [← e]; exact m); rw [e]; exact ⟨r.2.1, r.2.2.1.1⟩
    · have t := u z m e kz; exact ⟨t.1, kc_sm9 t.2.2.1⟩
  have old : ∀ z : Nat, z ∈ L' → P'.kc z ≠ 0 → z ∈ L ∧ P.kc z = P'.kc z := fun z m nz => by
    by_cases q : z ∈ L
    · by_cases r : P.kc z = 0
      · exact absurd (h0 z q m r) nz
      · exact ⟨q, (hc z q r).2.symm⟩
    · exact absurd (hn z m q) nz
  refine LMT.step h hc hn h0 hb hl ⟨fun z m kz => ?_, fun z m kz => ?_, fun z m kz => ?_, fun l e => ?_⟩ (LMC.same d hl (fun k k0 k1 => ⟨(hb _ (b4 k k0 k1).1.1 (b4 k k0 k1).1.2).1, (hb _ (b4 k k0 k1).1.1 (b4 k k0 k1).1.2).2.1⟩) ?_ ?_ ?_ (fun k k0 k1 => ?_))
  · obtain ⟨m0, k0⟩ := old z m (by omega)
    by_cases e : z = x
    · have r := (hx (by rw [← e]; exact m0)).2.2.2.1 (by rw [← e]; omega); rw [e]; exact r
    · have t := u z m0 e (by omega)
      have f1 : P'.fl z = P.fl z := t.2.2.1 7
      have f2 : P'.le z = P.le z := t.2.2.1 1
      have c := c1 z m0 (by omega)
      rw [f1, f2, t.2.1 (by omega)]
      refine ⟨fun f => ?_, c.2⟩
      have r := ua z m0 e (by omega) f
      exact ⟨r.1, (kc_sm9 r.2.1).trans (c.1 f).2.1, (r.2.1 9).trans (c.1 f).2.2⟩
  · obtain ⟨m0, k0⟩ := old z m (by omega)
    by_cases e : z = x
    · have r := (hx (by rw [← e]; exact m0)).2.2.2.2 (by rw [← e]; omega); rw [e]; exact r
    · have t := u z m0 e (by omega)
      have f2 : P'.pp z = P.pp z := t.2.2.1 1
      have c := c2 z m0 (by omega)
      have r := ub z m0 e (by omega)
      rw [f2]
      exact ⟨r.1, (kc_sm9 r.2).trans c.2.1, (r.2 9).trans c.2.2.1, by rw [show P'.an (P.pp z) = P.an (P.pp z) from r.2 1]; exact c.2.2.2⟩
  · obtain ⟨m0, k0⟩ := old z m (by omega)
    have t := hb z m0 (by omega)
    have c := c3 z m0 (by omega)
    have ok : ∀ l : Nat, l ∈ L → P.kc l = 18 → P'.ow l = P.ow l := fun l m k => by
      by_cases e : l = x
      · rw [e]; exact (hx (by rw [← e]; exact m)).2.2.1.2
      · exact (u l m e (by omega)).2.2.1 9
    obtain ⟨k1, hk0, hk1, ek⟩ := (a z m0).2.2.1 (by omega)
    have q := b4 k1 hk0 hk1
    rw [← ek] at q
    rw [t.1, t.2.1, ok _ q.2.2.1.1 q.2.2.1.2, ok _ q.2.2.2.1 q.2.2.2.2]
    exact c
  · have m := b1 l e
    by_cases ex : l = x
    · rw [ex, (hx (by rw [← ex]; exact m.1)).2.2.1.2, ← ex]; exact c4 l e
    · rw [show P'.ow l = P.ow l from (u l m.1 ex (by omega)).2.2.1 9]; exact c4 l e
  · have m := b1 la (Or.inl rfl)
    by_cases e : la = x
    · have r := cx (by rw [← e]; exact m.1) (by rw [← e]; exact m.2); rw [e]; exact r.1 e.symm
    · rw [uc la m.1 e m.2]; exact d.1.2.2.2.1
  · have m := b1 lb (Or.inr (Or.inl rfl)); rw [uc lb m.1 nl.1.symm m.2]; exact d.1.2.2.2.2.1
  · have m := b1 lp (Or.inr (Or.inr (Or.inr rfl))); rw [uc lp m.1 nl.2.2.symm m.2]; exact d.1.2.2.2.2.2
  · have r := b4 k k0 k1
    have q := d.2 k k0 k1
    refine ⟨fun k9 => ?_, ?_, fun k9 => ?_⟩
    · by_cases e : P.br (P.el lb k) = x
      · have v := cx (by rw [← e]; exact r.2.2.1.1) (by rw [← e]; exact r.2.2.1.2); rw [e]; exact (v.2 k k0 k1).1 e.symm k9
      · rw [uc _ r.2.2.1.1 e r.2.2.1.2]; exact q.1 k9
    · by_cases e : P.bp (P.el lb k) = x
      · have v := cx (by rw [← e]; exact r.2.2.2.1) (by rw [← e]; exact r.2.2.2.2); rw [e]; exact ((v.2 k k0 k1).2 e.symm).1
      · rw [uc _ r.2.2.2.1 e r.2.2.2.2]; exact q.2.1
    · by_cases e : P.bp (P.el lb k) = x
      · have v := cx (by rw [← e]; exact r.2.2.2.1) (by rw [← e]; exact r.2.2.2.2); rw [e]; exact ((v.2 k k0 k1).2 e.symm).2 k9
      · rw [uc _ r.2.2.2.1 e r.2.2.2.2]; exact q.2.2 k9
theorem kc_hi9 (h : 31 ≤ P.kd z) : P.kc z = 0 := by have c := kcl_cases (P.kd z); unfold PO.kc; omega
/-- tables came, or were put -/
theorem LMT.chx {k : Nat} (h : LMT L P la lb lr lp) (hed : ed ∉ L) (c : CHX k L P L' P') : LMT L' P' la lb lr lp := by
  have ne : ∀ l : Nat, l ∈ L → ed ≠ l := fun l m e => hed (by rw [e]; exact m)
  have b1 := h.2.1.1
  refine LMT.one (x := ed) h (fun z m _ _ => ?_) ⟨ne _ (b1 lb (Or.inr (Or.inl rfl))).1, ne _ (b1 lr (Or.inr (Or.inr (Or.inl rfl)))).1, ne _ (b1 lp (Or.inr (Or.inr (Or.inr rfl)))).1⟩ (fun z m n => ?_) (fun z m m' k0 => ?_) (fun m => absurd m hed) (fun m => absurd m hed)
  · have t := c.1 z m; exact ⟨t.1, fun _ => t.2.1 0, t.2.2.1, t.2.2.2.1⟩
  · have t := c.2 z m n; exact kc_hi9 (by omega)
  · rw [kc_sm9 (c.1 z m).2.2.1]; exact k0
/-- a list of a function has grown -/
theorem LMT.gl1 (h : LMT L P la lb lr lp) (g : GL1 x q L P L' P') (mx : x ∈ L) (kx : P.kd x = 30) (fx : P.fl x = 1 ∨ P.le x ∉ L) (nl : x ≠ lb ∧ x ≠ lr ∧ x ≠ lp)
    (cx : (x = la → P'.cap x ≤ 244) ∧ ∀ k : Int, 0 ≤ k → k < P.lz lb → (x = P.br (P.el lb k) → 1 ≤ k → P'.cap x ≤ 1851) ∧ (x = P.bp (P.el lb k) → P'.cap x ≤ 823 ∧ (60 ≤ k → P'.cap x < 10))) : LMT L' P' la lb lr lp := by
  have kcx : P.kc x = 18 := by unfold PO.kc; rw [kx]; rfl
  have kcx' : P'.kc x = 18 := by unfold PO.kc; rw [g.1.2.2.1]; rfl
  have kq : P'.kc q = 0 := kc_hi9 (by rw [g.1.2.2.2.2.1]; decide)
  have c := (h.2.2.1.1 x mx kcx)
  have sm : ∀ z : Nat, z ∈ L → z ≠ x → z ≠ P.le x → SM9 z P P' := fun z m n1 n2 => g.sm z m n1 n2
  refine LMT.one (x := x) h (fun z m nz ow => ?_) nl (fun z m n => ?_) (fun z m m' k0 => ?_) (fun m => ⟨Or.inl kcx, g.1.1, ⟨kcx'.trans kcx.symm, g.1.2.2.2.2.2.2.1⟩, fun _ => ⟨fun _ => ?_, fun f => absurd g.1.2.2.2.2.2.2.2.2 f⟩, fun k => absurd k (by omega)⟩) (fun _ _ => cx)
  · have ne : z ≠ P.le x := fun e => by
      rcases fx with fx | fx
      · exact ow (by rw [e]; exact (c.1 fx).2.1) (by rw [e]; exact (c.1 fx).2.2)
      · exact fx (by rw [← e]; exact m)
    have t := sm z m nz ne
    exact ⟨g.2.1 z m ne, fun _ => t.1 0, t.2.1, t.2.2.1⟩
  · rcases g.2.2.1 z m with e | e | e
    · exact absurd (by rw [e]; exact mx) n
    · rw [e]; exact kq
    · exact absurd e n
  · by_cases e : z = q
    · rw [e]; exact kq
    · have n1 : z ≠ x := fun e => by rw [e] at k0; omega
      have t := g.2.2.2.1 z n1 e
      rw [kc_sm9 t.2.1]; exact k0
  · rw [g.1.2.2.2.1]; exact ⟨g.1.2.1, kq, g.1.2.2.2.2.2.1⟩
/-- a PHI's rows have grown -/
theorem LMT.pxc (h : LMT L P la lb lr lp) (g : PXC x L P L' P') (mx : x ∈ L) (kx : P.kd x = 15) (m' : P'.pp x ∈ L') (k' : 31 ≤ P'.kd (P'.pp x)) (o' : P'.ow (P'.pp x) = x) (z' : PHL (P'.an (P'.pp x))) : LMT L' P' la lb lr lp := by
  have kcx : P.kc x = 20 := by unfold PO.kc; rw [kx]; rfl
  have b1 := h.2.1.1
  have ne : ∀ l : Nat, P.kc l = 18 → x ≠ l := fun l k e => by rw [← e] at k; omega
  have kk : ∀ z : Nat, z ∈ L → P'.kc z = P.kc z := fun z m => by unfold PO.kc; rw [(g.1 z m).2.1]
  refine LMT.one (x := x) h (fun z m nz ow => ?_) ⟨ne _ (b1 lb (Or.inr (Or.inl rfl))).2, ne _ (b1 lr (Or.inr (Or.inr (Or.inl rfl)))).2, ne _ (b1 lp (Or.inr (Or.inr (Or.inr rfl)))).2⟩ (fun z m n => ?_) (fun z m _ k0 => by rw [kk z m]; exact k0) (fun m => ⟨Or.inr kcx, (g.1 x m).1, ⟨kk x m, (g.1 x m).2.2.2⟩, fun k => absurd k (by omega), fun _ => ⟨m', kc_hi9 k', o', z'⟩⟩) (fun _ k => absurd k (by omega))
  · have t := g.2.1 z m (fun q => by
      rcases q with q | q
      · exact nz q
      · exact ow (kc_hi9 (by omega)) q.1)
    exact ⟨t.1, fun _ => t.2.1 0, t.2.2.1, t.2.2.2.1⟩
  · exact kc_hi9 (by have := g.2.2 z m n; omega)
/-- what hangs on what is as it was -/
theorem LMT.nat (h : LMT L P la lb lr lp) (e : P'.2.1 = P.2.1) (hl : ∀ l : Nat, l = lb ∨ l = lr ∨ l = lp → P'.lz l = P.lz l ∧ ∀ i : Int, 0 ≤ i → i < P.lz l → P'.el l i = P.el l i) (hz : ∀ z : Nat, z ∈ L → P.kc z = 18 → P.fl z ≠ 1 → P'.lz z = 0) : LMT L P' la lb lr lp := by
  have f : ∀ f z : Nat, P'.2.1 f z = P.2.1 f z := fun f z => by rw [e]
  have k : ∀ z : Nat, P'.kc z = P.kc z := fun z => kc_sm9 (fun f9 => f f9 z)
  have cp : ∀ z : Nat, P'.cap z = P.cap z := fun z => cap_sm9 (f 7 z) (f 1 z) (fun _ => f 1 _)
  have h9 := h
  obtain ⟨⟨a, _⟩, ⟨b1, b2, b3, b4⟩, ⟨c1, c2, c3, c4⟩, d⟩ := h9
  refine LMT.step h (fun z m _ => ⟨m, k z⟩) (fun z m n => absurd m n) (fun z m _ k0 => by rw [k z]; exact k0) (fun z m _ => ⟨f 1 z, f 2 z, f 3 z⟩) hl ⟨fun z m kz => ?_, fun z m kz => ?_, fun z m kz => ?_, fun l e => (f 9 l).trans (c4 l e)⟩ (LMC.same d hl (fun k k0 k1 => ⟨f 1 _, f 2 _⟩) (by rw [cp]; exact d.1.2.2.2.1) (by rw [cp]; exact d.1.2.2.2.2.1) (by rw [cp]; exact d.1.2.2.2.2.2) (fun k k0 k1 => by rw [cp, cp]; exact d.2 k k0 k1))
  · rw [k z] at kz
    have c := c1 z m kz
    rw [show P'.fl z = P.fl z from f 7 z, show P'.le z = P.le z from f 1 z]
    refine ⟨fun f1 => ?_, fun f1 => hz z m kz f1⟩
    rw [k]
    exact ⟨(c.1 f1).1, (c.1 f1).2.1, (f 9 _).trans (c.1 f1).2.2⟩
  · rw [k z] at kz
    have c := c2 z m kz
    rw [show P'.pp z = P.pp z from f 1 z, k]
    exact ⟨c.1, c.2.1, (f 9 _).trans c.2.2.1, by rw [show P'.an (P.pp z) = P.an (P.pp z) from f 1 _]; exact c.2.2.2⟩
  · rw [k z] at kz
    rw [show P'.br z = P.br z from f 2 z, show P'.bp z = P.bp z from f 1 z, show P'.ow (P.br z) = P.ow (P.br z) from f 9 _, show P'.ow (P.bp z) = P.ow (P.bp z) from f 9 _]; exact c3 z m kz
/-- the Code's lists behind what has been done to the function in hand -/
theorem ATT.lists (h : ATT L P cO cI cZ ed la lb lr lp n p s c) (k : KEG E L P L' P') (l : Nat) (e : l = lb ∨ l = lr ∨ l = lp) : P'.lz l = P.lz l ∧ ∀ i : Int, 0 ≤ i → i < P.lz l → P'.el l i = P.el l i := by
  obtain ⟨Q, F, rfl, fc, ⟨fla, flb, flr, flp⟩, ⟨u1, u2⟩, ⟨g, f, v⟩, ⟨c1, c2, c3, ne⟩, _, _, ps, pc⟩ := h
  rcases e with e | e | e <;> rw [e]
  · exact (c1.upk flb g fc k).2
  · exact (c2.upk flr g fc k).2
  · exact (c3.upk flp g fc k).2
/-- the same, told by what a pass leaves -/
theorem LMT.keg (h : LMT L P la lb lr lp) (t : ATT L P cO cI cZ ed la lb lr lp n p s c) (k : KEG E L P L P') (g : GLR L P' cO cI cZ ed) (e : P'.2.1 = P.2.1) : LMT L P' la lb lr lp := by
  refine LMT.nat h e (fun l q => t.lists k l q) (fun z m kz f => ?_)
  have c := kcl_cases (P.kd z)
  have f' : P'.fl z ≠ 1 := by rw [show P'.fl z = P.fl z from by unfold PO.fl; rw [e]]; exact f
  have kz9 : kcl (P.kd z) = 18 := kz
  rcases Classical.em (P.kd z = 30) with k30 | k30
  · exact ((g.owa z m (by show P'.2.1 0 z = 30; rw [e]; exact k30)).1 f').1
  · have k3 : P.kd z = 3 := by omega
    have r := ((k.1 z m (by omega)).2.2.2.2 (by rw [k3]; unfold PKD; omega)).1 0
    show P'.1 0 z = 0
    rw [r]; exact (h.2.2.1.1 z m kz).2 f
end LMT9B
