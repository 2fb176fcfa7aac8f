/-! a copy, step by step -/
def CLF (L : List Nat) (P : PO) (l k : Nat) : Prop := l ∈ L ∧ P.kd l = 30 ∧ P.ek l = k ∧ P.ow l = l
section CPS9
variable {L L' LS : List Nat} {P P' Q : PO} {cO cI cZ : ClassId} {ed x y l la lb lr lp ls q : Nat} {S : Nat → Prop} {i j m n p r : Int} {E : List Nat}
theorem GLF.lk (g : GLF L P cO cI cZ ed) (c : CLF L P l q) : LOK L P cO q l := by
  have h := (g.gla l c.1 c.2.1).1
  rw [c.2.2.1] at h
  exact h
theorem KEG.lst (k : KEG E L P L' P') (c : CLF L P l q) (ne : l ∉ E) : P'.lz l = P.lz l ∧ ∀ i : Int, 0 ≤ i → i < P.lz l → P'.el l i = P.el l i := ((k.1 l c.1 (by rw [c.2.1]; decide)).2.2.2.1 c.2.1 c.2.2.2).2 ne
theorem KEG.clf (k : KEG E L P L' P') (c : CLF L P l q) : CLF L' P' l q := by
  have h := k.1 l c.1 (by rw [c.2.1]; decide)
  exact ⟨h.1, h.2.1.trans c.2.1, h.2.2.1.trans c.2.2.1, (h.2.2.2.1 c.2.1 c.2.2.2).1⟩
theorem DSL.grow (h : DSL P l) (k : LOK L P cO q l) (el : ∀ i : Int, 0 ≤ i → i < P.lz l → P'.el l i = P.el l i) (z : P'.lz l = P.lz l ∨ (P'.lz l = P.lz l + 1 ∧ P'.el l (P.lz l) ∉ L)) : DSL P' l := fun i j i0 ij j1 => by
  rcases z with z | ⟨z, nw⟩
  · rw [el i i0 (by omega), el j (by omega) (by omega)]
    exact h i j i0 ij (by omega)
  · by_cases w : j < P.lz l
    · rw [el i i0 (by omega), el j (by omega) w]
      exact h i j i0 ij w
    · have e : j = P.lz l := by omega
      rw [el i i0 (by omega), e]
      intro a
      exact nw (by rw [← a]; exact (k.2.2.2.2 i i0 (by omega)).2.1)
theorem DSL.same (h : DSL P l) (z : P'.lz l = P.lz l) (el : ∀ i : Int, 0 ≤ i → i < P.lz l → P'.el l i = P.el l i) : DSL P' l := fun i j i0 ij j1 => by
  rw [el i i0 (by omega), el j (by omega) (by omega)]
  exact h i j i0 ij (by omega)
/-- what is taken from the list stands behind what is held -/
theorem DSL.fresh (h : DSL P l) (el : ∀ i : Int, 0 ≤ i → i < P.lz l → P'.el l i = P.el l i) (n0 : 0 ≤ n) (ex : x = P'.el l n) (z : (P'.lz l = P.lz l ∧ n < P.lz l) ∨ x ∉ L) (m : x ∈ L) : ∀ k : Int, 0 ≤ k → k < n → x ≠ P.el l k := fun k k0 k1 => by
  rcases z with ⟨z, n1⟩ | z
  · rw [ex, el n n0 n1]
    exact fun a => h k n k0 k1 n1 a.symm
  · exact absurd m z
/-- a new block: nothing that is held changes -/
theorem hns_new (g : GLF L P cO cI cZ ed) (g' : GLF L' P' cO cI cZ ed) (k : KEG E L P L' P') (c : CB9 la lb x m L P L' P') (ds : DST P' lb) (i0 : i ≤ m) (m1 : m ≤ P.lz lb) (ca : CLF L P la 12) (cb : CLF L P lb 12) (cr : CLF L P lr 17) (cp : CLF L P lp 15) (nr : n ≤ P.lz lr) (np : p ≤ P.lz lp) : HNS (TS9 (fun z => z = la ∨ z = lb ∨ z = P'.bp x ∨ z = P'.br x) P) P lb lr lp i n p := by
  have ox := g'.owc x c.1.1 c.1.2.1
  have nk : ∀ (z d : Nat), z ∈ L → P.kd z = d → d ≠ 30 → d ≠ 31 → ¬ TS9 (fun z => z = la ∨ z = lb ∨ z = P'.bp x ∨ z = P'.br x) P z := fun z d mz kz n0 n1 s => by
    have kz' := (k.mem mz kz n1).2
    rcases s with s | s
    · rcases s with s | s | s | s
      · rw [s, ca.2.1] at kz; exact n0 kz.symm
      · rw [s, cb.2.1] at kz; exact n0 kz.symm
      · rw [s, ox.2.2.2.2] at kz'; exact n0 kz'.symm
      · rw [s, ox.1.2.2.2] at kz'; exact n0 kz'.symm
    · exact n1 (kz.symm.trans s.1)
  have kb := g.lk cb
  have kr := g.lk cr
  have kp := g.lk cp
  refine ⟨fun b b0 b1 => ?_, fun t t0 t1 => ?_, fun t t0 t1 => ?_⟩
  · have w := (kb.2.2.2.2 b b0 (by omega)).2
    have o := g.owc _ w.1 w.2
    have w' := k.mem w.1 w.2 (by decide)
    have o' := g'.owc _ w'.1 w'.2
    have ge := (g.gb w.1 w.2).1
    have ne : P.el lb b ≠ x := by
      have e1 := c.2.2.2.1 b b0 (by omega)
      have t := (ds b m b0 (by omega) (by have := c.2.1.2.1; omega)).1
      rw [e1, ← c.1.2.2.1] at t
      exact t
    have nl : ∀ l9 : Nat, P.kd l9 = 30 → P.ow l9 = P.el lb b → P'.ow l9 = P.el lb b → ¬ (l9 = la ∨ l9 = lb ∨ l9 = P'.bp x ∨ l9 = P'.br x) := fun l9 kl wl wl' s => by
      rcases s with s | s | s | s
      · rw [s, ca.2.2.2] at wl
        have t := w.2
        rw [← wl, ca.2.1] at t
        omega
      · rw [s, cb.2.2.2] at wl
        have t := w.2
        rw [← wl, cb.2.1] at t
        omega
      · rw [s, ox.2.2.1] at wl'; exact ne wl'.symm
      · rw [s, ox.1.2.1] at wl'; exact ne wl'.symm
    have wr' : P'.ow (P.br (P.el lb b)) = P.el lb b := by
      have t := o'.1.2.1
      rw [(k.2 _ w.1 w.2).2.1] at t
      exact t
    have wp' : P'.ow (P.bp (P.el lb b)) = P.el lb b := by
      have t := o'.2.2.1
      rw [(k.2 _ w.1 w.2).1] at t
      exact t
    have nr' : ¬ TS9 (fun z => z = la ∨ z = lb ∨ z = P'.bp x ∨ z = P'.br x) P (P.br (P.el lb b)) := fun s => by
      rcases s with s | s
      · exact nl _ o.1.2.2.2 o.1.2.1 wr' s
      · have t := o.1.2.2.2; have u := s.1; omega
    have np' : ¬ TS9 (fun z => z = la ∨ z = lb ∨ z = P'.bp x ∨ z = P'.br x) P (P.bp (P.el lb b)) := fun s => by
      rcases s with s | s
      · exact nl _ o.2.2.2.2 o.2.2.1 wp' s
      · have t := o.2.2.2.2; have u := s.1; omega
    have ar : ∀ l9 : Nat, l9 ∈ L → P.kd l9 = 30 → ¬ TS9 (fun z => z = la ∨ z = lb ∨ z = P'.bp x ∨ z = P'.br x) P l9 → P.fl l9 = 1 → ¬ TS9 (fun z => z = la ∨ z = lb ∨ z = P'.bp x ∨ z = P'.br x) P (P.le l9) := fun l9 ml kl nl9 f s => by
      have rr := (g.owa _ ml kl).2 f
      have sm := (c.2.2.2.2 l9 ml nl9)
      have f' : P'.fl l9 = 1 := (sm.2.2.1 7).trans f
      have le' : P'.le l9 = P.le l9 := sm.2.2.1 1
      have rr' := (g'.owa _ sm.1 ((sm.2.2.1 0).trans kl)).2 f'
      rw [le'] at rr'
      rcases s with s | s
      · rcases s with s | s | s | s
        · have t := rr.2.1; rw [s, ca.2.1] at t; omega
        · have t := rr.2.1; rw [s, cb.2.1] at t; omega
        · have t := rr'.2.1; rw [s, ox.2.2.2.2] at t; omega
        · have t := rr'.2.1; rw [s, ox.1.2.2.2] at t; omega
      · have t := s.2
        rw [rr.2.2.1] at t
        exact nl9 (Or.inl t)
    exact ⟨nk _ 12 w.1 w.2 (by decide) (by decide), nk _ 17 ge.1 ge.2.1 (by decide) (by decide), ⟨nr', ar _ o.1.2.2.1 o.1.2.2.2 nr'⟩, np', ar _ o.2.2.2.1 o.2.2.2.2 np'⟩
  · have w := (kr.2.2.2.2 t t0 (by omega)).2
    exact nk _ 17 w.1 w.2 (by decide) (by decide)
  · have w := (kp.2.2.2.2 t t0 (by omega)).2
    have v := g.pik w.1 w.2
    exact ⟨nk _ 15 w.1 w.2 (by decide) (by decide), nk _ 40 v.2.1.1 v.2.1.2.1 (by decide) (by decide), nk _ 41 v.2.2.1.1 v.2.2.1.2.1 (by decide) (by decide), nk _ 42 v.2.2.2.1.1 v.2.2.2.1.2.1 (by decide) (by decide)⟩
theorem CUR.new (c : CB9 la lb x m L P L' P') : CUR P' Q lb lr lp ls m 0 0 := by
  have e := c.1.2.2.1
  refine ⟨⟨?_, fun k k0 k1 => by omega⟩, ?_, fun k k0 k1 => by omega⟩
  · rw [← e]; exact c.1.2.2.2.2.1
  · rw [← e]; exact c.1.2.2.2.2.2
/-- the block in hand stays where its lists stay -/
theorem CUR.fr (u : CUR P Q lb lr lp ls i j r) (g : GLF L P cO cI cZ ed) (c : CH8 S L P L' P') (cb : CLF L P lb 12) (i0 : 0 ≤ i) (ib : i < P.lz lb) (z1 : 0 ≤ OFS 1 Q ls i) (z2 : 0 ≤ OFS 2 Q ls i) (eb : P'.el lb i = P.el lb i) (er : ∀ k : Int, 0 ≤ k → k < OFS 2 Q ls i + r → P'.el lr k = P.el lr k) (ep : ∀ k : Int, 0 ≤ k → k < OFS 1 Q ls i + j → P'.el lp k = P.el lp k)
    (n0 : ¬ S (P.el lb i)) (n1 : ¬ S (P.br (P.el lb i)) ∧ (P.fl (P.br (P.el lb i)) = 1 → ¬ S (P.le (P.br (P.el lb i))))) (n2 : ¬ S (P.bp (P.el lb i)) ∧ (P.fl (P.bp (P.el lb i)) = 1 → ¬ S (P.le (P.bp (P.el lb i))))) : CUR P' Q lb lr lp ls i j r := by
  have w := ((g.lk cb).2.2.2.2 i i0 ib).2
  have o := g.owc _ w.1 w.2
  have s := (c _ w.1 n0).2
  have a := c.lst g.owa o.1.2.2.1 o.1.2.2.2 n1.1 n1.2
  have b := c.lst g.owa o.2.2.2.1 o.2.2.2.2 n2.1 n2.2
  have e1 : P'.bp (P.el lb i) = P.bp (P.el lb i) := s.2.1 1
  have e2 : P'.br (P.el lb i) = P.br (P.el lb i) := s.2.1 2
  obtain ⟨⟨u1, u2⟩, u3, u4⟩ := u
  unfold CUR
  rw [eb, e1, e2]
  refine ⟨⟨b.1.trans u1, fun k k0 k1 => ?_⟩, a.1.trans u3, fun k k0 k1 => ?_⟩
  · rw [b.2.1 k k0 (by omega), ep _ (by omega) (by omega)]; exact u2 k k0 k1
  · rw [a.2.1 k k0 (by omega), er _ (by omega) (by omega)]; exact u4 k k0 k1
theorem CUR.addr (u : CUR P Q lb lr lp ls i j r) (eb : P'.el lb i = P.el lb i) (e1 : P'.bp (P.el lb i) = P.bp (P.el lb i)) (e2 : P'.br (P.el lb i) = P.br (P.el lb i)) (z1 : 0 ≤ OFS 1 Q ls i) (z2 : 0 ≤ OFS 2 Q ls i) (r0 : 0 ≤ r)
    (b : P'.lz (P.bp (P.el lb i)) = P.lz (P.bp (P.el lb i)) ∧ ∀ k : Int, 0 ≤ k → k < P.lz (P.bp (P.el lb i)) → P'.el (P.bp (P.el lb i)) k = P.el (P.bp (P.el lb i)) k) (a : P'.lz (P.br (P.el lb i)) = P.lz (P.br (P.el lb i)) + 1 ∧ (∀ k : Int, 0 ≤ k → k < P.lz (P.br (P.el lb i)) → P'.el (P.br (P.el lb i)) k = P.el (P.br (P.el lb i)) k) ∧ P'.el (P.br (P.el lb i)) (P.lz (P.br (P.el lb i))) = x)
    (er : ∀ k : Int, 0 ≤ k → k < OFS 2 Q ls i + r → P'.el lr k = P.el lr k) (ep : ∀ k : Int, 0 ≤ k → k < OFS 1 Q ls i + j → P'.el lp k = P.el lp k) (ex : x = P'.el lr (OFS 2 Q ls i + r)) : CUR P' Q lb lr lp ls i j (r + 1) := by
  obtain ⟨⟨u1, u2⟩, u3, u4⟩ := u
  unfold CUR
  rw [eb, e1, e2]
  refine ⟨⟨b.1.trans u1, fun k k0 k1 => ?_⟩, by rw [a.1, u3], fun k k0 k1 => ?_⟩
  · rw [b.2 k k0 (by omega), ep _ (by omega) (by omega)]; exact u2 k k0 k1
  · by_cases w : k < r
    · rw [a.2.1 k k0 (by omega), er _ (by omega) (by omega)]; exact u4 k k0 w
    · have e : k = r := by omega
      have t := a.2.2
      rw [u3] at t
      rw [e, t, ex]
theorem CUR.addp (u : CUR P Q lb lr lp ls i j r) (eb : P'.el lb i = P.el lb i) (e1 : P'.bp (P.el lb i) = P.bp (P.el lb i)) (e2 : P'.br (P.el lb i) = P.br (P.el lb i)) (z1 : 0 ≤ OFS 1 Q ls i) (z2 : 0 ≤ OFS 2 Q ls i) (j0 : 0 ≤ j)
    (b : P'.lz (P.br (P.el lb i)) = P.lz (P.br (P.el lb i)) ∧ ∀ k : Int, 0 ≤ k → k < P.lz (P.br (P.el lb i)) → P'.el (P.br (P.el lb i)) k = P.el (P.br (P.el lb i)) k) (a : P'.lz (P.bp (P.el lb i)) = P.lz (P.bp (P.el lb i)) + 1 ∧ (∀ k : Int, 0 ≤ k → k < P.lz (P.bp (P.el lb i)) → P'.el (P.bp (P.el lb i)) k = P.el (P.bp (P.el lb i)) k) ∧ P'.el (P.bp (P.el lb i)) (P.lz (P.bp (P.el lb i))) = x)
    (er : ∀ k : Int, 0 ≤ k → k < OFS 2 Q ls i + r → P'.el lr k = P.el lr k) (ep : ∀ k : Int, 0 ≤ k → k < OFS 1 Q ls i + j → P'.el lp k = P.el lp k) (ex : x = P'.el lp (OFS 1 Q ls i + j)) : CUR P' Q lb lr lp ls i (j + 1) r := by
  obtain ⟨⟨u1, u2⟩, u3, u4⟩ := u
  unfold CUR
  rw [eb, e1, e2]
  refine ⟨⟨by rw [a.1, u1], fun k k0 k1 => ?_⟩, b.1.trans u3, fun k k0 k1 => ?_⟩
  · by_cases w : k < j
    · rw [a.2.1 k k0 (by omega), ep _ (by omega) (by omega)]; exact u2 k k0 w
    · have e : k = j := by omega
      have t := a.2.2
      rw [u1] at t
      rw [e, t, ex]
  · rw [b.2 k k0 (by omega), er _ (by omega) (by omega)]; exact u4 k k0 k1
theorem CPH.add {o t s : Int} (h : CPH P x Q y n) (n0 : 0 ≤ n) (pe : PAE P P' x o t s) (pn : P'.pn x = P.pn x + 1) (pt : P'.pt x = P.pt x) (e1 : o = Q.ia (Q.pp y) n) (e2 : t = Q.ia (Q.pu y) n) (e3 : s = Q.ia (Q.pr y) n) : CPH P' x Q y (n + 1) := by
  obtain ⟨h1, h2, h3⟩ := h
  refine ⟨by omega, pt.trans h2, fun k k0 k1 => ?_⟩
  by_cases w : k < n
  · have a := pe.1 k k0 (by omega)
    rw [a.1, a.2.1, a.2.2]
    exact h3 k k0 w
  · have e : k = P.pn x := by omega
    rw [e, pe.2.1, pe.2.2.1, pe.2.2.2, h1]
    exact ⟨e1, e2, e3⟩
theorem CPH.first (n : P.pn x = 0) (t : P.pt x = Q.pt y) : CPH P x Q y 0 := ⟨n, t, fun k k0 k1 => by omega⟩
/-- the copy is a function -/
theorem CPI.alp (h : CPI P Q lb lr lp ls (Q.lz ls) n p) (A : ALP LS Q cO cI cZ ed ls) (g : GLF L P cO cI cZ ed) (ca : CLF L P la 12) (al : ∀ b : Int, 0 ≤ b → b < P.lz la → P.el la b = P.el lb b) (zl : P.lz la = Q.lz ls) (ds : DST P lb) (zb : P.lz la ≤ P.lz lb) : ALP L P cO cI cZ ed la := by
  refine g.alp ca.1 ca.2.1 ca.2.2.1 (by rw [zl]; exact A.1.1.2.1) (fun b b0 b1 => ?_) (fun b c b0 bc c1 => ?_) (fun y hy k k0 k1 => ?_)
  · have bk := (A.inb ⟨b, b0, by omega, rfl⟩).2.2.2.2
    have e := h.2.2.2.2 b b0 (by omega)
    rw [al b b0 b1, e.2.1, e.2.2, zl]
    exact ⟨bk.2.1, bk.2.2.2⟩
  · rw [al b b0 (by omega), al c (by omega) c1]
    exact (ds b c b0 bc (by omega)).1
  · obtain ⟨b, b0, b1, e⟩ := hy
    rw [e, al b b0 b1] at k1 ⊢
    have q := h.2.2.2.1 b b0 (by omega)
    have qz : P.lz (P.bp (P.el lb b)) = Q.lz (Q.bp (Q.el ls b)) := q.1
    have kz : k < Q.lz (Q.bp (Q.el ls b)) := by omega
    have ek : P.el (P.bp (P.el lb b)) k = P.el lp (OFS 1 Q ls b + k) := q.2.2 k k0 k1
    have qn : OFS 1 Q ls b + Q.lz (Q.bp (Q.el ls b)) ≤ p := q.2.1
    have f := h.2.1 b k b0 (by omega) k0 kz (by omega)
    have pr := A.2.2.1 _ ⟨b, b0, by omega, rfl⟩ k k0 kz
    intro t t0 t1
    rw [ek] at t1 ⊢
    rw [f.1] at t1
    rw [(f.2.2 t t0 t1).1, zl]
    exact pr t t0 t1
/-- .. and each of its PHIs is complete -/
theorem CPI.cmp (h : CPI P Q lb lr lp ls (Q.lz ls) n p) (C : CMP Q ls) (q1 : 1 ≤ Q.lz ls) (al : ∀ b : Int, 0 ≤ b → b < P.lz la → P.el la b = P.el lb b) (zl : P.lz la = Q.lz ls) : CMP P la := by
  have bz : ∀ b : Int, 0 ≤ b → b < P.lz la → P.lz (P.bp (P.el la b)) = Q.lz (Q.bp (Q.el ls b)) := fun b b0 b1 => by
    rw [al b b0 b1]; exact (h.2.2.2.1 b b0 (by omega)).1
  have bo : ∀ b : Int, 0 ≤ b → b < P.lz la → P.ro (P.be (P.el la b)) = Q.ro (Q.be (Q.el ls b)) ∧ P.bf (P.el la b) = Q.bf (Q.el ls b) ∧ P.bs (P.el la b) = Q.bs (Q.el ls b) := fun b b0 b1 => by
    rw [al b b0 b1]
    have e := h.2.2.2.2 b b0 (by omega)
    exact ⟨e.1.1, e.2.1, e.2.2⟩
  refine ⟨(bz 0 (by omega) (by omega)).trans C.1, fun b b0 b1 => ?_, fun c b c0 c1 b0 b1 ne w i i0 i1 => ?_⟩
  · rw [bz b b0 b1, (bo b b0 b1).1]
    exact C.2.1 b b0 (by omega)
  · obtain ⟨o1, o2, o3⟩ := bo c c0 c1
    rw [o1] at ne w
    rw [o2, o3] at w
    rw [bz b b0 b1] at i1
    obtain ⟨k, k0, k1, e⟩ := C.2.2 c b c0 (by omega) b0 (by omega) ne w i i0 i1
    have q := h.2.2.2.1 b b0 (by omega)
    have qz : P.lz (P.bp (P.el lb b)) = Q.lz (Q.bp (Q.el ls b)) := q.1
    have ek : P.el (P.bp (P.el lb b)) i = P.el lp (OFS 1 Q ls b + i) := q.2.2 i i0 (by rw [show P.2.1 1 (P.el lb b) = P.bp (P.el lb b) from rfl, qz]; exact i1)
    have qn : OFS 1 Q ls b + Q.lz (Q.bp (Q.el ls b)) ≤ p := q.2.1
    have f := h.2.1 b i b0 (by omega) i0 i1 (by omega)
    rw [al b b0 b1, ek]
    exact ⟨k, k0, by rw [f.1]; exact k1, by rw [(f.2.2 k k0 k1).1]; exact e⟩
end CPS9
theorem OFS.le {f ls : Nat} {Q : PO} {b c : Int} (h : LNN f Q ls) (b0 : 0 ≤ b) (bc : b ≤ c) (c1 : c ≤ Q.lz ls) : OFS f Q ls b ≤ OFS f Q ls c := by
  by_cases e : b = c
  · rw [e]; exact Int.le_refl _
  · have a := OFS.mono h b0 (show b < c by omega) c1
    have q := h b b0 (by omega)
    omega
theorem OFS.tot {f ls : Nat} {Q : PO} : OFS f Q ls (Q.lz ls) = Q.tot f ls := rfl
theorem CPI.mem4 {a b c d y : Nat} {E : List Nat} (s : E = [a] ∨ E = [a, b] ∨ E = [c] ∨ E = [d]) (h : y ∈ E) : y ∈ [a, b, c, d] := by
  rcases s with s | s | s | s <;> rw [s] at h <;> simp at h ⊢ <;> omega
section CPT9
variable {L L' : List Nat} {P P' Q : PO} {cO cI cZ : ClassId} {ed x y l la lb lr lp ls : Nat} {S : Nat → Prop} {i j m n p r t : Int}
theorem HNS.wk {i' n' p' : Int} (h : HNS S P lb lr lp i n p) (a : i' ≤ i) (b : n' ≤ n) (c : p' ≤ p) : HNS S P lb lr lp i' n' p' := ⟨fun k k0 k1 => h.1 k k0 (by omega), fun k k0 k1 => h.2.1 k k0 (by omega), fun k k0 k1 => h.2.2 k k0 (by omega)⟩
theorem CB9.alb (c : CB9 la lb x m L P L' P') (h : ∀ b : Int, 0 ≤ b → b < P.lz la → P.el la b = P.el lb b) (e : m = P.lz la) (z : m ≤ P.lz lb) : ∀ b : Int, 0 ≤ b → b < P'.lz la → P'.el la b = P'.el lb b := fun b b0 b1 => by
  have z1 := c.2.1.1
  by_cases w : b < P.lz la
  · rw [c.2.2.1 b b0 w, c.2.2.2.1 b b0 (by omega)]
    exact h b b0 w
  · have q : b = P.lz la := by omega
    rw [q, ← c.1.2.2.2.1, ← e]
    exact c.1.2.2.1
theorem CP8.fresh (c : CP8 lp x n t L P L' P') (d : DSL P lp) (k : LOK L P cO 15 lp) (n0 : 0 ≤ n) (n1 : n ≤ P.lz lp) : (x ∈ L → P.kd x = 15 ∧ ∀ k : Int, 0 ≤ k → k < n → x ≠ P.el lp k) ∧ (∀ k : Int, 0 ≤ k → k < n → P.el lp k ≠ x) ∧ DSL P' lp := by
  have ol : P'.lz lp = P.lz lp → n < P.lz lp ∧ x = P.el lp n := fun z => by
    have q := c.2.1.1
    have n2 : n < P.lz lp := by omega
    exact ⟨n2, c.1.2.2.trans (c.2.2.2.1 n n0 n2)⟩
  have f : x ∈ L → P.kd x = 15 ∧ ∀ k : Int, 0 ≤ k → k < n → x ≠ P.el lp k := fun mx => by
    rcases c.2.1.2 with z | ⟨_, _, nx⟩
    · obtain ⟨n2, ex⟩ := ol z
      refine ⟨by rw [ex]; exact (k.2.2.2.2 n n0 n2).2.2, fun a a0 a1 => ?_⟩
      rw [ex]
      exact fun e => d a n a0 a1 n2 e.symm
    · exact absurd mx nx
  refine ⟨f, fun a a0 a1 e => ?_, d.grow k c.2.2.2.1 ?_⟩
  · exact (f (by rw [← e]; exact (k.2.2.2.2 a a0 (by omega)).2.1)).2 a a0 a1 e.symm
  · rcases c.2.1.2 with z | ⟨z, en, nx⟩
    · exact Or.inl z
    · exact Or.inr ⟨z, by rw [← en, ← c.1.2.2]; exact nx⟩
theorem row_fresh (d : DSL P lr) (k : LOK L P cO 17 lr) (n0 : 0 ≤ n) (n2 : n + 1 ≤ P'.lz lr) (ex : x = P'.el lr n) (el : ∀ i : Int, 0 ≤ i → i < P.lz lr → P'.el lr i = P.el lr i) (z : P'.lz lr = P.lz lr ∨ (P'.lz lr = P.lz lr + 1 ∧ n = P.lz lr ∧ x ∉ L)) : (x ∈ L → ∀ k : Int, 0 ≤ k → k < n → x ≠ P.el lr k) ∧ DSL P' lr := by
  refine ⟨fun mx a a0 a1 => ?_, d.grow k el ?_⟩
  · rcases z with z | ⟨_, _, nx⟩
    · have n3 : n < P.lz lr := by omega
      rw [ex, el n n0 n3]
      exact fun e => d a n a0 a1 n3 e.symm
    · exact absurd mx nx
  · rcases z with z | ⟨z, en, nx⟩
    · exact Or.inl z
    · exact Or.inr ⟨z, by rw [← en, ← ex]; exact nx⟩
/-- a number set in a row or a block changes no list -/
theorem CUR.rw1 (u : CUR P Q lb lr lp ls i j r) (w : RW1 x P P') (g : GLF L P cO cI cZ ed) (cb : CLF L P lb 12) (i0 : 0 ≤ i) (ib : i < P.lz lb) (kx : P.kd x ≠ 30) : CUR P' Q lb lr lp ls i j r := by
  have el : ∀ (l : Nat) (k : Int), P'.el l k = P.el l k := fun l k => by unfold PO.el PO.oa PO.le; rw [w.1]
  have bp : ∀ z : Nat, P'.bp z = P.bp z := fun z => by unfold PO.bp; rw [w.1]
  have br : ∀ z : Nat, P'.br z = P.br z := fun z => by unfold PO.br; rw [w.1]
  have lz : ∀ z : Nat, P.kd z = 30 → P'.lz z = P.lz z := fun z k => w.2 z (fun e => kx (by rw [← e]; exact k)) 0
  have q := ((g.lk cb).2.2.2.2 i i0 ib).2
  have o := g.owc _ q.1 q.2
  unfold CUR
  rw [el lb i, bp, br, lz _ o.2.2.2.2, lz _ o.1.2.2.2]
  refine ⟨⟨u.1.1, fun k k0 k1 => ?_⟩, u.2.1, fun k k0 k1 => ?_⟩
  · rw [el, el]; exact u.1.2 k k0 k1
  · rw [el, el]; exact u.2.2 k k0 k1
end CPT9
theorem CPI.to {P Q : PO} {lb lr lp ls : Nat} {i n p n' p' : Int} (h : CPI P Q lb lr lp ls i n p) (e : n' = n) (f : p' = p) : CPI P Q lb lr lp ls i n' p' := by rw [e, f]; exact h
theorem CUR.to {P Q : PO} {lb lr lp ls : Nat} {i j r j' r' : Int} (h : CUR P Q lb lr lp ls i j r) (e : j' = j) (f : r' = r) : CUR P Q lb lr lp ls i j' r' := by rw [e, f]; exact h
theorem ROK9.cp {P Q : PO} {x y : Nat} (h : ROK9 Q y) (e : CRW P x Q y) (g : P.rg x = 0) : ROK9 P x := by
  obtain ⟨e0, e1, e2, e3, e4, e5⟩ := e
  unfold ROK9
  rw [e0, e1, e2, e3, e4, e5, g]
  exact ⟨h.1, h.2.1, h.2.2.1, h.2.2.2.1, h.2.2.2.2.1, h.2.2.2.2.2.1, ⟨Int.le_refl 0, by decide⟩, h.2.2.2.2.2.2.2.1, h.2.2.2.2.2.2.2.2⟩
theorem CPI.to9 {P Q : PO} {lb lr lp ls : Nat} {i i' n p : Int} (h : CPI P Q lb lr lp ls i n p) (e : i' = i) : CPI P Q lb lr lp ls i' n p := by rw [e]; exact h
