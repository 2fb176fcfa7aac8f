/-! a block of a text: which of its Code's rows it holds, how long its list's row may become -/
section BLR10
variable {E L L' : List Nat} {P P' Q Q' : PO} {cO cI cZ : ClassId} {ed la lb lr lx x q : Nat} {n m c c0 c' z z' : Int} {S : Nat → Prop}
def ELP (P Q : PO) (lr : Nat) (n : Int) : Prop := ∀ k : Int, 0 ≤ k → k < n → Q.el lr k = P.el lr k
def LXR (P : PO) (lx lr : Nat) (n : Int) : Prop := ∀ j : Int, 0 ≤ j → j < P.lz lx → ∃ k : Int, (0 ≤ k ∧ k < n) ∧ P.el lx j = P.el lr k
theorem KEG.el9 {i : Int} (k : KEG E L P L' P') (cl : CLF L P lr 17) (ne : lr ∉ E) (i0 : 0 ≤ i) (i1 : i < P.lz lr) : P'.el lr i = P.el lr i := (((k.1 lr cl.1 (by rw [cl.2.1]; decide)).2.2.2.1 cl.2.1 cl.2.2.2).2 ne).2 i i0 i1
theorem ELP.refl (P : PO) (lr : Nat) (n : Int) : ELP P P lr n := fun _ _ _ => rfl
theorem ELP.keg9 (h : ELP P Q lr n) (k : KEG E L Q L' Q') (cl : CLF L Q lr 17) (ne : lr ∉ E) (n0 : n ≤ Q.lz lr) : ELP P Q' lr n := fun i i0 i1 => (k.el9 cl ne i0 (by omega)).trans (h i i0 i1)
theorem ELP.of (h : ELP P Q lr n) (e : ∀ i : Int, 0 ≤ i → i < Q.lz lr → Q'.el lr i = Q.el lr i) (n0 : n ≤ Q.lz lr) : ELP P Q' lr n := fun i i0 i1 => (e i i0 (by omega)).trans (h i i0 i1)
theorem LXR.zero (z : P.lz lx = 0) : LXR P lx lr n := fun j j0 j1 => by omega
theorem LXR.chg9 (h : LXR P lx lr n) (o : OWA L P cO ed) (c : CHG S L P L' P') (mx : lx ∈ L) (kx : P.kd lx = 30) (cl : CLF L P lr 17) (n0 : n ≤ P.lz lr) (s : ∀ z : Nat, z ∈ L → S z → P.kd z ≠ 30 ∧ P.kd z ≠ 31) : LXR P' lx lr n := fun j j0 j1 => by
  have a := c.lst o mx kx (fun q => (s _ mx q).1 kx) (fun z mz kz _ q => (s z mz q).2 kz)
  have b := c.lst o cl.1 cl.2.1 (fun q => (s _ cl.1 q).1 cl.2.1) (fun z mz kz _ q => (s z mz q).2 kz)
  obtain ⟨k, ⟨k0, k1⟩, e⟩ := h j j0 (by rw [← a.1]; exact j1)
  exact ⟨k, ⟨k0, k1⟩, by rw [a.2.1 j j0 (by rw [← a.1]; exact j1), b.2.1 k k0 (by omega), e]⟩
theorem LXR.row9 (h : LXR P lx lr n) (o : OWA L P cO ed) (c : CRH lr x n L P L' P') (mx : lx ∈ L) (kx : P.kd lx = 30) (ne : lx ≠ lr) (kl : P.kd lr = 30) (el : ∀ i : Int, 0 ≤ i → i < P.lz lr → P'.el lr i = P.el lr i) (n0 : n ≤ P.lz lr) : LXR P' lx lr (n + 1) := fun j j0 j1 => by
  obtain ⟨_, _, _, ch, _, xo⟩ := c
  have a := ch.lst o mx kx (fun q => by
    rcases q with q | q | q
    · have := (xo (by rw [← q]; exact mx)).1; rw [← q] at this; omega
    · exact ne q
    · omega) (fun z mz kz wz q => by
    rcases q with q | q | q
    · have := (xo (by rw [← q]; exact mz)).1; rw [← q] at this; omega
    · rw [q] at kz; omega
    · exact ne (wz.symm.trans q.2))
  obtain ⟨k, ⟨k0, k1⟩, e⟩ := h j j0 (by rw [← a.1]; exact j1)
  exact ⟨k, ⟨k0, by omega⟩, by rw [a.2.1 j j0 (by rw [← a.1]; exact j1), el k k0 (by omega), e]⟩
theorem LXR.put9 (h : LXR P lx lr n) (zz : P'.lz lx = P.lz lx + 1) (el : ∀ i : Int, 0 ≤ i → i < P.lz lx → P'.el lx i = P.el lx i) (la : P'.el lx (P.lz lx) = x) (er : ∀ i : Int, 0 ≤ i → i < n → P'.el lr i = P.el lr i) {k : Int} (ex : x = P.el lr k) (k0 : 0 ≤ k) (k1 : k < n) : LXR P' lx lr n := fun j j0 j1 => by
  by_cases q : j < P.lz lx
  · obtain ⟨i, ⟨i0, i1⟩, e⟩ := h j j0 q
    exact ⟨i, ⟨i0, i1⟩, by rw [el j j0 q, er i i0 i1, e]⟩
  · have e : j = P.lz lx := by omega
    exact ⟨k, ⟨k0, k1⟩, by rw [e, la, er k k0 k1, ex]⟩
/-- signs are read: rows of the blocks stay -/
theorem BRO.extR (h : BRO P la lr n) (G : GLR L P cO cI cZ ed) (u : EXT9 L P L' P') (ca : CLF L P la 12) (cl : CLF L P lr 17) (n0 : n ≤ P.lz lr) : BRO P' la lr n := fun b b0 b1 => by
  have lz : P'.lz la = P.lz la := (u la ca.1).2.1 0
  have b2 : b < P.lz la := by omega
  obtain ⟨r, w⟩ := h b b0 b2
  obtain ⟨ym, yk⟩ := G.inb ca b0 b2
  rw [u.el G.owa ca.1 ca.2.1 b0 b2]
  generalize P.el la b = y at r w ym yk ⊢
  obtain ⟨⟨_, _, a3, a4⟩, _⟩ := G.owc y ym yk
  have e1 := (G.gb ym yk).1.1
  have f1 : P'.br y = P.br y := (u y ym).2.2.1 2
  have f2 : P'.be y = P.be y := (u y ym).2.2.1 3
  have f3 : P'.lz (P.br y) = P.lz (P.br y) := (u _ a3).2.1 0
  have f4 : P'.rA (P.be y) = P.rA (P.be y) := (u _ e1).2.1 4
  have f5 : P'.ra (P.be y) = P.ra (P.be y) := (u _ e1).2.1 2
  rw [f1, f2, f3, f4, f5]
  refine ⟨fun j j0 j1 => ?_, w⟩
  obtain ⟨k, ⟨k0, k1⟩, e⟩ := r j j0 j1
  exact ⟨k, ⟨k0, k1⟩, by rw [u.el G.owa a3 a4 j0 j1, u.el G.owa cl.1 cl.2.1 k0 (by omega), e]⟩
end BLR10
section BLR11
variable {L L' : List Nat} {P P' : PO} {cO cI cZ : ClassId} {ed lr l q : Nat} {n : Int}
/-- a block's list was changed, its row perhaps new -/
theorem RWS9.list9 (h : RWS9 P lr n) (G : GLR L P cO cI cZ ed) (cl : CLF L P lr 17) (n0 : n ≤ P.lz lr) (w : GL1 l q L P L' P') (m : l ∈ L) (k : P.kd l = 30) (hl : l ≠ lr) (fx : P.fl l = 1 ∨ P.le l ∉ L) : RWS9 P' lr n := by
  have c : CHG (fun z => z = l ∨ z = P.le l ∨ (z = q ∧ z ∈ L)) L P L' P' := fun z mz nz => ⟨w.2.1 z mz (fun e => nz (Or.inr (Or.inl e))), w.2.2.2.1 z (fun e => nz (Or.inl e)) (fun e => nz (Or.inr (Or.inr ⟨e, mz⟩)))⟩
  have nle : ∀ z : Nat, z ∈ L → z = P.le l → P.kd z = 31 ∧ P.ow z = l := fun z mz e => by
    rcases fx with f | f
    · have t := (G.owa l m k).2 f
      rw [e]; exact ⟨t.2.1, t.2.2.1⟩
    · exact absurd (by rw [← e]; exact mz) f
  have nq : ∀ z : Nat, z ∈ L → (z = P.le l ∨ (z = q ∧ z ∈ L)) → P.kd z = 31 ∧ P.ow z = l := fun z mz e => by
    rcases e with e | e
    · exact nle z mz e
    · exact nle z mz (e.1.trans (w.2.2.2.2 (by rw [← e.1]; exact mz)))
  refine h.step G cl n0 c (fun e => ?_) (fun z mz kz oz e => ?_) (fun z mz kz ez e => ?_)
  · rcases e with e | e
    · exact hl e.symm
    · have t := (nq lr cl.1 e).1
      rw [cl.2.1] at t; omega
  · rcases e with e | e
    · rw [e] at kz; omega
    · have t := (nq z mz e).2
      rw [oz] at t; exact hl t.symm
  · rcases e with e | e
    · rw [e] at kz; omega
    · have t := (nq z mz e).1
      omega
end BLR11
theorem TKQ.top {k p a : Int} (h : TKQ k p a) : TKV k (a - p) ≤ 90 * (a - p) ∧ TKW k (a - p) ≤ 13 * (a - p) := by
  have s := TKV.spec k (a - p)
  have t := h.2.2.2
  have u := h.1
  omega
theorem STW.ok9 {P : PO} {x : Nat} (h : STW P x) (k : ROKR P x) : ROK9 P x := h.rok k
theorem GRW.d {a b c : Int} (h : GRW a b c) (x : 0 ≤ c) (y : 0 ≤ b) : a - b ≤ 2 * c := by rcases h with h | h <;> omega
