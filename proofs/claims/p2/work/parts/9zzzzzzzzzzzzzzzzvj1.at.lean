/-! a function in hand beside the whole pool of its Code: put down, and taken in hand again -/
/-- the whole pool of a Code, told weakly, and its function: rows from n on and PHIs from p on are not taken; at least s slots and c / 40 cells have come -/
def ATB (L : List Nat) (Q : PO) (cO cI cZ : ClassId) (ed la lb lr lp : Nat) (n p s c : Int) : Prop := (GLR L Q cO cI cZ ed ∧ FOK L Q cO cI cZ la ∧ LVA L Q) ∧ (CLF L Q lb 12 ∧ CLF L Q lr 17 ∧ CLF L Q lp 15 ∧ lb ≠ la) ∧ ((∀ k : Int, n ≤ k → k < Q.lz lr → ¬ FNP Q la (Q.el lr k)) ∧ ∀ k : Int, p ≤ k → k < Q.lz lp → ¬ FNP Q la (Q.el lp k)) ∧ (DSL Q lr ∧ DSL Q lp ∧ 0 ≤ n ∧ n ≤ Q.lz lr ∧ 0 ≤ p ∧ p ≤ Q.lz lp ∧ Q.lz lr ≤ 4164 ∧ Q.lz lp ≤ 4164) ∧ s ≤ PSI wSL L Q ∧ c ≤ PSI wCE L Q
/-- the same, P bears kinds of its own -/
def ATW (L : List Nat) (P : PO) (cO cI cZ : ClassId) (ed la lb lr lp : Nat) (n p s c : Int) : Prop := ∃ g : Nat → Nat, pE (P.kin g) = pE P ∧ (∀ z : Nat, z ∈ L → 43 ≤ P.kd z → g z = P.kd z) ∧ ATB L (P.kin g) cO cI cZ ed la lb lr lp n p s c
/-- the same, with the function in hand: all but F is parked -/
def ATT (L : List Nat) (P : PO) (cO cI cZ : ClassId) (ed la lb lr lp : Nat) (n p s c : Int) : Prop := ∃ (Q : PO) (F : Nat → Prop), P = Q.park F ∧ FCL L Q F ∧ (F la ∧ ¬ F lb ∧ ¬ F lr ∧ ¬ F lp) ∧ ((∀ k : Int, n ≤ k → k < Q.lz lr → ¬ F (Q.el lr k)) ∧ ∀ k : Int, p ≤ k → k < Q.lz lp → ¬ F (Q.el lp k)) ∧ ATB L Q cO cI cZ ed la lb lr lp n p s c
section ATT9
variable {L L' E : List Nat} {P P' Q Q' : PO} {F : Nat → Prop} {cO cI cZ : ClassId} {ed la lb lr lp x z : Nat} {n p s c s' c' : Int}
theorem ATB.le (h : ATB L Q cO cI cZ ed la lb lr lp n p s c) (a : s' ≤ s) (b : c' ≤ c) : ATB L Q cO cI cZ ed la lb lr lp n p s' c' := ⟨h.1, h.2.1, h.2.2.1, h.2.2.2.1, Int.le_trans a h.2.2.2.2.1, Int.le_trans b h.2.2.2.2.2⟩
theorem ATW.le (h : ATW L P cO cI cZ ed la lb lr lp n p s c) (a : s' ≤ s) (b : c' ≤ c) : ATW L P cO cI cZ ed la lb lr lp n p s' c' := by
  obtain ⟨g, e, t, h⟩ := h
  exact ⟨g, e, t, h.le a b⟩
theorem ATT.le (h : ATT L P cO cI cZ ed la lb lr lp n p s c) (a : s' ≤ s) (b : c' ≤ c) : ATT L P cO cI cZ ed la lb lr lp n p s' c' := by
  obtain ⟨Q, F, e, f, l, u, h⟩ := h
  exact ⟨Q, F, e, f, l, u, h.le a b⟩
/-- what the function holds bears kinds that are not parked -/
theorem GLR.fnk9 (h : GLR L P cO cI cZ ed) (hed : ed ∉ L) (cl : CLF L P la 12) (m : z ∈ L) (f : FNP P la z) : K89 (P.kd z) := by
  unfold K89
  rcases h.fnk hed cl m f with ⟨_, q, _⟩ | ⟨_, q, _⟩ | ⟨b, _, q⟩
  · omega
  · omega
  · rcases q with ⟨_, q⟩ | ⟨_, q⟩ | ⟨_, q, _⟩ | ⟨_, q, _⟩ | ⟨_, q, _⟩ | ⟨_, q, _⟩ | ⟨j, _, _, q⟩ | ⟨j, _, _, q⟩
    · omega
    · omega
    · omega
    · omega
    · omega
    · omega
    · omega
    · rcases q with ⟨_, q⟩ | ⟨q, _⟩
      · omega
      · omega
/-- a list of the Code's own is not the function's -/
theorem GLR.fnl (h : GLR L P cO cI cZ ed) (hed : ed ∉ L) (cl : CLF L P la 12) {l : Nat} {k : Nat} (w : CLF L P l k) (ne : l ≠ la) : ¬ FNP P la l := fun f => by
  have blk : ∀ b : Int, 0 ≤ b → b < P.lz la → P.kd (P.el la b) = 12 := fun b b0 b1 => by
    have q := (h.1.1 la cl.1 cl.2.1).1
    rw [cl.2.2.1] at q
    exact (q.2.2.2.2 b b0 b1).2.2
  have k30 := w.2.1
  have ow := w.2.2.2
  rcases h.fnk hed cl w.1 f with ⟨q, _⟩ | ⟨_, q, _⟩ | ⟨b, br, q⟩
  · exact ne q
  · omega
  · have kb := blk b br.1 br.2
    rcases q with ⟨_, q⟩ | ⟨_, q⟩ | ⟨_, _, q⟩ | ⟨_, _, q⟩ | ⟨_, q, _⟩ | ⟨_, q, _⟩ | ⟨j, _, _, q⟩ | ⟨j, _, _, q⟩
    · omega
    · omega
    · rw [ow] at q; rw [q] at k30; omega
    · rw [ow] at q; rw [q] at k30; omega
    · omega
    · omega
    · omega
    · rcases q with ⟨_, q⟩ | ⟨q, _⟩
      · omega
      · omega
/-- nor is its row -/
theorem GLR.fnr (h : GLR L P cO cI cZ ed) (hed : ed ∉ L) (cl : CLF L P la 12) {l : Nat} {k : Nat} (w : CLF L P l k) (ne : l ≠ la) (m : z ∈ L) (kz : P.kd z = 31) (oz : P.ow z = l) : ¬ FNP P la z := fun f => by
  have blk : ∀ b : Int, 0 ≤ b → b < P.lz la → P.el la b ∈ L ∧ P.kd (P.el la b) = 12 := fun b b0 b1 => by
    have q := (h.1.1 la cl.1 cl.2.1).1
    rw [cl.2.2.1] at q
    exact (q.2.2.2.2 b b0 b1).2
  have k30 := w.2.1
  have ow := w.2.2.2
  rcases h.fnk hed cl m f with ⟨_, q, _⟩ | ⟨_, _, q⟩ | ⟨b, br, q⟩
  · omega
  · exact ne (oz.symm.trans q)
  · obtain ⟨mb, kb⟩ := blk b br.1 br.2
    have oc := h.2.2.2.2 _ mb kb
    rcases q with ⟨_, q⟩ | ⟨_, q⟩ | ⟨_, q, _⟩ | ⟨_, q, _⟩ | ⟨_, _, q⟩ | ⟨_, _, q⟩ | ⟨j, _, _, q⟩ | ⟨j, _, _, q⟩
    · omega
    · omega
    · omega
    · omega
    · rw [oz] at q; rw [q] at ow; have v := oc.1.2.1; rw [v] at ow; rw [q, ← ow] at k30; omega
    · rw [oz] at q; rw [q] at ow; have v := oc.2.2.1; rw [v] at ow; rw [q, ← ow] at k30; omega
    · omega
    · rcases q with ⟨_, q⟩ | ⟨q, _⟩
      · omega
      · omega
theorem NHD9.fnp : NHD9 (fun z => ¬ FNP P la z) P la := ⟨⟨fun q => q (Or.inl rfl), fun q => q (Or.inr (Or.inl rfl))⟩, fun b b0 b1 =>
  ⟨⟨fun q => q (Or.inr (Or.inr ⟨b, ⟨b0, b1⟩, Or.inl rfl⟩)), fun q => q (Or.inr (Or.inr ⟨b, ⟨b0, b1⟩, Or.inr (Or.inl rfl)⟩))⟩,
   ⟨fun q => q (Or.inr (Or.inr ⟨b, ⟨b0, b1⟩, Or.inr (Or.inr (Or.inr (Or.inl rfl)))⟩)), fun _ q => q (Or.inr (Or.inr ⟨b, ⟨b0, b1⟩, Or.inr (Or.inr (Or.inr (Or.inr (Or.inr (Or.inl rfl)))))⟩)), fun k k0 k1 =>
     ⟨fun q => q (Or.inr (Or.inr ⟨b, ⟨b0, b1⟩, Or.inr (Or.inr (Or.inr (Or.inr (Or.inr (Or.inr (Or.inr ⟨k, ⟨k0, k1⟩, Or.inl rfl⟩))))))⟩)), fun q => q (Or.inr (Or.inr ⟨b, ⟨b0, b1⟩, Or.inr (Or.inr (Or.inr (Or.inr (Or.inr (Or.inr (Or.inr ⟨k, ⟨k0, k1⟩, Or.inr (Or.inl rfl)⟩))))))⟩)), fun q => q (Or.inr (Or.inr ⟨b, ⟨b0, b1⟩, Or.inr (Or.inr (Or.inr (Or.inr (Or.inr (Or.inr (Or.inr ⟨k, ⟨k0, k1⟩, Or.inr (Or.inr (Or.inl rfl))⟩))))))⟩)), fun q => q (Or.inr (Or.inr ⟨b, ⟨b0, b1⟩, Or.inr (Or.inr (Or.inr (Or.inr (Or.inr (Or.inr (Or.inr ⟨k, ⟨k0, k1⟩, Or.inr (Or.inr (Or.inr rfl))⟩))))))⟩))⟩⟩,
   fun q => q (Or.inr (Or.inr ⟨b, ⟨b0, b1⟩, Or.inr (Or.inr (Or.inl rfl))⟩)), fun _ q => q (Or.inr (Or.inr ⟨b, ⟨b0, b1⟩, Or.inr (Or.inr (Or.inr (Or.inr (Or.inl rfl))))⟩)), fun k k0 k1 q => q (Or.inr (Or.inr ⟨b, ⟨b0, b1⟩, Or.inr (Or.inr (Or.inr (Or.inr (Or.inr (Or.inr (Or.inl ⟨k, ⟨k0, k1⟩, rfl⟩))))))⟩))⟩⟩
/-- where nothing of the function has changed, it is as it was -/
theorem GLR.fne (h : GLR L Q cO cI cZ ed) (hed : ed ∉ L) (f : FOK L Q cO cI cZ la) (l0 : 0 < Q.lz la) (e : ∀ z : Nat, z ∈ L → FNP Q la z → z ∈ L' ∧ SM9 z Q Q') : FNE Q Q' la := by
  have a := h.hand hed f
  have c : CHG (fun z => ¬ FNP (Q.park (FNP Q la)) la z) L (Q.park (FNP Q la)) L' Q' := fun z m nz => by
    have fz : FNP Q la z := Classical.byContradiction nz
    obtain ⟨m1, s1, s2, s3, s4, s5⟩ := e z m fz
    refine ⟨m1, s1, fun g => ?_, s3, s4, s5⟩
    by_cases g0 : g = 0
    · rw [g0]; exact (s2 0).trans (park_in (P := Q) (F := FNP Q la) fz).symm
    · show Q'.2.1 g z = (if g = 0 then _ else Q.2.1 g z)
      rw [if_neg g0]; exact s2 g
  show FNE (Q.park (FNP Q la)) Q' la
  exact CHG.fne c a l0 NHD9.fnp
theorem GLR.lzf (h : GLR L Q cO cI cZ ed) (cl : CLF L Q la 12) (z : Q.lz la ≠ 0) : Q.fl la = 1 := h.2.2.2.1.fl1 cl.1 cl.2.1 z
/-- a function put down is in hand again: nothing has been done -/
theorem ATB.hand (h : ATB L Q cO cI cZ ed la lb lr lp n p s c) (hed : ed ∉ L) : ALP L (Q.park (FNP Q la)) cO cI cZ ed la ∧ ATT L (Q.park (FNP Q la)) cO cI cZ ed la lb lr lp n p s c := by
  obtain ⟨⟨g, f, v⟩, ⟨c1, c2, c3, ne⟩, u, d⟩ := h
  have n2 : lr ≠ la := fun e => by have a := c2.2.2.1; have b := f.1.2.2.1; rw [e] at a; omega
  have n3 : lp ≠ la := fun e => by have a := c3.2.2.1; have b := f.1.2.2.1; rw [e] at a; omega
  exact ⟨g.hand hed f, Q, _, rfl, g.fcl hed f.1, ⟨Or.inl rfl, g.fnl hed f.1 c1 ne, g.fnl hed f.1 c2 n2, g.fnl hed f.1 c3 n3⟩, u, ⟨g, f, v⟩, ⟨c1, c2, c3, ne⟩, u, d⟩
end ATT9
