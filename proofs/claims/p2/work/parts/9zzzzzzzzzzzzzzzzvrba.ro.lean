/-! LMZ: LMT, and the function's blocks are the first of the Code's -/
def LBZ (P : PO) (la lb : Nat) : Prop := P.lz la ≤ P.lz lb ∧ ∀ c : Int, 0 ≤ c → c < P.lz la → P.el la c = P.el lb c
def LMZ (L : List Nat) (P : PO) (la lb lr lp : Nat) : Prop := LMT L P la lb lr lp ∧ LBZ P la lb
section LMZ9
variable {L L' : List Nat} {P P' Q Q' : PO} {cO cI cZ : ClassId} {ed la lb lr lp x q l b : Nat} {n p s c : Int}
theorem LMT.dst (h : LMT L P la lb lr lp) : DST P lb := h.1.2
theorem LBZ.same (h : LBZ P la lb) (a : P'.lz la = P.lz la) (a' : ∀ i : Int, 0 ≤ i → i < P.lz la → P'.el la i = P.el la i) (b : P'.lz lb = P.lz lb ∧ ∀ i : Int, 0 ≤ i → i < P.lz lb → P'.el lb i = P.el lb i) : LBZ P' la lb := ⟨by rw [a, b.1]; exact h.1, fun c c0 c1 => by
  rw [a] at c1
  rw [a' c c0 c1, b.2 c c0 (Int.lt_of_lt_of_le c1 h.1)]; exact h.2 c c0 c1⟩
theorem LBZ.kin {g : Nat → Nat} (h : LBZ P la lb) : LBZ (P.kin g) la lb := h
theorem LMZ.chx {k : Nat} (h : LMZ L P la lb lr lp) (hed : ed ∉ L') (c : CHX k L P L' P') : LMZ L' P' la lb lr lp := by
  have hed0 : ed ∉ L := fun m => hed (c.1 ed m).1
  have ne : ∀ l : Nat, l ∈ L → l ≠ ed := fun l m e => hed0 (by rw [← e]; exact m)
  have g : ∀ z : Nat, z ∈ L → z ≠ ed → (P.kc z = 0 → P.ow z ≠ ed) → z ∈ L' ∧ (P.kc z = 18 → P'.lz z = P.lz z) ∧ (∀ f : Nat, P'.2.1 f z = P.2.1 f z) ∧ P'.oa z = P.oa z := fun z m _ _ => by
    have t := c.1 z m; exact ⟨t.1, fun _ => t.2.1 0, t.2.2.1, t.2.2.2.1⟩
  have a := h.1.la9 g (fun m => absurd m hed0) (ne _ (h.1.2.1.1 la (Or.inl rfl)).1) (Or.inl rfl)
  have b := h.1.la9 g (fun m => absurd m hed0) (ne _ (h.1.2.1.1 lb (Or.inr (Or.inl rfl))).1) (Or.inr (Or.inl rfl))
  exact ⟨h.1.chx hed0 c, h.2.same a.1 a.2 b⟩
theorem LMZ.kin {g : Nat → Nat} (h : LMZ L P la lb lr lp) (e : pE (P.kin g) = pE P) : LMZ L (P.kin g) la lb lr lp := ⟨h.1.kin e, LBZ.kin h.2⟩
theorem LMZ.park (h : LMZ L P la lb lr lp) (F : Nat → Prop) : LMZ L (P.park F) la lb lr lp := LMZ.kin h (funext (pE_park P F))
theorem LMZ.rw1 (h : LMZ L P la lb lr lp) (w : RW1 x P P') (k : P.kc x ≠ 18) : LMZ L P' la lb lr lp := by
  have nx : ∀ l : Nat, P.kc l = 18 → l ≠ x := fun l q e => k (by rw [← e]; exact q)
  have r : ∀ l : Nat, l = la ∨ l = lb ∨ l = lr ∨ l = lp → P'.lz l = P.lz l ∧ ∀ i : Int, 0 ≤ i → i < P.lz l → P'.el l i = P.el l i := fun l m => ⟨w.2 l (nx l (h.1.2.1.1 l m).2) 0, fun i _ _ => by unfold PO.el PO.le PO.oa; rw [w.1]⟩
  exact ⟨h.1.rw1 w k, h.2.same (r la (Or.inl rfl)).1 (r la (Or.inl rfl)).2 (r lb (Or.inr (Or.inl rfl)))⟩
theorem LMZ.rw17 (h : LMZ L P la lb lr lp) (w : RW1 x P P') (k : P.kd x = 17) : LMZ L P' la lb lr lp := h.rw1 w (by rw [kc17 k]; decide)
theorem LMZ.gl1 (h : LMZ L P la lb lr lp) (l' : LMT L' P' la lb lr lp) (g : GL1 x q L P L' P') (mx : x ∈ L) (kx : P.kd x = 30) (fx : P.fl x = 1 ∨ P.le x ∉ L) (n1 : la ≠ x) (n2 : lb ≠ x) : LMZ L' P' la lb lr lp := by
  have a := h.1.la9 (gl1_sm9 h.1 g mx kx fx) (fun _ => Or.inl (kc30 kx)) n1 (Or.inl rfl)
  have b := h.1.la9 (gl1_sm9 h.1 g mx kx fx) (fun _ => Or.inl (kc30 kx)) n2 (Or.inr (Or.inl rfl))
  exact ⟨l', h.2.same a.1 a.2 b⟩
theorem LMZ.row (h : LMZ L Q la lb lr lp) (b : ATB L Q cO cI cZ ed la lb lr lp n p s c) (k : KEG [lr] L Q L' Q') (G' : GLR L' Q' cO cI cZ ed) (w : CRH lr x n L Q L' Q') (e : x = Q'.el lr n ∧ (∀ i : Int, 0 ≤ i → i < Q.lz lr → Q'.el lr i = Q.el lr i) ∧ (Q'.lz lr = Q.lz lr ∨ (Q'.lz lr = Q.lz lr + 1 ∧ n = Q.lz lr ∧ x ∉ L))) (nw : NWO x L Q L' Q') (n4 : n < 4164) : LMZ L' Q' la lb lr lp := by
  obtain ⟨⟨G, f, v⟩, ⟨c1, c2, c3, ne⟩, _, ⟨d1, d2, n0, _⟩, _⟩ := b
  have c0 := f.1
  have a := k.list9 c0 (fun e => by have t := c0.2.2.1; rw [e, c2.2.2.1] at t; omega)
  have b := k.list9 c1 (fun e => by have t := c1.2.2.1; rw [e, c2.2.2.1] at t; omega)
  exact ⟨h.1.row G G' c0 c1 c2 c3 k w e nw n0 n4, h.2.same a.1 a.2 b⟩
theorem LMZ.keg (h : LMZ L P la lb lr lp) (t : ATT L P cO cI cZ ed la lb lr lp n p s c) (a : ALP L P cO cI cZ ed la) (k : KEG [] L P L P') (g : GLR L P' cO cI cZ ed) (e : P'.2.1 = P.2.1) : LMZ L P' la lb lr lp := by
  have r := ((k.1 la a.lok.1 (by rw [a.lok.2.1]; decide)).2.2.2.1 a.lok.2.1 t.ow).2 (by simp)
  exact ⟨h.1.keg t k g e, h.2.same r.1 r.2 (t.lists k lb (Or.inl rfl))⟩
theorem LMZ.brn (h : LMZ L P la lb lr lp) (g : GL1 x q L P L' P') (mx : x ∈ L) (kx : P.kd x = 30) (fx : P.fl x = 1 ∨ P.le x ∉ L) (mb : b ∈ L) (kb : P.kd b = 12) (ex : x = P.br b) (cx : P'.cap x ≤ 1851 ∨ P'.cap x ≤ P.cap x) : LMZ L' P' la lb lr lp := h.gl1 (h.1.brn g mx kx fx mb kb ex cx) g mx kx fx (h.1.nel mb kb (Or.inl ex) (Or.inl rfl)) (h.1.nel mb kb (Or.inl ex) (Or.inr (Or.inl rfl)))
end LMZ9
