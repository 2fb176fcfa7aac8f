/-- T, and the rows of objects of the lists in T -/
def TS9 (T : Nat → Prop) (P : PO) (z : Nat) : Prop := T z ∨ (P.kd z = 31 ∧ T (P.ow z))
section BLK9
variable {E L L' M M2 : List Nat} {P P' Q Q2 : PO} {cO cI cZ : ClassId} {ed la x q : Nat} {T : Nat → Prop}
theorem GL1.chgo (g : GL1 x q L P L' P') (o : OWA L P cO ed) (mx : x ∈ L) (kx : P.kd x = 30) (fx : P.fl x = 1 ∨ P.le x ∉ L) : CHG (fun z => z = x ∨ (P.kd z = 31 ∧ P.ow z = x)) L P L' P' := g.chg.wk (fun z m s => by
  rcases s with s | s
  · exact Or.inl s
  · rcases fx with f | f
    · have w := (o x mx kx).2 f
      rw [s]; exact Or.inr ⟨w.2.1, w.2.2.1⟩
    · exact absurd (by rw [← s]; exact m) f)
theorem CLR.chgo (c : CLR x L P P') (o : OWA L P cO ed) (mx : x ∈ L) (kx : P.kd x = 30) : CHG (fun z => z = x ∨ (P.kd z = 31 ∧ P.ow z = x)) L P L P' := fun z m n => by
  obtain ⟨w, _, f⟩ := c
  have oa : P'.oa z = P.oa z := by
    rcases f with f | f
    · have d := (o x mx kx).2 f.1
      exact w.2.2.2 z (fun e => n (Or.inr (by rw [e]; exact ⟨d.2.1, d.2.2.1⟩)))
    · exact f z
  exact ⟨m, fun f => w.2.2.1 z (fun e => n (Or.inl e)) f, fun f => by rw [w.1], oa, by show P'.2.2.2.1 z = P.2.2.2.1 z; rw [w.2.1], by show P'.2.2.2.2 z = P.2.2.2.2 z; rw [w.2.1]⟩
theorem CHG.step (h : CHG (TS9 T P) L P M Q) (k : CHG (fun z => z = x ∨ (Q.kd z = 31 ∧ Q.ow z = x)) M Q M2 Q2) (t : T x) : CHG (TS9 T P) L P M2 Q2 := h.trans2 k (fun z m n s q => by
  rcases q with q | ⟨q1, q2⟩
  · exact n (Or.inl (by rw [q]; exact t))
  · have e0 : Q.kd z = P.kd z := s.2.1 0
    have e9 : Q.ow z = P.ow z := s.2.1 9
    exact n (Or.inr ⟨by rw [← e0]; exact q1, by rw [← e9, q2]; exact t⟩))
theorem EXT9.chgo (e : EXT9 L P L' P') : CHG (TS9 T P) L P L' P' := e.chg.wk (fun _ _ q => q.elim)
theorem CLR.lz {y : Nat} (c : CLR x L P P') (n : y ≠ x) : P'.lz y = P.lz y := c.1.2.2.1 y n 0
theorem CLR.cap (c : CLR x L P P') (y : Nat) : P'.cap y = P.cap y := by unfold PO.cap PO.fl PO.le PO.an; rw [c.1.1]
theorem GLF.owc (h : GLF L P cO cI cZ ed) : OWC L P := h.2.2.2.2
theorem ek_ne {P : PO} {x y a b : Nat} (h : P.ek x = a) (k : P.ek y = b) (n : a ≠ b) : x ≠ y := fun e => n (by rw [← h, ← k, e])
theorem GL1.elast (g : GL1 x q L P L' P') {y : Nat} (a : P'.oa q (P.lz x).toNat = some y) : P'.el x (P.lz x) = y := by
  have le : P'.le x = q := g.1.2.2.2.1
  unfold PO.el; rw [le, a]; rfl
/-- a block taken from the list lb, or made, and put behind la -/
def CB9 (la lb x : Nat) (n : Int) (L : List Nat) (P : PO) (L' : List Nat) (P' : PO) : Prop := (x ∈ L' ∧ P'.kd x = 12 ∧ x = P'.el lb n ∧ x = P'.el la (P.lz la) ∧ P'.lz (P'.bp x) = 0 ∧ P'.lz (P'.br x) = 0) ∧ (P'.lz la = P.lz la + 1 ∧ n + 1 ≤ P'.lz lb ∧ (P'.lz lb = P.lz lb ∨ (P'.lz lb = P.lz lb + 1 ∧ n = P.lz lb))) ∧ (∀ i : Int, 0 ≤ i → i < P.lz la → P'.el la i = P.el la i) ∧ (∀ i : Int, 0 ≤ i → i < P.lz lb → P'.el lb i = P.el lb i) ∧ CHG (TS9 (fun z => z = la ∨ z = lb ∨ z = P'.bp x ∨ z = P'.br x) P) L P L' P'
theorem CLR.elO {l : Nat} {i : Int} (c : CLR x L P P') (o : OWA L P cO ed) (mx : x ∈ L) (kx : P.kd x = 30) (ml : l ∈ L) (kl : P.kd l = 30) (n : l ≠ x) (i0 : 0 ≤ i) (i1 : i < P.lz l) : P'.el l i = P.el l i := by
  obtain ⟨w, _, f⟩ := c
  rcases f with f | f
  · exact o.els w mx kx f.1 ml kl n i0 i1
  · have le : P'.le l = P.le l := by show P'.2.1 1 l = P.2.1 1 l; rw [w.1]
    unfold PO.el; rw [le, f]
theorem GL1.capO {y q : Nat} {L' : List Nat} (h : OWA L P cO ed) (w : GL1 x q L P L' P') (mx : x ∈ L) (kx : P.kd x = 30) (fx : P.fl x = 1 ∨ P.le x ∉ L) (m : y ∈ L) (k : P.kd y = 30) (n : y ≠ x) : P'.cap y = P.cap y := by
  have s := w.sm y m n (h.nle mx kx fx m (by omega))
  have fl : P'.fl y = P.fl y := s.2.1 7
  have le : P'.le y = P.le y := s.2.1 1
  unfold PO.cap
  rw [fl, le]
  by_cases f : P.fl y = 1
  · rw [if_pos f, if_pos f]
    obtain ⟨a, b, c, _⟩ := (h y m k).2 f
    have n3 : P.le y ≠ x := kd_ne b kx (by decide)
    have n4 : P.le y ≠ P.le x := fun e2 => by
      rcases fx with g | g
      · exact n (by rw [← c, e2, ((h x mx kx).2 g).2.2.1])
      · exact g (by rw [← e2]; exact a)
    have s2 := w.sm _ a n3 n4
    have an : P'.an (P.le y) = P.an (P.le y) := s2.2.1 1
    rw [an]
  · rw [if_neg f, if_neg f]
end BLK9
