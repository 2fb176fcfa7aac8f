/-! a text's blocks over the whole pool: what is read is strong -/
section BLR9
variable {L L' E : List Nat} {P P' : PO} {cO cI cZ : ClassId} {ed la lb lr x : Nat} {n m : Int}
/-- the first n rows of a Code are in their ranges -/
def RWS9 (P : PO) (lr : Nat) (n : Int) : Prop := ∀ k : Int, 0 ≤ k → k < n → ROK9 P (P.el lr k)
/-- rows of a function are among the first n of its Code, its ENDs have an operand in range -/
def BRO (P : PO) (la lr : Nat) (n : Int) : Prop := ∀ b : Int, 0 ≤ b → b < P.lz la → (∀ j : Int, 0 ≤ j → j < P.lz (P.br (P.el la b)) → ∃ k : Int, (0 ≤ k ∧ k < n) ∧ P.el (P.br (P.el la b)) j = P.el lr k) ∧ OPQ (P.rA (P.be (P.el la b))) (P.ra (P.be (P.el la b)))
def PGF (rp : Int) (L : List Nat) (P : PO) (cO cI cZ : ClassId) (la : Nat) : Prop := rp < 0 → FOK L P cO cI cZ la ∧ CMP P la ∧ (1 ≤ P.lz la ∧ P.lz la ≤ 60 ∧ P.tot 2 la ≤ 200 ∧ P.tot 1 la = 0)
theorem RWS9.none (P : PO) (lr : Nat) : RWS9 P lr 0 := fun k k0 k1 => by omega
theorem BRO.none (z : P.lz la = 0) : BRO P la lr n := fun b b0 b1 => by omega
theorem BRO.le (h : BRO P la lr n) (l : n ≤ m) : BRO P la lr m := fun b b0 b1 => ⟨fun j j0 j1 => by
  obtain ⟨k, ⟨k0, k1⟩, e⟩ := (h b b0 b1).1 j j0 j1
  exact ⟨k, ⟨k0, by omega⟩, e⟩, (h b b0 b1).2⟩
/-- where a row stands in a list it is a row of the pool -/
theorem GLR.inr (G : GLR L P cO cI cZ ed) (c : CLF L P lr 17) {k : Int} (k0 : 0 ≤ k) (k1 : k < P.lz lr) : P.el lr k ∈ L ∧ P.kd (P.el lr k) = 17 := by
  have l := (G.1.1 lr c.1 c.2.1).1
  rw [c.2.2.1] at l
  exact ⟨(l.2.2.2.2 k k0 k1).2.1, (l.2.2.2.2 k k0 k1).2.2⟩
theorem GLR.inb (G : GLR L P cO cI cZ ed) (c : CLF L P la 12) {k : Int} (k0 : 0 ≤ k) (k1 : k < P.lz la) : P.el la k ∈ L ∧ P.kd (P.el la k) = 12 := by
  have l := (G.1.1 la c.1 c.2.1).1
  rw [c.2.2.1] at l
  exact ⟨(l.2.2.2.2 k k0 k1).2.1, (l.2.2.2.2 k k0 k1).2.2⟩
theorem RWS9.chg {S : Nat → Prop} (h : RWS9 P lr n) (c : CHG S L P L' P') (lk : ∀ k : Int, 0 ≤ k → k < n → P.el lr k ∈ L ∧ P'.el lr k = P.el lr k) (s : ∀ k : Int, 0 ≤ k → k < n → S (P.el lr k) → ROK9 P' (P.el lr k)) : RWS9 P' lr n := fun k k0 k1 => by
  obtain ⟨mm, e⟩ := lk k k0 k1
  rw [e]
  by_cases q : S (P.el lr k)
  · exact s k k0 k1 q
  · exact (c _ mm q).2.rok9 (h k k0 k1)
/-- a row of the Code was taken: it is one of them -/
theorem RWS9.row (h : RWS9 P lr n) (G : GLR L P cO cI cZ ed) (hed : ed ∉ L) (cl : CLF L P lr 17) (n0 : n ≤ P.lz lr) (c : CR9 lr x n L P L' P') (G2 : GLR L' P' cO cI cZ ed) : RWS9 P' lr (n + 1) := by
  obtain ⟨⟨xm, xk, xe, ex⟩, _, ⟨t0, _, _, a0, b0, _⟩, el, ch⟩ := c
  have sx : ROK9 P' x := STW.rok ⟨by omega, OPQ.z a0, OPQ.z b0⟩ (G2.rokR xm xk)
  have old : RWS9 P' lr n := h.chg ch (fun k k0 k1 => ⟨(G.inr cl k0 (by omega)).1, el k k0 (by omega)⟩) (fun k k0 k1 q => by
    obtain ⟨mm, kk⟩ := G.inr cl k0 (show k < P.lz lr by omega)
    rcases q with q | q | q
    · rw [q]; exact sx
    · rw [q, cl.2.1] at kk; omega
    · have w := (G.lle hed cl.1 cl.2.1 (by rw [← q]; exact mm)).1
      rw [q, w] at kk; omega)
  intro k k0 k1
  by_cases e : k < n
  · exact old k k0 e
  · rw [show k = n by omega, ← ex]; exact sx
/-- the same as a Code's row() tells it with its cost -/
theorem RWS9.rowH (h : RWS9 P lr n) (G : GLR L P cO cI cZ ed) (cl : CLF L P lr 17) (n0 : n ≤ P.lz lr) (c : CRH lr x n L P L' P') (ex : x = P'.el lr n) (el : ∀ i : Int, 0 ≤ i → i < P.lz lr → P'.el lr i = P.el lr i) (t0 : P'.rt x = 0) (G2 : GLR L' P' cO cI cZ ed) : RWS9 P' lr (n + 1) := by
  obtain ⟨⟨xm, xk, xe⟩, _, ⟨a0, b0⟩, ch, _⟩ := c
  have sx : ROK9 P' x := STW.rok ⟨by omega, OPQ.z a0, OPQ.z b0⟩ (G2.rokR xm xk)
  have old : RWS9 P' lr n := h.chg ch (fun k k0 k1 => ⟨(G.inr cl k0 (by omega)).1, el k k0 (by omega)⟩) (fun k k0 k1 q => by
    obtain ⟨mm, kk⟩ := G.inr cl k0 (show k < P.lz lr by omega)
    rcases q with q | q | q
    · rw [q]; exact sx
    · rw [q, cl.2.1] at kk; omega
    · omega)
  intro k k0 k1
  by_cases e : k < n
  · exact old k k0 e
  · rw [show k = n by omega, ← ex]; exact sx
/-- something was changed: the rows that were changed are strong again -/
theorem RWS9.step {S : Nat → Prop} (h : RWS9 P lr n) (G : GLR L P cO cI cZ ed) (cl : CLF L P lr 17) (n0 : n ≤ P.lz lr) (c : CHG S L P L' P') (hl : ¬ S lr) (ha : ∀ z : Nat, z ∈ L → P.kd z = 31 → P.ow z = lr → ¬ S z) (s : ∀ z : Nat, z ∈ L → P.kd z = 17 → P.ek z ≠ 1 → S z → ROK9 P' z) : RWS9 P' lr n :=
  h.chg c (fun k k0 k1 => ⟨(G.inr cl k0 (by omega)).1, (c.lst G.owa cl.1 cl.2.1 hl ha).2.1 k k0 (by omega)⟩) (fun k k0 k1 q => s _ (G.inr cl k0 (by omega)).1 (G.inr cl k0 (by omega)).2 ((G.gla lr cl.1 cl.2.1).2.2 cl.2.2.1 k k0 (by omega)) q)
theorem RWS9.ext (h : RWS9 P lr n) (G : GLR L P cO cI cZ ed) (cl : CLF L P lr 17) (n0 : n ≤ P.lz lr) (u : EXT9 L P L' P') : RWS9 P' lr n := h.step (S := fun _ => False) G cl n0 (fun z m _ => u z m) (fun q => q) (fun _ _ _ _ q => q) (fun _ _ _ _ q => q.elim)
/-- a row was read -/
theorem RWS9.read (h : RWS9 P lr n) (G : GLR L P cO cI cZ ed) (cl : CLF L P lr 17) (n0 : n ≤ P.lz lr) (k : P.kd x = 17) (c : CHG (fun z => z = x) L P L' P') (r : ROK9 P' x) : RWS9 P' lr n := h.step G cl n0 c (fun q => by have := cl.2.1; rw [q] at this; omega) (fun z _ kz _ q => by rw [q] at kz; omega) (fun z _ _ _ q => by rw [q]; exact r)
/-- an END was read -/
theorem RWS9.ends (h : RWS9 P lr n) (G : GLR L P cO cI cZ ed) (cl : CLF L P lr 17) (n0 : n ≤ P.lz lr) (m : x ∈ L) (k : P.kd x = 12) (c : CHG (fun z => z = x ∨ z = P.be x) L P L' P') : RWS9 P' lr n := by
  obtain ⟨e1, e2, e3⟩ := (G.gb m k).1
  refine h.step G cl n0 c (fun q => ?_) (fun z _ kz _ q => ?_) (fun z _ kz ez q => ?_)
  · have w := cl.2.1
    rcases q with q | q
    · rw [q] at w; omega
    · rw [q] at w; omega
  · rcases q with q | q
    · rw [q] at kz; omega
    · rw [q] at kz; omega
  · rcases q with q | q
    · rw [q] at kz; omega
    · rw [q] at ez; exact absurd e3 ez
/-- a list other than the Code's own rows was changed, its row perhaps new -/
theorem RWS9.list {l q : Nat} (h : RWS9 P lr n) (hed : ed ∉ L) (G : GLR L P cO cI cZ ed) (cl : CLF L P lr 17) (n0 : n ≤ P.lz lr) (w : GL1 l q L P L' P') (m : l ∈ L) (k : P.kd l = 30) (hl : l ≠ lr) : RWS9 P' lr n := by
  have c : CHG (fun z => z = l ∨ z = P.le l ∨ (z = q ∧ z ∈ L)) L P L' P' := fun z mz nz => ⟨w.2.1 z mz (fun e => nz (Or.inr (Or.inl e))), w.2.2.2.1 z (fun e => nz (Or.inl e)) (fun e => nz (Or.inr (Or.inr ⟨e, mz⟩)))⟩
  have nle : ∀ z : Nat, z ∈ L → z = P.le l → P.kd z = 31 ∧ P.ow z = l := fun z mz e => by
    have t := G.lle hed m k (by rw [← e]; exact mz)
    rw [e]; exact t
  have nq : ∀ z : Nat, z ∈ L → (z = P.le l ∨ (z = q ∧ z ∈ L)) → P.kd z = 31 ∧ P.ow z = l := fun z mz e => by
    rcases e with e | e
    · exact nle z mz e
    · exact nle z mz (e.1.trans (w.2.2.2.2 (by rw [← e.1]; exact mz)))
  refine h.step G cl n0 c (fun e => ?_) (fun z mz kz oz e => ?_) (fun z mz kz ez e => ?_)
  · rcases e with e | e
    · exact hl e.symm
    · have t := (nq lr cl.1 e).1
      rw [cl.2.1] at t; omega
  · rcases e with e | e
    · rw [e] at kz; omega
    · have t := (nq z mz e).2
      rw [oz] at t; exact hl t.symm
  · rcases e with e | e
    · rw [e] at kz; omega
    · have t := (nq z mz e).1
      omega
/-- what was read of a text is a function -/
theorem BLS.fok {g : Int → Int} {rp r : Int} (b : BLS P la lb g n) (o : BRO P la lr m) (s : RWS9 P lr m) (G : GLR L P cO cI cZ ed) (ca : CLF L P la 12) (zz : P.lz la ≤ P.lz lb) (br : BRN rp (P.lz la) r) (z1 : 1 ≤ P.lz la) (tt : P.tot 2 la = r) (gk : GCK rp g n (P.lz la)) : PGF rp L P cO cI cZ la := fun q => by
  obtain ⟨z60, r200⟩ := br q
  have gk := gk q
  have gl : ∀ v : Int, GIN g n v → v < P.lz la := fun v h => by
    rcases h with h | ⟨k, k0, k1, e⟩
    · omega
    · rw [← e]; exact gk k k0 k1
  have ph : ∀ i : Int, 0 ≤ i → i < P.lz la → P.lz (P.bp (P.el la i)) = 0 := fun i i0 i1 => (b.2 i i0 i1).2.1
  refine ⟨⟨ca, by omega, fun i i0 i1 => ⟨gl _ (b.2 i i0 i1).2.2.1, gl _ (b.2 i i0 i1).2.2.2.1⟩, fun i j i0 ij j1 => ?_, fun y h j j0 j1 => ?_, fun c c0 c1 => ⟨?_, fun j j0 j1 => ?_, fun j j0 j1 => ?_⟩⟩, ⟨ph 0 (by omega) (by omega), fun c b0 b1 => ⟨by rw [ph _ b0 b1]; decide, (b.2 _ b0 b1).2.2.2.2⟩, fun p c _ _ b0 b1 _ _ i i0 i1 => ?_⟩, z1, z60, by omega, ?_⟩
  · rw [(b.2 i i0 (by omega)).1, (b.2 j (by omega) j1).1]; exact (b.1 i j i0 ij (by omega)).1
  · obtain ⟨k, k0, k1, e⟩ := h
    rw [e, ph k k0 k1] at j1; omega
  · obtain ⟨xm, xk⟩ := G.inb ca c0 c1
    obtain ⟨⟨e1, e2, e3⟩, _⟩ := G.1.2.1 _ xm xk
    have w := (b.2 c c0 c1).2.2.2.2
    exact G.end e1 e2 e3 (by omega) (o c c0 c1).2
  · obtain ⟨k, ⟨k0, k1⟩, e⟩ := (o c c0 c1).1 j j0 j1
    rw [e]; exact s k k0 k1
  · rw [ph c c0 c1] at j1; omega
  · rw [ph _ b0 b1] at i1; omega
  · unfold PO.tot
    exact (sumI_eq (g := fun _ => 0) (fun i i0 i1 => ph i i0 (by omega))).trans (sumI_zero _)
end BLR9
