/-! a list of ROWS of any block of the Code has grown, the limits kept -/
section ROB9
variable {L L' : List Nat} {P P' Z : PO} {cO cI cZ : ClassId} {ed la lb lr lp l q x b : Nat} {k n p s c : Int}
theorem LMT.brn (h : LMT L P la lb lr lp) (g : GL1 x q L P L' P') (mx : x ∈ L) (kx : P.kd x = 30) (fx : P.fl x = 1 ∨ P.le x ∉ L) (mb : b ∈ L) (kb : P.kd b = 12) (ex : x = P.br b) (cx : P'.cap x ≤ 1851 ∨ P'.cap x ≤ P.cap x) : LMT L' P' la lb lr lp := by
  have ob := h.2.2.1.2.2.1 _ mb (kc12 kb)
  have ol := h.2.2.1.2.2.2
  have kl := h.2.1.1
  have nl : ∀ l : Nat, l = la ∨ l = lb ∨ l = lr ∨ l = lp → x ≠ l := fun l e q => by
    have o := ol l e
    rw [← q, ex, ob.1] at o
    have k := (kl l e).2
    rw [← q, ex, ← o, kc12 kb] at k
    omega
  refine h.gl1 g mx kx fx ⟨nl _ (Or.inr (Or.inl rfl)), nl _ (Or.inr (Or.inr (Or.inl rfl))), nl _ (Or.inr (Or.inr (Or.inr rfl)))⟩ ⟨fun e => absurd e (nl _ (Or.inl rfl)), fun k k0 k1 => ⟨fun e k9 => ?_, fun e => ?_⟩⟩
  · have lim := (h.2.2.2.2 k k0 k1).1 k9
    rw [← e] at lim
    rcases cx with t | t <;> omega
  · have bk := (h.2.1.2.2.2 k k0 k1).1
    have o := (h.2.2.1.2.2.1 _ bk.1 bk.2).2.1
    rw [← e, ex, ob.1] at o
    exact absurd (ex.symm.trans (e.trans (by rw [← o]))) ob.2.2
theorem LMQ.brn (h : LMQ Z L P la lb lr lp) (g : GL1 x q L P L' P') (mx : x ∈ L) (kx : P.kd x = 30) (fx : P.fl x = 1 ∨ P.le x ∉ L) (mb : b ∈ L) (kb : P.kd b = 12) (ex : x = P.br b) (cx : P'.cap x ≤ 1851 ∨ P'.cap x ≤ P.cap x) : LMQ Z L' P' la lb lr lp := h.gl1 (h.1.brn g mx kx fx mb kb ex cx) g mx kx fx (h.1.nel mb kb (Or.inl ex) (Or.inl rfl)) (h.1.nel mb kb (Or.inl ex) (Or.inr (Or.inl rfl)))
theorem cap18 (v : LVC (P.cap l)) (v' : LVC (P'.cap l)) (g : LGW l P P') (z : P.lz l ≤ 1800) : P'.cap l ≤ 1851 ∨ P'.cap l ≤ P.cap l := by
  rcases g with e | e | ⟨e, e'⟩
  · omega
  · omega
  · unfold LVC at v v'; omega
/-- a function without ways -/
def PO.zz (P : PO) : PO := (fun _ _ => 0, P.2)
theorem LMQ.zz (h : LMQ Z L P la lb lr lp) (Q : PO) : LMQ Q.zz L P la lb lr lp := ⟨h.1, fun b k b0 b1 k0 k1 e => ⟨(h.2 b k b0 b1 k0 k1 e).1, fun _ m => by
  obtain ⟨p, q, hp, _⟩ := m
  have z : Q.zz.lz la = 0 := rfl
  omega⟩⟩
theorem FNP.rwn (w : RW1 x P P') (a : ALP L P cO cI cZ ed la) (hed : ed ∉ L) (ow : P.ow la = la) (nf : ¬ FNP P la x) : ¬ FNP P' la x := fun f => nf (a.glr.fns hed ⟨a.lok.1, a.lok.2.1, a.2.1.2.1, ow⟩ (fun z m q => ⟨m, fun g => w.2 z (fun e => nf (by rw [← e]; exact q)) g, fun g => by rw [w.1], by unfold PO.oa; rw [w.1], by unfold PO.ia; rw [w.1], by unfold PO.ac; rw [w.1]⟩) f)
end ROB9
