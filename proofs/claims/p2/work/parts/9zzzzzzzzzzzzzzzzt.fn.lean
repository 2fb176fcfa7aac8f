/-! the objects that a function has in hand: they hang together (FCL), so the others can be parked -/
def FNQ (P : PO) (q z : Nat) : Prop := z = q ∨ z = P.pp q ∨ z = P.pu q ∨ z = P.pr q
def FNB (P : PO) (x z : Nat) : Prop := z = x ∨ z = P.be x ∨ z = P.br x ∨ z = P.bp x ∨ z = P.le (P.br x) ∨ z = P.le (P.bp x) ∨ (∃ j : Int, (0 ≤ j ∧ j < P.lz (P.br x)) ∧ z = P.el (P.br x) j) ∨ ∃ j : Int, (0 ≤ j ∧ j < P.lz (P.bp x)) ∧ FNQ P (P.el (P.bp x) j) z
def FNP (P : PO) (la z : Nat) : Prop := z = la ∨ z = P.le la ∨ ∃ b : Int, (0 ≤ b ∧ b < P.lz la) ∧ FNB P (P.el la b) z
section FNP9
variable {L L' E : List Nat} {P P' : PO} {cO cI cZ : ClassId} {ed la x z : Nat}
/-- what of a block, told with its kind -/
def FNC (P : PO) (x z : Nat) : Prop := (z = x ∧ P.kd z = 12) ∨ (z = P.be x ∧ P.kd z = 17) ∨ (z = P.br x ∧ P.kd z = 30 ∧ P.ow z = x) ∨ (z = P.bp x ∧ P.kd z = 30 ∧ P.ow z = x) ∨ (z = P.le (P.br x) ∧ P.kd z = 31 ∧ P.ow z = P.br x) ∨ (z = P.le (P.bp x) ∧ P.kd z = 31 ∧ P.ow z = P.bp x) ∨ (∃ j : Int, (0 ≤ j ∧ j < P.lz (P.br x)) ∧ z = P.el (P.br x) j ∧ P.kd z = 17) ∨ ∃ j : Int, (0 ≤ j ∧ j < P.lz (P.bp x)) ∧ FNQ P (P.el (P.bp x) j) z ∧ ((z = P.el (P.bp x) j ∧ P.kd z = 15) ∨ ((P.kd z = 40 ∨ P.kd z = 41 ∨ P.kd z = 42) ∧ P.ow z = P.el (P.bp x) j))
theorem GLR.lle (h : GLR L P cO cI cZ ed) (hed : ed ∉ L) (m : x ∈ L) (k : P.kd x = 30) (n : P.le x ∈ L) : P.kd (P.le x) = 31 ∧ P.ow (P.le x) = x := by
  by_cases f : P.fl x = 1
  · have q := (h.2.2.2.1 x m k).2 f
    exact ⟨q.2.1, q.2.2.1⟩
  · have q := ((h.2.2.2.1 x m k).1 f).2
    rw [q] at n; exact absurd n hed
theorem GLR.fnc (h : GLR L P cO cI cZ ed) (hed : ed ∉ L) (mx : x ∈ L) (kx : P.kd x = 12) (m : z ∈ L) (f : FNB P x z) : FNC P x z := by
  obtain ⟨⟨c1, c2, c3, c4⟩, c5, c6, c7, c8⟩ := h.2.2.2.2 x mx kx
  obtain ⟨⟨b1, b2, b3⟩, b4⟩ := h.1.2.1 x mx kx
  have l1 := (h.1.1 _ c3 c4).1
  have l2 := (h.1.1 _ c7 c8).1
  rw [c1] at l1
  rw [c5] at l2
  rcases f with f | f | f | f | f | f | ⟨j, jr, f⟩ | ⟨j, jr, f⟩
  · exact Or.inl ⟨f, by rw [f]; exact kx⟩
  · exact Or.inr (Or.inl ⟨f, by rw [f]; exact b2⟩)
  · exact Or.inr (Or.inr (Or.inl ⟨f, by rw [f]; exact c4, by rw [f]; exact c2⟩))
  · exact Or.inr (Or.inr (Or.inr (Or.inl ⟨f, by rw [f]; exact c8, by rw [f]; exact c6⟩)))
  · have q := h.lle hed c3 c4 (by rw [← f]; exact m)
    exact Or.inr (Or.inr (Or.inr (Or.inr (Or.inl ⟨f, by rw [f]; exact q.1, by rw [f]; exact q.2⟩))))
  · have q := h.lle hed c7 c8 (by rw [← f]; exact m)
    exact Or.inr (Or.inr (Or.inr (Or.inr (Or.inr (Or.inl ⟨f, by rw [f]; exact q.1, by rw [f]; exact q.2⟩)))))
  · have q := l1.2.2.2.2 j jr.1 jr.2
    exact Or.inr (Or.inr (Or.inr (Or.inr (Or.inr (Or.inr (Or.inl ⟨j, jr, f, by rw [f]; exact q.2.2⟩))))))
  · have q := l2.2.2.2.2 j jr.1 jr.2
    obtain ⟨p1, p2, p3, p4, _⟩ := h.2.2.1 _ q.2.1 q.2.2
    refine Or.inr (Or.inr (Or.inr (Or.inr (Or.inr (Or.inr (Or.inr ⟨j, jr, f, ?_⟩))))))
    rcases f with f | f | f | f
    · exact Or.inl ⟨f, by rw [f]; exact q.2.2⟩
    · exact Or.inr ⟨by rw [f]; exact Or.inl p2.2.1, by rw [f]; exact p2.2.2.2⟩
    · exact Or.inr ⟨by rw [f]; exact Or.inr (Or.inl p3.2.1), by rw [f]; exact p3.2.2.2⟩
    · exact Or.inr ⟨by rw [f]; exact Or.inr (Or.inr p4.2.1), by rw [f]; exact p4.2.2.2⟩
/-- every object of a function by its kind -/
theorem GLR.fnk (h : GLR L P cO cI cZ ed) (hed : ed ∉ L) (c : CLF L P la 12) (m : z ∈ L) (f : FNP P la z) : (z = la ∧ P.kd z = 30 ∧ P.ow z = z) ∨ (z = P.le la ∧ P.kd z = 31 ∧ P.ow z = la) ∨ ∃ b : Int, (0 ≤ b ∧ b < P.lz la) ∧ FNC P (P.el la b) z := by
  rcases f with f | f | ⟨b, br, f⟩
  · exact Or.inl ⟨f, by rw [f]; exact c.2.1, by rw [f]; exact c.2.2.2⟩
  · have q := h.lle hed c.1 c.2.1 (by rw [← f]; exact m)
    exact Or.inr (Or.inl ⟨f, by rw [f]; exact q.1, by rw [f]; exact q.2⟩)
  · have l := (h.1.1 la c.1 c.2.1).1
    rw [c.2.2.1] at l
    have q := l.2.2.2.2 b br.1 br.2
    exact Or.inr (Or.inr ⟨b, br, h.fnc hed q.2.1 q.2.2 m f⟩)
theorem GLR.fcl (h : GLR L P cO cI cZ ed) (hed : ed ∉ L) (c : CLF L P la 12) : FCL L P (FNP P la) := by
  have top : FNP P la la := Or.inl rfl
  have inb : ∀ (b : Int) (y : Nat), 0 ≤ b ∧ b < P.lz la → FNB P (P.el la b) y → FNP P la y := fun b y br q => Or.inr (Or.inr ⟨b, br, q⟩)
  refine ⟨fun y m f k => ?_, fun y m f k => ?_, fun y m f k => ?_, fun y m f k1 k => ?_, fun y m f k => ?_⟩
  · rcases h.fnk hed c m f with ⟨e, _⟩ | ⟨_, q, _⟩ | ⟨b, br, q⟩
    · exact ⟨fun _ => by rw [e]; exact Or.inr (Or.inl rfl), fun i i0 i1 => by rw [e] at i1 ⊢; exact inb i _ ⟨i0, i1⟩ (Or.inl rfl)⟩
    · omega
    · rcases q with ⟨_, q⟩ | ⟨_, q⟩ | ⟨e, _⟩ | ⟨e, _⟩ | ⟨_, q, _⟩ | ⟨_, q, _⟩ | ⟨j, jr, _, q⟩ | ⟨j, jr, _, q⟩
      · omega
      · omega
      · exact ⟨fun _ => by rw [e]; exact inb b _ br (Or.inr (Or.inr (Or.inr (Or.inr (Or.inl rfl))))), fun i i0 i1 => by rw [e] at i1 ⊢; exact inb b _ br (Or.inr (Or.inr (Or.inr (Or.inr (Or.inr (Or.inr (Or.inl ⟨i, ⟨i0, i1⟩, rfl⟩)))))))⟩
      · exact ⟨fun _ => by rw [e]; exact inb b _ br (Or.inr (Or.inr (Or.inr (Or.inr (Or.inr (Or.inl rfl)))))), fun i i0 i1 => by rw [e] at i1 ⊢; exact inb b _ br (Or.inr (Or.inr (Or.inr (Or.inr (Or.inr (Or.inr (Or.inr ⟨i, ⟨i0, i1⟩, Or.inl rfl⟩)))))))⟩
      · omega
      · omega
      · omega
      · omega
  · rcases h.fnk hed c m f with ⟨_, q, _⟩ | ⟨_, q, _⟩ | ⟨b, br, q⟩
    · omega
    · omega
    · rcases q with ⟨e, _⟩ | ⟨_, q⟩ | ⟨_, q, _⟩ | ⟨_, q, _⟩ | ⟨_, q, _⟩ | ⟨_, q, _⟩ | ⟨j, jr, _, q⟩ | ⟨j, jr, _, q⟩
      · rw [e]
        exact ⟨inb b _ br (Or.inr (Or.inl rfl)), inb b _ br (Or.inr (Or.inr (Or.inl rfl))), inb b _ br (Or.inr (Or.inr (Or.inr (Or.inl rfl))))⟩
      · omega
      · omega
      · omega
      · omega
      · omega
      · omega
      · omega
  · rcases h.fnk hed c m f with ⟨_, q, _⟩ | ⟨_, q, _⟩ | ⟨b, br, q⟩
    · omega
    · omega
    · rcases q with ⟨_, q⟩ | ⟨_, q⟩ | ⟨_, q, _⟩ | ⟨_, q, _⟩ | ⟨_, q, _⟩ | ⟨_, q, _⟩ | ⟨j, jr, _, q⟩ | ⟨j, jr, _, q⟩
      · omega
      · omega
      · omega
      · omega
      · omega
      · omega
      · omega
      · rcases q with ⟨e, _⟩ | ⟨q, _⟩
        · rw [e]
          have go : ∀ y : Nat, FNQ P (P.el (P.bp (P.el la b)) j) y → FNP P la y := fun y w => inb b y br (Or.inr (Or.inr (Or.inr (Or.inr (Or.inr (Or.inr (Or.inr ⟨j, jr, w⟩)))))))
          exact ⟨go _ (Or.inr (Or.inl rfl)), go _ (Or.inr (Or.inr (Or.inl rfl))), go _ (Or.inr (Or.inr (Or.inr rfl)))⟩
        · omega
  · rcases h.fnk hed c m f with ⟨_, q, _⟩ | ⟨_, _, q⟩ | ⟨b, br, q⟩
    · omega
    · rw [q]; exact top
    · rcases q with ⟨_, q⟩ | ⟨_, q⟩ | ⟨_, q, _⟩ | ⟨_, q, _⟩ | ⟨_, _, q⟩ | ⟨_, _, q⟩ | ⟨j, jr, _, q⟩ | ⟨j, jr, w, q⟩
      · omega
      · omega
      · omega
      · omega
      · rw [q]; exact inb b _ br (Or.inr (Or.inr (Or.inl rfl)))
      · rw [q]; exact inb b _ br (Or.inr (Or.inr (Or.inr (Or.inl rfl))))
      · omega
      · rcases q with ⟨_, q⟩ | ⟨_, q⟩
        · omega
        · rw [q]; exact inb b _ br (Or.inr (Or.inr (Or.inr (Or.inr (Or.inr (Or.inr (Or.inr ⟨j, jr, Or.inl rfl⟩)))))))
  · rcases h.fnk hed c m f with ⟨_, _, q⟩ | ⟨_, q, _⟩ | ⟨b, br, q⟩
    · exact Or.inl q
    · omega
    · rcases q with ⟨_, q⟩ | ⟨_, q⟩ | ⟨_, _, q⟩ | ⟨_, _, q⟩ | ⟨_, q, _⟩ | ⟨_, q, _⟩ | ⟨j, jr, _, q⟩ | ⟨j, jr, _, q⟩
      · omega
      · omega
      · rw [q]; exact Or.inr (inb b _ br (Or.inl rfl))
      · rw [q]; exact Or.inr (inb b _ br (Or.inl rfl))
      · omega
      · omega
      · omega
      · omega
/-- the function's own ROWS, ENDs and PHIs are in their ranges -/
def FST (L : List Nat) (P : PO) (cI cZ : ClassId) (la : Nat) : Prop := ∀ b : Int, 0 ≤ b → b < P.lz la → ROK9 P (P.be (P.el la b)) ∧ (∀ j : Int, 0 ≤ j → j < P.lz (P.br (P.el la b)) → ROK9 P (P.el (P.br (P.el la b)) j)) ∧ ∀ j : Int, 0 ≤ j → j < P.lz (P.bp (P.el la b)) → PIK L P cI cZ (P.el (P.bp (P.el la b)) j)
/-- a function of a pool, told of it alone -/
def FOK (L : List Nat) (P : PO) (cO cI cZ : ClassId) (la : Nat) : Prop := CLF L P la 12 ∧ P.lz la ≤ 300 ∧ (∀ i : Int, 0 ≤ i → i < P.lz la → P.bf (P.el la i) < P.lz la ∧ P.bs (P.el la i) < P.lz la) ∧ (∀ i j : Int, 0 ≤ i → i < j → j < P.lz la → P.el la i ≠ P.el la j) ∧ PBK P la ∧ FST L P cI cZ la
/-- a function is taken in hand: what it does not hold is parked -/
theorem GLR.hand (h : GLR L P cO cI cZ ed) (hed : ed ∉ L) (f : FOK L P cO cI cZ la) : ALP L (P.park (FNP P la)) cO cI cZ ed la := by
  obtain ⟨c, z, g, d, b, s⟩ := f
  have cl := h.fcl hed c
  have G : GLF L (P.park (FNP P la)) cO cI cZ ed := h.park cl (fun y m f k => by
    rcases h.fnk hed c m f with ⟨_, q, _⟩ | ⟨_, q, _⟩ | ⟨b, br, q⟩
    · omega
    · omega
    · have sb := s b br.1 br.2
      rcases q with ⟨_, q⟩ | ⟨e, _⟩ | ⟨_, q, _⟩ | ⟨_, q, _⟩ | ⟨_, q, _⟩ | ⟨_, q, _⟩ | ⟨j, jr, e, _⟩ | ⟨j, jr, _, q⟩
      · omega
      · rw [e]; exact sb.1
      · omega
      · omega
      · omega
      · omega
      · rw [e]; exact sb.2.1 j jr.1 jr.2
      · omega) (fun y m f k => by
    rcases h.fnk hed c m f with ⟨_, q, _⟩ | ⟨_, q, _⟩ | ⟨b, br, q⟩
    · omega
    · omega
    · have sb := s b br.1 br.2
      rcases q with ⟨_, q⟩ | ⟨_, q⟩ | ⟨_, q, _⟩ | ⟨_, q, _⟩ | ⟨_, q, _⟩ | ⟨_, q, _⟩ | ⟨j, jr, _, q⟩ | ⟨j, jr, _, q⟩
      · omega
      · omega
      · omega
      · omega
      · omega
      · omega
      · omega
      · rcases q with ⟨e, _⟩ | ⟨q, _⟩
        · rw [e]; exact sb.2.2 j jr.1 jr.2
        · omega)
  exact G.alp c.1 ((park_in (Or.inl rfl)).trans c.2.1) c.2.2.1 z g d b
end FNP9
