/-! the second half of join: block b is put behind its only PRED y -/
def JMR (P Q : PO) (la : Nat) (b y : Int) : Prop := (Q.lz la = P.lz la ∧ ∀ c : Int, 0 ≤ c → c < P.lz la → Q.el la c = P.el la c ∧ Q.bp (P.el la c) = P.bp (P.el la c) ∧ Q.br (P.el la c) = P.br (P.el la c) ∧ Q.be (P.el la c) = P.be (P.el la c)) ∧ (∀ c : Int, 0 ≤ c → c < P.lz la → UNT P Q (P.bp (P.el la c)) ∧ (c ≠ y → UNT P Q (P.br (P.el la c)))) ∧ (Q.lz (P.br (P.el la y)) = P.lz (P.br (P.el la y)) + P.lz (P.br (P.el la b)) ∧ (∀ k : Int, 0 ≤ k → k < P.lz (P.br (P.el la y)) → Q.el (P.br (P.el la y)) k = P.el (P.br (P.el la y)) k) ∧ ∀ k : Int, 0 ≤ k → k < P.lz (P.br (P.el la b)) → Q.el (P.br (P.el la y)) (P.lz (P.br (P.el la y)) + k) = P.el (P.br (P.el la b)) k) ∧ (∀ c k : Int, 0 ≤ c → c < P.lz la → 0 ≤ k → k < P.lz (P.br (P.el la c)) → ∀ f : Nat, Q.1 f (P.el (P.br (P.el la c)) k) = P.1 f (P.el (P.br (P.el la c)) k)) ∧ ((∀ c : Int, 0 ≤ c → c < P.lz la → c ≠ y → ∀ f : Nat, Q.1 f (P.be (P.el la c)) = P.1 f (P.be (P.el la c))) ∧ Q.ro (P.be (P.el la y)) = P.ro (P.be (P.el la b)) ∧ (Q.rA (P.be (P.el la y)) = P.rA (P.be (P.el la b)) ∧ Q.rB (P.be (P.el la y)) = P.rB (P.be (P.el la b))) ∧ Q.ra (P.be (P.el la y)) = P.ra (P.be (P.el la b)) ∧ Q.rb (P.be (P.el la y)) = P.rb (P.be (P.el la b))) ∧ ((∀ c : Int, 0 ≤ c → c < P.lz la → c ≠ y → c ≠ b → Q.bf (P.el la c) = P.bf (P.el la c) ∧ Q.bs (P.el la c) = P.bs (P.el la c)) ∧ Q.bf (P.el la y) = P.bf (P.el la b) ∧ Q.bs (P.el la y) = P.bs (P.el la b)) ∧ ∀ c k : Int, 0 ≤ c → c < P.lz la → 0 ≤ k → k < P.lz (P.bp (P.el la c)) → (Q.pn (P.el (P.bp (P.el la c)) k) = P.pn (P.el (P.bp (P.el la c)) k) ∧ Q.pt (P.el (P.bp (P.el la c)) k) = P.pt (P.el (P.bp (P.el la c)) k) ∧ Q.pg (P.el (P.bp (P.el la c)) k) = P.pg (P.el (P.bp (P.el la c)) k)) ∧ (Q.pp (P.el (P.bp (P.el la c)) k) = P.pp (P.el (P.bp (P.el la c)) k) ∧ Q.pu (P.el (P.bp (P.el la c)) k) = P.pu (P.el (P.bp (P.el la c)) k) ∧ Q.pr (P.el (P.bp (P.el la c)) k) = P.pr (P.el (P.bp (P.el la c)) k)) ∧ ∀ i : Int, 0 ≤ i → i < P.pn (P.el (P.bp (P.el la c)) k) → (Q.ia (P.pu (P.el (P.bp (P.el la c)) k)) i = P.ia (P.pu (P.el (P.bp (P.el la c)) k)) i ∧ Q.ia (P.pr (P.el (P.bp (P.el la c)) k)) i = P.ia (P.pr (P.el (P.bp (P.el la c)) k)) i) ∧ (P.ia (P.pp (P.el (P.bp (P.el la c)) k)) i ≠ b → Q.ia (P.pp (P.el (P.bp (P.el la c)) k)) i = P.ia (P.pp (P.el (P.bp (P.el la c)) k)) i) ∧ (P.ia (P.pp (P.el (P.bp (P.el la c)) k)) i = b → Q.ia (P.pp (P.el (P.bp (P.el la c)) k)) i = y)
def STB9 (b k : Int) : Int := if k = b then 0 else 1
theorem STB9.ne {b k : Int} : STB9 b k ≠ 0 ↔ k ≠ b := by
  unfold STB9
  by_cases e : k = b
  · rw [if_pos e]; exact ⟨fun q => absurd rfl q, fun q => absurd e q⟩
  · rw [if_neg e]; exact ⟨fun _ => e, fun _ => by decide⟩
theorem sumI_add (f : Int → Int) (n : Nat) : ∀ m : Nat, sumI f (n + m) = sumI f n + sumI (fun k => f ((n : Int) + k)) m
  | 0 => by show sumI f n = sumI f n + 0; omega
  | m + 1 => by
    have ih := sumI_add f n m
    show sumI f (n + m) + f ((n + m : Nat) : Int) = sumI f n + (sumI (fun k => f ((n : Int) + k)) m + f ((n : Int) + (m : Int)))
    rw [show ((n + m : Nat) : Int) = (n : Int) + (m : Int) from by omega]
    omega
section JMR9
variable {L : List Nat} {P Q : PO} {cO cI cZ : ClassId} {ed la x : Nat} {A : Int → Int → Prop} {b c d i j k p r v y : Int}
/-- what the second half is given -/
def JMA (P : PO) (la : Nat) (b y : Int) : Prop := (0 < b ∧ b < P.lz la ∧ 0 ≤ y ∧ y < P.lz la ∧ y ≠ b) ∧ (P.ro (P.be (P.el la y)) = 30 ∧ P.bf (P.el la y) = b) ∧ (∀ p : Int, 0 ≤ p → p < P.lz la → EDG P la p b → p = y) ∧ P.lz (P.bp (P.el la b)) = 0
theorem JMA.eyb (g : JMA P la b y) : EDG P la y b := EDG.yaw (by rw [g.2.1.1]; decide) (Or.inl g.2.1.2)
theorem JMA.yto (g : JMA P la b y) (e : EDG P la y c) : c = b := by
  have w := e.way
  rw [g.2.1.1, g.2.1.2] at w
  rcases w.2 with t | t
  · exact t.symm
  · exact absurd rfl t.1
theorem JMR.edg (h : JMR P Q la b y) (p0 : 0 ≤ p) (p1 : p < P.lz la) (pb : p ≠ b) (py : p ≠ y) : EDG Q la p c ↔ EDG P la p c := by
  have e := h.1.2 p p0 p1
  have o : Q.ro (P.be (P.el la p)) = P.ro (P.be (P.el la p)) := h.2.2.2.2.1.1 p p0 p1 py _
  have g := h.2.2.2.2.2.1.1 p p0 p1 py pb
  unfold EDG
  rw [e.1, e.2.2.2, o, g.1, g.2]
theorem JMR.edy (h : JMR P Q la b y) (g : JMA P la b y) : EDG Q la y c ↔ EDG P la b c := by
  have e := h.1.2 y g.1.2.2.1 g.1.2.2.2.1
  have o := h.2.2.2.2.1.2.1
  have t := h.2.2.2.2.2.1.2
  unfold EDG
  rw [e.1, e.2.2.2, o, t.1, t.2]
/-- a row of the new function is one of the old, at its place or of b -/
theorem JMR.row (h : JMR P Q la b y) (g : JMA P la b y) (c0 : 0 ≤ c) (c1 : c < P.lz la) (k0 : 0 ≤ k) (k1 : k < Q.lz (Q.br (Q.el la c))) : ∃ d i : Int, (0 ≤ d ∧ d < P.lz la) ∧ (0 ≤ i ∧ i < P.lz (P.br (P.el la d))) ∧ Q.el (Q.br (Q.el la c)) k = P.el (P.br (P.el la d)) i ∧ ((d = c ∧ i = k) ∨ (c = y ∧ d = b ∧ k = P.lz (P.br (P.el la y)) + i)) := by
  have e := h.1.2 c c0 c1
  rw [e.1, e.2.2.1] at k1 ⊢
  by_cases cy : c = y
  · subst cy
    rw [h.2.2.1.1] at k1
    by_cases t : k < P.lz (P.br (P.el la c))
    · exact ⟨c, k, ⟨c0, c1⟩, ⟨k0, t⟩, h.2.2.1.2.1 k k0 t, Or.inl ⟨rfl, rfl⟩⟩
    · have u := h.2.2.1.2.2 (k - P.lz (P.br (P.el la c))) (by omega) (by omega)
      rw [show P.lz (P.br (P.el la c)) + (k - P.lz (P.br (P.el la c))) = k from by omega] at u
      exact ⟨b, k - P.lz (P.br (P.el la c)), ⟨by have := g.1.1; omega, g.1.2.1⟩, ⟨by omega, by omega⟩, u, Or.inr ⟨rfl, rfl, by omega⟩⟩
  · have u := (h.2.1 c c0 c1).2 cy
    rw [u.1] at k1
    exact ⟨c, k, ⟨c0, c1⟩, ⟨k0, k1⟩, u.2 k k0 k1, Or.inl ⟨rfl, rfl⟩⟩
theorem JMR.phi (h : JMR P Q la b y) (c0 : 0 ≤ c) (c1 : c < P.lz la) : Q.lz (Q.bp (Q.el la c)) = P.lz (P.bp (P.el la c)) ∧ ∀ k : Int, 0 ≤ k → k < P.lz (P.bp (P.el la c)) → Q.el (Q.bp (Q.el la c)) k = P.el (P.bp (P.el la c)) k := by
  have e := h.1.2 c c0 c1
  rw [e.1, e.2.1]
  exact (h.2.1 c c0 c1).1
theorem SPH.jmr (s : SPH P la c r) (h : JMR P Q la b y) (c0 : 0 ≤ c) (c1 : c < P.lz la) : SPH Q la c r := by
  obtain ⟨k, k0, k1, e⟩ := s
  have t := h.phi c0 c1
  exact ⟨k, k0, by rw [t.1]; exact k1, by rw [t.2 k k0 k1, (h.2.2.2.2.2.2 c k c0 c1 k0 k1).1.2.1]; exact e⟩
theorem SRW.jmr (s : SRW P la c j r) (h : JMR P Q la b y) (l0 : ∀ c : Int, 0 ≤ c → c < P.lz la → 0 ≤ P.lz (P.br (P.el la c))) (b0 : 0 ≤ b) (b1 : b < P.lz la) (c0 : 0 ≤ c) (c1 : c < P.lz la) : SRW Q la c j r := by
  obtain ⟨k, k0, kj, k1, z, e⟩ := s
  have w := h.1.2 c c0 c1
  have q := h.2.2.2.1 c k c0 c1 k0 k1
  have el : k < Q.lz (P.br (P.el la c)) ∧ Q.el (P.br (P.el la c)) k = P.el (P.br (P.el la c)) k := by
    by_cases cy : c = y
    · subst cy
      have := l0 b b0 b1
      exact ⟨by rw [h.2.2.1.1]; omega, h.2.2.1.2.1 k k0 k1⟩
    · have u := (h.2.1 c c0 c1).2 cy
      exact ⟨by rw [u.1]; exact k1, u.2 k k0 k1⟩
  refine ⟨k, k0, kj, by rw [w.1, w.2.2.1]; exact el.1, ?_, ?_⟩
  · rw [w.1, w.2.2.1, el.2, show Q.ro (P.el (P.br (P.el la c)) k) = P.ro (P.el (P.br (P.el la c)) k) from q _]; exact z
  · rw [w.1, w.2.2.1, el.2]; exact (show Q.rt (P.el (P.br (P.el la c)) k) = P.rt (P.el (P.br (P.el la c)) k) from q _).trans e
/-- what a row of b sets is set by a row of y now -/
theorem SRW.jmb (s : SRW P la b j r) (h : JMR P Q la b y) (b0 : 0 ≤ b) (b1 : b < P.lz la) (y0 : 0 ≤ y) (y1 : y < P.lz la) (yl : 0 ≤ P.lz (P.br (P.el la y))) : SRW Q la y (P.lz (P.br (P.el la y)) + j) r := by
  obtain ⟨k, k0, kj, k1, z, e⟩ := s
  have w := h.1.2 y y0 y1
  have q := h.2.2.2.1 b k b0 b1 k0 k1
  have el := h.2.2.1.2.2 k k0 k1
  refine ⟨P.lz (P.br (P.el la y)) + k, by omega, by omega, by rw [w.1, w.2.2.1, h.2.2.1.1]; omega, ?_, ?_⟩
  · rw [w.1, w.2.2.1, el, show Q.ro (P.el (P.br (P.el la b)) k) = P.ro (P.el (P.br (P.el la b)) k) from q _]; exact z
  · rw [w.1, w.2.2.1, el]; exact (show Q.rt (P.el (P.br (P.el la b)) k) = P.rt (P.el (P.br (P.el la b)) k) from q _).trans e
theorem SIB.jmr (s : SIB P la c r) (h : JMR P Q la b y) (l0 : ∀ c : Int, 0 ≤ c → c < P.lz la → 0 ≤ P.lz (P.br (P.el la c))) (b0 : 0 ≤ b) (b1 : b < P.lz la) (c0 : 0 ≤ c) (c1 : c < P.lz la) : SIB Q la c r := by
  rcases s with s | s
  · exact Or.inl (s.jmr h c0 c1)
  · refine Or.inr (SRW.all (s.jmr h l0 b0 b1 c0 c1))
theorem SIB.jmb (s : SIB P la b r) (h : JMR P Q la b y) (g : JMA P la b y) (yl : 0 ≤ P.lz (P.br (P.el la y))) : SIB Q la y r := by
  rcases s with ⟨k, k0, k1, _⟩ | s
  · have := g.2.2.2; omega
  · exact Or.inr (SRW.all (s.jmb h (by have := g.1.1; omega) g.1.2.1 g.1.2.2.1 g.1.2.2.2.1 yl))
/-- what is there where b begins, or set there, is there where y ends -/
theorem AVW.jmb (w : AVW P la A) (h : JMR P Q la b y) (g : JMA P la b y) (l0 : ∀ c : Int, 0 ≤ c → c < P.lz la → 0 ≤ P.lz (P.br (P.el la c))) (q : A v b ∨ SIB P la b v) : A v y ∨ SIB Q la y v := by
  have b0 : 0 ≤ b := by have := g.1.1; omega
  rcases q with q | q
  · rcases w.2 v y b g.1.2.2.1 g.1.2.2.2.1 g.eyb q with t | t
    · exact Or.inl t
    · exact Or.inr (t.jmr h l0 b0 g.1.2.1 g.1.2.2.1 g.1.2.2.2.1)
  · exact Or.inr (q.jmb h g (l0 y g.1.2.2.1 g.1.2.2.2.1))
end JMR9
