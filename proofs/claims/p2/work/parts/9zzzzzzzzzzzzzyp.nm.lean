/-! names: operands of PHIs; in the end every register is set once, and what is used has been set -/
/-- operands in front of place (b, k, i) have become what the table says -/
def NPO (Q Q2 : PO) (la : Nat) (lt : Int → Int → Int) (b k i : Int) : Prop := (Q2.1 = Q.1 ∧ Q2.2.1 = Q.2.1 ∧ Q2.2.2.1 = Q.2.2.1 ∧ Q2.2.2.2.2 = Q.2.2.2.2) ∧ (∀ a : Nat, Q.kd a ≠ 41 → Q2.ia a = Q.ia a) ∧ ∀ c q t : Int, 0 ≤ c → c < Q.lz la → 0 ≤ q → q < Q.lz (Q.bp (Q.el la c)) → 0 ≤ t → t < Q.pn (Q.el (Q.bp (Q.el la c)) q) → ((c < b ∨ (c = b ∧ (q < k ∨ (q = k ∧ t < i)))) → Q2.ia (Q.pu (Q.el (Q.bp (Q.el la c)) q)) t = lt (Q.ia (Q.pp (Q.el (Q.bp (Q.el la c)) q)) t) (Q.ia (Q.pu (Q.el (Q.bp (Q.el la c)) q)) t)) ∧ (¬ (c < b ∨ (c = b ∧ (q < k ∨ (q = k ∧ t < i)))) → Q2.ia (Q.pu (Q.el (Q.bp (Q.el la c)) q)) t = Q.ia (Q.pu (Q.el (Q.bp (Q.el la c)) q)) t)
section NMD7
variable {L : List Nat} {P Q Q2 Q' : PO} {cO cI cZ : ClassId} {ed la x y : Nat} {ord idm : Int → Int} {b d e i j k n o p q r v : Int} {lt : Int → Int → Int}
theorem NPO.first (Q : PO) (la : Nat) (lt : Int → Int → Int) : NPO Q Q la lt 0 0 0 := ⟨⟨rfl, rfl, rfl, rfl⟩, fun _ _ => rfl, fun c q t c0 _ q0 _ t0 _ => ⟨fun w => by omega, fun _ => rfl⟩⟩
theorem NPO.nextk (h : NPO Q Q2 la lt b k i) (e : Q.pn (Q.el (Q.bp (Q.el la b)) k) ≤ i) : NPO Q Q2 la lt b (k + 1) 0 := ⟨h.1, h.2.1, fun c q t c0 c1 q0 q1 t0 t1 => by
  have w := h.2.2 c q t c0 c1 q0 q1 t0 t1
  have ck : c = b → q = k → t < i := fun u v => by rw [u, v] at t1; omega
  exact ⟨fun z => w.1 (by omega), fun z => w.2 (by omega)⟩⟩
theorem NPO.nextb (h : NPO Q Q2 la lt b k 0) (e : Q.lz (Q.bp (Q.el la b)) ≤ k) : NPO Q Q2 la lt (b + 1) 0 0 := ⟨h.1, h.2.1, fun c q t c0 c1 q0 q1 t0 t1 => by
  have w := h.2.2 c q t c0 c1 q0 q1 t0 t1
  have ck : c = b → q < k := fun u => by rw [u] at q1; omega
  exact ⟨fun z => w.1 (by omega), fun z => w.2 (by omega)⟩⟩
theorem NPO.to {b' k' i' : Int} (h : NPO Q Q2 la lt b k i) (e1 : b = b') (e2 : k = k') (e3 : i = i') : NPO Q Q2 la lt b' k' i' := by rw [← e1, ← e2, ← e3]; exact h
theorem NPO.put {u : Nat} (h : NPO Q Q2 la lt b k i) (a : ALP L Q cO cI cZ ed la) (nd : NDR Q la) (b0 : 0 ≤ b) (b1 : b < Q.lz la) (k0 : 0 ≤ k) (k1 : k < Q.lz (Q.bp (Q.el la b))) (ex : x = Q.el (Q.bp (Q.el la b)) k) (i0 : 0 ≤ i) (i1 : i < Q.pn x) (eu : u = Q.pu x) (ev : v = lt (Q.ia (Q.pp x) i) (Q.ia u i)) (e : Q' = Q2.ri9 u (zup (Q2.ia u) i v)) : NPO Q Q' la lt b k (i + 1) := by
  subst e
  have kx := a.kphi b0 b1 k0 k1
  rw [← ex] at kx
  have pk := a.pik kx.1 kx.2
  have ku : Q.kd u = 41 := by rw [eu]; exact pk.2.2.1.2.1
  refine ⟨h.1, fun z kz => (ri9_of Q2 _ (fun t => kz (by rw [t]; exact ku))).trans (h.2.1 z kz), fun c q t c0 c1 q0 q1 t0 t1 => ?_⟩
  have w := h.2.2 c q t c0 c1 q0 q1 t0 t1
  have ky := a.kphi c0 c1 q0 q1
  have pj := a.pik ky.1 ky.2
  by_cases s : Q.el (Q.bp (Q.el la c)) q = x
  · have dd := nd.2.1 c b q k c0 c1 b0 b1 q0 q1 k0 k1 (s.trans ex)
    rw [s] at w t1 ⊢
    rw [dd.1, dd.2] at w ⊢
    rw [← eu] at w ⊢
    rw [ri9_at]
    by_cases g : t = i
    · rw [g, zup_eq]
      exact ⟨fun _ => ev, fun z => absurd (Or.inr ⟨rfl, Or.inr ⟨rfl, by omega⟩⟩) z⟩
    · rw [zup_ne _ _ g]
      exact ⟨fun z => w.1 (by omega), fun z => w.2 (by omega)⟩
  · have nu : Q.pu (Q.el (Q.bp (Q.el la c)) q) ≠ u := fun t9 => s (by
      have e1 := pj.2.2.1.2.2.2
      have e2 := pk.2.2.1.2.2.2
      rw [t9] at e1
      rw [← eu] at e2
      exact e1.symm.trans e2)
    rw [ri9_of _ _ nu]
    have ck : ¬ (c = b ∧ q = k) := fun z => s (by rw [z.1, z.2]; exact ex.symm)
    exact ⟨fun z => w.1 (by omega), fun z => w.2 (by omega)⟩
/-- a dominator of a block dominates what leads there -/
theorem DOM.back (h : DOM P la d b) (ne : d ≠ b) (rp : RCH P la (-1) p) (e : EDG P la p b) : DOM P la d p := ⟨h.1, rp, fun q => h.2.2 (q.step e (fun t => ne t.symm))⟩
theorem CSR.inj {y : Nat} (q0 : 0 ≤ q) (r0 : 0 ≤ r) (sq : rSets (P.ro (P.el (P.br y) q)) ≠ 0) (sr : rSets (P.ro (P.el (P.br y) r)) ≠ 0) (e : CSR P y q = CSR P y r) : q = r := by
  have y1 := CSR.yes (P := P) (y := y) q0 sq
  have y2 := CSR.yes (P := P) (y := y) r0 sr
  rcases Int.lt_trichotomy q r with t | t | t
  · have m := CSR.mono9 (P := P) (y := y) (i := q + 1) (j := r) (by omega) (by omega); omega
  · exact t
  · have m := CSR.mono9 (P := P) (y := y) (i := r + 1) (j := q) (by omega) (by omega); omega
/-- a name tells its block -/
theorem NIB.blk (a : ALP L P cO cI cZ ed la) (g : ODR idm ord o (P.lz la)) {j' r' : Int} (i0 : 0 ≤ i) (i1 : i < o) (e0 : 0 ≤ e) (e1 : e < o) (h : NIB P la ord i j r v) (w : NIB P la ord e j' r' v) : i = e := by
  have gi := g.2.1 i i0 i1
  have ge := g.2.1 e e0 e1
  have u1 := NIB.rng a gi.1 gi.2 i0 h
  have u2 := NIB.rng a ge.1 ge.2 e0 w
  rcases Int.lt_trichotomy i e with t | t | t
  · have m := NSM.mono a g.2.1 (i := i + 1) (j := e) (by omega) (by omega) (by omega); omega
  · exact t
  · have m := NSM.mono a g.2.1 (i := e + 1) (j := i) (by omega) (by omega) (by omega); omega
end NMD7
