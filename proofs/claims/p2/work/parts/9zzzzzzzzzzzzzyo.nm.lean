/-! names: what has been changed so far (k blocks of the order, of the next one j PHIs and r rows) -/
def SMR (P Q : PO) (x : Nat) : Prop := Q.ro x = P.ro x ∧ Q.rA x = P.rA x ∧ Q.rB x = P.rB x ∧ Q.rg x = P.rg x
/-- row x, at place q of block number i, has its names -/
def NRW (P Q : PO) (la : Nat) (ord : Int → Int) (o i q : Int) (x : Nat) : Prop := ((rUsA (P.ro x) (P.rA x) = 0 → Q.ra x = P.ra x) ∧ (rUsA (P.ro x) (P.rA x) ≠ 0 → NAV P la ord o i (P.lz (P.bp (P.el la (ord i)))) q (Q.ra x))) ∧ ((rUsB (P.ro x) (P.rB x) = 0 → Q.rb x = P.rb x) ∧ (rUsB (P.ro x) (P.rB x) ≠ 0 → NAV P la ord o i (P.lz (P.bp (P.el la (ord i)))) q (Q.rb x))) ∧ (rSets (P.ro x) = 0 → Q.rt x = P.rt x) ∧ (rSets (P.ro x) ≠ 0 → Q.rt x = NSM P la ord i + P.lz (P.bp (P.el la (ord i))) + CSR P (P.el la (ord i)) q)
def NXT (P Q : PO) : Prop := (Q.2.1 = P.2.1 ∧ Q.2.2.1 = P.2.2.1) ∧ ∀ z : Nat, P.kd z ≠ 17 → P.kd z ≠ 15 → ∀ f : Nat, Q.1 f z = P.1 f z
def NXS (P Q : PO) : Prop := (Q.2.1 = P.2.1 ∧ Q.2.2.1 = P.2.2.1) ∧ (∀ z : Nat, P.kd z ≠ 17 → P.kd z ≠ 15 → ∀ f : Nat, Q.1 f z = P.1 f z) ∧ (∀ a : Nat, P.kd a ≠ 45 → Q.ia a = P.ia a) ∧ Q.2.2.2.2 = P.2.2.2.2
def NXP (P Q : PO) (la : Nat) (ord : Int → Int) (k j i q : Int) (x : Nat) : Prop := (∀ f : Nat, f ≠ 0 → Q.1 f x = P.1 f x) ∧ ((i < k ∨ (i = k ∧ q < j)) → Q.pt x = NSM P la ord i + q) ∧ (¬ (i < k ∨ (i = k ∧ q < j)) → Q.pt x = P.pt x)
def NXW (P Q : PO) (la : Nat) (ord : Int → Int) (o k r i q : Int) (x : Nat) : Prop := SMR P Q x ∧ ((i < k ∨ (i = k ∧ q < r)) → NRW P Q la ord o i q x) ∧ (¬ (i < k ∨ (i = k ∧ q < r)) → ∀ f : Nat, Q.1 f x = P.1 f x)
def NXE (P Q : PO) (la : Nat) (ord : Int → Int) (o k i : Int) (x : Nat) : Prop := SMR P Q x ∧ (i < k → NRW P Q la ord o i (P.lz (P.br (P.el la (ord i)))) x) ∧ (¬ i < k → ∀ f : Nat, Q.1 f x = P.1 f x)
def NXR (P Q : PO) (la : Nat) (ord : Int → Int) (o k j r : Int) : Prop := NXS P Q ∧ (∀ i q : Int, 0 ≤ i → i < o → 0 ≤ q → q < P.lz (P.bp (P.el la (ord i))) → NXP P Q la ord k j i q (P.el (P.bp (P.el la (ord i))) q)) ∧ (∀ i q : Int, 0 ≤ i → i < o → 0 ≤ q → q < P.lz (P.br (P.el la (ord i))) → NXW P Q la ord o k r i q (P.el (P.br (P.el la (ord i))) q)) ∧ ∀ i : Int, 0 ≤ i → i < o → NXE P Q la ord o k i (P.be (P.el la (ord i)))
/-- numbers of x and rows of the table have changed -/
def RWT (x : Nat) (Q Q' : PO) : Prop := (Q'.2.1 = Q.2.1 ∧ Q'.2.2.1 = Q.2.2.1) ∧ (∀ z : Nat, z ≠ x → ∀ f : Nat, Q'.1 f z = Q.1 f z) ∧ (∀ a : Nat, Q.kd a ≠ 45 → Q'.ia a = Q.ia a) ∧ Q'.2.2.2.2 = Q.2.2.2.2
section NMD8
variable {L : List Nat} {P Q Q' : PO} {cO cI cZ : ClassId} {ed la x y : Nat} {ord idm : Int → Int} {b d e i j k n o p q r v : Int} {now : Int → Int} {lt : Int → Int → Int}
theorem SMR.refl (P : PO) (x : Nat) : SMR P P x := ⟨rfl, rfl, rfl, rfl⟩
theorem SMR.of (h : SMR P Q x) (e : ∀ f : Nat, Q'.1 f x = Q.1 f x) : SMR P Q' x := ⟨(e 0).trans h.1, (e 4).trans h.2.1, (e 5).trans h.2.2.1, (e 6).trans h.2.2.2⟩
theorem SMR.trans (h : SMR P Q x) (k : SMR Q Q' x) : SMR P Q' x := ⟨k.1.trans h.1, k.2.1.trans h.2.1, k.2.2.1.trans h.2.2.1, k.2.2.2.trans h.2.2.2⟩
theorem NRW.of (h : NRW P Q la ord o i q x) (e : ∀ f : Nat, Q'.1 f x = Q.1 f x) : NRW P Q' la ord o i q x := by
  have ea : Q'.ra x = Q.ra x := e 2
  have eb : Q'.rb x = Q.rb x := e 3
  have et : Q'.rt x = Q.rt x := e 1
  unfold NRW
  rw [ea, eb, et]
  exact h
theorem NXR.first (P : PO) (la : Nat) (ord : Int → Int) (o : Int) : NXR P P la ord o 0 0 0 := ⟨⟨⟨rfl, rfl⟩, fun _ _ _ _ => rfl, fun _ _ => rfl, rfl⟩, fun i q i0 _ q0 _ => ⟨fun _ _ => rfl, fun w => by omega, fun _ => rfl⟩, fun i q i0 _ q0 _ => ⟨SMR.refl _ _, fun w => by omega, fun _ _ => rfl⟩, fun i i0 _ => ⟨SMR.refl _ _, fun w => by omega, fun _ _ => rfl⟩⟩
theorem NXS.kd (h : NXS P Q) (z : Nat) : Q.kd z = P.kd z := congrArg (fun q : Nat → Nat → Nat => q 0 z) h.1.1
theorem NXS.bp (h : NXS P Q) (z : Nat) : Q.bp z = P.bp z := congrArg (fun q : Nat → Nat → Nat => q 1 z) h.1.1
theorem NXS.br (h : NXS P Q) (z : Nat) : Q.br z = P.br z := congrArg (fun q : Nat → Nat → Nat => q 2 z) h.1.1
theorem NXS.be (h : NXS P Q) (z : Nat) : Q.be z = P.be z := congrArg (fun q : Nat → Nat → Nat => q 3 z) h.1.1
theorem NXS.el (h : NXS P Q) (l : Nat) (i : Int) : Q.el l i = P.el l i := by unfold PO.el PO.oa PO.le; rw [h.1.1, h.1.2]
theorem NXS.lz (h : NXS P Q) (l : Nat) (k : P.kd l = 30) : Q.lz l = P.lz l := h.2.1 l (by omega) (by omega) 0
theorem NXS.nxt (h : NXS P Q) : NXT P Q := ⟨h.1, h.2.1⟩
theorem NXT.kd (h : NXT P Q) (z : Nat) : Q.kd z = P.kd z := congrArg (fun q : Nat → Nat → Nat => q 0 z) h.1.1
theorem NXT.bp (h : NXT P Q) (z : Nat) : Q.bp z = P.bp z := congrArg (fun q : Nat → Nat → Nat => q 1 z) h.1.1
theorem NXT.br (h : NXT P Q) (z : Nat) : Q.br z = P.br z := congrArg (fun q : Nat → Nat → Nat => q 2 z) h.1.1
theorem NXT.be (h : NXT P Q) (z : Nat) : Q.be z = P.be z := congrArg (fun q : Nat → Nat → Nat => q 3 z) h.1.1
theorem NXT.el (h : NXT P Q) (l : Nat) (i : Int) : Q.el l i = P.el l i := by unfold PO.el PO.oa PO.le; rw [h.1.1, h.1.2]
theorem NXT.lz (h : NXT P Q) (l : Nat) (k : P.kd l = 30) : Q.lz l = P.lz l := h.2 l (by omega) (by omega) 0
/-- a row of the table has changed -/
theorem NXR.tab {g : Int → Int} (h : NXR P Q la ord o k j r) (ky : P.kd y = 45) (e : Q' = Q.ri9 y g) : NXR P Q' la ord o k j r := by
  subst e
  obtain ⟨s, hp, hr, he⟩ := h
  exact ⟨⟨s.1, s.2.1, fun a ka => (ri9_of Q g (fun t => ka (by rw [t]; exact ky))).trans (s.2.2.1 a ka), s.2.2.2⟩, hp, hr, he⟩
theorem RWT.rw1 (w : RW1 x Q Q') : RWT x Q Q' := ⟨⟨by rw [w.1], by rw [w.1]⟩, w.2, fun a _ => by unfold PO.ia; rw [w.1], by rw [w.1]⟩
theorem RWT.refl (x : Nat) (Q : PO) : RWT x Q Q := ⟨⟨rfl, rfl⟩, fun _ _ _ => rfl, fun _ _ => rfl, rfl⟩
theorem RWT.trans {Q3 : PO} (h : RWT x Q Q') (k : RWT x Q' Q3) : RWT x Q Q3 := ⟨⟨k.1.1.trans h.1.1, k.1.2.trans h.1.2⟩, fun z n f => (k.2.1 z n f).trans (h.2.1 z n f), fun a n => (k.2.2.1 a (by rw [show Q'.kd a = Q.kd a from congrArg (fun q : Nat → Nat → Nat => q 0 a) h.1.1]; exact n)).trans (h.2.2.1 a n), k.2.2.2.trans h.2.2.2⟩
theorem RWT.tab {g : Int → Int} (ky : Q.kd y = 45) (e : Q' = Q.ri9 y g) : RWT x Q Q' := by subst e; exact ⟨⟨rfl, rfl⟩, fun _ _ _ => rfl, fun a n => ri9_of Q g (fun t => n (by rw [t]; exact ky)), rfl⟩
theorem NXR.put9 (h : NXS P Q) (w : RWT x Q Q') (kx : P.kd x = 17 ∨ P.kd x = 15) : NXS P Q' := by
  refine ⟨⟨w.1.1.trans h.1.1, w.1.2.trans h.1.2⟩, fun z z1 z2 f => (w.2.1 z (fun t => ?_) f).trans (h.2.1 z z1 z2 f), fun a ka => (w.2.2.1 a (by rw [h.kd]; exact ka)).trans (h.2.2.1 a ka), w.2.2.2.trans h.2.2.2⟩
  rw [t] at z1 z2
  exact kx.elim z1 z2
/-- order: a block has one number -/
theorem ODR.inj (h : ODR idm ord o n) (i0 : 0 ≤ i) (i1 : i < o) (j0 : 0 ≤ j) (j1 : j < o) (e : ord i = ord j) : i = j := by
  rcases Int.lt_trichotomy i j with t | t | t
  · exact absurd e (h.2.2.1 i j i0 t j1)
  · exact t
  · exact absurd e.symm (h.2.2.1 j i j0 t i1)
theorem NXR.phi (h : NXR P Q la ord o k j 0) (a : ALP L P cO cI cZ ed la) (nd : NDR P la) (g : ODR idm ord o (P.lz la)) (k0 : 0 ≤ k) (ko : k < o) (j0 : 0 ≤ j) (j1 : j < P.lz (P.bp (P.el la (ord k)))) (ex : x = P.el (P.bp (P.el la (ord k))) j) (w : RWT x Q Q') (t : Q'.pt x = NSM P la ord k + j) (f9 : ∀ f : Nat, f ≠ 0 → Q'.1 f x = Q.1 f x) : NXR P Q' la ord o k (j + 1) 0 := by
  obtain ⟨s, hp, hr, he⟩ := h
  have og := g.2.1
  have gk := og k k0 ko
  have kx : P.kd x = 15 := by rw [ex]; exact (a.kphi gk.1 gk.2 j0 j1).2
  refine ⟨NXR.put9 s w (Or.inr kx), fun i q i0 i1 q0 q1 => ?_, fun i q i0 i1 q0 q1 => ?_, fun i i0 i1 => ?_⟩
  · have u := hp i q i0 i1 q0 q1
    have gi := og i i0 i1
    by_cases t9 : P.el (P.bp (P.el la (ord i))) q = x
    · have d9 := nd.2.1 (ord i) (ord k) q j gi.1 gi.2 gk.1 gk.2 q0 q1 j0 j1 (t9.trans ex)
      have ik := ODR.inj g i0 i1 k0 ko d9.1
      rw [t9] at u ⊢
      rw [ik, d9.2] at u ⊢
      exact ⟨fun f nf => (f9 f nf).trans (u.1 f nf), fun _ => t, fun z => absurd (Or.inr ⟨rfl, by omega⟩) z⟩
    · have e := w.2.1 _ t9
      refine ⟨fun f nf => (e f).trans (u.1 f nf), fun z => (e 0).trans (u.2.1 ?_), fun z => (e 0).trans (u.2.2 (fun z9 => z ?_))⟩
      · rcases z with z | z
        · exact Or.inl z
        · by_cases c : q = j
          · rw [z.1, c] at t9; exact absurd ex.symm t9
          · exact Or.inr ⟨z.1, by omega⟩
      · rcases z9 with z9 | z9
        · exact Or.inl z9
        · exact Or.inr ⟨z9.1, by omega⟩
  · have u := hr i q i0 i1 q0 q1
    have gi := og i i0 i1
    have e := w.2.1 _ (kd_ne (a.krow gi.1 gi.2 q0 q1).2 kx (by decide))
    exact ⟨u.1.of e, fun z => (u.2.1 z).of e, fun z f => (e f).trans (u.2.2 z f)⟩
  · have u := he i i0 i1
    have gi := og i i0 i1
    have e := w.2.1 _ (kd_ne (a.kend gi.1 gi.2).2.1 kx (by decide))
    exact ⟨u.1.of e, fun z => (u.2.1 z).of e, fun z f => (e f).trans (u.2.2 z f)⟩
theorem NXR.row (h : NXR P Q la ord o k j r) (a : ALP L P cO cI cZ ed la) (nd : NDR P la) (g : ODR idm ord o (P.lz la)) (k0 : 0 ≤ k) (ko : k < o) (r0 : 0 ≤ r) (r1 : r < P.lz (P.br (P.el la (ord k)))) (ex : x = P.el (P.br (P.el la (ord k))) r) (w : RWT x Q Q') (s9 : SMR Q Q' x) (nr : NRW P Q' la ord o k r x) : NXR P Q' la ord o k j (r + 1) := by
  obtain ⟨s, hp, hr, he⟩ := h
  have og := g.2.1
  have gk := og k k0 ko
  have kx : P.kd x = 17 := by rw [ex]; exact (a.krow gk.1 gk.2 r0 r1).2
  have nx : P.ek x ≠ 1 := by rw [ex]; exact a.erow gk.1 gk.2 r0 r1
  refine ⟨NXR.put9 s w (Or.inl kx), fun i q i0 i1 q0 q1 => ?_, fun i q i0 i1 q0 q1 => ?_, fun i i0 i1 => ?_⟩
  · have u := hp i q i0 i1 q0 q1
    have gi := og i i0 i1
    have e := w.2.1 _ (kd_ne (a.kphi gi.1 gi.2 q0 q1).2 kx (by decide))
    exact ⟨fun f nf => (e f).trans (u.1 f nf), fun z => (e 0).trans (u.2.1 z), fun z => (e 0).trans (u.2.2 z)⟩
  · have u := hr i q i0 i1 q0 q1
    have gi := og i i0 i1
    by_cases t9 : P.el (P.br (P.el la (ord i))) q = x
    · have d9 := nd.1 (ord i) (ord k) q r gi.1 gi.2 gk.1 gk.2 q0 q1 r0 r1 (t9.trans ex)
      have ik := ODR.inj g i0 i1 k0 ko d9.1
      rw [t9] at u ⊢
      rw [ik, d9.2] at u ⊢
      exact ⟨u.1.trans s9, fun _ => nr, fun z => absurd (Or.inr ⟨rfl, by omega⟩) z⟩
    · have e := w.2.1 _ t9
      refine ⟨u.1.of e, fun z => (u.2.1 ?_).of e, fun z f => (e f).trans (u.2.2 (fun z9 => z ?_) f)⟩
      · rcases z with z | z
        · exact Or.inl z
        · by_cases c : q = r
          · rw [z.1, c] at t9; exact absurd ex.symm t9
          · exact Or.inr ⟨z.1, by omega⟩
      · rcases z9 with z9 | z9
        · exact Or.inl z9
        · exact Or.inr ⟨z9.1, by omega⟩
  · have u := he i i0 i1
    have gi := og i i0 i1
    have e := w.2.1 (P.be (P.el la (ord i))) (fun t => nx (by rw [← t]; exact (a.kend gi.1 gi.2).2.2))
    exact ⟨u.1.of e, fun z => (u.2.1 z).of e, fun z f => (e f).trans (u.2.2 z f)⟩
theorem NXR.fin (h : NXR P Q la ord o k j r) (a : ALP L P cO cI cZ ed la) (nd : NDR P la) (g : ODR idm ord o (P.lz la)) (k0 : 0 ≤ k) (ko : k < o) (j1 : P.lz (P.bp (P.el la (ord k))) ≤ j) (r1 : P.lz (P.br (P.el la (ord k))) ≤ r) (ex : x = P.be (P.el la (ord k))) (w : RWT x Q Q') (s9 : SMR Q Q' x) (nr : NRW P Q' la ord o k (P.lz (P.br (P.el la (ord k)))) x) : NXR P Q' la ord o (k + 1) 0 0 := by
  obtain ⟨s, hp, hr, he⟩ := h
  have og := g.2.1
  have gk := og k k0 ko
  have kx : P.kd x = 17 := by rw [ex]; exact (a.kend gk.1 gk.2).2.1
  have nx : P.ek x = 1 := by rw [ex]; exact (a.kend gk.1 gk.2).2.2
  refine ⟨NXR.put9 s w (Or.inl kx), fun i q i0 i1 q0 q1 => ?_, fun i q i0 i1 q0 q1 => ?_, fun i i0 i1 => ?_⟩
  · have u := hp i q i0 i1 q0 q1
    have gi := og i i0 i1
    have e := w.2.1 _ (kd_ne (a.kphi gi.1 gi.2 q0 q1).2 kx (by decide))
    have ck : i = k → q < j := fun t => by rw [t] at q1; omega
    exact ⟨fun f nf => (e f).trans (u.1 f nf), fun z => (e 0).trans (u.2.1 (by omega)), fun z => (e 0).trans (u.2.2 (by omega))⟩
  · have u := hr i q i0 i1 q0 q1
    have gi := og i i0 i1
    have e := w.2.1 (P.el (P.br (P.el la (ord i))) q) (fun t => a.erow gi.1 gi.2 q0 q1 (by rw [t]; exact nx))
    have ck : i = k → q < r := fun t => by rw [t] at q1; omega
    exact ⟨u.1.of e, fun z => (u.2.1 (by omega)).of e, fun z f => (e f).trans (u.2.2 (by omega) f)⟩
  · have u := he i i0 i1
    have gi := og i i0 i1
    by_cases c : i = k
    · rw [c] at u ⊢
      rw [← ex] at u ⊢
      exact ⟨u.1.trans s9, fun _ => nr, fun z => absurd (by omega) z⟩
    · have e := w.2.1 (P.be (P.el la (ord i))) (fun t => c (ODR.inj g i0 i1 k0 ko (nd.2.2 (ord i) (ord k) gi.1 gi.2 gk.1 gk.2 (t.trans ex))))
      exact ⟨u.1.of e, fun z => (u.2.1 (by omega)).of e, fun z f => (e f).trans (u.2.2 (by omega) f)⟩
end NMD8
