/-- a row's registers have something to become -/
def RWB (P : PO) (g : Int → Int) (x : Nat) : Prop := (rUsA (P.ro x) (P.rA x) = 0 ∨ 0 ≤ g (P.ra x)) ∧ (rUsB (P.ro x) (P.rB x) = 0 ∨ 0 ≤ g (P.rb x)) ∧ (rSets (P.ro x) = 0 ∨ 0 ≤ g (P.rt x))
/-- a row whose registers have become others -/
def RNR (P P' : PO) (g : Int → Int) (x : Nat) : Prop := (P'.ro x = P.ro x ∧ P'.rA x = P.rA x ∧ P'.rB x = P.rB x) ∧ ((rUsA (P.ro x) (P.rA x) = 0 → P'.ra x = P.ra x) ∧ (rUsA (P.ro x) (P.rA x) ≠ 0 → P'.ra x = g (P.ra x))) ∧ ((rUsB (P.ro x) (P.rB x) = 0 → P'.rb x = P.rb x) ∧ (rUsB (P.ro x) (P.rB x) ≠ 0 → P'.rb x = g (P.rb x))) ∧ ((rSets (P.ro x) = 0 → P'.rt x = P.rt x) ∧ (rSets (P.ro x) ≠ 0 → P'.rt x = g (P.rt x)))
/-- a PHI of which k operands have become others -/
def RNP (P P' : PO) (g : Int → Int) (x : Nat) (k : Int) : Prop := P'.pn x = P.pn x ∧ P'.pt x = g (P.pt x) ∧ ∀ i : Int, 0 ≤ i → i < P.pn x → P'.ia (P.pp x) i = P.ia (P.pp x) i ∧ P'.ia (P.pr x) i = P.ia (P.pr x) i ∧ (i < k → (P.ia (P.pr x) i = 0 → P'.ia (P.pu x) i = P.ia (P.pu x) i) ∧ (P.ia (P.pr x) i ≠ 0 → P'.ia (P.pu x) i = g (P.ia (P.pu x) i))) ∧ (k ≤ i → P'.ia (P.pu x) i = P.ia (P.pu x) i)
/-- no row, no PHI, no end stands twice -/
def NDR (P : PO) (la : Nat) : Prop := (∀ b c j k : Int, 0 ≤ b → b < P.lz la → 0 ≤ c → c < P.lz la → 0 ≤ j → j < P.lz (P.br (P.el la b)) → 0 ≤ k → k < P.lz (P.br (P.el la c)) → P.el (P.br (P.el la b)) j = P.el (P.br (P.el la c)) k → b = c ∧ j = k) ∧ (∀ b c j k : Int, 0 ≤ b → b < P.lz la → 0 ≤ c → c < P.lz la → 0 ≤ j → j < P.lz (P.bp (P.el la b)) → 0 ≤ k → k < P.lz (P.bp (P.el la c)) → P.el (P.bp (P.el la b)) j = P.el (P.bp (P.el la c)) k → b = c ∧ j = k) ∧ ∀ b c : Int, 0 ≤ b → b < P.lz la → 0 ≤ c → c < P.lz la → P.be (P.el la b) = P.be (P.el la c) → b = c
/-- every register that occurs has something to become -/
def OCB (P : PO) (la : Nat) (g : Int → Int) : Prop := ∀ b : Int, 0 ≤ b → b < P.lz la → (∀ k : Int, 0 ≤ k → k < P.lz (P.bp (P.el la b)) → 0 ≤ g (P.pt (P.el (P.bp (P.el la b)) k)) ∧ ∀ i : Int, 0 ≤ i → i < P.pn (P.el (P.bp (P.el la b)) k) → P.ia (P.pr (P.el (P.bp (P.el la b)) k)) i = 0 ∨ 0 ≤ g (P.ia (P.pu (P.el (P.bp (P.el la b)) k)) i)) ∧ (∀ k : Int, 0 ≤ k → k < P.lz (P.br (P.el la b)) → RWB P g (P.el (P.br (P.el la b)) k)) ∧ RWB P g (P.be (P.el la b))
/-- the structure stays; numbers and contents of what is not in V stay -/
def UNV (P P' : PO) (V : Nat → Prop) : Prop := (P'.2.1 = P.2.1 ∧ P'.2.2.1 = P.2.2.1 ∧ ∀ l : Nat, P.kd l = 30 → P'.lz l = P.lz l) ∧ (∀ z : Nat, ¬ V z → ∀ f : Nat, P'.1 f z = P.1 f z) ∧ ∀ a : Nat, ¬ V (P.ow a) → P'.ia a = P.ia a
/-- what has become: i blocks, j PHIs and r rows of the next -/
def VST (P : PO) (la : Nat) (i j r : Int) (z : Nat) : Prop := (∃ b k : Int, 0 ≤ b ∧ b < P.lz la ∧ 0 ≤ k ∧ k < P.lz (P.bp (P.el la b)) ∧ z = P.el (P.bp (P.el la b)) k ∧ (b < i ∨ (b = i ∧ k < j))) ∨ (∃ b k : Int, 0 ≤ b ∧ b < P.lz la ∧ 0 ≤ k ∧ k < P.lz (P.br (P.el la b)) ∧ z = P.el (P.br (P.el la b)) k ∧ (b < i ∨ (b = i ∧ k < r))) ∨ ∃ b : Int, 0 ≤ b ∧ b < P.lz la ∧ z = P.be (P.el la b) ∧ b < i
def DON (P P' : PO) (g : Int → Int) (V : Nat → Prop) : Prop := ∀ z : Nat, V z → (P.kd z = 17 → RNR P P' g z) ∧ (P.kd z = 15 → RNP P P' g z (P.pn z))
section BEC9
variable {L : List Nat} {P Q Q' : PO} {cO cI cZ : ClassId} {ed x y z l la : Nat} {V V' : Nat → Prop} {g : Int → Int} {i j k r : Int}
theorem UNV.refl (P : PO) (V : Nat → Prop) : UNV P P V := ⟨⟨rfl, rfl, fun _ _ => rfl⟩, fun _ _ _ => rfl, fun _ _ => rfl⟩
theorem UNV.wk (h : UNV P Q V) (s : ∀ z : Nat, V z → V' z) : UNV P Q V' := ⟨h.1, fun z n => h.2.1 z (fun q => n (s z q)), fun a n => h.2.2 a (fun q => n (s _ q))⟩
theorem UNV.el (h : UNV P Q V) (l : Nat) (k : Int) : Q.el l k = P.el l k := by unfold PO.el PO.oa PO.le; rw [h.1.1, h.1.2.1]
theorem UNV.bp (h : UNV P Q V) (x : Nat) : Q.bp x = P.bp x := by unfold PO.bp; rw [h.1.1]
theorem UNV.br (h : UNV P Q V) (x : Nat) : Q.br x = P.br x := by unfold PO.br; rw [h.1.1]
theorem UNV.be (h : UNV P Q V) (x : Nat) : Q.be x = P.be x := by unfold PO.be; rw [h.1.1]
theorem UNV.pp (h : UNV P Q V) (x : Nat) : Q.pp x = P.pp x := by unfold PO.pp; rw [h.1.1]
theorem UNV.pu (h : UNV P Q V) (x : Nat) : Q.pu x = P.pu x := by unfold PO.pu; rw [h.1.1]
theorem UNV.pr (h : UNV P Q V) (x : Nat) : Q.pr x = P.pr x := by unfold PO.pr; rw [h.1.1]
theorem UNV.ow (h : UNV P Q V) (x : Nat) : Q.ow x = P.ow x := by unfold PO.ow; rw [h.1.1]
theorem UNV.kd (h : UNV P Q V) (x : Nat) : Q.kd x = P.kd x := by unfold PO.kd; rw [h.1.1]
theorem UNV.step (h : UNV P Q V) (w : PH1 x Q Q') (kx : P.kd x ≠ 30) (s : ∀ z : Nat, V z → V' z) (vx : V' x) : UNV P Q' V' := by
  refine ⟨⟨w.1.1.trans h.1.1, w.1.2.1.trans h.1.2.1, fun l k => ?_⟩, fun z n f => ?_, fun a n => ?_⟩
  · exact (w.2.1 l (fun e => kx (by rw [← e]; exact k)) 0).trans (h.1.2.2 l k)
  · exact (w.2.1 z (fun e => n (by rw [e]; exact vx)) f).trans (h.2.1 z (fun q => n (s z q)) f)
  · exact (w.2.2 a (fun e => n (by rw [h.ow] at e; rw [e]; exact vx))).trans (h.2.2 a (fun q => n (s _ q)))
theorem VST.mono {j' r' : Int} (h : VST P la i j r z) (a : j ≤ j') (b : r ≤ r') : VST P la i j' r' z := by
  rcases h with ⟨c, k, c0, c1, k0, k1, e, q⟩ | ⟨c, k, c0, c1, k0, k1, e, q⟩ | q
  · exact Or.inl ⟨c, k, c0, c1, k0, k1, e, by omega⟩
  · exact Or.inr (Or.inl ⟨c, k, c0, c1, k0, k1, e, by omega⟩)
  · exact Or.inr (Or.inr q)
/-- all PHIs of the block -/
theorem VST.full {j' : Int} (h : VST P la i j' r z) (a : P.lz (P.bp (P.el la i)) ≤ j) : VST P la i j r z := by
  rcases h with ⟨c, k, c0, c1, k0, k1, e, q⟩ | q
  · refine Or.inl ⟨c, k, c0, c1, k0, k1, e, ?_⟩
    rcases q with q | ⟨q, _⟩
    · exact Or.inl q
    · exact Or.inr ⟨q, by rw [q] at k1; omega⟩
  · exact Or.inr q
theorem VST.next (h : VST P la i j r z) : VST P la (i + 1) 0 0 z := by
  rcases h with ⟨c, k, c0, c1, k0, k1, e, q⟩ | ⟨c, k, c0, c1, k0, k1, e, q⟩ | ⟨c, c0, c1, e, q⟩
  · exact Or.inl ⟨c, k, c0, c1, k0, k1, e, by omega⟩
  · exact Or.inr (Or.inl ⟨c, k, c0, c1, k0, k1, e, by omega⟩)
  · exact Or.inr (Or.inr ⟨c, c0, c1, e, by omega⟩)
theorem VST.phi (h : VST P la i (j + 1) r z) : VST P la i j r z ∨ z = P.el (P.bp (P.el la i)) j := by
  rcases h with ⟨c, k, c0, c1, k0, k1, e, q⟩ | q
  · by_cases s : c < i ∨ (c = i ∧ k < j)
    · exact Or.inl (Or.inl ⟨c, k, c0, c1, k0, k1, e, s⟩)
    · have a : c = i := by omega
      have b : k = j := by omega
      rw [a, b] at e
      exact Or.inr e
  · exact Or.inl (Or.inr q)
theorem VST.row (h : VST P la i j (r + 1) z) : VST P la i j r z ∨ z = P.el (P.br (P.el la i)) r := by
  rcases h with q | ⟨c, k, c0, c1, k0, k1, e, q⟩ | q
  · exact Or.inl (Or.inl q)
  · by_cases s : c < i ∨ (c = i ∧ k < r)
    · exact Or.inl (Or.inr (Or.inl ⟨c, k, c0, c1, k0, k1, e, s⟩))
    · have a : c = i := by omega
      have b : k = r := by omega
      rw [a, b] at e
      exact Or.inr e
  · exact Or.inl (Or.inr (Or.inr q))
theorem VST.blk (h : VST P la (i + 1) 0 0 z) (a : P.lz (P.bp (P.el la i)) ≤ j) (b : P.lz (P.br (P.el la i)) ≤ r) : VST P la i j r z ∨ z = P.be (P.el la i) := by
  rcases h with ⟨c, k, c0, c1, k0, k1, e, q⟩ | ⟨c, k, c0, c1, k0, k1, e, q⟩ | ⟨c, c0, c1, e, q⟩
  · refine Or.inl (Or.inl ⟨c, k, c0, c1, k0, k1, e, ?_⟩)
    by_cases s : c < i
    · exact Or.inl s
    · have t : c = i := by omega
      exact Or.inr ⟨t, by rw [t] at k1; omega⟩
  · refine Or.inl (Or.inr (Or.inl ⟨c, k, c0, c1, k0, k1, e, ?_⟩))
    by_cases s : c < i
    · exact Or.inl s
    · have t : c = i := by omega
      exact Or.inr ⟨t, by rw [t] at k1; omega⟩
  · by_cases s : c < i
    · exact Or.inl (Or.inr (Or.inr ⟨c, c0, c1, e, s⟩))
    · have t : c = i := by omega
      rw [t] at e
      exact Or.inr e
theorem VST.aphi (i0 : 0 ≤ i) (i1 : i < P.lz la) (j0 : 0 ≤ j) (j1 : j < P.lz (P.bp (P.el la i))) : VST P la i (j + 1) r (P.el (P.bp (P.el la i)) j) := Or.inl ⟨i, j, i0, i1, j0, j1, rfl, Or.inr ⟨rfl, by omega⟩⟩
theorem VST.arow (i0 : 0 ≤ i) (i1 : i < P.lz la) (r0 : 0 ≤ r) (r1 : r < P.lz (P.br (P.el la i))) : VST P la i j (r + 1) (P.el (P.br (P.el la i)) r) := Or.inr (Or.inl ⟨i, r, i0, i1, r0, r1, rfl, Or.inr ⟨rfl, by omega⟩⟩)
theorem VST.aend (i0 : 0 ≤ i) (i1 : i < P.lz la) : VST P la (i + 1) 0 0 (P.be (P.el la i)) := Or.inr (Or.inr ⟨i, i0, i1, rfl, by omega⟩)
/-- the kinds of what has become -/
theorem ALP.kphi (h : ALP L P cO cI cZ ed la) (i0 : 0 ≤ i) (i1 : i < P.lz la) (j0 : 0 ≤ j) (j1 : j < P.lz (P.bp (P.el la i))) : P.el (P.bp (P.el la i)) j ∈ L ∧ P.kd (P.el (P.bp (P.el la i)) j) = 15 := ((h.inb ⟨i, i0, i1, rfl⟩).2.2.1.2.2.2.2 j j0 j1).2
theorem ALP.krow (h : ALP L P cO cI cZ ed la) (i0 : 0 ≤ i) (i1 : i < P.lz la) (j0 : 0 ≤ j) (j1 : j < P.lz (P.br (P.el la i))) : P.el (P.br (P.el la i)) j ∈ L ∧ P.kd (P.el (P.br (P.el la i)) j) = 17 := ((h.inb ⟨i, i0, i1, rfl⟩).2.1.2.2.2.2 j j0 j1).2
theorem ALP.kend (h : ALP L P cO cI cZ ed la) (i0 : 0 ≤ i) (i1 : i < P.lz la) : P.be (P.el la i) ∈ L ∧ P.kd (P.be (P.el la i)) = 17 ∧ P.ek (P.be (P.el la i)) = 1 := (h.glf.gb (h.inb ⟨i, i0, i1, rfl⟩).1.1 (h.inb ⟨i, i0, i1, rfl⟩).1.2).1
theorem ALP.erow (h : ALP L P cO cI cZ ed la) (i0 : 0 ≤ i) (i1 : i < P.lz la) (j0 : 0 ≤ j) (j1 : j < P.lz (P.br (P.el la i))) : P.ek (P.el (P.br (P.el la i)) j) ≠ 1 := by
  have b := (h.inb ⟨i, i0, i1, rfl⟩).1
  have o := (h.glf.owc _ b.1 b.2).1
  exact (h.glf.gla _ o.2.2.1 o.2.2.2).2.2 o.1 j j0 j1
theorem VST.nphi (n : NDR P la) (h : ALP L P cO cI cZ ed la) (i0 : 0 ≤ i) (i1 : i < P.lz la) (j0 : 0 ≤ j) (j1 : j < P.lz (P.bp (P.el la i))) : ¬ VST P la i j r (P.el (P.bp (P.el la i)) j) := by
  have kx := (h.kphi i0 i1 j0 j1).2
  rintro (⟨c, k, c0, c1, k0, k1, e, q⟩ | ⟨c, k, c0, c1, k0, k1, e, q⟩ | ⟨c, c0, c1, e, q⟩)
  · have t := n.2.1 i c j k i0 i1 c0 c1 j0 j1 k0 k1 e
    omega
  · rw [e, (h.krow c0 c1 k0 k1).2] at kx
    omega
  · rw [e, (h.kend c0 c1).2.1] at kx
    omega
theorem VST.nrow (n : NDR P la) (h : ALP L P cO cI cZ ed la) (i0 : 0 ≤ i) (i1 : i < P.lz la) (r0 : 0 ≤ r) (r1 : r < P.lz (P.br (P.el la i))) : ¬ VST P la i j r (P.el (P.br (P.el la i)) r) := by
  have kx := (h.krow i0 i1 r0 r1).2
  rintro (⟨c, k, c0, c1, k0, k1, e, q⟩ | ⟨c, k, c0, c1, k0, k1, e, q⟩ | ⟨c, c0, c1, e, q⟩)
  · rw [e, (h.kphi c0 c1 k0 k1).2] at kx
    omega
  · have t := n.1 i c r k i0 i1 c0 c1 r0 r1 k0 k1 e
    omega
  · exact h.erow i0 i1 r0 r1 (by rw [e]; exact (h.kend c0 c1).2.2)
theorem VST.nend (n : NDR P la) (h : ALP L P cO cI cZ ed la) (i0 : 0 ≤ i) (i1 : i < P.lz la) : ¬ VST P la i j r (P.be (P.el la i)) := by
  have kx := h.kend i0 i1
  rintro (⟨c, k, c0, c1, k0, k1, e, q⟩ | ⟨c, k, c0, c1, k0, k1, e, q⟩ | ⟨c, c0, c1, e, q⟩)
  · have t := kx.2.1
    rw [e, (h.kphi c0 c1 k0 k1).2] at t
    omega
  · exact h.erow c0 c1 k0 k1 (by rw [← e]; exact kx.2.2)
  · have t := n.2.2 i c i0 i1 c0 c1 e
    omega
theorem VST.first (P : PO) (la : Nat) : ¬ VST P la 0 0 0 z := by
  rintro (⟨c, k, c0, c1, k0, k1, e, q⟩ | ⟨c, k, c0, c1, k0, k1, e, q⟩ | ⟨c, c0, c1, e, q⟩) <;> omega
theorem DON.first (P Q : PO) (g : Int → Int) (la : Nat) : DON P Q g (VST P la 0 0 0) := fun z q => absurd q (VST.first P la)
theorem RWB.same (h : RWB P g x) (e : ∀ f : Nat, Q.1 f x = P.1 f x) : RWB Q g x := by
  have a0 : Q.ro x = P.ro x := e 0
  have a1 : Q.rt x = P.rt x := e 1
  have a2 : Q.ra x = P.ra x := e 2
  have a3 : Q.rb x = P.rb x := e 3
  have a4 : Q.rA x = P.rA x := e 4
  have a5 : Q.rB x = P.rB x := e 5
  unfold RWB
  rw [a0, a1, a2, a3, a4, a5]
  exact h
theorem RNR.same (h : RNR P Q g x) (e : ∀ f : Nat, Q'.1 f x = Q.1 f x) : RNR P Q' g x := by
  have a0 : Q'.ro x = Q.ro x := e 0
  have a1 : Q'.rt x = Q.rt x := e 1
  have a2 : Q'.ra x = Q.ra x := e 2
  have a3 : Q'.rb x = Q.rb x := e 3
  have a4 : Q'.rA x = Q.rA x := e 4
  have a5 : Q'.rB x = Q.rB x := e 5
  unfold RNR
  rw [a0, a1, a2, a3, a4, a5]
  exact h
theorem RNR.pre (h : RNR Q Q' g x) (e : ∀ f : Nat, Q.1 f x = P.1 f x) : RNR P Q' g x := by
  have a0 : Q.ro x = P.ro x := e 0
  have a1 : Q.rt x = P.rt x := e 1
  have a2 : Q.ra x = P.ra x := e 2
  have a3 : Q.rb x = P.rb x := e 3
  have a4 : Q.rA x = P.rA x := e 4
  have a5 : Q.rB x = P.rB x := e 5
  unfold RNR at h ⊢
  rw [a0, a1, a2, a3, a4, a5] at h
  exact h
theorem RNP.same (h : RNP P Q g x k) (e : ∀ f : Nat, Q'.1 f x = Q.1 f x) (a1 : Q'.ia (P.pp x) = Q.ia (P.pp x)) (a2 : Q'.ia (P.pu x) = Q.ia (P.pu x)) (a3 : Q'.ia (P.pr x) = Q.ia (P.pr x)) : RNP P Q' g x k := by
  refine ⟨(e 1).trans h.1, (e 0).trans h.2.1, fun i i0 i1 => ?_⟩
  rw [a1, a2, a3]
  exact h.2.2 i i0 i1
/-- what has become stays when another object changes -/
theorem DON.keep (d : DON P Q g V) (p : ∀ z : Nat, V z → P.kd z = 15 → PIK L P cI cZ z) (w : PH1 x Q Q') (o : ∀ a : Nat, Q.ow a = P.ow a) (n : ¬ V x) : DON P Q' g V := fun z v => by
  have ne : z ≠ x := fun e => n (by rw [← e]; exact v)
  refine ⟨fun k => ((d z v).1 k).same (w.2.1 z ne), fun k => ?_⟩
  have q := p z v k
  have t : ∀ a : Nat, P.ow a = z → Q'.ia a = Q.ia a := fun a e => w.2.2 a (by rw [o, e]; exact ne)
  exact ((d z v).2 k).same (w.2.1 z ne) (t _ q.2.1.2.2.2) (t _ q.2.2.1.2.2.2) (t _ q.2.2.2.1.2.2.2)
theorem ALP.vpik (h : ALP L P cO cI cZ ed la) (z : Nat) (v : VST P la i j r z) (k : P.kd z = 15) : PIK L P cI cZ z := by
  rcases v with ⟨c, m, c0, c1, k0, k1, e, q⟩ | ⟨c, m, c0, c1, k0, k1, e, q⟩ | ⟨c, c0, c1, e, q⟩
  · exact h.pik (by rw [e]; exact (h.kphi c0 c1 k0 k1).1) k
  · rw [e, (h.krow c0 c1 k0 k1).2] at k; omega
  · rw [e, (h.kend c0 c1).2.1] at k; omega
theorem DON.add (d : DON P Q g V) (s : ∀ z : Nat, V' z → V z ∨ z = x) (a : (P.kd x = 17 → RNR P Q g x) ∧ (P.kd x = 15 → RNP P Q g x (P.pn x))) : DON P Q g V' := fun z v => by
  rcases s z v with q | q
  · exact d z q
  · rw [q]; exact a
/-- an operand of a PHI set anew -/
theorem PIK.put {v : Int} {q : Nat} (h : PIK L P cI cZ x) (eq : P.pu x = q) (i0 : 0 ≤ i) (i1 : i < P.pn x) (v0 : 0 ≤ v) (v1 : v ≤ 1001) (e : Q = P.ri9 q (zup (P.ia q) i v)) : PH1 x P Q ∧ PIK L Q cI cZ x ∧ PRQ x P Q ∧ (Q.pn x = P.pn x ∧ Q.pt x = P.pt x) ∧ (Q.ia (P.pp x) = P.ia (P.pp x) ∧ Q.ia (P.pr x) = P.ia (P.pr x) ∧ Q.ia (P.pu x) = zup (P.ia (P.pu x)) i v) := by
  subst eq
  have w : PH1 x P Q := by rw [e]; exact PH1.num h.2.2.1.2.2.2
  have a1 : Q.ia (P.pp x) = P.ia (P.pp x) := by rw [e]; exact ri9_of _ _ (fun q => by have s := h.2.1.2.1; rw [q, h.2.2.1.2.1] at s; omega)
  have a3 : Q.ia (P.pr x) = P.ia (P.pr x) := by rw [e]; exact ri9_of _ _ (fun q => by have s := h.2.2.2.1.2.1; rw [q, h.2.2.1.2.1] at s; omega)
  have a2 : Q.ia (P.pu x) = zup (P.ia (P.pu x)) i v := by rw [e]; exact ri9_at _ _ _
  have n1 : Q.pn x = P.pn x := by rw [e]; rfl
  have n0 : Q.pt x = P.pt x := by rw [e]; rfl
  have n2 : Q.pg x = P.pg x := by rw [e]; rfl
  have b1 : Q.pp x = P.pp x := by rw [e]; rfl
  have b2 : Q.pu x = P.pu x := by rw [e]; rfl
  have b3 : Q.pr x = P.pr x := by rw [e]; rfl
  have hn := h.2.2.2.2.1
  have ht := h.2.2.2.2.2.1
  refine ⟨w, h.of w (by omega) (by omega) (by rw [n0, n2]; exact ht) (fun j j0 j1 => ?_), fun n f j j0 j1 => ?_, ⟨n1, n0⟩, a1, a3, a2⟩
  · have q := h.ef j0 (by omega)
    unfold PEF at q ⊢
    rw [b1, b2, b3, a1, a2, a3]
    by_cases s : j = i
    · rw [s, zup_eq]
      rw [s] at q
      exact ⟨q.1, by omega, q.2.2.1, Or.inr ⟨v0, v1⟩⟩
    · rw [zup_ne _ _ s]; exact q
  · rw [b1, a1]; exact f j j0 (by omega)
theorem RNP.zero (n : Q.pn x = P.pn x) (t : Q.pt x = g (P.pt x)) (a1 : Q.ia (P.pp x) = P.ia (P.pp x)) (a2 : Q.ia (P.pu x) = P.ia (P.pu x)) (a3 : Q.ia (P.pr x) = P.ia (P.pr x)) : RNP P Q g x 0 := ⟨n, t, fun i i0 i1 => ⟨by rw [a1], by rw [a3], fun q => by omega, fun _ => by rw [a2]⟩⟩
theorem RNP.skip (h : RNP P Q g x k) (k0 : 0 ≤ k) (z : P.ia (P.pr x) k = 0) : RNP P Q g x (k + 1) := ⟨h.1, h.2.1, fun i i0 i1 => by
  obtain ⟨b1, b2, b3, b4⟩ := h.2.2 i i0 i1
  refine ⟨b1, b2, fun q => ?_, fun q => b4 (by omega)⟩
  by_cases s : i < k
  · exact b3 s
  · have e : i = k := by omega
    exact ⟨fun _ => b4 (by omega), fun n => absurd (by rw [e]; exact z) n⟩⟩
theorem RNP.put {v : Int} (h : RNP P Q g x k) (k0 : 0 ≤ k) (z : P.ia (P.pr x) k ≠ 0) (ev : v = g (P.ia (P.pu x) k)) (n : Q'.pn x = Q.pn x ∧ Q'.pt x = Q.pt x) (a1 : Q'.ia (P.pp x) = Q.ia (P.pp x)) (a3 : Q'.ia (P.pr x) = Q.ia (P.pr x)) (a2 : Q'.ia (P.pu x) = zup (Q.ia (P.pu x)) k v) : RNP P Q' g x (k + 1) := ⟨n.1.trans h.1, n.2.trans h.2.1, fun i i0 i1 => by
  obtain ⟨b1, b2, b3, b4⟩ := h.2.2 i i0 i1
  rw [a1, a2, a3]
  refine ⟨b1, b2, fun q => ?_, fun q => by rw [zup_ne _ _ (by omega)]; exact b4 (by omega)⟩
  by_cases s : i < k
  · rw [zup_ne _ _ (by omega)]; exact b3 s
  · have e : i = k := by omega
    rw [e, zup_eq]
    exact ⟨fun c => absurd c z, fun _ => ev⟩⟩
theorem RNP.full (h : RNP P Q g x k) (a : P.pn x ≤ k) : RNP P Q g x (P.pn x) := ⟨h.1, h.2.1, fun i i0 i1 => ⟨(h.2.2 i i0 i1).1, (h.2.2 i i0 i1).2.1, fun _ => (h.2.2 i i0 i1).2.2.1 (by omega), fun q => by omega⟩⟩
theorem DON.wk (d : DON P Q g V) (s : ∀ z : Nat, V' z → V z) : DON P Q g V' := fun z v => d z (s z v)
theorem RNP.at (h : RNP P Q g x k) (k0 : 0 ≤ k) (k1 : k < P.pn x) : Q.ia (P.pr x) k = P.ia (P.pr x) k ∧ Q.ia (P.pu x) k = P.ia (P.pu x) k := ⟨(h.2.2 k k0 k1).2.1, (h.2.2 k k0 k1).2.2.2 (by omega)⟩
end BEC9
