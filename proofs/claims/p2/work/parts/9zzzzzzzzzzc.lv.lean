/-! what lives behind a block, told exactly -/
section LIV9
variable {P P' : PO} {lv : Int → Int → Int} {la x l : Nat} {f g h : Int → Int} {b n d r t w : Int}
/-- the first place at which a PHI has p -/
def PLCE (P : PO) (x : Nat) (p z : Int) : Prop := 0 ≤ z ∧ z < P.pn x ∧ P.ia (P.pp x) z = p ∧ ∀ k : Int, 0 ≤ k → k < z → P.ia (P.pp x) k ≠ p
/-- .. or none -/
def PLNE (P : PO) (x : Nat) (p z : Int) : Prop := (0 ≤ z → PLCE P x p z) ∧ (z < 0 → ∀ k : Int, 0 ≤ k → k < P.pn x → P.ia (P.pp x) k ≠ p)
theorem PLNE.neg {p : Int} (h : PLNE P x p r) (q : r < 0) {z : Int} (k : PLCE P x p z) : False := h.2 q z k.1 k.2.1 k.2.2.1
theorem PLCE.eq {p z z' : Int} (h : PLCE P x p z) (k : PLCE P x p z') : z = z' := by
  rcases Int.lt_trichotomy z z' with q | q | q
  · exact absurd h.2.2.1 (k.2.2.2 z h.1 q)
  · exact q
  · exact absurd k.2.2.1 (h.2.2.2 z' k.1 q)
/-- r is set by one of the first n PHIs of l -/
def PTN (P : PO) (l : Nat) (n r : Int) : Prop := ∃ j : Int, 0 ≤ j ∧ j < n ∧ P.pt (P.el l j) = r
/-- r is what one of the first n PHIs of l takes from b -/
def PON (P : PO) (l : Nat) (b n r : Int) : Prop := ∃ j z : Int, 0 ≤ j ∧ j < n ∧ PLCE P (P.el l j) b z ∧ P.ia (P.pr (P.el l j)) z ≠ 0 ∧ P.ia (P.pu (P.el l j)) z = r
/-- the table of what lives -/
def LVT (P : PO) (fv : Nat → Option Nat) (b r : Int) : Int := P.ia ((fv b.toNat).getD 0) r
theorem LVT.at {fv : Nat → Option Nat} {y : Nat} (e : fv b.toNat = some y) : ∀ r : Int, LVT P fv b r = P.ia y r := fun r => by unfold LVT; rw [e]; rfl
/-- the PHIs of the block to which the k-th way of x leads -/
def WYL (P : PO) (la x : Nat) (k : Int) : Nat := P.bp (P.el la (rWay (P.bf x) (P.bs x) k))
def BHA (P : PO) (lv : Int → Int → Int) (la x : Nat) (n r : Int) : Prop := ∃ k : Int, 0 ≤ k ∧ k < n ∧ lv (rWay (P.bf x) (P.bs x) k) r ≠ 0 ∧ ¬ PTN P (WYL P la x k) (P.lz (WYL P la x k)) r
def BHB (P : PO) (la x : Nat) (b n r : Int) : Prop := ∃ k : Int, 0 ≤ k ∧ k < n ∧ PON P (WYL P la x k) b (P.lz (WYL P la x k)) r
def ZER (f : Int → Int) : Prop := ∀ r : Int, f r = 0
/-- the marks of the PHIs' registers -/
def IPH (P : PO) (l : Nat) (f : Int → Int) (n : Int) : Prop := ∀ r : Int, f r ≠ 0 ↔ PTN P l n r
theorem IPH.first (z : ZER f) : IPH P l f 0 := fun r => ⟨fun q => absurd (z r) q, fun ⟨j, a, b, _⟩ => by omega⟩
theorem PTN.step : PTN P l (n + 1) r ↔ PTN P l n r ∨ (0 ≤ n ∧ P.pt (P.el l n) = r) := by
  constructor
  · intro ⟨j, a, b, c⟩
    by_cases q : j = n
    · rw [q] at c a; exact Or.inr ⟨a, c⟩
    · exact Or.inl ⟨j, a, by omega, c⟩
  · intro q
    rcases q with ⟨j, a, b, c⟩ | ⟨a, c⟩
    · exact ⟨j, a, by omega, c⟩
    · exact ⟨n, a, by omega, c⟩
theorem IPH.put (i : IPH P l f n) (n0 : 0 ≤ n) (e : P.pt (P.el l n) = t) : IPH P l (zup f t 1) (n + 1) := fun r => by
  rw [PTN.step, ← i r, e]
  unfold zup
  split
  · rename_i q; exact ⟨fun _ => Or.inr ⟨n0, q.symm⟩, fun _ => by decide⟩
  · rename_i q; exact ⟨fun k => Or.inl k, fun k => k.elim id (fun z => absurd z.2.symm q)⟩
/-- .. as they are taken away -/
def IPC (P : PO) (l : Nat) (f : Int → Int) (d n : Int) : Prop := ∀ r : Int, f r ≠ 0 → ∃ j : Int, d ≤ j ∧ j < n ∧ P.pt (P.el l j) = r
theorem IPH.clear (i : IPH P l f n) : IPC P l f 0 n := fun r q => by
  obtain ⟨j, a, b, c⟩ := (i r).mp q
  exact ⟨j, a, b, c⟩
theorem IPC.put (i : IPC P l f d n) (e : P.pt (P.el l d) = t) : IPC P l (zup f t 0) (d + 1) n := fun r q => by
  unfold zup at q
  split at q
  · exact absurd rfl q
  · rename_i ne
    obtain ⟨j, a, b, c⟩ := i r q
    refine ⟨j, ?_, b, c⟩
    by_cases w : j = d
    · rw [w, e] at c; exact absurd c.symm ne
    · omega
theorem IPC.done (i : IPC P l f d n) (q : n ≤ d) : ZER f := fun r => Classical.byContradiction fun c => by
  obtain ⟨j, a, b, _⟩ := i r c
  omega
def IN1 (P : PO) (lv : Int → Int → Int) (la x : Nat) (f : Int → Int) (n : Int) : Prop := ∀ r : Int, 0 ≤ r → r ≤ 1001 → (f r ≠ 0 ↔ BHA P lv la x n r)
theorem IN1.first (z : ∀ r : Int, 0 ≤ r → r ≤ 1001 → f r = 0) : IN1 P lv la x f 0 := fun r a b => ⟨fun q => absurd (z r a b) q, fun ⟨k, k0, k1, _⟩ => by omega⟩
theorem BHA.step : BHA P lv la x (n + 1) r ↔ BHA P lv la x n r ∨ (0 ≤ n ∧ lv (rWay (P.bf x) (P.bs x) n) r ≠ 0 ∧ ¬ PTN P (WYL P la x n) (P.lz (WYL P la x n)) r) := by
  constructor
  · intro ⟨k, a, b, c⟩
    by_cases q : k = n
    · rw [q] at c a; exact Or.inr ⟨a, c⟩
    · exact Or.inl ⟨k, a, by omega, c⟩
  · intro q
    rcases q with ⟨k, a, b, c⟩ | ⟨a, c⟩
    · exact ⟨k, a, by omega, c⟩
    · exact ⟨n, a, by omega, c⟩
/-- one way's registers come -/
def IN2 (lv : Int → Int → Int) (w : Int) (g f h : Int → Int) (d : Int) : Prop := ∀ r : Int, 0 ≤ r → r ≤ 1001 → (r < d → (f r ≠ 0 ↔ (g r ≠ 0 ∨ (lv w r ≠ 0 ∧ h r = 0)))) ∧ (d ≤ r → f r = g r)
theorem IN2.first (lv : Int → Int → Int) (w : Int) (g h : Int → Int) : IN2 lv w g g h 0 := fun r a b => ⟨fun q => by omega, fun _ => rfl⟩
theorem IN2.at (i : IN2 lv w g f h d) (d0 : 0 ≤ d) (d1 : d ≤ 1001) : f d = g d := (i d d0 d1).2 (Int.le_refl d)
theorem IN2.put {v : Int} (i : IN2 lv w g f h d) (e : v ≠ 0 ↔ (g d ≠ 0 ∨ (lv w d ≠ 0 ∧ h d = 0))) : IN2 lv w g (zup f d v) h (d + 1) := fun r a b => by
  by_cases q : r = d
  · rw [q, zup_eq]; exact ⟨fun _ => e, fun k => by omega⟩
  · rw [zup_ne _ _ q]; exact ⟨fun k => (i r a b).1 (by omega), fun k => (i r a b).2 (by omega)⟩
theorem IN2.done (i : IN2 lv w g f h d) (j : IN1 P lv la x g n) (k : IPH P l h (P.lz l)) (d1 : 1001 < d) (n0 : 0 ≤ n) (ew : w = rWay (P.bf x) (P.bs x) n) (el : l = P.bp (P.el la w)) : IN1 P lv la x f (n + 1) := fun r a b => by
  have el2 : WYL P la x n = l := by rw [el, ew]; rfl
  rw [BHA.step, el2, ← ew, ← j r a b, ((i r a b).1 (by omega)), ← k r]
  constructor
  · intro q
    rcases q with q | ⟨q, z⟩
    · exact Or.inl q
    · exact Or.inr ⟨n0, q, fun k => k z⟩
  · intro q
    rcases q with q | ⟨_, q, z⟩
    · exact Or.inl q
    · exact Or.inr ⟨q, Classical.byContradiction fun k => z k⟩
def IN3 (P : PO) (lv : Int → Int → Int) (la x : Nat) (b m : Int) (f : Int → Int) (n : Int) : Prop := ∀ r : Int, 0 ≤ r → r ≤ 1001 → (f r ≠ 0 ↔ (BHA P lv la x m r ∨ BHB P la x b n r))
theorem IN1.next {m : Int} (i : IN1 P lv la x f n) (e : n = m) : IN3 P lv la x b m f 0 := fun r a c => by
  rw [i r a c, e]
  exact ⟨fun q => Or.inl q, fun q => q.elim id (fun ⟨k, k0, k1, _⟩ => by omega)⟩
theorem BHB.step : BHB P la x b (n + 1) r ↔ BHB P la x b n r ∨ (0 ≤ n ∧ PON P (WYL P la x n) b (P.lz (WYL P la x n)) r) := by
  constructor
  · intro ⟨k, a, c, z⟩
    by_cases q : k = n
    · rw [q] at z a; exact Or.inr ⟨a, z⟩
    · exact Or.inl ⟨k, a, by omega, z⟩
  · intro q
    rcases q with ⟨k, a, c, z⟩ | ⟨a, z⟩
    · exact ⟨k, a, by omega, z⟩
    · exact ⟨n, a, by omega, z⟩
/-- one way's PHIs -/
def IN4 (P : PO) (lv : Int → Int → Int) (la x : Nat) (b m : Int) (l : Nat) (f : Int → Int) (n d : Int) : Prop := ∀ r : Int, 0 ≤ r → r ≤ 1001 → (f r ≠ 0 ↔ (BHA P lv la x m r ∨ BHB P la x b n r ∨ PON P l b d r))
theorem IN3.phis {m : Int} (i : IN3 P lv la x b m f n) : IN4 P lv la x b m l f n 0 := fun r a c => by
  rw [i r a c]
  exact ⟨fun q => q.elim Or.inl (fun k => Or.inr (Or.inl k)), fun q => q.elim Or.inl (fun k => k.elim Or.inr (fun ⟨j, z, j0, j1, _⟩ => by omega))⟩
theorem PON.step : PON P l b (n + 1) r ↔ PON P l b n r ∨ (0 ≤ n ∧ ∃ z : Int, PLCE P (P.el l n) b z ∧ P.ia (P.pr (P.el l n)) z ≠ 0 ∧ P.ia (P.pu (P.el l n)) z = r) := by
  constructor
  · intro ⟨j, z, a, c, k⟩
    by_cases q : j = n
    · rw [q] at k a; exact Or.inr ⟨a, z, k⟩
    · exact Or.inl ⟨j, z, a, by omega, k⟩
  · intro q
    rcases q with ⟨j, z, a, c, k⟩ | ⟨a, z, k⟩
    · exact ⟨j, z, a, by omega, k⟩
    · exact ⟨n, z, a, by omega, k⟩
theorem IN4.skip {m z : Int} (i : IN4 P lv la x b m l f n d) (e : PLNE P (P.el l d) b z) (q : z < 0 ∨ P.ia (P.pr (P.el l d)) z = 0) : IN4 P lv la x b m l f n (d + 1) := fun r a c => by
  rw [i r a c, PON.step]
  constructor
  · intro k
    exact k.elim Or.inl (fun k => k.elim (fun k => Or.inr (Or.inl k)) (fun k => Or.inr (Or.inr (Or.inl k))))
  · intro k
    rcases k with k | k | k | ⟨_, y, k1, k2, _⟩
    · exact Or.inl k
    · exact Or.inr (Or.inl k)
    · exact Or.inr (Or.inr k)
    · exfalso
      by_cases s : z < 0
      · exact e.neg s k1
      · have w := (e.1 (by omega)).eq k1
        rw [← w] at k2
        exact k2 (q.elim (fun s2 => absurd s2 s) id)
theorem IN4.put {m z : Int} (i : IN4 P lv la x b m l f n d) (d0 : 0 ≤ d) (e : PLNE P (P.el l d) b z) (z0 : 0 ≤ z) (q : P.ia (P.pr (P.el l d)) z ≠ 0) (et : P.ia (P.pu (P.el l d)) z = t) : IN4 P lv la x b m l (zup f t 1) n (d + 1) := fun r a c => by
  rw [PON.step]
  by_cases s : r = t
  · rw [s, zup_eq]
    exact ⟨fun _ => Or.inr (Or.inr (Or.inr ⟨d0, z, e.1 z0, q, et⟩)), fun _ => by decide⟩
  · rw [zup_ne _ _ s, i r a c]
    constructor
    · intro k
      exact k.elim Or.inl (fun k => k.elim (fun k => Or.inr (Or.inl k)) (fun k => Or.inr (Or.inr (Or.inl k))))
    · intro k
      rcases k with k | k | k | ⟨_, y, k1, k2, k3⟩
      · exact Or.inl k
      · exact Or.inr (Or.inl k)
      · exact Or.inr (Or.inr k)
      · exfalso
        have w := (e.1 z0).eq k1
        rw [← w, et] at k3
        exact s k3.symm
theorem IN4.done {m : Int} (i : IN4 P lv la x b m l f n d) (n0 : 0 ≤ n) (ed : d = P.lz l) (el : l = P.bp (P.el la (rWay (P.bf x) (P.bs x) n))) : IN3 P lv la x b m f (n + 1) := fun r a c => by
  have el2 : WYL P la x n = l := by rw [el]; rfl
  rw [i r a c, BHB.step, el2, ed]
  constructor
  · intro k
    exact k.elim Or.inl (fun k => Or.inr (k.elim Or.inl (fun k => Or.inr ⟨n0, k⟩)))
  · intro k
    exact k.elim Or.inl (fun k => Or.inr (k.elim Or.inl (fun k => Or.inr k.2)))
/-- what a row uses, and sets -/
def RUS (P : PO) (x : Nat) (r : Int) : Prop := (rUsA (P.ro x) (P.rA x) ≠ 0 ∧ P.ra x = r) ∨ (rUsB (P.ro x) (P.rB x) ≠ 0 ∧ P.rb x = r)
def RST (P : PO) (x : Nat) (r : Int) : Prop := rSets (P.ro x) ≠ 0 ∧ P.rt x = r
/-- what lives before a row, of what lives behind it -/
def BKE (P : PO) (x : Nat) (g f : Int → Int) : Prop := ∀ r : Int, 0 ≤ r → r ≤ 1001 → (f r ≠ 0 ↔ (RUS P x r ∨ (g r ≠ 0 ∧ ¬ RST P x r)))
theorem BKE.mk {f1 f2 : Int → Int} (h1 : (rSets (P.ro x) = 0 ∧ f1 = g) ∨ (rSets (P.ro x) ≠ 0 ∧ f1 = zup g (P.rt x) 0)) (h2 : (rUsA (P.ro x) (P.rA x) = 0 ∧ f2 = f1) ∨ (rUsA (P.ro x) (P.rA x) ≠ 0 ∧ f2 = zup f1 (P.ra x) 1)) (h3 : (rUsB (P.ro x) (P.rB x) = 0 ∧ f = f2) ∨ (rUsB (P.ro x) (P.rB x) ≠ 0 ∧ f = zup f2 (P.rb x) 1)) : BKE P x g f := fun r _ _ => by
  unfold RUS RST
  have e1 : f1 r ≠ 0 ↔ (g r ≠ 0 ∧ ¬ (rSets (P.ro x) ≠ 0 ∧ P.rt x = r)) := by
    rcases h1 with ⟨q, e⟩ | ⟨q, e⟩
    · rw [e]; omega
    · rw [e]; unfold zup; split <;> omega
  have e2 : f2 r ≠ 0 ↔ (f1 r ≠ 0 ∨ (rUsA (P.ro x) (P.rA x) ≠ 0 ∧ P.ra x = r)) := by
    rcases h2 with ⟨q, e⟩ | ⟨q, e⟩
    · rw [e]; omega
    · rw [e]; unfold zup; split <;> omega
  have e3 : f r ≠ 0 ↔ (f2 r ≠ 0 ∨ (rUsB (P.ro x) (P.rB x) ≠ 0 ∧ P.rb x = r)) := by
    rcases h3 with ⟨q, e⟩ | ⟨q, e⟩
    · rw [e]; omega
    · rw [e]; unfold zup; split <;> omega
  omega
/-- what lives behind the block b -/
def BEH (P : PO) (lv : Int → Int → Int) (la : Nat) (b r : Int) : Prop := BHA P lv la (P.el la b) (rWays (P.ro (P.be (P.el la b))) (P.bf (P.el la b)) (P.bs (P.el la b))) r ∨ BHB P la (P.el la b) b (rWays (P.ro (P.be (P.el la b))) (P.bf (P.el la b)) (P.bs (P.el la b))) r
def BHX (P : PO) (lv : Int → Int → Int) (la : Nat) (b : Int) (f : Int → Int) : Prop := ∀ r : Int, 0 ≤ r → r ≤ 1001 → (f r ≠ 0 ↔ BEH P lv la b r)
theorem IN3.bhx {m : Int} (i : IN3 P lv la x b m f n) (ex : x = P.el la b) (em : m = rWays (P.ro (P.be x)) (P.bf x) (P.bs x)) (en : n = m) : BHX P lv la b f := by
  subst ex
  subst en
  subst em
  exact i
end LIV9
