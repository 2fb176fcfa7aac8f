/-! what is come to from block 0, but not through u: told exactly -/
section RCH9
variable {P : PO} {la x : Nat} {f g stk : Int → Int} {u t n d c : Int}
/-- a way leads from a to c -/
def EDG (P : PO) (la : Nat) (a c : Int) : Prop := ∃ k : Int, 0 ≤ k ∧ k < rWays (P.ro (P.be (P.el la a))) (P.bf (P.el la a)) (P.bs (P.el la a)) ∧ rWay (P.bf (P.el la a)) (P.bs (P.el la a)) k = c
def RCH (P : PO) (la : Nat) (u b : Int) : Prop := ∀ S : Int → Prop, (u ≠ 0 → S 0) → (∀ a c : Int, S a → EDG P la a c → c ≠ u → S c) → S b
theorem RCH.zero (h : u ≠ 0) : RCH P la u 0 := fun _ z _ => z h
theorem RCH.step {a : Int} (h : RCH P la u a) (e : EDG P la a c) (n : c ≠ u) : RCH P la u c := fun S z s => s a c (h S z s) e n
/-- told: the marks are those that are come to -/
def RCX (P : PO) (la : Nat) (u : Int) (f : Int → Int) (n : Int) : Prop := ∀ b : Int, 0 ≤ b → b < n → (f b ≠ 0 ↔ RCH P la u b)
theorem RCX.none (h : u = 0) (z : ∀ b : Int, 0 ≤ b → b < n → f b = 0) : RCX P la u f n := fun b a c => ⟨fun q => absurd (z b a c) q, fun q => (q (fun _ => False) (fun w => absurd h w) (fun _ _ w _ _ => w)).elim⟩
def RI1 (P : PO) (la : Nat) (u : Int) (f : Int → Int) (n : Int) : Prop := ∀ b : Int, 0 ≤ b → b < n → f b ≠ 0 → RCH P la u b
def RI2 (P : PO) (la : Nat) (u : Int) (f stk : Int → Int) (t n : Int) : Prop := (∀ j : Int, 0 ≤ j → j < t → f (stk j) ≠ 0) ∧ ∀ a : Int, 0 ≤ a → a < n → f a ≠ 0 → (∃ j : Int, 0 ≤ j ∧ j < t ∧ stk j = a) ∨ ∀ c : Int, EDG P la a c → c ≠ u → f c ≠ 0
def RI3 (P : PO) (la : Nat) (u : Int) (f stk : Int → Int) (t n r d : Int) : Prop := (∀ j : Int, 0 ≤ j → j < t → f (stk j) ≠ 0) ∧ f r ≠ 0 ∧ ∀ a : Int, 0 ≤ a → a < n → f a ≠ 0 → (∃ j : Int, 0 ≤ j ∧ j < t ∧ stk j = a) ∨ (∀ c : Int, EDG P la a c → c ≠ u → f c ≠ 0) ∨ (a = r ∧ ∀ k : Int, 0 ≤ k → k < d → rWay (P.bf (P.el la r)) (P.bs (P.el la r)) k ≠ u → f (rWay (P.bf (P.el la r)) (P.bs (P.el la r)) k) ≠ 0)
theorem RI1.first (z : ∀ b : Int, 0 ≤ b → b < n → g b = 0) (h : u ≠ 0) : RI1 P la u (zup g 0 1) n := fun b a c q => by
  by_cases e : b = 0
  · rw [e]; exact RCH.zero h
  · rw [zup_ne _ _ e] at q; exact absurd (z b a c) q
theorem RI2.first (z : ∀ b : Int, 0 ≤ b → b < n → g b = 0) : RI2 P la u (zup g 0 1) (zup stk 0 0) 1 n := ⟨fun j a b => by
  rw [show j = 0 by omega, zup_eq, zup_eq]; decide, fun b a c q => by
  by_cases e : b = 0
  · exact Or.inl ⟨0, by omega, by omega, by rw [zup_eq, e]⟩
  · rw [zup_ne _ _ e] at q; exact absurd (z b a c) q⟩
theorem RI2.pop (h : RI2 P la u f stk t n) (t0 : 0 < t) : RI3 P la u f stk (t - 1) n (stk (t - 1)) 0 := ⟨fun j a b => h.1 j a (by omega), h.1 _ (by omega) (by omega), fun a a0 a1 q => by
  rcases h.2 a a0 a1 q with ⟨j, j0, j1, e⟩ | k
  · by_cases w : j = t - 1
    · exact Or.inr (Or.inr ⟨by rw [← e, w], fun k k0 k1 => by omega⟩)
    · exact Or.inl ⟨j, j0, by omega, e⟩
  · exact Or.inr (Or.inl k)⟩
theorem RI3.skip {r : Int} (h : RI3 P la u f stk t n r d) (ex : x = P.el la r) (w : rWay (P.bf x) (P.bs x) d = u ∨ f (rWay (P.bf x) (P.bs x) d) ≠ 0) : RI3 P la u f stk t n r (d + 1) := ⟨h.1, h.2.1, fun a a0 a1 q => by
  subst ex
  rcases h.2.2 a a0 a1 q with k | k | ⟨e, k⟩
  · exact Or.inl k
  · exact Or.inr (Or.inl k)
  · refine Or.inr (Or.inr ⟨e, fun k2 b0 b1 b2 => ?_⟩)
    by_cases z : k2 = d
    · rw [z] at b2 ⊢; exact w.elim (fun y => absurd y b2) id
    · exact k k2 b0 (by omega) b2⟩
theorem RI3.push {r : Int} (h : RI3 P la u f stk t n r d) (ex : x = P.el la r) (t0 : 0 ≤ t) : RI3 P la u (zup f (rWay (P.bf x) (P.bs x) d) 1) (zup stk t (rWay (P.bf x) (P.bs x) d)) (t + 1) n r (d + 1) := by
  have up : ∀ a : Int, f a ≠ 0 → zup f (rWay (P.bf x) (P.bs x) d) 1 a ≠ 0 := fun a q => by
    unfold zup
    split
    · decide
    · exact q
  refine ⟨fun j a b => ?_, up _ h.2.1, fun a a0 a1 q => ?_⟩
  · by_cases z : j = t
    · rw [z, zup_eq, zup_eq]; decide
    · rw [zup_ne stk _ z]; exact up _ (h.1 j a (by omega))
  · by_cases z : a = rWay (P.bf x) (P.bs x) d
    · exact Or.inl ⟨t, t0, by omega, by rw [zup_eq, z]⟩
    · rw [zup_ne _ _ z] at q
      subst ex
      rcases h.2.2 a a0 a1 q with ⟨j, j0, j1, e⟩ | k | ⟨e, k⟩
      · exact Or.inl ⟨j, j0, by omega, by rw [zup_ne _ _ (by omega)]; exact e⟩
      · exact Or.inr (Or.inl fun c e n => up _ (k c e n))
      · refine Or.inr (Or.inr ⟨e, fun k2 b0 b1 b2 => ?_⟩)
        by_cases w : k2 = d
        · rw [w, zup_eq]; decide
        · exact up _ (k k2 b0 (by omega) b2)
theorem RI1.push {r : Int} (h : RI1 P la u f n) (q : RI3 P la u f stk t n r d) (ex : x = P.el la r) (r0 : 0 ≤ r) (r1 : r < n) (d0 : 0 ≤ d) (d1 : d < rWays (P.ro (P.be x)) (P.bf x) (P.bs x)) (ne : rWay (P.bf x) (P.bs x) d ≠ u) : RI1 P la u (zup f (rWay (P.bf x) (P.bs x) d) 1) n := fun b b0 b1 w => by
  by_cases z : b = rWay (P.bf x) (P.bs x) d
  · rw [z]
    refine (h r r0 r1 q.2.1).step ⟨d, d0, ?_, ?_⟩ ne
    · rw [← ex]; exact d1
    · rw [← ex]
  · rw [zup_ne _ _ z] at w; exact h b b0 b1 w
theorem RI3.done {r : Int} (h : RI3 P la u f stk t n r d) (ex : x = P.el la r) (w : rWays (P.ro (P.be x)) (P.bf x) (P.bs x) ≤ d) : RI2 P la u f stk t n := ⟨h.1, fun a a0 a1 q => by
  subst ex
  rcases h.2.2 a a0 a1 q with k | k | ⟨e, k⟩
  · exact Or.inl k
  · exact Or.inr k
  · refine Or.inr fun c ⟨k2, b0, b1, b2⟩ ne => ?_
    rw [e] at b1 b2
    rw [← b2]
    exact k k2 b0 (by omega) (by rw [b2]; exact ne)⟩
theorem RI2.rcx {L : List Nat} {cO : ClassId} (h : RI2 P la u f stk t n) (j : RI1 P la u f n) (t0 : t ≤ 0) (cd : CDK L P cO la) (en : n = P.lz la) (z : u ≠ 0 → f 0 ≠ 0) (n1 : 1 ≤ n) : RCX P la u f n := fun b b0 b1 => ⟨fun q => j b b0 b1 q, fun q => by
  have key := q (fun b => 0 ≤ b ∧ b < n ∧ f b ≠ 0) (fun w => ⟨by omega, by omega, z w⟩) (fun a c s e ne => by
    obtain ⟨s0, s1, s2⟩ := s
    have bk := (cd.2.2.1 a s0 (by omega)).2.2.2.2
    obtain ⟨k, k0, k1, k2⟩ := e
    have rw9 := rWay_spec (P.bf (P.el la a)) (P.bs (P.el la a)) k
    refine ⟨by omega, by omega, ?_⟩
    rcases h.2 a s0 s1 s2 with ⟨y, y0, y1, _⟩ | w
    · omega
    · exact w c ⟨k, k0, k1, k2⟩ ne)
  exact key.2.2⟩
end RCH9
