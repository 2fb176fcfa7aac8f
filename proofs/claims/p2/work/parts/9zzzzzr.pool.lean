theorem nw_asg {C E : String} {s : State} (h : va_Nw (.castable C E) s) : ∀ comp c0 : ClassId, s.vm.findClass E = some comp → s.vm.findClass C = some c0 → s.vm.assignable c0 comp = true := fun comp c0 a b => by
  obtain ⟨c1, t1, f1, f2, f3⟩ := Cond.castable_spec (va_Nw.use (A := #[]) rfl h)
  cases b.symm.trans f1
  cases a.symm.trans f2
  exact f3
/-- an object of the pool that a list may hold -/
def OBK (k : Nat) : Prop := k = 17 ∨ k = 15 ∨ k = 12 ∨ k = 7 ∨ k = 5 ∨ k = 2
theorem pE_parkr {P : PO} {x : Nat} (h : P.kd x = 7) : pE P x = rowE (P.ro x) (P.rt x) (P.ra x) (P.rb x) (P.rA x) (P.rB x) (P.rg x) := by unfold pE; rw [if_neg (by omega), if_neg (by omega), if_neg (by omega), if_neg (by omega), if_neg (by omega), if_neg (by omega)]; unfold pK; rw [if_pos h]
theorem pE_parkp {P : PO} {x : Nat} (h : P.kd x = 5) : pE P x = phiE (P.pt x) (P.pn x) (P.pp x) (P.pu x) (P.pr x) (P.pg x) := by unfold pE; rw [if_neg (by omega), if_neg (by omega), if_neg (by omega), if_neg (by omega), if_neg (by omega), if_neg (by omega)]; unfold pK; rw [if_neg (by omega), if_pos h]
theorem pE_parkb {P : PO} {x : Nat} (h : P.kd x = 2) : pE P x = blockE (P.bp x) (P.br x) (P.be x) (P.bf x) (P.bs x) := by unfold pE; rw [if_neg (by omega), if_neg (by omega), if_neg (by omega), if_neg (by omega), if_neg (by omega), if_neg (by omega)]; unfold pK; rw [if_neg (by omega), if_neg (by omega), if_pos h]
theorem pool_any {D : va_G} {tys : List (ClassId × FieldType)} {s : State} {X : va_W} {L : List Nat} {P : PO} {H : Heap} {y : Nat} (hK : va_K D vwQ tys s) (hP : va_P D vwQ (X ++ va_pl L (pE P)) H) (hy : y ∈ L) (k : OBK (P.kd y)) (c1 : va_Nw (.castable "SsaForgeModel$Row" "java/lang/Object") s) (c2 : va_Nw (.castable "SsaForgeModel$Phi" "java/lang/Object") s) (c3 : va_Nw (.castable "SsaForgeModel$Block" "java/lang/Object") s) : va_Any "java/lang/Object" s H y := by
  obtain ⟨q0, h⟩ := va_pl_get (X := X) (f := pE P) hy
  rcases k with k | k | k | k | k | k
  · rw [pE_row k] at h; exact va_rAny hK hP h (r := (RX17, TX17, 7)) rfl (nw_asg c1)
  · rw [pE_phi k] at h; exact va_rAny hK hP h (r := (RX15, TX15, 6)) rfl (nw_asg c2)
  · rw [pE_block k] at h; exact va_rAny hK hP h (r := (RX12, TX12, 5)) rfl (nw_asg c3)
  · rw [pE_parkr k] at h; exact va_rAny hK hP h (r := (RX17, TX17, 7)) rfl (nw_asg c1)
  · rw [pE_parkp k] at h; exact va_rAny hK hP h (r := (RX15, TX15, 6)) rfl (nw_asg c2)
  · rw [pE_parkb k] at h; exact va_rAny hK hP h (r := (RX12, TX12, 5)) rfl (nw_asg c3)
/-- what a row of objects holds is in the pool -/
def ELS (L : List Nat) (P : PO) (f : Nat → Option Nat) : Prop := ∀ j y : Nat, f j = some y → y ∈ L ∧ OBK (P.kd y)
theorem ELS.cpy {L : List Nat} {P : PO} {f g : Nat → Option Nat} (h : ELS L P f) (k : ELS L P g) (a b n : Nat) : ELS L P (va_cpy f g a b n) := fun j y e => by
  unfold va_cpy at e
  split at e
  · exact h _ _ e
  · exact k _ _ e
theorem ELS.none {L : List Nat} {P : PO} {f : Nat → Option Nat} (h : ELS L P f) (k : Nat) : ELS L P (va_up f k none) := fun j y e => by
  unfold va_up at e
  split at e
  · cases e
  · exact h _ _ e
theorem ELS.put {L : List Nat} {P : PO} {f : Nat → Option Nat} (h : ELS L P f) {k x : Nat} (hx : x ∈ L) (kx : OBK (P.kd x)) : ELS L P (va_up f k (some x)) := fun j y e => by
  unfold va_up at e
  split at e
  · cases e; exact ⟨hx, kx⟩
  · exact h _ _ e
/-- the i-th of z taken out -/
def RMV (f f' : Nat → Option Nat) (i z : Int) : Prop := ∀ j : Nat, ((j : Int) < i → f' j = f j) ∧ (i ≤ j → (j : Int) + 1 < z → f' j = f (j + 1))
theorem RMV.mid {f : Nat → Option Nat} {i z : Int} (i0 : 0 ≤ i) (h : i < z - 1) : RMV f (va_up (va_cpy f f (i + 1).toNat i.toNat (z - 1 - i).toNat) (z - 1).toNat none) i z := fun j => by
  constructor
  · intro a
    rw [va_up_ne _ _ (by omega)]
    unfold va_cpy
    rw [if_neg (by omega)]
  · intro a b
    rw [va_up_ne _ _ (by omega)]
    unfold va_cpy
    rw [if_pos (by omega)]
    congr 1; omega
theorem RMV.last {f : Nat → Option Nat} {i z : Int} (h : i = z - 1) (i0 : 0 ≤ i) : RMV f (va_up f (z - 1).toNat none) i z := fun j => by
  constructor
  · intro a
    rw [va_up_ne _ _ (by omega)]
  · intro a b; omega
