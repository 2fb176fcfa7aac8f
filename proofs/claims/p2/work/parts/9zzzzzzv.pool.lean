/-- whose a row of numbers, a list or a row of objects is -/
def PO.ow (P : PO) (x : Nat) : Nat := P.2.1 9 x
theorem pE_n40 {P : PO} {x : Nat} (h : P.kd x = 40) : pE P x = numE (P.ac x) (P.an x) (P.ia x) := by unfold pE; rw [if_neg (by omega), if_neg (by omega), if_neg (by omega), if_neg (by omega), if_neg (by omega), if_neg (by omega), pK_num (by omega)]
theorem pE_n41 {P : PO} {x : Nat} (h : P.kd x = 41) : pE P x = numE (P.ac x) (P.an x) (P.ia x) := by unfold pE; rw [if_neg (by omega), if_neg (by omega), if_neg (by omega), if_neg (by omega), if_neg (by omega), if_neg (by omega), pK_num (by omega)]
theorem pE_n42 {P : PO} {x : Nat} (h : P.kd x = 42) : pE P x = numE (P.ac x) (P.an x) (P.ia x) := by unfold pE; rw [if_neg (by omega), if_neg (by omega), if_neg (by omega), if_neg (by omega), if_neg (by omega), if_neg (by omega), pK_num (by omega)]
/-- the contents of a row of numbers set anew -/
def PO.ri9 (P : PO) (x : Nat) (a : Int → Int) : PO := (P.1, P.2.1, P.2.2.1, fun y => if y = x then a else P.2.2.2.1 y, P.2.2.2.2)
theorem ri9_at (P : PO) (x : Nat) (a : Int → Int) : (P.ri9 x a).ia x = a := by simp [PO.ri9, PO.ia]
theorem ri9_of (P : PO) {x y : Nat} (a : Int → Int) (n : y ≠ x) : (P.ri9 x a).ia y = P.ia y := by simp [PO.ri9, PO.ia, n]
theorem putnum {P : PO} {x : Nat} {a : Int → Int} (h : 40 ≤ P.kd x) : va_up (pE P) x (numE (P.ac x) (P.an x) a) = pE (P.ri9 x a) := by
  funext y
  by_cases e : y = x
  · rw [e, va_up_self]
    show _ = pE (P.ri9 x a) x
    unfold pE
    have k : (P.ri9 x a).kd x = P.kd x := rfl
    rw [k, if_neg (by omega), if_neg (by omega), if_neg (by omega), if_neg (by omega), if_neg (by omega), if_neg (by omega), pK_num (P := P.ri9 x a) (x := x) (by rw [k]; omega), ri9_at]
    rfl
  · rw [va_up_ne _ _ e]
    simp only [pE, pK, PO.kd, PO.ro, PO.rt, PO.ra, PO.rb, PO.rA, PO.rB, PO.rg, PO.pt, PO.pn, PO.pg, PO.pp, PO.pu, PO.pr, PO.bf, PO.bs, PO.bp, PO.br, PO.be, PO.lz, PO.lm, PO.le, PO.an, PO.oa, PO.ia, PO.ac, PO.ri9, if_neg e]
    rfl
theorem RWD.num (P : PO) (x : Nat) (a : Int → Int) : RWD P (P.ri9 x a) := ⟨⟨rfl, rfl, rfl⟩, fun _ _ _ _ => rfl⟩
/-- a PHI in the pool: its three rows of numbers are its own -/
def PIK (L : List Nat) (P : PO) (cI cZ : ClassId) (x : Nat) : Prop := (x ∈ L ∧ P.kd x = 15) ∧ (P.pp x ∈ L ∧ P.kd (P.pp x) = 40 ∧ P.ac (P.pp x) = cI ∧ P.ow (P.pp x) = x) ∧ (P.pu x ∈ L ∧ P.kd (P.pu x) = 41 ∧ P.ac (P.pu x) = cI ∧ P.ow (P.pu x) = x) ∧ (P.pr x ∈ L ∧ P.kd (P.pr x) = 42 ∧ P.ac (P.pr x) = cZ ∧ P.ow (P.pr x) = x) ∧ (0 ≤ P.pn x ∧ P.pn x ≤ 300 ∧ P.pn x ≤ P.an (P.pp x) ∧ P.pn x ≤ P.an (P.pu x) ∧ P.pn x ≤ P.an (P.pr x) ∧ P.an (P.pp x) ≤ 1000 ∧ P.an (P.pu x) ≤ 1000 ∧ P.an (P.pr x) ≤ 1000 ∧ P.an (P.pu x) = P.an (P.pp x) ∧ P.an (P.pr x) = P.an (P.pp x) ∧ 4 ≤ P.an (P.pp x)) ∧ (0 ≤ P.pt x ∧ P.pt x ≤ 1001 ∧ 0 ≤ P.pg x ∧ P.pg x ≤ 1) ∧ ∀ k : Int, 0 ≤ k → k < P.pn x → (0 ≤ P.ia (P.pp x) k ∧ P.ia (P.pp x) k ≤ 299) ∧ (-2147483648 ≤ P.ia (P.pu x) k ∧ P.ia (P.pu x) k ≤ 2147483647) ∧ (0 ≤ P.ia (P.pr x) k ∧ P.ia (P.pr x) k ≤ 1) ∧ (P.ia (P.pr x) k = 0 ∨ (0 ≤ P.ia (P.pu x) k ∧ P.ia (P.pu x) k ≤ 1001))
