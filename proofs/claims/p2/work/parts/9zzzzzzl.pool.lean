/-- a row in the pool -/
def ROK9 (P : PO) (q : Nat) : Prop := (0 ≤ P.ro q ∧ P.ro q ≤ 40) ∧ (0 ≤ P.rt q ∧ P.rt q ≤ 1001) ∧ (-2147483648 ≤ P.ra q ∧ P.ra q ≤ 2147483647) ∧ (-2147483648 ≤ P.rb q ∧ P.rb q ≤ 2147483647) ∧ (0 ≤ P.rA q ∧ P.rA q ≤ 1) ∧ (0 ≤ P.rB q ∧ P.rB q ≤ 1) ∧ (0 ≤ P.rg q ∧ P.rg q ≤ 1) ∧ (rUsA (P.ro q) (P.rA q) = 0 ∨ (0 ≤ P.ra q ∧ P.ra q ≤ 1001)) ∧ (rUsB (P.ro q) (P.rB q) = 0 ∨ (0 ≤ P.rb q ∧ P.rb q ≤ 1001))
/-- a block in the pool: its lists, its end, its goals -/
def BOK (L : List Nat) (P : PO) (cO : ClassId) (n : Int) (x : Nat) : Prop := (x ∈ L ∧ P.kd x = 12) ∧ LOK L P cO 17 (P.br x) ∧ LOK L P cO 15 (P.bp x) ∧ (P.be x ∈ L ∧ P.kd (P.be x) = 17) ∧ (0 ≤ P.bf x ∧ P.bf x < n ∧ 0 ≤ P.bs x ∧ P.bs x < n)
/-- a function of the reference: its blocks, and all rows -/
def CDK (L : List Nat) (P : PO) (cO : ClassId) (la : Nat) : Prop := LOK L P cO 12 la ∧ P.lz la ≤ 300 ∧ (∀ i : Int, 0 ≤ i → i < P.lz la → BOK L P cO (P.lz la) (P.el la i)) ∧ ∀ q : Nat, q ∈ L → P.kd q = 17 → ROK9 P q
