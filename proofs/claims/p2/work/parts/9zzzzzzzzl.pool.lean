/-- what the next of a list of z in a row of n costs: a new row, or nothing -/
def groS (z n : Int) : Nat := if z = n then (n + n / 2 + 1).toNat else 0
def groC (z n : Int) : Nat := if z = n then 1 else 0
theorem groS_spec (z n : Int) : (z = n → 0 ≤ n → (groS z n : Int) = n + n / 2 + 1) ∧ (z ≠ n → groS z n = 0) := by
  unfold groS
  refine ⟨fun e h => ?_, fun e => if_neg e⟩
  rw [if_pos e]; omega
theorem groC_spec (z n : Int) : (z = n → groC z n = 1) ∧ (z ≠ n → groC z n = 0) := by
  unfold groC
  exact ⟨fun e => if_pos e, fun e => if_neg e⟩
def PO.gs (P : PO) (x : Nat) : Nat := if P.fl x = 1 then groS (P.lz x) (P.an (P.le x)) else 10
def PO.gc (P : PO) (x : Nat) : Nat := if P.fl x = 1 then groC (P.lz x) (P.an (P.le x)) else 1
theorem PO.gs_spec (P : PO) (x : Nat) : (P.fl x = 1 → P.gs x = groS (P.lz x) (P.an (P.le x)) ∧ P.gc x = groC (P.lz x) (P.an (P.le x))) ∧ (P.fl x ≠ 1 → P.gs x = 10 ∧ P.gc x = 1) := by
  unfold PO.gs PO.gc
  exact ⟨fun e => ⟨if_pos e, if_pos e⟩, fun e => ⟨if_neg e, if_neg e⟩⟩
