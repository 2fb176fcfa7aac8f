theorem PO.cap_nn (P : PO) (x : Nat) : 0 ≤ P.cap x := by
  unfold PO.cap
  split
  · omega
  · omega
