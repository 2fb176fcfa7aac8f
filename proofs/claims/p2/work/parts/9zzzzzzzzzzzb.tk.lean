section TKP9
variable {L L' : List Nat} {P P' : PO} {k x : Nat} {c : ClassId} {f : Nat → Option Nat} {n len lo hi : Int}
theorem TKP.rw1 (h : RW1 x P P') (e : P.kd x = 17) (ne : k ≠ 17) : TKP k L P L P' := fun z m q => by
  have nx : z ≠ x := fun w => ne (by rw [← q, w]; exact e)
  refine ⟨m, h.2 z nx, fun f => ?_, ?_, ?_, ?_⟩
  · rw [h.1]
  · show P'.2.2.1 z = P.2.2.1 z; rw [h.1]
  · show P'.2.2.2.1 z = P.2.2.2.1 z; rw [h.1]
  · show P'.2.2.2.2 z = P.2.2.2.2 z; rw [h.1]
end TKP9
