/-! signs are read: texts come, numbers change, nothing else -/
section NTX9
variable {L L' L2 : List Nat} {P P' P2 : PO} {cO cI cZ : ClassId} {ed x y z : Nat} {w : Nat → Int}
theorem NTX.nsf (h : NTX L P L' P') : NSF L P P' := fun z m => (h.1 z m).2
theorem NTX.capR (h : NTX L P L' P') (g : GLR L P cO cI cZ ed) (m : y ∈ L) (k : P.kd y = 30) : P'.cap y = P.cap y := h.nsf.capR g m k
theorem NTX.no (h : NTX L P L' P') (m : z ∈ L') (n : z ∉ L) : WT9 w P' z = 0 := by
  have q := h.2 z m n
  exact WT9.no ⟨by omega, by omega, by omega, by omega⟩
theorem PSI.ntx (h : NTX L P L' P') (n1 : L.Nodup) (n2 : L'.Nodup) (g : GLR L P cO cI cZ ed) : PSI w L' P' = PSI w L P := (sumL_eq L L' n1 n2 (fun z m => Or.inr ⟨(h.1 z m).1, h.nsf.wtR g m⟩) (fun z m => by
  by_cases q : z ∈ L
  · exact Or.inr ⟨q, (h.nsf.wtR g q).symm⟩
  · exact Or.inl (h.no m q))).symm
theorem LVA.ntx (v : LVA L P) (h : NTX L P L' P') (g : GLR L P cO cI cZ ed) : LVA L' P' := fun z m kz => by
  by_cases q : z ∈ L
  · have k0 : P.kd z = 30 := ((h.1 z q).2 0).symm.trans kz
    rw [h.capR g q k0]
    exact v z q k0
  · have t := h.2 z m q
    omega
end NTX9
