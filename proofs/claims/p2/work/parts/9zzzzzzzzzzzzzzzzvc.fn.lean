/-! texts come to the whole pool -/
theorem GLR.txt {L L' : List Nat} {P P' : PO} {cO cI cZ : ClassId} {ed : Nat} (h : GLR L P cO cI cZ ed) (e : EXT9 L P L' P') (t : TXN L L' P') : GLR L' P' cO cI cZ ed := h.ext e (fun z m n => by
  have q := t z m n
  exact ⟨fun k => by omega, fun k => by omega, fun k => by omega, fun k => by omega⟩)
