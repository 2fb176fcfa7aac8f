/-- how many PHIs are wanted in block x -/
def hwF (f : Nat → Int64) (nw x : Int) : Int := pcS f (x * nw) nw.toNat
theorem hwF_nn (f : Nat → Int64) (nw : Int) : ∀ x : Int, 0 ≤ hwF f nw x := fun x => (pcS_rng f (x * nw) nw.toNat).1
