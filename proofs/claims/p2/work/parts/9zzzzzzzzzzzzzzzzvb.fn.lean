/-! relations of a function don't speak of kinds: what is parked changes nothing for them -/
section KIN9
variable {P Q : PO} {g k : Nat → Nat} {la lb lr lp ls : Nat} {i n p r : Int}
theorem CMP.kin : CMP (P.kin g) la ↔ CMP P la := Iff.rfl
theorem NDR.kin : NDR (P.kin g) la ↔ NDR P la := Iff.rfl
theorem ALR.kin : ALR (P.kin g) la ↔ ALR P la := Iff.rfl
theorem AVL.kin : AVL (P.kin g) la ↔ AVL P la := Iff.rfl
theorem SNG.kin : SNG (P.kin g) la ↔ SNG P la := Iff.rfl
theorem NST.kin : NST (P.kin g) la = NST P la := rfl
theorem ENP.kin : ENP (P.kin g) la ↔ ENP P la := Iff.rfl
theorem SSP.kin : SSP (P.kin g) la ↔ SSP P la := Iff.rfl
theorem GN0.kin : GN0 (P.kin g) la ↔ GN0 P la := Iff.rfl
theorem PLF.kin : PLF (P.kin g) la ↔ PLF P la := Iff.rfl
theorem WYR.kin : WYR (P.kin g) (Q.kin k) la ↔ WYR P Q la := Iff.rfl
theorem RSB.kin : RSB (P.kin g) (Q.kin k) la ↔ RSB P Q la := Iff.rfl
theorem TOK.kin : TOK (P.kin g) la ↔ TOK P la := Iff.rfl
theorem PR60.kin : PR60 (P.kin g) la ↔ PR60 P la := Iff.rfl
theorem I60.kin : I60 (P.kin g) la ↔ I60 P la := Iff.rfl
theorem PHM.kin : PHM (P.kin g) la n ↔ PHM P la n := Iff.rfl
theorem SHA.kin : SHA (P.kin g) la ↔ SHA P la := Iff.rfl
theorem TW2.kin : TW2 (P.kin g) la r ↔ TW2 P la r := Iff.rfl
theorem CPI.kin : CPI (P.kin g) (Q.kin k) lb lr lp ls i n p ↔ CPI P Q lb lr lp ls i n p := Iff.rfl
theorem DST.kin : DST (P.kin g) lb ↔ DST P lb := Iff.rfl
theorem DSL.kin : DSL (P.kin g) lb ↔ DSL P lb := Iff.rfl
theorem tot_kin (f : Nat) : f = 1 ∨ f = 2 → (P.kin g).tot f la = P.tot f la := fun h => by rcases h with rfl | rfl <;> rfl
end KIN9
