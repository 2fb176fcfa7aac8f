theorem LSP.to {P Q : PO} {K : Int → Prop} {x : Nat} {d d' : Int} (h : LSP P Q K x d) (e : d = d') : LSP P Q K x d' := by rw [← e]; exact h
