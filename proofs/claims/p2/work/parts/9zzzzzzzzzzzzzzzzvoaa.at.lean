section ATH11
variable {L L' : List Nat} {P P' Q R : PO} {cO cI cZ : ClassId} {ed la lp x : Nat} {n t : Int}
theorem FNE.tot (f : FNE P Q la) : Q.tot 2 la = P.tot 2 la ∧ Q.tot 1 la = P.tot 1 la := by
  unfold PO.tot
  rw [f.1]
  refine ⟨sumI_eq (fun i a b => ?_), sumI_eq (fun i a b => ?_)⟩
  · have g := f.2 i a (by omega)
    rw [g.1]
    show Q.lz (Q.br (P.el la i)) = P.lz (P.br (P.el la i))
    rw [g.2.1.2.1]
    exact g.2.2.2.1.1
  · have g := f.2 i a (by omega)
    rw [g.1]
    show Q.lz (Q.bp (P.el la i)) = P.lz (P.bp (P.el la i))
    rw [g.2.1.1]
    exact g.2.2.1.1
theorem CPQ.kx (w : CPQ lp x n t L P L' P') (g : GLR L P cO cI cZ ed) (c : CLF L P lp 15) (n0 : 0 ≤ n) (m : x ∈ L) : P.kd x = 15 := by
  have k := g.lk c
  rcases w.2.1.2 with e | e
  · have h1 : n < P.lz lp := by have := w.2.1.1; omega
    rw [w.1.2.2, w.2.2.2.1 n n0 h1]
    exact (k.2.2.2.2 n n0 h1).2.2
  · exact absurd m e.2.2
end ATH11
