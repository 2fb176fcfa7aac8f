/-! what passes tell: ways, rows that set nothing, what has come -/
section WYR7
variable {L : List Nat} {P Q : PO} {cO cI cZ : ClassId} {ed la : Nat} {g : Int → Int}
theorem RSB.unv (h : UNV P Q (VST P la (P.lz la) 0 0)) (d : DON P Q g (VST P la (P.lz la) 0 0)) (a : ALP L P cO cI cZ ed la) : RSB P Q la := fun b k b0 b1 k0 k1 o => by
  rw [h.1.2.2 la a.lok.2.1] at b1
  obtain ⟨eb, wb, fb, ub⟩ := h.blk a b0 b1
  rw [eb, wb.2.1, ub.2] at k1
  have kr := a.krow b0 b1 k0 k1
  have qr := (d _ (VST.arow9 b0 b1 k0 k1)).1 kr.2
  rw [eb, wb.2.1, h.el, qr.1.1] at o
  exact ⟨b, k, ⟨b0, b1⟩, ⟨k0, k1⟩, by rw [eb, wb.2.1, h.el], o⟩
/-- dead tells SWD: all of it follows -/
theorem SWD.ed2 (h : SWD P Q la) (a : ALP L P cO cI cZ ed la) : WYR P Q la ∧ RSB P Q la ∧ Q.2.1 = P.2.1 := by
  obtain ⟨gp, gr, N, w, _⟩ := h
  exact ⟨WYR.swg w a, RSB.swg w a, w.1.1⟩
end WYR7
