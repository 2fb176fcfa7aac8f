/-! the same, told by the list that has grown -/
section PSI7
variable {L L' : List Nat} {P P' : PO} {cO cI cZ : ClassId} {ed x q : Nat}
theorem PSI.gls (n1 : L.Nodup) (n2 : L'.Nodup) (h : GLF L P cO cI cZ ed) (r : GL1 x q L P L' P') (mx : x ∈ L) (kx : P.kd x = 30) (fx : P.fl x = 1 ∨ P.le x ∉ L) : PSI wSL L' P' = PSI wSL L P + (LVS (P'.cap x) - LVS (P.cap x)) ∧ PSI wCE L' P' = PSI wCE L P + 4 * (LVS (P'.cap x) - LVS (P.cap x)) := by
  have p1 := PSI.gl1 (w := wSL) n1 n2 h r mx kx fx
  have p2 := PSI.gl1 (w := wCE) n1 n2 h r mx kx fx
  have w1 : wSL 5 = 1 := by decide
  have w2 : wCE 5 = 4 := by decide
  rw [w1] at p1
  rw [w2] at p2
  exact ⟨by omega, p2⟩
theorem LVS.top {c : Int} (h : LVC c) : 0 ≤ LVS c ∧ LVS c ≤ 18727 := by
  refine ⟨LVS.nn c, ?_⟩
  unfold LVC at h
  rcases h with h | h | h | h | h | h | h | h | h | h | h | h | h | h | h | h | h | h <;> subst h <;> decide
theorem cap_same (e : P'.2.1 = P.2.1) (x : Nat) : P'.cap x = P.cap x := by unfold PO.cap PO.fl PO.le PO.an; rw [e]
end PSI7
