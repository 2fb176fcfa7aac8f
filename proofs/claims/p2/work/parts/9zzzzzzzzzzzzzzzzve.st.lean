/-! a row of the whole pool that is in its ranges though the pool's numbers are weak -/
section STW9
variable {L L' : List Nat} {P P' : PO} {cO cI cZ : ClassId} {ed x : Nat} {r y : Int}
theorem OPQ.z (h : r = 0) : OPQ r y := Or.inl h
def STW (P : PO) (x : Nat) : Prop := P.rt x ≤ 1001 ∧ OPQ (P.rA x) (P.ra x) ∧ OPQ (P.rB x) (P.rb x)
theorem STW.rok (h : STW P x) (k : ROKR P x) : ROK9 P x := ⟨k.1, ⟨k.2.1.1, h.1⟩, k.2.2.1, k.2.2.2.1, k.2.2.2.2.1, k.2.2.2.2.2.1, k.2.2.2.2.2.2.1, h.2.1.ua, h.2.2.ub⟩
/-- an END: its operand is all that is asked for -/
theorem ROKR.end (k : ROKR P x) (e : P.ek x = 1) (o : 20 ≤ P.ro x) (h : OPQ (P.rA x) (P.ra x)) : ROK9 P x := ⟨k.1, ⟨k.2.1.1, k.2.1.2.2 e⟩, k.2.2.1, k.2.2.2.1, k.2.2.2.2.1, k.2.2.2.2.2.1, k.2.2.2.2.2.2.1, h.ua, ubG o⟩
theorem GLR.end (g : GLR L P cO cI cZ ed) (m : x ∈ L) (k : P.kd x = 17) (e : P.ek x = 1) (o : 20 ≤ P.ro x) (h : OPQ (P.rA x) (P.ra x)) : ROK9 P x := (g.rokR m k).end e o h
theorem SM9.rok9 (s : SM9 x P P') (k : ROK9 P x) : ROK9 P' x := k.num s.1
end STW9
