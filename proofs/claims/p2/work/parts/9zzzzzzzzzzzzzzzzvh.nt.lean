/-! signs are read: texts come, numbers change, nothing else -/
/-- kinds, addresses and lengths of all that was stay; what has come is a text -/
def NTX (L : List Nat) (P : PO) (L' : List Nat) (P' : PO) : Prop := (∀ z : Nat, z ∈ L → z ∈ L' ∧ ∀ f : Nat, P'.2.1 f z = P.2.1 f z) ∧ ∀ z : Nat, z ∈ L' → z ∉ L → P'.kd z = 13 ∨ 40 ≤ P'.kd z
section NTX9
variable {L L' L2 : List Nat} {P P' P2 : PO} {cO cI cZ : ClassId} {ed x y z : Nat} {w : Nat → Int}
theorem NTX.refl (L : List Nat) (P : PO) : NTX L P L P := ⟨fun _ m => ⟨m, fun _ => rfl⟩, fun _ m n => absurd m n⟩
theorem NTX.trans (h : NTX L P L' P') (k : NTX L' P' L2 P2) : NTX L P L2 P2 := ⟨fun z m => ⟨(k.1 z (h.1 z m).1).1, fun f => ((k.1 z (h.1 z m).1).2 f).trans ((h.1 z m).2 f)⟩, fun z m n => by
  by_cases q : z ∈ L'
  · have e : P2.kd z = P'.kd z := (k.1 z q).2 0
    rw [e]; exact h.2 z q n
  · exact k.2 z m q⟩
theorem NTX.ext (e : EXT9 L P L' P') (t : TXN L L' P') : NTX L P L' P' := ⟨fun z m => ⟨(e z m).1, (e z m).2.2.1⟩, t⟩
theorem NTX.put9 (h : RW1 x P P') : NTX L P L P' := ⟨fun _ m => ⟨m, fun f => by rw [congrArg Prod.fst h.1]⟩, fun _ m n => absurd m n⟩
theorem NTX.nsf (h : NTX L P L' P') : NSF L P P' := fun z m => (h.1 z m).2
theorem NTX.capR (h : NTX L P L' P') (g : GLR L P cO cI cZ ed) (m : y ∈ L) (k : P.kd y = 30) : P'.cap y = P.cap y := h.nsf.capR g m k
theorem NTX.no (h : NTX L P L' P') (m : z ∈ L') (n : z ∉ L) : WT9 w P' z = 0 := by
  have q := h.2 z m n
  exact WT9.no ⟨by omega, by omega, by omega, by omega⟩
theorem PSI.ntx (h : NTX L P L' P') (n1 : L.Nodup) (n2 : L'.Nodup) (g : GLR L P cO cI cZ ed) : PSI w L' P' = PSI w L P := (sumL_eq L L' n1 n2 (fun z m => Or.inr ⟨(h.1 z m).1, h.nsf.wtR g m⟩) (fun z m => by
  by_cases q : z ∈ L
  · exact Or.inr ⟨q, (h.nsf.wtR g q).symm⟩
  · exact Or.inl (h.no m q))).symm
theorem LVA.ntx (v : LVA L P) (h : NTX L P L' P') (g : GLR L P cO cI cZ ed) : LVA L' P' := fun z m kz => by
  by_cases q : z ∈ L
  · have k0 : P.kd z = 30 := ((h.1 z q).2 0).symm.trans kz
    rw [h.capR g q k0]
    exact v z q k0
  · have t := h.2 z m q
    omega
end NTX9
