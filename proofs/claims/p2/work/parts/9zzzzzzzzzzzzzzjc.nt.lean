/-! nothing but texts and tables comes, numbers change -/
/-- kinds, addresses and lengths of all that was stay; what has come is a text -/
def NTX (L : List Nat) (P : PO) (L' : List Nat) (P' : PO) : Prop := (∀ z : Nat, z ∈ L → z ∈ L' ∧ ∀ f : Nat, P'.2.1 f z = P.2.1 f z) ∧ ∀ z : Nat, z ∈ L' → z ∉ L → P'.kd z = 13 ∨ 40 ≤ P'.kd z
section NTX0
variable {L L' L2 : List Nat} {P P' P2 : PO} {cO cI cZ : ClassId} {ed x y z : Nat} {w : Nat → Int}
theorem NTX.refl (L : List Nat) (P : PO) : NTX L P L P := ⟨fun _ m => ⟨m, fun _ => rfl⟩, fun _ m n => absurd m n⟩
theorem NTX.trans (h : NTX L P L' P') (k : NTX L' P' L2 P2) : NTX L P L2 P2 := ⟨fun z m => ⟨(k.1 z (h.1 z m).1).1, fun f => ((k.1 z (h.1 z m).1).2 f).trans ((h.1 z m).2 f)⟩, fun z m n => by
  by_cases q : z ∈ L'
  · have e : P2.kd z = P'.kd z := (k.1 z q).2 0
    rw [e]; exact h.2 z q n
  · exact k.2 z m q⟩
theorem NTX.ext (e : EXT9 L P L' P') (t : TXN L L' P') : NTX L P L' P' := ⟨fun z m => ⟨(e z m).1, (e z m).2.2.1⟩, t⟩
theorem NTX.put9 (h : RW1 x P P') : NTX L P L P' := ⟨fun _ m => ⟨m, fun f => by rw [congrArg Prod.fst h.1]⟩, fun _ m n => absurd m n⟩
theorem NTX.chx {k : Nat} (c : CHX k L P L' P') : NTX L P L' P' := ⟨fun z m => ⟨(c.1 z m).1, (c.1 z m).2.2.1⟩, fun z m n => Or.inr (by have := c.2 z m n; omega)⟩
theorem NTX.same (e : P'.2.1 = P.2.1) : NTX L P L P' := ⟨fun _ m => ⟨m, fun f => by rw [e]⟩, fun _ m n => absurd m n⟩
theorem NTX.mem9 (m : ∀ z : Nat, z ∈ L' ↔ z ∈ L) (e : P'.2.1 = P.2.1) : NTX L P L' P' := ⟨fun z q => ⟨(m z).mpr q, fun f => by rw [e]⟩, fun z q n => absurd ((m z).mp q) n⟩
/-- a call on the lower part of the pool -/
theorem NTX.mix9 {L0 Lr : List Nat} (p : L.Perm (L0 ++ Lr)) (e : P'.2.1 = P.2.1) : NTX L P (L0 ++ Lr) (P'.mix Lr P) := ⟨fun z m => ⟨p.mem_iff.mp m, fun f => by
  by_cases q : z ∈ Lr
  · exact (mix_in (P := P) (P' := P') q).2.1 f
  · rw [(mix_out (P := P) (P' := P') q).2.1 f, e]⟩, fun z m n => absurd (p.mem_iff.mpr m) n⟩
end NTX0
