/-- nothing is changed but at S -/
def CHG (S : Nat → Prop) (L : List Nat) (P : PO) (L' : List Nat) (P' : PO) : Prop := ∀ z : Nat, z ∈ L → ¬ S z → z ∈ L' ∧ SM9 z P P'
section CHG9
variable {L L' L2 : List Nat} {P P' P2 : PO} {cO cI cZ : ClassId} {ed la x q : Nat}
theorem SM9.refl (z : Nat) (P : PO) : SM9 z P P := ⟨fun _ => rfl, fun _ => rfl, rfl, rfl, rfl⟩
theorem CHG.refl (S : Nat → Prop) (L : List Nat) (P : PO) : CHG S L P L P := fun z m _ => ⟨m, SM9.refl z P⟩
theorem CHG.trans {S S' : Nat → Prop} (h : CHG S L P L' P') (k : CHG S' L' P' L2 P2) (s : ∀ z : Nat, z ∈ L → S' z → S z) : CHG S L P L2 P2 := fun z m n => by
  obtain ⟨a, b⟩ := h z m n
  obtain ⟨c, d⟩ := k z a (fun q => n (s z m q))
  exact ⟨c, b.trans d⟩
theorem CHG.wk {S S' : Nat → Prop} (h : CHG S L P L' P') (s : ∀ z : Nat, z ∈ L → S z → S' z) : CHG S' L P L' P' := fun z m n => h z m (fun q => n (s z m q))
theorem RW1.chg (w : RW1 x P P') (L : List Nat) : CHG (fun z => z = x) L P L P' := fun z m n => ⟨m, fun f => w.2 z n f, fun f => by rw [w.1], by show P'.2.2.1 z = P.2.2.1 z; rw [w.1], by show P'.2.2.2.1 z = P.2.2.2.1 z; rw [w.1], by show P'.2.2.2.2 z = P.2.2.2.2 z; rw [w.1]⟩
theorem PH1.chg (w : PH1 x P P') (L : List Nat) : CHG (fun z => z = x ∨ P.ow z = x) L P L P' := fun z m n => ⟨m, fun f => w.2.1 z (fun e => n (Or.inl e)) f, fun f => by rw [w.1.1], by show P'.2.2.1 z = P.2.2.1 z; rw [w.1.2.1], w.2.2 z (fun e => n (Or.inr e)), by show P'.2.2.2.2 z = P.2.2.2.2 z; rw [w.1.2.2]⟩
theorem GL1.chg (w : GL1 x q L P L' P') : CHG (fun z => z = x ∨ z = P.le x) L P L' P' := fun z m n => ⟨w.2.1 z m (fun e => n (Or.inr e)), w.sm z m (fun e => n (Or.inl e)) (fun e => n (Or.inr e))⟩
theorem EXT9.chg (e : EXT9 L P L' P') : CHG (fun _ => False) L P L' P' := fun z m _ => e z m
/-- a row taken from the list lr, or made -/
def CR9 (lr x : Nat) (n : Int) (L : List Nat) (P : PO) (L' : List Nat) (P' : PO) : Prop := (x ∈ L' ∧ P'.kd x = 17 ∧ P'.ek x ≠ 1 ∧ x = P'.el lr n) ∧ (n + 1 ≤ P'.lz lr ∧ (P'.lz lr = P.lz lr ∨ (P'.lz lr = P.lz lr + 1 ∧ n = P.lz lr))) ∧ (P'.rt x = 0 ∧ P'.ra x = 0 ∧ P'.rb x = 0 ∧ P'.rA x = 0 ∧ P'.rB x = 0 ∧ P'.rg x = 0) ∧ (∀ i : Int, 0 ≤ i → i < P.lz lr → P'.el lr i = P.el lr i) ∧ CHG (fun z => z = x ∨ z = lr ∨ z = P.le lr) L P L' P'
theorem GL1.elx {i : Int} (w : GL1 x q L P L' P') (old : ∀ j : Nat, (j : Int) < P.lz x → P'.oa q j = P.oa (P.le x) j) (i0 : 0 ≤ i) (i1 : i < P.lz x) : P'.el x i = P.el x i := by
  have le : P'.le x = q := w.1.2.2.2.1
  unfold PO.el; rw [le, old i.toNat (by omega)]
theorem RW1.el (w : RW1 x P P') (l : Nat) (i : Int) : P'.el l i = P.el l i := by
  show ((P'.2.2.1 (P'.2.1 1 l)) i.toNat).getD 0 = ((P.2.2.1 (P.2.1 1 l)) i.toNat).getD 0
  rw [w.1]
theorem RW1.ek (w : RW1 x P P') (y : Nat) : P'.ek y = P.ek y := by show P'.2.1 8 y = P.2.1 8 y; rw [w.1]
theorem RW1.cap (w : RW1 x P P') (y : Nat) : P'.cap y = P.cap y := by unfold PO.cap PO.fl PO.le PO.an; rw [w.1]
end CHG9
