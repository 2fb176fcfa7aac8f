/-! lists' rows grow within a limit, nothing else comes that is counted -/
/-- objects that are counted stay and no other comes; a list's row is as long as it was, or at most 1234; PHIs' rows stay -/
def FRL (L : List Nat) (P : PO) (L' : List Nat) (P' : PO) : Prop := (∀ z : Nat, z ∈ L → P.kd z ≠ 31 → z ∈ L' ∧ P'.kd z = P.kd z) ∧ (∀ z : Nat, z ∈ L' → (P'.kd z = 12 ∨ P'.kd z = 15 ∨ P'.kd z = 17 ∨ P'.kd z = 30) → z ∈ L ∧ P.kd z = P'.kd z) ∧ (∀ z : Nat, z ∈ L → P.kd z = 30 → P'.cap z = P.cap z ∨ (P.cap z ≤ P'.cap z ∧ P'.cap z ≤ 1234)) ∧ ∀ z : Nat, z ∈ L → P.kd z = 15 → P'.pp z = P.pp z ∧ P'.an (P.pp z) = P.an (P.pp z)
section FRL9
variable {L L' L1 L2 : List Nat} {P P' P1 P2 : PO} {cO cI cZ : ClassId} {ed x q : Nat}
theorem FRL.refl (L : List Nat) (P : PO) : FRL L P L P := ⟨fun _ m _ => ⟨m, rfl⟩, fun _ m _ => ⟨m, rfl⟩, fun _ _ _ => Or.inl rfl, fun _ _ _ => ⟨rfl, rfl⟩⟩
theorem FRL.trans (h : FRL L P L1 P1) (k : FRL L1 P1 L2 P2) : FRL L P L2 P2 := by
  refine ⟨fun z m n => ?_, fun z m s => ?_, fun z m d => ?_, fun z m d => ?_⟩
  · obtain ⟨a, b⟩ := h.1 z m n
    obtain ⟨c, e⟩ := k.1 z a (by omega)
    exact ⟨c, e.trans b⟩
  · obtain ⟨a, b⟩ := k.2.1 z m s
    obtain ⟨c, e⟩ := h.2.1 z a (by rw [b]; exact s)
    exact ⟨c, e.trans b⟩
  · obtain ⟨a, b⟩ := h.1 z m (by omega)
    have u := h.2.2.1 z m d
    have v := k.2.2.1 z a (b.trans d)
    omega
  · obtain ⟨a, b⟩ := h.1 z m (by omega)
    obtain ⟨p1, n1⟩ := h.2.2.2 z m d
    obtain ⟨p2, n2⟩ := k.2.2.2 z a (b.trans d)
    rw [p1] at p2 n2
    exact ⟨p2, n2.trans n1⟩
theorem FRL.same (e : P'.2.1 = P.2.1) : FRL L P L P' := by
  refine ⟨fun z m _ => ⟨m, ?_⟩, fun z m _ => ⟨m, ?_⟩, fun z _ _ => Or.inl ?_, fun z _ _ => ⟨?_, ?_⟩⟩
  · unfold PO.kd; rw [e]
  · unfold PO.kd; rw [e]
  · unfold PO.cap PO.fl PO.le PO.an; rw [e]
  · unfold PO.pp; rw [e]
  · unfold PO.an; rw [e]
theorem FRL.gl1 (h : GLF L P cO cI cZ ed) (w : GL1 x q L P L' P') (mx : x ∈ L) (kx : P.kd x = 30) (fx : P.fl x = 1 ∨ P.le x ∉ L) (c : P'.cap x = P.cap x ∨ (P.cap x ≤ P'.cap x ∧ P'.cap x ≤ 1234)) : FRL L P L' P' := by
  have o := h.2.2.2.1
  have nle : ∀ z : Nat, z ∈ L → P.kd z ≠ 31 → z ≠ P.le x := fun z m n e => by
    rcases fx with f | f
    · exact n (by rw [e]; exact ((o x mx kx).2 f).2.1)
    · exact f (by rw [← e]; exact m)
  have nq : ∀ z : Nat, z ∈ L → P.kd z ≠ 31 → z ≠ q := fun z m n e => nle z m n (by rw [e]; exact w.2.2.2.2 (by rw [← e]; exact m))
  refine ⟨fun z m n => ?_, fun z m s => ?_, fun z m d => ?_, fun z m d => ?_⟩
  · exact ⟨w.2.1 z m (nle z m n), w.kd kx m (nle z m n)⟩
  · by_cases e : z = x
    · rw [e]; exact ⟨mx, kx.trans w.1.2.2.1.symm⟩
    · rcases w.2.2.1 z m with e1 | e1 | e1
      · exact absurd e1 e
      · have := w.1.2.2.2.2.1; rw [e1] at s; omega
      · by_cases e2 : z = q
        · have := w.1.2.2.2.2.1; rw [e2] at s; omega
        · exact ⟨e1, ((w.2.2.2.1 z e e2).2.1 0).symm⟩
  · by_cases e : z = x
    · rw [e]; exact c
    · exact Or.inl (w.capO o mx kx fx m d e)
  · have s1 := w.2.2.2.1 z (fun e => by rw [e, kx] at d; omega) (nq z m (by omega))
    have pk := (h.2.2.1 z m d).2.1
    have s2 := w.2.2.2.1 (P.pp z) (fun e => by have := pk.2.1; rw [e, kx] at this; omega) (nq _ pk.1 (by have := pk.2.1; omega))
    exact ⟨s1.2.1 1, s2.2.1 1⟩
/-- the new length, where at most 1200 are in a list -/
theorem FRL.grow (r : GL1 x q L P L' P') (h : LVC (P.cap x)) (zb : P.lz x ≤ 1200) (g : P.fl x = 1 → (P'.an (P'.le x) = P.an (P.le x) ∧ P.lz x ≠ P.an (P.le x)) ∨ (P.lz x = P.an (P.le x) ∧ (P'.an (P'.le x) : Int) = P.an (P.le x) + (P.an (P.le x) : Int) / 2)) (n : P.fl x ≠ 1 → P'.an (P'.le x) = 10) : P'.cap x = P.cap x ∨ (P.cap x ≤ P'.cap x ∧ P'.cap x ≤ 1234) := by
  have cq := (P'.cap_spec x).1 (show P'.fl x = 1 from r.1.2.2.2.2.2.2.2.2)
  by_cases f : P.fl x = 1
  · have cp := (P.cap_spec x).1 f
    rcases g f with v | v
    · exact Or.inl (by rw [cq, cp, v.1])
    · refine Or.inr ?_
      unfold LVC at h
      omega
  · have cp := (P.cap_spec x).2 f
    have e := n f
    refine Or.inr ?_
    omega
end FRL9
/-- ways, rows that set nothing, and what lists' rows may have become -/
def EWF (L : List Nat) (P : PO) (L' : List Nat) (P' : PO) (la : Nat) : Prop := EWR P P' la ∧ FRL L P L' P'
theorem EWF.trans {L L1 L2 : List Nat} {P Q R : PO} {cO cI cZ : ClassId} {ed la : Nat} (h : EWF L P L1 Q la) (k : EWF L1 Q L2 R la) (a : ALP L2 R cO cI cZ ed la) : EWF L P L2 R la := ⟨h.1.trans k.1 a, h.2.trans k.2⟩
