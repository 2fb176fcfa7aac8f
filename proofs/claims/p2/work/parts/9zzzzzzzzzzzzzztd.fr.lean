section FRL8
variable {L L' L0 Lr : List Nat} {P P' : PO} {cO cI cZ : ClassId} {ed x q : Nat}
theorem FRL.ntx (h : NTX L P L' P') (g : GLF L P cO cI cZ ed) : FRL L P L' P' := by
  have s : NSF L P P' := fun z m => (h.1 z m).2
  refine ⟨fun z m _ => ⟨(h.1 z m).1, s z m 0⟩, fun z m k => ?_, fun z m d => Or.inl (s.cap g m d), fun z m d => ⟨s z m 1, s _ ((g.2.2.1 z m d).2.1).1 1⟩⟩
  by_cases e : z ∈ L
  · exact ⟨e, (s z e 0).symm⟩
  · have := h.2 z m e
    omega
theorem FRL.mix (k : FRL L0 P L' P') (h : GLF L' P' cO cI cZ ed) (p : L.Perm (L0 ++ Lr)) (hr : ∀ z : Nat, z ∈ Lr → 43 ≤ P.kd z) (dj : ∀ z : Nat, z ∈ L' → z ∉ Lr) : FRL L P (L' ++ Lr) (P'.mix Lr P) := by
  have s : NSF L' P' (P'.mix Lr P) := fun z m f => (mix_out (P := P) (dj z m)).2.1 f
  have lo : ∀ z : Nat, z ∈ L → P.kd z < 43 → z ∈ L0 := fun z m d => by
    rcases List.mem_append.mp (p.mem_iff.mp m) with e | e
    · exact e
    · have := hr z e; omega
  refine ⟨fun z m n => ?_, fun z m t => ?_, fun z m d => ?_, fun z m d => ?_⟩
  · rcases List.mem_append.mp (p.mem_iff.mp m) with e | e
    · obtain ⟨a, b⟩ := k.1 z e n
      exact ⟨List.mem_append_left _ a, (s z a 0).trans b⟩
    · exact ⟨List.mem_append_right _ e, (mix_in (P' := P') e).2.1 0⟩
  · rcases List.mem_append.mp m with e | e
    · have t0 : (P'.mix Lr P).kd z = P'.kd z := s z e 0
      rw [t0] at t ⊢
      obtain ⟨a, b⟩ := k.2.1 z e t
      exact ⟨p.mem_iff.mpr (List.mem_append_left _ a), b⟩
    · have t0 : (P'.mix Lr P).kd z = P.kd z := (mix_in (P' := P') e).2.1 0
      have := hr z e
      omega
  · have e := lo z m (by omega)
    obtain ⟨a, b⟩ := k.1 z e (by omega)
    have c := k.2.2.1 z e d
    rw [s.cap h a (b.trans d)]; exact c
  · have e := lo z m (by omega)
    obtain ⟨a, b⟩ := k.1 z e (by omega)
    obtain ⟨c1, c2⟩ := k.2.2.2 z e d
    have pk := (h.2.2.1 z a (b.trans d)).2.1
    rw [c1] at pk
    exact ⟨(s z a 1).trans c1, (s _ pk.1 1).trans c2⟩
end FRL8
