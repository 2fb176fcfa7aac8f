/-! what new objects weigh, over the whole pool -/
section GLR3
variable {L L' : List Nat} {P P' : PO} {cO cI cZ : ClassId} {ed x y a b c : Nat} {w : Nat → Int}
theorem PSI.numR (n1 : L.Nodup) (n2 : L'.Nodup) (g : GLR L P cO cI cZ ed) (e : EXT9 L P L' P') (u : NUM9 L L' P') : PSI w L' P' = PSI w L P := (sumL_eq L L' n1 n2 (fun z m => Or.inr ⟨(e z m).1, e.wtR g m⟩) (fun z m => by
  by_cases q : z ∈ L
  · exact Or.inr ⟨q, (e.wtR g q).symm⟩
  · have k := u z m q
    exact Or.inl (WT9.no ⟨by omega, by omega, by omega, by omega⟩))).symm
theorem LVA.numR (h : LVA L P) (g : GLR L P cO cI cZ ed) (e : EXT9 L P L' P') (u : NUM9 L L' P') : LVA L' P' := h.extR g e (fun z m n k => by have q := u z m n; omega)
theorem PSI.nphiR (g : GLR L P cO cI cZ ed) (e : EXT9 L P (x :: L) P') (k : P'.kd x = 15) (n : P'.an (P'.pp x) = 4) : PSI wSL (x :: L) P' = PSI wSL L P + 18 ∧ PSI wCE (x :: L) P' = PSI wCE L P + 160 := by
  have p : ∀ w : Nat → Int, PSI w (x :: L) P' = WT9 w P' x + PSI w L P := fun w => by
    show WT9 w P' x + sumL (WT9 w P') L = _
    rw [PSI.restR g e]
  rw [p, p, WT9.phi k, WT9.phi k, n]
  have s1 : wSL 1 = 0 := rfl
  have s2 : wSL 2 = 6 := rfl
  have c1 : wCE 1 = 70 := rfl
  have c2 : wCE 2 = 30 := rfl
  rw [s1, s2, c1, c2]
  constructor <;> omega
theorem WT9.lsf {k : Nat} (h : LSF9 L P x k y ed) : WT9 wSL P x = 3 ∧ WT9 wCE P x = 40 := by
  obtain ⟨_, kd, _, _, f, _⟩ := h
  have cp := (P.cap_spec x).2 (by omega)
  rw [WT9.list kd, WT9.list kd, cp]
  decide
theorem PSI.threeR {e0 : Nat} (g : GLR L P cO cI cZ ed) (e : EXT9 L P (c :: b :: a :: L) P') (ka : LSF9 (c :: b :: a :: L) P' a 15 y e0) (kb : LSF9 (c :: b :: a :: L) P' b 17 y e0) (kc : P'.kd c = 17) : PSI wSL (c :: b :: a :: L) P' = PSI wSL L P + 13 ∧ PSI wCE (c :: b :: a :: L) P' = PSI wCE L P + 120 := by
  have p : ∀ w : Nat → Int, PSI w (c :: b :: a :: L) P' = WT9 w P' c + (WT9 w P' b + (WT9 w P' a + PSI w L P)) := fun w => by
    show WT9 w P' c + (WT9 w P' b + (WT9 w P' a + sumL (WT9 w P') L)) = _
    rw [PSI.restR g e]
  have s0 : wSL 0 = 7 := rfl
  have c0 : wCE 0 = 40 := rfl
  rw [p, p, WT9.row kc, WT9.row kc, (WT9.lsf ka).1, (WT9.lsf kb).1, (WT9.lsf ka).2, (WT9.lsf kb).2, s0, c0]
  constructor <;> omega
theorem LSF9.cap0 {k : Nat} (h : LSF9 L P x k y ed) : P.cap x = 0 := (P.cap_spec x).2 (by have f := h.2.2.2.2.1; omega)
theorem new3R {e0 : Nat} (ka : LSF9 (c :: b :: a :: L) P' a 15 y e0) (kb : LSF9 (c :: b :: a :: L) P' b 17 y e0) (kc : P'.kd c = 17) : ∀ z : Nat, z ∈ c :: b :: a :: L → z ∉ L → P'.kd z = 30 → P'.cap z = 0 := fun z m n k => by
  rcases List.mem_cons.mp m with e | m
  · rw [e, kc] at k; omega
  · rcases List.mem_cons.mp m with e | m
    · rw [e]; exact kb.cap0
    · rcases List.mem_cons.mp m with e | m
      · rw [e]; exact ka.cap0
      · exact absurd m n
theorem PSI.nblkR (g : GLR L P cO cI cZ ed) (e : EXT9 L P (x :: L) P') (k : P'.kd x = 12) : PSI wSL (x :: L) P' = PSI wSL L P + 5 ∧ PSI wCE (x :: L) P' = PSI wCE L P + 40 := by
  have p : ∀ w : Nat → Int, PSI w (x :: L) P' = WT9 w P' x + PSI w L P := fun w => by
    show WT9 w P' x + sumL (WT9 w P') L = _
    rw [PSI.restR g e]
  have s3 : wSL 3 = 5 := rfl
  have c3 : wCE 3 = 40 := rfl
  rw [p, p, WT9.blk k, WT9.blk k, s3, c3]
  constructor <;> omega
end GLR3
