/-! the whole pool, numbers up to 3,001: copies of what is known of GLF -/
section GLR301
variable {L L' L0 Lr : List Nat} {P P' : PO} {cO cI cZ : ClassId} {ed x k : Nat} {w : Nat → Int} {z : Nat}
theorem NSF.capR (s : NSF L P P') (h : GLR L P cO cI cZ ed) (m : z ∈ L) (k : P.kd z = 30) : P'.cap z = P.cap z := by
  have fl : P'.fl z = P.fl z := s z m 7
  have le : P'.le z = P.le z := s z m 1
  unfold PO.cap
  rw [fl, le]
  by_cases f : P.fl z = 1
  · rw [if_pos f, if_pos f]
    have o := (h.2.2.2.1 z m k).2 f
    rw [show P'.an (P.le z) = P.an (P.le z) from s _ o.1 1]
  · rw [if_neg f, if_neg f]
theorem NSF.wtR (s : NSF L P P') (h : GLR L P cO cI cZ ed) (m : z ∈ L) : WT9 w P' z = WT9 w P z := by
  have k : P'.kd z = P.kd z := s z m 0
  by_cases k1 : P.kd z = 17
  · rw [WT9.row k1, WT9.row (k.trans k1)]
  · by_cases k2 : P.kd z = 15
    · have pk := (h.2.2.1 z m k2).2.1
      rw [WT9.phi k2, WT9.phi (k.trans k2), show P'.pp z = P.pp z from s z m 1, show P'.an (P.pp z) = P.an (P.pp z) from s _ pk.1 1]
    · by_cases k3 : P.kd z = 12
      · rw [WT9.blk k3, WT9.blk (k.trans k3)]
      · by_cases k4 : P.kd z = 30
        · rw [WT9.list k4, WT9.list (k.trans k4), s.capR h m k4]
        · rw [WT9.no ⟨k1, k2, k3, k4⟩, WT9.no (by rw [k]; exact ⟨k1, k2, k3, k4⟩)]
theorem PSI.chxR (n1 : L.Nodup) (n2 : L'.Nodup) (h : GLR L P cO cI cZ ed) (c : CHX k L P L' P') : PSI w L' P' = PSI w L P := (sumL_eq L L' n1 n2 (fun z m => Or.inr ⟨(c.1 z m).1, c.nsf.wtR h m⟩) (fun z m => by
  by_cases q : z ∈ L
  · exact Or.inr ⟨q, (c.nsf.wtR h q).symm⟩
  · exact Or.inl (WT9.hi (c.2 z m q)))).symm
theorem LVA.chxR (v : LVA L P) (h : GLR L P cO cI cZ ed) (c : CHX k L P L' P') : LVA L' P' := fun z m kz => by
  by_cases q : z ∈ L
  · have k0 : P.kd z = 30 := (c.nsf z q 0).symm.trans kz
    rw [c.nsf.capR h q k0]
    exact v z q k0
  · have t := c.2 z m q
    omega
theorem PSI.mixR (h : GLR L' P' cO cI cZ ed) (hr : ∀ z : Nat, z ∈ Lr → 43 ≤ P.kd z) (dj : ∀ z : Nat, z ∈ L' → z ∉ Lr) : PSI w (L' ++ Lr) (P'.mix Lr P) = PSI w L' P' := by
  have s : NSF L' P' (P'.mix Lr P) := fun z m f => (mix_out (P := P) (dj z m)).2.1 f
  unfold PSI
  have c : sumL (WT9 w (P'.mix Lr P)) L' = sumL (WT9 w P') L' := sumL_congr L' (fun z m => s.wtR h m)
  rw [sumL_append, sumL_zero Lr (fun z m => WT9.hi (by rw [show (P'.mix Lr P).kd z = P.kd z from (mix_in m).2.1 0]; exact hr z m)), c]
  omega
theorem LVA.mixR (v : LVA L' P') (h : GLR L' P' cO cI cZ ed) (hr : ∀ z : Nat, z ∈ Lr → 43 ≤ P.kd z) (dj : ∀ z : Nat, z ∈ L' → z ∉ Lr) : LVA (L' ++ Lr) (P'.mix Lr P) := fun z m k => by
  have s : NSF L' P' (P'.mix Lr P) := fun z m f => (mix_out (P := P) (dj z m)).2.1 f
  rcases List.mem_append.mp m with q | q
  · have k0 : P'.kd z = 30 := (s z q 0).symm.trans k
    rw [s.capR h q k0]
    exact v z q k0
  · have e : (P'.mix Lr P).kd z = P.kd z := (mix_in q).2.1 0
    have t := hr z q
    omega
end GLR301
section GLR302
variable {L L' : List Nat} {P P' : PO} {cO cI cZ : ClassId} {ed x : Nat} {w : Nat → Int} {z : Nat}
theorem PXC.sm9R (c : PXC x L P L' P') (h : GLR L P cO cI cZ ed) (m : z ∈ L) (n : z ≠ x) (o : ¬ (P.ow z = x ∧ 40 ≤ P.kd z)) : SM9 z P P' := (c.2.1 z m (fun q => q.elim n o)).2
theorem PXC.capR (c : PXC x L P L' P') (h : GLR L P cO cI cZ ed) (kx : P.kd x = 15) (m : z ∈ L) (k : P.kd z = 30) : P'.cap z = P.cap z := by
  have nx : z ≠ x := fun e => by rw [e, kx] at k; omega
  have s := c.sm9R h m nx (fun q => by omega)
  have fl : P'.fl z = P.fl z := s.2.1 7
  have le : P'.le z = P.le z := s.2.1 1
  unfold PO.cap
  rw [fl, le]
  by_cases f : P.fl z = 1
  · rw [if_pos f, if_pos f]
    have o := (h.2.2.2.1 z m k).2 f
    have n2 : P.le z ≠ x := fun e => by rw [e] at o; omega
    have s2 := c.sm9R h o.1 n2 (fun q => by omega)
    rw [show P'.an (P.le z) = P.an (P.le z) from s2.2.1 1]
  · rw [if_neg f, if_neg f]
theorem PXC.wtR (c : PXC x L P L' P') (h : GLR L P cO cI cZ ed) (kx : P.kd x = 15) (m : z ∈ L) (n : z ≠ x) : WT9 w P' z = WT9 w P z := by
  have k : P'.kd z = P.kd z := (c.1 z m).2.1
  by_cases k1 : P.kd z = 17
  · rw [WT9.row k1, WT9.row (k.trans k1)]
  · by_cases k2 : P.kd z = 15
    · have s := c.sm9R h m n (fun q => by omega)
      have pk := (h.2.2.1 z m k2).2.1
      have n2 : P.pp z ≠ x := fun e => by rw [e] at pk; omega
      have s2 := c.sm9R h pk.1 n2 (fun q => n (pk.2.2.2.symm.trans q.1))
      rw [WT9.phi k2, WT9.phi (k.trans k2), show P'.pp z = P.pp z from s.2.1 1, show P'.an (P.pp z) = P.an (P.pp z) from s2.2.1 1]
    · by_cases k3 : P.kd z = 12
      · rw [WT9.blk k3, WT9.blk (k.trans k3)]
      · by_cases k4 : P.kd z = 30
        · rw [WT9.list k4, WT9.list (k.trans k4), c.capR h kx m k4]
        · rw [WT9.no ⟨k1, k2, k3, k4⟩, WT9.no (by rw [k]; exact ⟨k1, k2, k3, k4⟩)]
theorem PSI.pxcR (n1 : L.Nodup) (n2 : L'.Nodup) (h : GLR L P cO cI cZ ed) (c : PXC x L P L' P') (mx : x ∈ L) (kx : P.kd x = 15) (hi : ∀ z : Nat, z ∈ L' → z ∉ L → 40 ≤ P'.kd z) : PSI w L' P' = PSI w L P + w 2 * (((P'.an (P'.pp x) - 1 : Nat) : Int) - ((P.an (P.pp x) - 1 : Nat) : Int)) := by
  have key := sumL_one (f := WT9 w P) (g := WT9 w P') n1 n2 mx (c.1 x mx).1 (fun z m ne => Or.inr ⟨(c.1 z m).1, c.wtR h kx m ne⟩) (fun z m ne => by
    by_cases q : z ∈ L
    · exact Or.inr ⟨q, (c.wtR h kx q ne).symm⟩
    · have t := hi z m q
      exact Or.inl (WT9.no ⟨by omega, by omega, by omega, by omega⟩))
  unfold PSI
  rw [key, WT9.phi kx, WT9.phi ((c.1 x mx).2.1.trans kx), Int.mul_sub]
  omega
theorem LVA.pxcR (v : LVA L P) (h : GLR L P cO cI cZ ed) (c : PXC x L P L' P') (kx : P.kd x = 15) (hi : ∀ z : Nat, z ∈ L' → z ∉ L → 40 ≤ P'.kd z) : LVA L' P' := fun z m k => by
  by_cases q : z ∈ L
  · have k0 : P.kd z = 30 := (c.1 z q).2.1.symm.trans k
    rw [c.capR h kx q k0]
    exact v z q k0
  · have t := hi z m q
    omega
end GLR302
