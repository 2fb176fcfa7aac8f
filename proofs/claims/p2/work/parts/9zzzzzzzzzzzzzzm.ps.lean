/-! the same over a part of the pool, and where only tables change -/
theorem sumL_append {f : Nat → Int} : ∀ a b : List Nat, sumL f (a ++ b) = sumL f a + sumL f b
  | [], b => by show sumL f b = 0 + sumL f b; omega
  | x :: a, b => by
    have q := sumL_append (f := f) a b
    show f x + sumL f (a ++ b) = f x + sumL f a + sumL f b
    omega
theorem sumL_perm {f : Nat → Int} {l l' : List Nat} (h : l.Perm l') : sumL f l = sumL f l' := by
  induction h with
  | nil => rfl
  | cons x _ ih => show f x + _ = f x + _; rw [ih]
  | swap x y l => show f y + (f x + sumL f l) = f x + (f y + sumL f l); omega
  | trans _ _ i1 i2 => exact i1.trans i2
/-- kinds, addresses and lengths of what is in L are as they were -/
def NSF (L : List Nat) (P P' : PO) : Prop := ∀ z : Nat, z ∈ L → ∀ f : Nat, P'.2.1 f z = P.2.1 f z
section PSI6
variable {L L' L0 Lr : List Nat} {P P' : PO} {cO cI cZ : ClassId} {ed x k : Nat} {w : Nat → Int} {z : Nat}
theorem NSF.cap (s : NSF L P P') (h : GLF L P cO cI cZ ed) (m : z ∈ L) (k : P.kd z = 30) : P'.cap z = P.cap z := by
  have fl : P'.fl z = P.fl z := s z m 7
  have le : P'.le z = P.le z := s z m 1
  unfold PO.cap
  rw [fl, le]
  by_cases f : P.fl z = 1
  · rw [if_pos f, if_pos f]
    have o := (h.2.2.2.1 z m k).2 f
    rw [show P'.an (P.le z) = P.an (P.le z) from s _ o.1 1]
  · rw [if_neg f, if_neg f]
theorem NSF.wt (s : NSF L P P') (h : GLF L P cO cI cZ ed) (m : z ∈ L) : WT9 w P' z = WT9 w P z := by
  have k : P'.kd z = P.kd z := s z m 0
  by_cases k1 : P.kd z = 17
  · rw [WT9.row k1, WT9.row (k.trans k1)]
  · by_cases k2 : P.kd z = 15
    · have pk := (h.2.2.1 z m k2).2.1
      rw [WT9.phi k2, WT9.phi (k.trans k2), show P'.pp z = P.pp z from s z m 1, show P'.an (P.pp z) = P.an (P.pp z) from s _ pk.1 1]
    · by_cases k3 : P.kd z = 12
      · rw [WT9.blk k3, WT9.blk (k.trans k3)]
      · by_cases k4 : P.kd z = 30
        · rw [WT9.list k4, WT9.list (k.trans k4), s.cap h m k4]
        · rw [WT9.no ⟨k1, k2, k3, k4⟩, WT9.no (by rw [k]; exact ⟨k1, k2, k3, k4⟩)]
theorem WT9.hi (h : 43 ≤ P.kd z) : WT9 w P z = 0 := WT9.no ⟨by omega, by omega, by omega, by omega⟩
theorem CHX.nsf (c : CHX k L P L' P') : NSF L P P' := fun z m => (c.1 z m).2.2.1
theorem PSI.chx (n1 : L.Nodup) (n2 : L'.Nodup) (h : GLF L P cO cI cZ ed) (c : CHX k L P L' P') : PSI w L' P' = PSI w L P := (sumL_eq L L' n1 n2 (fun z m => Or.inr ⟨(c.1 z m).1, c.nsf.wt h m⟩) (fun z m => by
  by_cases q : z ∈ L
  · exact Or.inr ⟨q, (c.nsf.wt h q).symm⟩
  · exact Or.inl (WT9.hi (c.2 z m q)))).symm
theorem LVA.chx (v : LVA L P) (h : GLF L P cO cI cZ ed) (c : CHX k L P L' P') : LVA L' P' := fun z m kz => by
  by_cases q : z ∈ L
  · have k0 : P.kd z = 30 := (c.nsf z q 0).symm.trans kz
    rw [c.nsf.cap h q k0]
    exact v z q k0
  · have t := c.2 z m q
    omega
theorem PSI.low (p : L.Perm (L0 ++ Lr)) (hr : ∀ z : Nat, z ∈ Lr → 43 ≤ P.kd z) : PSI w L0 P = PSI w L P := by
  unfold PSI
  rw [sumL_perm p, sumL_append, sumL_zero Lr (fun z m => WT9.hi (hr z m))]
  omega
theorem LVA.low (v : LVA L P) (p : L.Perm (L0 ++ Lr)) : LVA L0 P := fun z m k => v z (p.mem_iff.mpr (List.mem_append_left _ m)) k
theorem PSI.mix (h : GLF L' P' cO cI cZ ed) (hr : ∀ z : Nat, z ∈ Lr → 43 ≤ P.kd z) (dj : ∀ z : Nat, z ∈ L' → z ∉ Lr) : PSI w (L' ++ Lr) (P'.mix Lr P) = PSI w L' P' := by
  have s : NSF L' P' (P'.mix Lr P) := fun z m f => (mix_out (P := P) (dj z m)).2.1 f
  unfold PSI
  have c : sumL (WT9 w (P'.mix Lr P)) L' = sumL (WT9 w P') L' := sumL_congr L' (fun z m => s.wt h m)
  rw [sumL_append, sumL_zero Lr (fun z m => WT9.hi (by rw [show (P'.mix Lr P).kd z = P.kd z from (mix_in m).2.1 0]; exact hr z m)), c]
  omega
theorem LVA.mix (v : LVA L' P') (h : GLF L' P' cO cI cZ ed) (hr : ∀ z : Nat, z ∈ Lr → 43 ≤ P.kd z) (dj : ∀ z : Nat, z ∈ L' → z ∉ Lr) : LVA (L' ++ Lr) (P'.mix Lr P) := fun z m k => by
  have s : NSF L' P' (P'.mix Lr P) := fun z m f => (mix_out (P := P) (dj z m)).2.1 f
  rcases List.mem_append.mp m with q | q
  · have k0 : P'.kd z = 30 := (s z q 0).symm.trans k
    rw [s.cap h q k0]
    exact v z q k0
  · have e : (P'.mix Lr P).kd z = P.kd z := (mix_in q).2.1 0
    have t := hr z q
    omega
end PSI6
