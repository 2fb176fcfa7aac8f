/-- how many rows stand in the blocks that c marks -/
def PO.tow (P : PO) (c : Int → Int) (la : Nat) : Int := sumI (fun i => if c i = 0 then 0 else P.lz (P.br (P.el la i))) (P.lz la).toNat
theorem ALP.towr {L : List Nat} {P : PO} {cO cI cZ : ClassId} {ed la : Nat} (h : ALP L P cO cI cZ ed la) (c : Int → Int) : 0 ≤ P.tow c la ∧ P.tow c la ≤ P.tot 2 la := by
  have nn : ∀ i : Int, 0 ≤ i → i < ((P.lz la).toNat : Int) → 0 ≤ P.lz (P.br (P.el la i)) := fun i a b => (h.1.blk a (by omega)).2.1.2.2.1.1
  refine ⟨sumI_nn (fun i a b => ?_), sumI_le (fun i a b => ?_)⟩
  · split
    · exact Int.le_refl _
    · exact nn i a b
  · split
    · exact nn i a b
    · exact Int.le_refl _
theorem ALP.tows {E : List Nat} {L L' : List Nat} {P P' : PO} {cO cI cZ : ClassId} {ed la l : Nat} {c : Int → Int} {d k : Int} (h : ALP L P cO cI cZ ed la) (ke : KEP E L P L' P' la) (k0 : 0 ≤ k) (k1 : k < P.lz la) (el : P.br (P.el la k) = l) (z : P'.lz l = P.lz l + d) (o : ∀ y : Nat, y ∈ L → P.kd y = 30 → y ≠ l → P'.lz y = P.lz y) : P'.tow c la = P.tow c la + (if c k = 0 then 0 else d) := by
  have bl := fun (i : Int) (a : 0 ≤ i) (b : i < P.lz la) => h.1.blk a b
  have ob := fun (i : Int) (a : 0 ≤ i) (b : i < P.lz la) => h.2.1.2.2.1 _ (bl i a b).1.1 (bl i a b).1.2
  have kb := fun (i : Int) (a : 0 ≤ i) (b : i < P.lz la) => ke.2.1 _ (bl i a b).1.1 (bl i a b).1.2
  have ne : ∀ i : Int, 0 ≤ i → i < P.lz la → i ≠ k → P.el la i ≠ P.el la k := fun i a b c => by
    rcases Int.lt_or_gt_of_ne c with q | q
    · exact h.2.1.2.2.2 i k a q k1
    · exact fun e => h.2.1.2.2.2 k i k0 q b e.symm
  unfold PO.tow
  rw [ke.2.2.1]
  refine sumI_one (k := k) k0 (by omega) ?_ (fun i a b n => ?_)
  · show (if c k = 0 then 0 else P'.lz (P'.br (P'.el la k))) = (if c k = 0 then 0 else P.lz (P.br (P.el la k))) + (if c k = 0 then 0 else d)
    by_cases q : c k = 0
    · rw [if_pos q, if_pos q, if_pos q]; rfl
    · rw [if_neg q, if_neg q, if_neg q, ke.2.2.2 k k0 k1, (kb k k0 k1).2.1, el]; exact z
  · have i1 : i < P.lz la := by omega
    show (if c i = 0 then 0 else P'.lz (P'.br (P'.el la i))) = (if c i = 0 then 0 else P.lz (P.br (P.el la i)))
    by_cases q : c i = 0
    · rw [if_pos q, if_pos q]
    · rw [if_neg q, if_neg q, ke.2.2.2 i a i1, (kb i a i1).2.1]
      refine o _ (bl i a i1).2.1.1 (bl i a i1).2.1.2.1 (fun e => ne i a i1 n ?_)
      have q1 := (ob i a i1).1.2.1
      have q2 := (ob k k0 k1).1.2.1
      have q3 : P.br (P.el la i) = P.br (P.el la k) := e.trans el.symm
      rw [← q1, q3, q2]
