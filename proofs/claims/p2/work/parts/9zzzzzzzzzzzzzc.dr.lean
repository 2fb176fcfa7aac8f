/-! drop: goals and PREDs by the new numbers -/
/-- what may have changed: c blocks, the PHIs of i blocks and j of the next -/
def VDR (P : PO) (la : Nat) (c i j : Int) (z : Nat) : Prop := (∃ b : Int, 0 ≤ b ∧ b < P.lz la ∧ b < c ∧ z = P.el la b) ∨ VPH9 P la i j z
def GDN (P Q : PO) (a : Int → Int) (x : Nat) : Prop := (P.ro (P.be x) ≠ 32 → Q.bf x = a (P.bf x) ∧ Q.bs x = a (P.bs x)) ∧ (P.ro (P.be x) = 32 → Q.bf x = P.bf x ∧ Q.bs x = P.bs x)
/-- c blocks have their goals' new numbers, the PHIs of i blocks and j of the next those of their PREDs -/
def DRD (P Q : PO) (la : Nat) (a : Int → Int) (c i j : Int) : Prop := (∀ b : Int, 0 ≤ b → b < P.lz la → b < c → GDN P Q a (P.el la b)) ∧ ∀ b k : Int, 0 ≤ b → b < P.lz la → 0 ≤ k → k < P.lz (P.bp (P.el la b)) → (b < i ∨ (b = i ∧ k < j)) → LSN P Q a (P.el (P.bp (P.el la b)) k) (-1) ∧ Q.pt (P.el (P.bp (P.el la b)) k) = P.pt (P.el (P.bp (P.el la b)) k) ∧ Q.pg (P.el (P.bp (P.el la b)) k) = P.pg (P.el (P.bp (P.el la b)) k)
/-- blocks and PHIs are of their kinds, none stands twice: what is asked of a list of blocks that is no function yet -/
def BPK (L : List Nat) (P : PO) (cI cZ : ClassId) (la : Nat) : Prop := (∀ b : Int, 0 ≤ b → b < P.lz la → P.kd (P.el la b) = 12 ∧ P.kd (P.be (P.el la b)) = 17 ∧ P.kd (P.bp (P.el la b)) = 30) ∧ (∀ b k : Int, 0 ≤ b → b < P.lz la → 0 ≤ k → k < P.lz (P.bp (P.el la b)) → PIK L P cI cZ (P.el (P.bp (P.el la b)) k)) ∧ (∀ b c : Int, 0 ≤ b → b < c → c < P.lz la → P.el la b ≠ P.el la c) ∧ ∀ b c j k : Int, 0 ≤ b → b < P.lz la → 0 ≤ c → c < P.lz la → 0 ≤ j → j < P.lz (P.bp (P.el la b)) → 0 ≤ k → k < P.lz (P.bp (P.el la c)) → P.el (P.bp (P.el la b)) j = P.el (P.bp (P.el la c)) k → b = c ∧ j = k
section DRD9
variable {L : List Nat} {P Q Q' : PO} {cO cI cZ : ClassId} {ed x z la : Nat} {V : Nat → Prop} {a : Int → Int} {b c c' i j k p : Int}
theorem VDR.mono {j' : Int} (h : VDR P la c i j z) (q : c ≤ c') (r : j ≤ j') : VDR P la c' i j' z := by
  rcases h with ⟨b, b0, b1, b2, e⟩ | h
  · exact Or.inl ⟨b, b0, b1, by omega, e⟩
  · exact Or.inr (h.mono r)
theorem VDR.next (h : VDR P la c i j z) : VDR P la c (i + 1) 0 z := h.imp id (fun q => q.next)
theorem VDR.ablk (i0 : 0 ≤ i) (i1 : i < P.lz la) : VDR P la (i + 1) i 0 (P.el la i) := Or.inl ⟨i, i0, i1, by omega, rfl⟩
theorem VDR.aphi (i0 : 0 ≤ i) (i1 : i < P.lz la) (j0 : 0 ≤ j) (j1 : j < P.lz (P.bp (P.el la i))) : VDR P la c i (j + 1) (P.el (P.bp (P.el la i)) j) := Or.inr (VPH9.aphi i0 i1 j0 j1)
theorem VDR.kd (h : VDR P la c i j z) (n : BPK L P cI cZ la) : P.kd z = 12 ∨ P.kd z = 15 := by
  rcases h with ⟨b, b0, b1, b2, e⟩ | ⟨b, k, b0, b1, k0, k1, e, _⟩
  · exact Or.inl (by rw [e]; exact (n.1 b b0 b1).1)
  · exact Or.inr (by rw [e]; exact (n.2.1 b k b0 b1 k0 k1).1.2)
theorem VDR.nphi (n : BPK L P cI cZ la) (i0 : 0 ≤ i) (i1 : i < P.lz la) (j0 : 0 ≤ j) (j1 : j < P.lz (P.bp (P.el la i))) : ¬ VDR P la c i j (P.el (P.bp (P.el la i)) j) := fun q => by
  have kz := (n.2.1 i j i0 i1 j0 j1).1.2
  rcases q with ⟨b, b0, b1, b2, e⟩ | ⟨b, k, b0, b1, k0, k1, e, q⟩
  · have kb := (n.1 b b0 b1).1
    rw [← e] at kb; omega
  · have r := n.2.2.2 i b j k i0 i1 b0 b1 j0 j1 k0 k1 e
    omega
theorem VDR.nblk (n : BPK L P cI cZ la) (i0 : 0 ≤ i) (i1 : i < P.lz la) (ci : c ≤ i) : ¬ VDR P la c k j (P.el la i) := fun q => by
  have kz := (n.1 i i0 i1).1
  rcases q with ⟨b, b0, b1, b2, e⟩ | ⟨b, k, b0, b1, k0, k1, e, q⟩
  · exact n.2.2.1 b i b0 (by omega) i1 e.symm
  · have kp := (n.2.1 b k b0 b1 k0 k1).1.2
    rw [← e] at kp; omega
theorem DRD.first (P : PO) (la : Nat) (a : Int → Int) : DRD P P la a 0 0 0 := ⟨fun b b0 _ q => by omega, fun b k b0 _ k0 _ q => by omega⟩
theorem DRD.next (h : DRD P Q la a c i j) (e : P.lz (P.bp (P.el la i)) ≤ j) : DRD P Q la a c (i + 1) 0 := ⟨h.1, fun b k b0 b1 k0 k1 q => h.2 b k b0 b1 k0 k1 (by
  rcases Int.lt_or_le b i with r | r
  · exact Or.inl r
  · have s : b = i := by omega
    rw [s] at k1
    exact Or.inr ⟨s, by omega⟩)⟩
/-- the goals of block i -/
theorem DRD.goal (h : DRD P Q la a i i 0) (w : RW1 x Q Q') (n : BPK L P cI cZ la) (i0 : 0 ≤ i) (i1 : i < P.lz la) (ex : x = P.el la i) (g : GDN P Q' a x) : DRD P Q' la a (i + 1) i 0 := by
  have kx := (n.1 i i0 i1).1
  refine ⟨fun b b0 b1 q => ?_, fun b k b0 b1 k0 k1 q => ?_⟩
  · by_cases e : b = i
    · rw [e, ← ex]; exact g
    · have ne : P.el la b ≠ x := by rw [ex]; exact n.2.2.1 b i b0 (by omega) i1
      have t := h.1 b b0 b1 (by omega)
      have f1 : Q'.bf (P.el la b) = Q.bf (P.el la b) := w.2 _ ne 0
      have f2 : Q'.bs (P.el la b) = Q.bs (P.el la b) := w.2 _ ne 1
      unfold GDN; rw [f1, f2]; exact t
  · have kz := (n.2.1 b k b0 b1 k0 k1).1.2
    have ne : P.el (P.bp (P.el la b)) k ≠ x := fun e => by rw [e, ex] at kz; omega
    obtain ⟨h1, h2, h3⟩ := h.2 b k b0 b1 k0 k1 q
    have ia : ∀ y : Nat, Q'.ia y = Q.ia y := fun y => by show Q'.2.2.2.1 y = Q.2.2.2.1 y; rw [w.1]
    exact ⟨h1.same (w.2 _ ne 1) (ia _) (ia _) (ia _), (w.2 _ ne 0).trans h2, (w.2 _ ne 2).trans h3⟩
theorem DRD.goal0 (h : DRD P Q la a i i 0) (ex : x = P.el la i) (g : GDN P Q a x) : DRD P Q la a (i + 1) i 0 := by
  refine ⟨fun b b0 b1 q => ?_, h.2⟩
  by_cases e : b = i
  · rw [e, ← ex]; exact g
  · exact h.1 b b0 b1 (by omega)
theorem DRD.keep (h : DRD P Q la a c i j) (w : PH1 x Q Q') (u : UNV P Q V) (n : BPK L P cI cZ la) (i0 : 0 ≤ i) (i1 : i < P.lz la) (j0 : 0 ≤ j) (j1 : j < P.lz (P.bp (P.el la i))) (ex : x = P.el (P.bp (P.el la i)) j) : DRD P Q' la a c i j := by
  have kx := (n.2.1 i j i0 i1 j0 j1).1.2
  refine ⟨fun b b0 b1 q => ?_, fun b k b0 b1 k0 k1 q => ?_⟩
  · have kb := (n.1 b b0 b1).1
    have ne : P.el la b ≠ x := fun e => by rw [e, ex] at kb; omega
    have t := h.1 b b0 b1 q
    have f1 : Q'.bf (P.el la b) = Q.bf (P.el la b) := w.2.1 _ ne 0
    have f2 : Q'.bs (P.el la b) = Q.bs (P.el la b) := w.2.1 _ ne 1
    unfold GDN; rw [f1, f2]; exact t
  · obtain ⟨h1, h2, h3⟩ := h.2 b k b0 b1 k0 k1 q
    have pz := n.2.1 b k b0 b1 k0 k1
    have ne : P.el (P.bp (P.el la b)) k ≠ x := fun e => by
      have r := n.2.2.2 b i k j b0 b1 i0 i1 k0 k1 j0 j1 (e.trans ex)
      omega
    have fr : ∀ y : Nat, P.ow y = P.el (P.bp (P.el la b)) k → Q'.ia y = Q.ia y := fun y e => w.2.2 y (by rw [u.ow, e]; exact ne)
    exact ⟨h1.same (w.2.1 _ ne 1) (fr _ pz.2.1.2.2.2) (fr _ pz.2.2.1.2.2.2) (fr _ pz.2.2.2.1.2.2.2), (w.2.1 _ ne 0).trans h2, (w.2.1 _ ne 2).trans h3⟩
theorem DRD.put (h : DRD P Q la a c i j) (l : LSN P Q a (P.el (P.bp (P.el la i)) j) (-1)) (t : Q.pt (P.el (P.bp (P.el la i)) j) = P.pt (P.el (P.bp (P.el la i)) j)) (g : Q.pg (P.el (P.bp (P.el la i)) j) = P.pg (P.el (P.bp (P.el la i)) j)) : DRD P Q la a c i (j + 1) := ⟨h.1, fun b k b0 b1 k0 k1 q => by
  by_cases e : b = i ∧ k = j
  · rw [e.1, e.2]; exact ⟨l, t, g⟩
  · exact h.2 b k b0 b1 k0 k1 (by omega)⟩
end DRD9
