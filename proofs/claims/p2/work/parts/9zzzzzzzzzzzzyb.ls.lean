/-! lose: all PHIs, one after another -/
/-- the PHIs of i blocks and j of the next -/
def VPH9 (P : PO) (la : Nat) (i j : Int) (z : Nat) : Prop := ∃ b k : Int, 0 ≤ b ∧ b < P.lz la ∧ 0 ≤ k ∧ k < P.lz (P.bp (P.el la b)) ∧ z = P.el (P.bp (P.el la b)) k ∧ (b < i ∨ (b = i ∧ k < j))
/-- they have lost what leads there no more, and that alone -/
def LSD (P Q : PO) (la : Nat) (i j : Int) : Prop := ∀ b k : Int, 0 ≤ b → b < P.lz la → 0 ≤ k → k < P.lz (P.bp (P.el la b)) → (b < i ∨ (b = i ∧ k < j)) → LSP P Q (fun p => EDG P la p b) (P.el (P.bp (P.el la b)) k) (-1) ∧ Q.pt (P.el (P.bp (P.el la b)) k) = P.pt (P.el (P.bp (P.el la b)) k) ∧ Q.pg (P.el (P.bp (P.el la b)) k) = P.pg (P.el (P.bp (P.el la b)) k)
section LSF9
variable {L : List Nat} {P Q Q' : PO} {cO cI cZ : ClassId} {ed x z la : Nat} {V : Nat → Prop} {c i j p : Int}
theorem VPH9.kd (h : VPH9 P la i j z) (a : ALP L P cO cI cZ ed la) : P.kd z = 15 := by
  obtain ⟨b, k, b0, b1, k0, k1, e, _⟩ := h
  rw [e]; exact (a.kphi b0 b1 k0 k1).2
theorem VPH9.mono {j' : Int} (h : VPH9 P la i j z) (a : j ≤ j') : VPH9 P la i j' z := by
  obtain ⟨b, k, b0, b1, k0, k1, e, q⟩ := h
  exact ⟨b, k, b0, b1, k0, k1, e, by omega⟩
theorem VPH9.next (h : VPH9 P la i j z) : VPH9 P la (i + 1) 0 z := by
  obtain ⟨b, k, b0, b1, k0, k1, e, q⟩ := h
  exact ⟨b, k, b0, b1, k0, k1, e, by omega⟩
theorem VPH9.aphi (i0 : 0 ≤ i) (i1 : i < P.lz la) (j0 : 0 ≤ j) (j1 : j < P.lz (P.bp (P.el la i))) : VPH9 P la i (j + 1) (P.el (P.bp (P.el la i)) j) := ⟨i, j, i0, i1, j0, j1, rfl, by omega⟩
theorem VPH9.nphi (n : NDR P la) (i0 : 0 ≤ i) (i1 : i < P.lz la) (j0 : 0 ≤ j) (j1 : j < P.lz (P.bp (P.el la i))) : ¬ VPH9 P la i j (P.el (P.bp (P.el la i)) j) := fun ⟨b, k, b0, b1, k0, k1, e, q⟩ => by
  have r := n.2.1 i b j k i0 i1 b0 b1 j0 j1 k0 k1 e
  omega
theorem UNV.edgv (h : UNV P Q (VPH9 P la i j)) (a : ALP L P cO cI cZ ed la) (p0 : 0 ≤ p) (p1 : p < P.lz la) : EDG Q la p c ↔ EDG P la p c := by
  have kb : P.kd (P.el la p) = 12 := (a.inb ⟨p, p0, p1, rfl⟩).1.2
  have ke : P.kd (P.be (P.el la p)) = 17 := (a.kend p0 p1).2.1
  have nb : ∀ f : Nat, Q.1 f (P.el la p) = P.1 f (P.el la p) := h.2.1 _ (fun q => by rw [q.kd a] at kb; omega)
  have ne : ∀ f : Nat, Q.1 f (P.be (P.el la p)) = P.1 f (P.be (P.el la p)) := h.2.1 _ (fun q => by rw [q.kd a] at ke; omega)
  unfold EDG
  rw [h.el, h.be, show Q.ro (P.be (P.el la p)) = P.ro (P.be (P.el la p)) from ne _, show Q.bf (P.el la p) = P.bf (P.el la p) from nb _, show Q.bs (P.el la p) = P.bs (P.el la p) from nb _]
theorem LSD.first (P : PO) (la : Nat) : LSD P P la 0 0 := fun b k b0 _ k0 _ q => by omega
theorem LSD.next (h : LSD P Q la i j) (e : P.lz (P.bp (P.el la i)) ≤ j) : LSD P Q la (i + 1) 0 := fun b k b0 b1 k0 k1 q => h b k b0 b1 k0 k1 (by
  rcases Int.lt_or_le b i with r | r
  · exact Or.inl r
  · have s : b = i := by omega
    rw [s] at k1
    exact Or.inr ⟨s, by omega⟩)
theorem LSD.keep (h : LSD P Q la i j) (w : PH1 x Q Q') (u : UNV P Q V) (n : NDR P la) (a : ALP L P cO cI cZ ed la) (i0 : 0 ≤ i) (i1 : i < P.lz la) (j0 : 0 ≤ j) (j1 : j < P.lz (P.bp (P.el la i))) (ex : x = P.el (P.bp (P.el la i)) j) : LSD P Q' la i j := fun b k b0 b1 k0 k1 q => by
  obtain ⟨h1, h2, h3⟩ := h b k b0 b1 k0 k1 q
  have kz := a.kphi b0 b1 k0 k1
  have pz := a.pik kz.1 kz.2
  have ne : P.el (P.bp (P.el la b)) k ≠ x := fun e => by
    have r := n.2.1 b i k j b0 b1 i0 i1 k0 k1 j0 j1 (e.trans ex)
    omega
  have fr : ∀ y : Nat, P.ow y = P.el (P.bp (P.el la b)) k → Q'.ia y = Q.ia y := fun y e => w.2.2 y (by rw [u.ow, e]; exact ne)
  exact ⟨h1.same (w.2.1 _ ne 1) (fr _ pz.2.1.2.2.2) (fr _ pz.2.2.1.2.2.2) (fr _ pz.2.2.2.1.2.2.2), (w.2.1 _ ne 0).trans h2, (w.2.1 _ ne 2).trans h3⟩
theorem LSD.put (h : LSD P Q la i j) (l : LSP P Q (fun p => EDG P la p i) (P.el (P.bp (P.el la i)) j) (-1)) (t : Q.pt (P.el (P.bp (P.el la i)) j) = P.pt (P.el (P.bp (P.el la i)) j)) (g : Q.pg (P.el (P.bp (P.el la i)) j) = P.pg (P.el (P.bp (P.el la i)) j)) : LSD P Q la i (j + 1) := fun b k b0 b1 k0 k1 q => by
  by_cases e : b = i ∧ k = j
  · rw [e.1, e.2]; exact ⟨l, t, g⟩
  · exact h b k b0 b1 k0 k1 (by omega)
end LSF9
