/-! what named leaves as it is: ways, ENDs' operations, how many ROWS and PHIs, rows that set nothing -/
def NKX (P Q : PO) (la : Nat) : Prop := WYR P Q la ∧ RSB P Q la ∧ Q.tot 2 la = P.tot 2 la
section NKX9
variable {L : List Nat} {P Q : PO} {cO cI cZ : ClassId} {ed la : Nat} {o : Int} {ord : Int → Int} {lt : Int → Int → Int}
theorem NFN.nkx (h : NFN P Q la ord o lt) (a : ALP L P cO cI cZ ed la) (al : ∀ b : Int, 0 ≤ b → b < P.lz la → ∃ i : Int, 0 ≤ i ∧ i < o ∧ ord i = b) : NKX P Q la := by
  have ey := h.edy a al
  refine ⟨WYR.same ey.1 (fun b c b0 b1 e => (ey.2 b b0 b1 c).mp e) (fun b b0 b1 e => ?_) (fun b b0 b1 => by rw [(h.blk a b0 b1).1]; exact Int.le_refl _), fun b k b0 b1 k0 k1 e => ?_, ?_⟩
  · obtain ⟨i, i0, i1, ei⟩ := al b b0 b1
    have q := (h.2.2.2.2.2 i i0 i1).1.1
    rw [ei] at q
    rw [h.el, h.be, q] at e
    exact e
  · rw [ey.1] at b1
    rw [(h.blk a b0 b1).2.1] at k1
    obtain ⟨i, i0, i1, ei⟩ := al b b0 b1
    have q := (h.2.2.2.2.1 i k i0 i1 k0 (by rw [ei]; exact k1)).1.1
    rw [ei] at q
    rw [h.el, h.br, h.el, q] at e
    exact ⟨b, k, ⟨b0, b1⟩, ⟨k0, k1⟩, by rw [h.el, h.br, h.el], e⟩
  · unfold PO.tot
    rw [ey.1]
    exact sumI_eq (fun i i0 i1 => (h.blk a i0 (by omega)).2.1)
end NKX9
