/-! flags stay while registers become others -/
def FLV (P Q : PO) : Prop := (∀ z : Nat, P.kd z = 17 → Q.rg z = P.rg z) ∧ ∀ z : Nat, P.kd z = 15 → Q.pg z = P.pg z
section FLV9
variable {L : List Nat} {P Q Q' : PO} {cO cI cZ : ClassId} {ed x la : Nat}
theorem FLV.refl (P : PO) : FLV P P := ⟨fun _ _ => rfl, fun _ _ => rfl⟩
theorem FLV.phi (h : FLV P Q) (w : PH1 x Q Q') (kq : ∀ z : Nat, Q.kd z = P.kd z) (kx : Q.kd x = 15) (g : Q'.pg x = Q.pg x) : FLV P Q' := ⟨fun z k => (w.2.1 z (fun e => by rw [← kq z, e, kx] at k; omega) 6).trans (h.1 z k), fun z k => by
  by_cases e : z = x
  · rw [e] at k ⊢
    rw [g]; exact h.2 x k
  · exact (w.2.1 z e 2).trans (h.2 z k)⟩
theorem FLV.row (h : FLV P Q) (w : PH1 x Q Q') (kq : ∀ z : Nat, Q.kd z = P.kd z) (kx : Q.kd x = 17) (g : Q'.rg x = Q.rg x) : FLV P Q' := ⟨fun z k => by
  by_cases e : z = x
  · rw [e] at k ⊢
    rw [g]; exact h.1 x k
  · exact (w.2.1 z e 6).trans (h.1 z k), fun z k => (w.2.1 z (fun e => by rw [← kq z, e, kx] at k; omega) 2).trans (h.2 z k)⟩
theorem GN0.unv (s : GN0 P la) (h : UNV P Q (VST P la (P.lz la) 0 0)) (f : FLV P Q) (a : ALP L P cO cI cZ ed la) : GN0 Q la := fun b b0 b1 => by
  rw [h.1.2.2 _ a.lok.2.1] at b1
  obtain ⟨eb, wb, _, ub⟩ := h.blk a b0 b1
  refine ⟨fun k k0 k1 => ?_, fun k k0 k1 => ?_⟩
  · rw [eb, wb.1, ub.1] at k1
    rw [eb, wb.1, h.el, f.2 _ (a.kphi b0 b1 k0 k1).2]; exact (s b b0 b1).1 k k0 k1
  · rw [eb, wb.2.1, ub.2] at k1
    rw [eb, wb.2.1, h.el, f.1 _ (a.krow b0 b1 k0 k1).2]; exact (s b b0 b1).2 k k0 k1
end FLV9
