/-- a function of the reference with its rows and PHIs -/
def ALLK (L : List Nat) (P : PO) (cO cI cZ : ClassId) (la : Nat) : Prop := CDK L P cO la ∧ ∀ q : Nat, q ∈ L → P.kd q = 15 → PIK L P cI cZ q
theorem RW1.ph1 {x : Nat} {P P' : PO} (h : RW1 x P P') : PH1 x P P' := ⟨⟨by rw [h.1], by rw [h.1], by rw [h.1]⟩, h.2, fun a _ => by show P'.2.2.2.1 a = P.2.2.2.1 a; rw [h.1]⟩
theorem ALLK.phi {L : List Nat} {P P' : PO} {cO cI cZ : ClassId} {la x : Nat} (h : ALLK L P cO cI cZ la) (w : PH1 x P P') (k : P.kd x = 15) (p : PIK L P' cI cZ x) : ALLK L P' cO cI cZ la := by
  have r := w.rwd k
  refine ⟨r.cdk h.1 (fun q m d => ?_), fun q m d => ?_⟩
  · have d' : P.kd q = 17 := (r.kd q).symm.trans d
    have n : q ≠ x := kd_ne d' k (by decide)
    have e := h.1.2.2.2 q m d'
    unfold ROK9 PO.ro PO.rt PO.ra PO.rb PO.rA PO.rB PO.rg at *
    simp only [w.2.1 q n]; exact e
  · by_cases e : q = x
    · rw [e]; exact p
    · exact (h.2 q m ((r.kd q).symm.trans d)).other w e
theorem ALLK.row {L : List Nat} {P P' : PO} {cO cI cZ : ClassId} {la x : Nat} (h : ALLK L P cO cI cZ la) (w : RW1 x P P') (k : P.kd x = 17) (p : ROK9 P' x) : ALLK L P' cO cI cZ la := by
  have r := w.rwd (Or.inl k)
  refine ⟨r.cdk h.1 (w.all h.1.2.2.2 p), fun q m d => ?_⟩
  have d' : P.kd q = 15 := (r.kd q).symm.trans d
  exact (h.2 q m d').other w.ph1 (kd_ne d' k (by decide))
theorem ALLK.blk {L : List Nat} {P : PO} {cO cI cZ : ClassId} {la : Nat} (h : ALLK L P cO cI cZ la) {b : Int} (b0 : 0 ≤ b) (b1 : b < P.lz la) : BOK L P cO (P.lz la) (P.el la b) := h.1.2.2.1 b b0 b1
