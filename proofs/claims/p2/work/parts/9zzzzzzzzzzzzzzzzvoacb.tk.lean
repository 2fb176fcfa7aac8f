/-! tables of ways and of what lives, behind a naming -/
section TKN9
variable {L : List Nat} {P Q Q2 : PO} {la : Nat} {lt : Int → Int → Int} {b k i : Int} {j : Nat}
def TKNM (L : List Nat) (P Q : PO) : Prop := ∀ z : Nat, z ∈ L → P.kd z = 43 ∨ P.kd z = 44 → SM9 z P Q
theorem TKNM.nxs (h : NXS P Q) : TKNM L P Q := fun z _ q => ⟨h.2.1 z (by omega) (by omega), fun f => by rw [h.1.1], by unfold PO.oa; rw [h.1.2], h.2.2.1 z (by omega), by unfold PO.ac; rw [h.2.2.2]⟩
theorem TKNM.npo (h : NPO Q Q2 la lt b k i) (s : NXS P Q) : TKNM L P Q2 := fun z m q => by
  have t := TKNM.nxs (L := L) s z m q
  refine ⟨fun f => ?_, fun f => ?_, ?_, ?_, ?_⟩
  · rw [h.1.1]; exact t.1 f
  · rw [h.1.2.1]; exact t.2.1 f
  · unfold PO.oa; rw [h.1.2.2.1]; exact t.2.2.1
  · exact (h.2.1 z (by rw [show Q.kd z = P.kd z from t.2.1 0]; omega)).trans t.2.2.2.1
  · unfold PO.ac; rw [h.1.2.2.2]; exact t.2.2.2.2
theorem TKNM.tkp (h : TKNM L P Q) (e : j = 43 ∨ j = 44) : TKP j L P L Q := fun z m q => ⟨m, h z m (by omega)⟩
end TKN9
