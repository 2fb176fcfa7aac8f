/-! join: its first half (PHIs of a block replaced), its second (the block put behind its PRED, then dropped) -/
section WYR5
variable {L L' : List Nat} {P P1 Q R : PO} {cO cI cZ : ClassId} {ed la : Nat} {b x y : Int} {rp br bb st aa : Int → Int}
theorem JNA.ed2 (s : SSP P la) (a : ALP L P cO cI cZ ed la) (aQ : ALP L Q cO cI cZ ed la) (b0 : 0 ≤ b) (b1 : b < P.lz la) (h : CLR (P.bp (P.el la b)) L P P1) (st : STQ L P1 Q) : WYR P Q la ∧ RSB P Q la ∧ Q.2.1 = P.2.1 := by
  have kl := (a.inb ⟨b, b0, b1, rfl⟩).2.2.1.2.1
  have aR := rst_alp h.1 st kl a aQ
  have sw := JNA.swg h st a s.2.2.1 b0 b1
  exact ⟨(WYR.stq (rst_stq h.1 st kl) a).trans (WYR.swg sw aR) aQ, (RSB.stq (rst_stq h.1 st kl) a).trans (RSB.swg sw aR), st.1.1.trans h.1.1⟩
theorem JMR.ed2 (h : JMR P Q la x y) (g : JMA P la x y) (d : DRX Q R la st aa) (al : ALP L Q cO cI cZ ed la) (aq : ALP L' R cO cI cZ ed la) (ks : KST Q la st) (sx : ∀ c : Int, 0 ≤ c → c < Q.lz la → st c ≠ 0 → c ≠ x) : WYR P R la ∧ RSB P R la ∧ R.2.1 = Q.2.1 := by
  obtain ⟨s, m, r⟩ := d.dre al ks
  exact ⟨WYR.jmr h g r al aq ks sx, (RSB.jmr h g).trans (RSB.dre r al), d.nat⟩
theorem JJM.ed2 {d : Int} (h : JJM P Q la d) (a : ALP L P cO cI cZ ed la) (nd : NDR P la) (d0 : 0 ≤ d) (d1 : d < P.lz la) : WYR P Q la ∧ RSB P Q la ∧ Q.2.1 = P.2.1 := ⟨WYR.jjm h a nd d0 d1, RSB.jjm h a d0 d1, by rw [h.1.1]⟩
end WYR5
