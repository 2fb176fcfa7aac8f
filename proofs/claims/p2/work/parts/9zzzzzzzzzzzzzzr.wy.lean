/-! constants as a whole: fold, drop, lose: ways, rows that set nothing, nothing has come -/
section WYR6
variable {L L' L2 : List Nat} {P Q R S : PO} {cO cI cZ : ClassId} {ed la : Nat} {j m r : Int} {st nm gn aa s : Int → Int}
theorem DRX.nat (h : DRX P Q la st aa) : Q.2.1 = P.2.1 := by
  obtain ⟨P1, m, d, u, _⟩ := h
  exact u.1.1.trans d.1.1
theorem RSB.fdk (h : FDK P Q la st nm gn (P.lz la) j r False (fun _ => False)) (d : DRE Q R la gn aa s m) (ap : ALP L P cO cI cZ ed la) (al : ALP L Q cO cI cZ ed la) : RSB P R la := fun b k b0 b1 k0 k1 o => by
  rw [d.1.2.1] at b1
  have on := d.on b0 b1
  have zq : Q.lz la = P.lz la := h.1.2.1
  have sb1 : s b < P.lz la := by have := on.1.2; omega
  have eb := (h.blk on.1.1 sb1).1
  have br9 : Q.br (P.el la (s b)) = P.br (P.el la (s b)) := by unfold PO.br; rw [h.1.1]
  rw [(d.nph b0 b1).2] at k1
  have er := d.erw b0 b1 k0 k1
  have kq := al.krow on.1.1 on.1.2 k0 k1
  rw [er, show R.ro (Q.el (Q.br (Q.el la (s b))) k) = Q.ro (Q.el (Q.br (Q.el la (s b))) k) from d.2.2.2.1 _ kq.2 0] at o
  obtain ⟨_, f, _, _, f3, _⟩ := ((h.2.1 (s b) on.1.1 sb1).1 sb1 on.2.1).2
  rw [eb, br9] at k1 o er
  have w := f3 k k0 k1
  have kn := h.2.2.2.2.1 (s b) (f k) on.1.1 sb1 on.2.1 w.1 w.2.1 (Or.inl sb1) (w.2.2.2 k0)
  rw [w.2.2.1, kn.1.1] at o
  exact ⟨s b, f k, ⟨on.1.1, sb1⟩, ⟨w.1, w.2.1⟩, by rw [er, w.2.2.1], o⟩
/-- all three -/
theorem FDK.ed2 (h : FDK P Q la st nm gn (P.lz la) j r False (fun _ => False)) (d : DRX Q R la gn aa) (e : LSR R S la) (ap : ALP L P cO cI cZ ed la) (al : ALP L Q cO cI cZ ed la) (ar : ALP L' R cO cI cZ ed la) (as : ALP L2 S cO cI cZ ed la) (ks : KST Q la gn) : WYR P S la ∧ RSB P S la ∧ S.2.1 = P.2.1 := by
  obtain ⟨s, m, q⟩ := d.dre al ks
  exact ⟨(WYR.fdk h q ap al ar ks).trans (WYR.lsr e ar) as, (RSB.fdk h q ap al).trans (RSB.lsr e ar), e.1.1.1.trans (d.nat.trans h.1.1)⟩
end WYR6
