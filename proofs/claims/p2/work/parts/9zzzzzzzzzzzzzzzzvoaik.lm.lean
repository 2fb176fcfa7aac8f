/-! what is kept of a function in SSA form between the calls: places for splits, few PREDs, few PHIs in a block, few rows that set nothing -/
def TXH (P : PO) (la : Nat) : Prop := TOX P la ∧ SHA P la
def FKX (P : PO) (la : Nat) : Prop := (TXH P la ∧ I6P P la) ∧ PHM P la 400
section FKX9
variable {L L' : List Nat} {P Q R V : PO} {cO cI cZ : ClassId} {ed la : Nat} {n : Int} {Z : Int → Prop}
theorem WYR.zri (h : ZRI P Q la n Z) : WYR P Q la := WYR.same h.1.1 (fun b c b0 b1 e => (h.edg b0 b1).mp e) (fun b b0 b1 o => by
  have u := h.2.1 b b0 b1
  rw [u.1, u.2.1.2.2.1, show Q.ro (P.be (P.el la b)) = P.ro (P.be (P.el la b)) from u.2.2.2 0] at o
  exact o) (fun b b0 b1 => by
  have u := h.2.1 b b0 b1
  rw [u.1, u.2.1.1, u.2.2.1]; exact Int.le_refl _)
theorem RSB.zri (h : ZRI P Q la n Z) : RSB P Q la := fun b k b0 b1 k0 k1 o => by
  rw [h.1.1] at b1
  have u := h.2.1 b b0 b1
  rw [u.1, u.2.1.2.1] at k1 o
  by_cases z : b = 0
  · rw [z] at k1 o u
    by_cases q : k < n
    · exact absurd o (h.2.2.2.1.2.2 k k0 q).2.1
    · have e := h.2.2.2.1.1
      have w := h.2.2.2.1.2.1 (k - n) (by omega) (by omega)
      rw [show n + (k - n) = k from by omega] at w
      rw [w.1, show Q.ro (P.el (P.br (P.el la 0)) (k - n)) = P.ro (P.el (P.br (P.el la 0)) (k - n)) from w.2 0] at o
      exact ⟨0, k - n, ⟨Int.le_refl 0, by omega⟩, ⟨by omega, by omega⟩, by rw [z, u.1, u.2.1.2.1, w.1], o⟩
  · have w := h.2.2.1 b (by omega) b1
    rw [w.1] at k1
    have v := w.2 k k0 k1
    rw [v.1, show Q.ro (P.el (P.br (P.el la b)) k) = P.ro (P.el (P.br (P.el la b)) k) from v.2 0] at o
    exact ⟨b, k, ⟨b0, b1⟩, ⟨k0, k1⟩, by rw [u.1, u.2.1.2.1, v.1], o⟩
theorem RSB.phs (h : PHS P Q la) : RSB P Q la := fun b k b0 b1 k0 k1 o => by
  rw [h.1] at b1
  have u := h.2 b b0 b1
  rw [u.1, u.2.1.2.1] at k1 o
  rw [u.2.2.1.1] at k1
  have v := u.2.2.1.2 k k0 k1
  rw [v.1, show Q.ro (P.el (P.br (P.el la b)) k) = P.ro (P.el (P.br (P.el la b)) k) from v.2 0] at o
  exact ⟨b, k, ⟨b0, b1⟩, ⟨k0, k1⟩, by rw [u.1, u.2.1.2.1, v.1], o⟩
theorem TXH.fne (t : TXH P la) (a : ALP L P cO cI cZ ed la) (v : FNE P Q la) : TXH Q la := ⟨t.1.of v.1 (fun p c w => by
  have z := v.1
  have p1 : p < P.lz la := by have q := w.1.2; omega
  have u := v.2 p w.1.1 p1
  have ep := (v.edy.2 p w.1.1 p1 c).mp w.2.2.1
  have rc := EDG.rng a w.1.1 p1 ep
  have uc := v.2 c rc.1 rc.2
  refine ⟨⟨w.1.1, p1⟩, ?_, ep, ?_⟩
  · have w2 := w.2.1
    rw [u.1, u.2.1.2.2.1, show Q.ro (P.be (P.el la p)) = P.ro (P.be (P.el la p)) from u.2.2.2.2 0] at w2
    exact w2
  · rcases w.2.2.2 with m | m
    · exact Or.inl (MPR.edy v.edy m)
    · rw [uc.1, uc.2.1.1, uc.2.2.1.1] at m
      exact Or.inr m), t.2.rsb (RSB.fne v)⟩
theorem TXH.drx {st aa : Int → Int} (t : TXH P la) (d : DRX P Q la st aa) (al : ALP L P cO cI cZ ed la) (aq : ALP L' Q cO cI cZ ed la) (ks : KST P la st) : TXH Q la := by
  obtain ⟨sm, m, d⟩ := d.dre al ks
  exact ⟨t.1.wyr (WYR.dre d al aq ks) aq, t.2.rsb (RSB.dre d al)⟩
theorem TXH.zri (t : TXH P la) (h : ZRI P Q la n Z) (aq : ALP L Q cO cI cZ ed la) : TXH Q la := ⟨t.1.wyr (WYR.zri h) aq, t.2.rsb (RSB.zri h)⟩
theorem FKX.wyr (h : FKX P la) (w : WYR P Q la) (r : RSB P Q la) (aq : ALP L Q cO cI cZ ed la) : FKX Q la := ⟨⟨⟨h.1.1.1.wyr w aq, h.1.1.2.rsb r⟩, h.1.2.1.wyr w, h.1.2.2.wyr w⟩, h.2.wyr w⟩
theorem FKX.tss (t : TXH Q la) (i : I6P Q la) (a : ALP L Q cO cI cZ ed la) (s : PHS Q V la) (o : PHN Q V la n) (n2 : 2 * n ≤ Q.tot 2 la) (e2 : V.tot 2 la = Q.tot 2 la) (k : NKX V R la) (aR : ALP L' R cO cI cZ ed la) (ss : SSP R la) : FKX R la := by
  have iv : I6P V la := i.edy s.edy
  have tv : TOX V la := t.1.phs a s.edy (fun b b0 b1 q => by
    have u := s.2 b b0 b1
    rw [u.1, u.2.1.2.2.1, show V.ro (Q.be (Q.el la b)) = Q.ro (Q.be (Q.el la b)) from u.2.2.2 0] at q
    exact q) (fun c c0 c1 q => by
    have u := s.2 c c0 c1
    rw [u.1, u.2.1.1] at q
    exact (o c c0 c1).2 q)
  have sr : SHA R la := (t.2.rsb (RSB.phs s)).rsb k.2.1
  have hm : PHM V la n := fun c c0 c1 => by
    rw [s.1] at c1
    have u := s.2 c c0 c1
    rw [u.1, u.2.1.1]
    exact (o c c0 c1).1
  refine ⟨⟨⟨tv.wyr k.1 aR, sr⟩, iv.1.wyr k.1, iv.2.wyr k.1⟩, fun b b0 b1 => ?_⟩
  have m := hm.wyr k.1 b b0 b1
  have g := tot_ge aR b0 b1
  have r := ss.rows sr aR
  have e := k.2.2
  omega
end FKX9
