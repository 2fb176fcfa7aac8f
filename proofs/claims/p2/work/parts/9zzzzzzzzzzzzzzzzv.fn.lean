/-! a copy, in a pool of which little is known beside, is a function -/
section FNP3
variable {L LS : List Nat} {P Q : PO} {cO cI cZ : ClassId} {ed la lb lr lp ls x y : Nat} {n p : Int}
theorem ROK9.cr (h : ROK9 Q y) (e : CRW P x Q y) (r : ROKR P x) : ROK9 P x := by
  obtain ⟨e1, e2, e3, e4, e5, e6⟩ := e
  obtain ⟨_, _, _, _, _, _, rg, _, _⟩ := r
  unfold ROK9 at *
  rw [e1, e2, e3, e4, e5, e6]
  exact ⟨h.1, h.2.1, h.2.2.1, h.2.2.2.1, h.2.2.2.2.1, h.2.2.2.2.2.1, rg, h.2.2.2.2.2.2.2⟩
theorem PIKR.cph {m : Int} (h : PIKR L P cI cZ x) (e : CPH P x Q y m) (mm : m ≤ Q.pn y) (s : PIK LS Q cI cZ y) : PIK L P cI cZ x := by
  obtain ⟨e1, e2, e3⟩ := e
  have st := s.2.2.2.2.2.1
  refine h.s (by rw [e2]; exact st.2.1) (fun k k0 k1 => ?_)
  rw [e1] at k1
  obtain ⟨a, b, c⟩ := e3 k k0 k1
  have q := s.ef (i := k) k0 (by omega)
  unfold PEF at *
  rw [a, b, c]; exact q
theorem CPI.fok (h : CPI P Q lb lr lp ls (Q.lz ls) n p) (A : ALP LS Q cO cI cZ ed ls) (g : GLR L P cO cI cZ ed) (ca : CLF L P la 12) (al : ∀ b : Int, 0 ≤ b → b < P.lz la → P.el la b = P.el lb b) (zl : P.lz la = Q.lz ls) (ds : DST P lb) (zb : P.lz la ≤ P.lz lb) : FOK L P cO cI cZ la := by
  refine ⟨ca, by rw [zl]; exact A.1.1.2.1, fun b b0 b1 => ?_, fun b c b0 bc c1 => ?_, fun y hy k k0 k1 => ?_, fun b b0 b1 => ?_⟩
  · have bk := (A.inb ⟨b, b0, by omega, rfl⟩).2.2.2.2
    have e := h.2.2.2.2 b b0 (by omega)
    rw [al b b0 b1, e.2.1, e.2.2, zl]
    exact ⟨bk.2.1, bk.2.2.2⟩
  · rw [al b b0 (by omega), al c (by omega) c1]
    exact (ds b c b0 bc (by omega)).1
  · obtain ⟨b, b0, b1, e⟩ := hy
    rw [e, al b b0 b1] at k1 ⊢
    have q := h.2.2.2.1 b b0 (by omega)
    have qz : P.lz (P.bp (P.el lb b)) = Q.lz (Q.bp (Q.el ls b)) := q.1
    have kz : k < Q.lz (Q.bp (Q.el ls b)) := by omega
    have ek : P.el (P.bp (P.el lb b)) k = P.el lp (OFS 1 Q ls b + k) := q.2.2 k k0 k1
    have qn : OFS 1 Q ls b + Q.lz (Q.bp (Q.el ls b)) ≤ p := q.2.1
    have f := h.2.1 b k b0 (by omega) k0 kz (by omega)
    have pr := A.2.2.1 _ ⟨b, b0, by omega, rfl⟩ k k0 kz
    intro t t0 t1
    rw [ek] at t1 ⊢
    rw [f.1] at t1
    rw [(f.2.2 t t0 t1).1, zl]
    exact pr t t0 t1
  · have lo := (g.1.1 la ca.1 ca.2.1).1
    rw [ca.2.2.1] at lo
    have bk := lo.2.2.2.2 b b0 b1
    have bs := A.inb ⟨b, b0, by omega, rfl⟩
    obtain ⟨⟨c1, c2, c3, c4⟩, c5, c6, c7, c8⟩ := g.2.2.2.2 _ bk.2.1 bk.2.2
    have l1 := (g.1.1 _ c3 c4).1
    have l2 := (g.1.1 _ c7 c8).1
    rw [c1] at l1
    rw [c5] at l2
    obtain ⟨⟨b1', b2', b3'⟩, _⟩ := g.1.2.1 _ bk.2.1 bk.2.2
    have e := h.2.2.2.2 b b0 (by omega)
    rw [al b b0 b1] at *
    refine ⟨(A.rok bs.2.2.2.1.1 bs.2.2.2.1.2).cr e.1 (g.2.1 _ b1' b2'), fun j j0 j1 => ?_, fun j j0 j1 => ?_⟩
    · have q := h.2.2.1 b b0 (by omega)
      have qz : P.lz (P.br (P.el lb b)) = Q.lz (Q.br (Q.el ls b)) := q.1
      have ek : P.el (P.br (P.el lb b)) j = P.el lr (OFS 2 Q ls b + j) := q.2.2 j j0 j1
      have qn : OFS 2 Q ls b + Q.lz (Q.br (Q.el ls b)) ≤ n := q.2.1
      have f := h.1 b j b0 (by omega) j0 (by omega) (by omega)
      have so := bs.2.1.2.2.2.2 j j0 (by omega)
      have m := l1.2.2.2.2 j j0 j1
      have r := g.2.1 _ m.2.1 m.2.2
      rw [ek] at r ⊢
      exact (A.rok so.2.1 so.2.2).cr f r
    · have q := h.2.2.2.1 b b0 (by omega)
      have qz : P.lz (P.bp (P.el lb b)) = Q.lz (Q.bp (Q.el ls b)) := q.1
      have ek : P.el (P.bp (P.el lb b)) j = P.el lp (OFS 1 Q ls b + j) := q.2.2 j j0 j1
      have qn : OFS 1 Q ls b + Q.lz (Q.bp (Q.el ls b)) ≤ p := q.2.1
      have f := h.2.1 b j b0 (by omega) j0 (by omega) (by omega)
      have so := bs.2.2.1.2.2.2.2 j j0 (by omega)
      have m := l2.2.2.2.2 j j0 j1
      have r := g.2.2.1 _ m.2.1 m.2.2
      rw [ek] at r ⊢
      exact r.cph f (Int.le_refl _) (A.pik so.2.1 so.2.2)
end FNP3
theorem ALP.pk9 {L : List Nat} {P : PO} {cO cI cZ : ClassId} {ed la x : Nat} (h : ALP L P cO cI cZ ed la) (m : x ∈ L) (k : P.kd x = 15) : PIK L P cI cZ x := h.pik m k
theorem ALP.rk9 {L : List Nat} {P : PO} {cO cI cZ : ClassId} {ed la x : Nat} (h : ALP L P cO cI cZ ed la) (m : x ∈ L) (k : P.kd x = 17) : ROK9 P x := h.rok m k
