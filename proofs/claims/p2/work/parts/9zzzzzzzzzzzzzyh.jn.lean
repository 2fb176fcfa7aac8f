/-- PHIs of b replaced, n of them so far -/
def JRQ (P : PO) (la : Nat) (rp br bb : Int → Int) (b n : Int) : Prop := (∀ k : Int, 0 ≤ k → k < n → rp (P.pt (P.el (P.bp (P.el la b)) k)) ≠ 0 ∧ br (P.pt (P.el (P.bp (P.el la b)) k)) = P.ia (P.pr (P.el (P.bp (P.el la b)) k)) 0 ∧ bb (P.pt (P.el (P.bp (P.el la b)) k)) = P.ia (P.pu (P.el (P.bp (P.el la b)) k)) 0) ∧ ∀ v : Int, 0 ≤ v → v ≤ 1001 → rp v ≠ 0 → ∃ k : Int, 0 ≤ k ∧ k < n ∧ P.pt (P.el (P.bp (P.el la b)) k) = v
section JON7
variable {L : List Nat} {P P' P1 Q Q' : PO} {cO cI cZ : ClassId} {ed l la x o : Nat} {rp br bb : Int → Int} {b c d i j k n y : Int}
theorem JRQ.first (z : ∀ v : Int, 0 ≤ v → v ≤ 1001 → rp v = 0) : JRQ P la rp br bb b 0 := ⟨fun k _ _ => by omega, fun v v0 v1 q => absurd (z v v0 v1) q⟩
theorem JRQ.all (h : JRQ P la rp br bb b n) (e : n = P.lz (P.bp (P.el la b))) : JRP P la rp br bb b := by
  subst e; exact h
theorem JRQ.to {m : Int} (h : JRQ P la rp br bb b n) (e : n = m) : JRQ P la rp br bb b m := by subst e; exact h
theorem JRQ.put {rp' br' bb' : Int → Int} (h : JRQ P la rp br bb b n) (df : ∀ k : Int, 0 ≤ k → k < n → P.pt (P.el (P.bp (P.el la b)) k) ≠ P.pt (P.el (P.bp (P.el la b)) n)) (n0 : 0 ≤ n) (ex : x = P.el (P.bp (P.el la b)) n) (e1 : rp' = zup rp (P.pt x) 1) (e2 : br' = zup br (P.pt x) (P.ia (P.pr x) 0)) (e3 : bb' = zup bb (P.pt x) (P.ia (P.pu x) 0)) : JRQ P la rp' br' bb' b (n + 1) := by
  subst e1 e2 e3
  rw [ex]
  refine ⟨fun k k0 k1 => ?_, fun v v0 v1 q => ?_⟩
  · by_cases e : k = n
    · rw [e, zup_eq, zup_eq, zup_eq]
      exact ⟨by decide, rfl, rfl⟩
    · have t := df k k0 (by omega)
      rw [zup_ne _ _ t, zup_ne _ _ t, zup_ne _ _ t]
      exact h.1 k k0 (by omega)
  · by_cases e : v = P.pt (P.el (P.bp (P.el la b)) n)
    · exact ⟨n, n0, by omega, e.symm⟩
    · rw [zup_ne _ _ e] at q
      obtain ⟨k, k0, k1, t⟩ := h.2 v v0 v1 q
      exact ⟨k, k0, by omega, t⟩
theorem CLR.kepA {E : List Nat} (h : CLR l L P P1) (a : ALP L P cO cI cZ ed la) (ml : l ∈ L) (kl : P.kd l = 30) (e : P.ek l ≠ 12) (ox : P.ow l ≠ l ∨ l ∈ E) : KEP E L P L P1 la := by
  have u := h.unt a ml kl a.lok.1 a.lok.2.1 (fun q => e (by rw [← q]; exact a.2.1.2.1))
  have g := CLR.keg (E := E) a.glf h ml kl ox
  exact ⟨g.1, g.2, u.1, u.2⟩
theorem CLR.alpA (h : CLR l L P P1) (a : ALP L P cO cI cZ ed la) (ml : l ∈ L) (kl : P.kd l = 30) (e : P.ek l ≠ 12) : ALP L P1 cO cI cZ ed la := by
  have w := h.1
  have u := h.unt a ml kl a.lok.1 a.lok.2.1 (fun q => e (by rw [← q]; exact a.2.1.2.1))
  refine (CLR.glf a.glf h ml kl).alp a.lok.1 ((w.kd la).trans a.lok.2.1) ((w.ek la).trans a.2.1.2.1) (by rw [u.1]; exact a.1.1.2.1) (fun i i0 i1 => ?_) (fun i j i0 ij j1 => ?_) (fun y m j j0 j1 => ?_)
  · rw [u.1] at i1 ⊢
    rw [u.2 i i0 i1]
    have ib := a.inb ⟨i, i0, i1, rfl⟩
    have n : P.el la i ≠ l := kd_ne ib.1.2 kl (by decide)
    rw [show P1.bf (P.el la i) = P.bf (P.el la i) from w.2.2.1 _ n _, show P1.bs (P.el la i) = P.bs (P.el la i) from w.2.2.1 _ n _]
    exact ⟨ib.2.2.2.2.2.1, ib.2.2.2.2.2.2.2⟩
  · rw [u.1] at j1
    rw [u.2 i i0 (by omega), u.2 j (by omega) j1]
    exact a.2.1.2.2.2 i j i0 ij j1
  · obtain ⟨b, b0, b1, ey⟩ := m
    rw [u.1] at b1
    rw [u.2 b b0 b1] at ey
    have bp : P1.bp y = P.bp y := by unfold PO.bp; rw [w.1]
    have ib := a.inb ⟨b, b0, b1, rfl⟩
    rw [bp, ey] at j1 ⊢
    by_cases q : P.bp (P.el la b) = l
    · rw [q, h.2.1] at j1
      omega
    · have un := h.unt a ml kl ib.2.2.1.1 ib.2.2.1.2.1 q
      rw [un.1] at j1
      rw [un.2 j j0 j1, u.1]
      have kp := a.kphi b0 b1 j0 j1
      have n : P.el (P.bp (P.el la b)) j ≠ l := kd_ne kp.2 kl (by decide)
      have pp : P1.pp (P.el (P.bp (P.el la b)) j) = P.pp (P.el (P.bp (P.el la b)) j) := by unfold PO.pp; rw [w.1]
      have ia : ∀ a : Nat, P1.ia a = P.ia a := fun a => by show P1.2.2.2.1 a = P.2.2.2.1 a; rw [w.2.1]
      intro i i0 i1
      rw [show P1.pn (P.el (P.bp (P.el la b)) j) = P.pn (P.el (P.bp (P.el la b)) j) from w.2.2.1 _ n _] at i1
      rw [pp, ia]
      exact a.2.2.1 _ ⟨b, b0, b1, rfl⟩ j j0 j1 i i0 i1
theorem ALP.phb (h : ALP L P cO cI cZ ed la) (w : PH1 x P P') (k : P.kd x = 15) (p : PIK L P' cI cZ x) (q : PRB P' x (P.lz la)) : ALP L P' cO cI cZ ed la := by
  have r := w.rwd k
  refine ⟨h.1.phi w k p, h.2.1.of w.1.1 w.1.2.1 w.1.2.2 (fun l q => r.lz q) h.lok.2.1, fun y m j j0 j1 => ?_, h.2.2.2.phi w k⟩
  have m' := (r.kep (E := []) L h.lok.2.1).back m
  have lb := (h.inb m').2.2.1
  rw [r.bp, r.lz lb.2.1] at j1
  rw [r.bp, r.el, r.lz h.lok.2.1]
  have b := h.2.2.1 y m' j j0 j1
  by_cases e : P.el (P.bp y) j = x
  · rw [e]; exact q
  · have pk := h.at m' j0 j1
    exact b.same (w.2.1 _ e 1) (congrFun (congrFun w.1.1 1) _) (w.2.2 _ (by rw [pk.2.1.2.2.2]; exact e))
theorem PRB.put9 (h : PRB Q x n) (y1 : y < n) (e0 : Q'.pn x = Q.pn x) (e1 : Q'.pp x = Q.pp x) (e2 : Q'.ia (Q.pp x) = zup (Q.ia (Q.pp x)) d y) : PRB Q' x n := fun i i0 i1 => by
  rw [e0] at i1
  rw [e1, e2]
  by_cases q : i = d
  · rw [q, zup_eq]; exact y1
  · rw [zup_ne _ _ q]; exact h i i0 i1
theorem ROK9.cpy (h : ROK9 Q o) (e : P'.ro x = Q.ro o ∧ P'.rt x = Q.rt o ∧ P'.ra x = Q.ra o ∧ P'.rb x = Q.rb o ∧ P'.rA x = Q.rA o ∧ P'.rB x = Q.rB o ∧ P'.rg x = 0) : ROK9 P' x := by
  obtain ⟨e1, e2, e3, e4, e5, e6, e7⟩ := e
  unfold ROK9 at h ⊢
  rw [e1, e2, e3, e4, e5, e6, e7]
  exact ⟨h.1, h.2.1, h.2.2.1, h.2.2.2.1, h.2.2.2.2.1, h.2.2.2.2.2.1, ⟨by decide, by decide⟩, h.2.2.2.2.2.2.2⟩
theorem SNG.phd (sg : SNG P la) (b0 : 0 ≤ b) (b1 : b < P.lz la) (j0 : 0 ≤ j) (j1 : j < P.lz (P.bp (P.el la b))) : ∀ k : Int, 0 ≤ k → k < j → P.pt (P.el (P.bp (P.el la b)) k) ≠ P.pt (P.el (P.bp (P.el la b)) j) := fun k k0 k1 e => by
  have t := sg.1 b b k j b0 b1 b0 b1 k0 (by omega) j0 j1 e
  omega
end JON7
