/-! a list of a Code changed in place: one set, the last taken away -/
def LCH (x : Nat) (L : List Nat) (P P' : PO) : Prop := LS1 x P P' ∧ P.fl x = 1 ∧ ELS L P' (P'.oa (P.le x)) ∧ (0 ≤ P'.lz x ∧ P'.lz x ≤ P.lz x) ∧ ∀ i : Int, 0 ≤ i → i < P'.lz x → P'.oa (P.le x) i.toNat = some (P'.el x i) ∧ P'.el x i ∈ L ∧ P.kd (P'.el x i) = P.ek x ∧ (P.ek x = 17 → P.ek (P'.el x i) ≠ 1)
section DRQ9
variable {L E : List Nat} {P P' P2 : PO} {cO cI cZ : ClassId} {ed x y : Nat} {i j : Int}
theorem LCH.keg (w : LCH x L P P') (h : GLF L P cO cI cZ ed) (mx : x ∈ L) (kx : P.kd x = 30) (ox : P.ow x ≠ x ∨ x ∈ E) : KEG E L P L P' := by
  obtain ⟨w, f, _⟩ := w
  have o : OWA L P cO ed := h.2.2.2.1
  refine ⟨fun y m _ => ⟨m, w.kd y, w.ek y, fun k2 o2 => ⟨by show P'.2.1 9 y = y; rw [w.1]; exact o2, fun ne => ?_⟩, fun k2 => w.sma kx (Or.inl ((o x mx kx).2 f).2.1) k2⟩, fun y _ _ => ⟨by show P'.2.1 1 y = P.2.1 1 y; rw [w.1], by show P'.2.1 2 y = P.2.1 2 y; rw [w.1], by show P'.2.1 3 y = P.2.1 3 y; rw [w.1]⟩⟩
  have ny : y ≠ x := fun e2 => by
    rcases ox with q | q
    · exact q (by rw [← e2]; exact o2)
    · exact ne (by rw [e2]; exact q)
  exact ⟨w.2.2.1 y ny 0, fun i i0 i1 => o.els w mx kx f m k2 ny i0 i1⟩
theorem LCH.glf (w : LCH x L P P') (h : GLF L P cO cI cZ ed) (mx : x ∈ L) (kx : P.kd x = 30) : GLF L P' cO cI cZ ed := by
  obtain ⟨w, f, els, ⟨z0, z1⟩, c⟩ := w
  obtain ⟨g0, hr, hp, o, hc⟩ := h
  have gla : GLA L P' cO := fun l m k => by
    rw [w.kd] at k
    obtain ⟨a, b, c'⟩ := g0.1 l m k
    by_cases n : l = x
    · subst n
      have le : P'.le l = P.le l := by show P'.2.1 1 l = P.2.1 1 l; rw [w.1]
      have an : P'.an (P.le l) = P.an (P.le l) := by show P'.2.1 1 _ = P.2.1 1 _; rw [w.1]
      have ac : P'.ac (P.le l) = P.ac (P.le l) := by show P'.2.2.2.2 _ = P.2.2.2.2 _; rw [w.2.1]
      obtain ⟨a1, a2, a3, a4, a5⟩ := a
      refine ⟨?_, by rw [w.ek]; exact b, fun e j j0 j1 => ?_⟩
      · rw [w.ek]
        refine ⟨a1, (w.kd l).trans a2, ⟨z0, by omega⟩, ?_, fun i i0 i1 => ?_⟩
        · rcases a4 with a4 | ⟨d1, d2, d3, d4, d5⟩
          · exact Or.inl (by omega)
          · rw [le, w.kd, an, ac]; exact Or.inr ⟨d1, d2, d3, by omega, d5⟩
        · rw [le, w.kd]; exact ⟨(c i i0 i1).1, (c i i0 i1).2.1, (c i i0 i1).2.2.1⟩
      · rw [w.ek] at e
        rw [w.ek]; exact (c j j0 j1).2.2.2 e
    · have z : P'.lz l = P.lz l := w.2.2.1 l n 0
      refine ⟨by rw [w.ek]; exact o.away w mx kx f a n, by rw [w.ek]; exact b, fun e j j0 j1 => ?_⟩
      rw [w.ek] at e; rw [z] at j1
      rw [w.ek, o.els w mx kx f m k n j0 j1]; exact c' e j j0 j1
  refine ⟨⟨gla, w.glbc g0 kx⟩, fun q m d => ?_, fun q m d => ?_, fun y m k => ?_, fun y m k => ?_⟩
  · rw [w.kd] at d
    exact w.rok (kd_ne d kx (by decide)) (hr q m d)
  · rw [w.kd] at d
    exact w.pik (kd_ne d kx (by decide)) (hp q m d)
  · rw [w.kd] at k
    have le : P'.le y = P.le y := by show P'.2.1 1 y = P.2.1 1 y; rw [w.1]
    have fl : P'.fl y = P.fl y := by show P'.2.1 7 y = P.2.1 7 y; rw [w.1]
    have an : P'.an (P.le y) = P.an (P.le y) := by show P'.2.1 1 _ = P.2.1 1 _; rw [w.1]
    have ac : P'.ac (P.le y) = P.ac (P.le y) := by show P'.2.2.2.2 _ = P.2.2.2.2 _; rw [w.2.1]
    have ow : P'.ow (P.le y) = P.ow (P.le y) := by show P'.2.1 9 _ = P.2.1 9 _; rw [w.1]
    rw [le, fl]
    obtain ⟨h1, h2⟩ := o y m k
    by_cases n : y = x
    · refine ⟨fun f0 => absurd (by rw [n]; exact f) f0, fun f1 => ?_⟩
      obtain ⟨a, b, c, d, e1, e2, e3, e4⟩ := h2 f1
      refine ⟨a, (w.kd _).trans b, ow.trans c, by rw [n]; exact els, by rw [an]; exact e1, by rw [an]; exact e2, ac.trans e3, ?_⟩
      rw [an, n]; rw [n] at e4; omega
    · have lz : P'.lz y = P.lz y := w.2.2.1 y n 0
      rw [lz]
      refine ⟨h1, fun f1 => ?_⟩
      obtain ⟨a, b, c, d, e1, e2, e3, e4⟩ := h2 f1
      refine ⟨a, (w.kd _).trans b, ow.trans c, ?_, by rw [an]; exact e1, by rw [an]; exact e2, ac.trans e3, by rw [an]; exact e4⟩
      have oa : P'.oa (P.le y) = P.oa (P.le y) := w.2.2.2 _ (fun q2 => n (by rw [← c, q2, ((o x mx kx).2 f).2.2.1]))
      rw [oa]
      intro j u eq
      obtain ⟨a, b⟩ := d j u eq
      exact ⟨a, by show OBK (P'.2.1 0 u); rw [w.1]; exact b⟩
  · rw [w.kd] at k
    have b := hc y m k
    unfold PO.kd PO.ek PO.br PO.bp PO.ow at *
    rw [w.1]; exact b
theorem set_el (w : LS1 x P P') (up : P'.oa (P.le x) = va_up (P.oa (P.le x)) i.toNat (some y)) (i0 : 0 ≤ i) (j0 : 0 ≤ j) : P'.el x j = if j = i then y else P.el x j := by
  have le : P'.le x = P.le x := by show P'.2.1 1 x = P.2.1 1 x; rw [w.1]
  unfold PO.el
  rw [le, up]
  unfold va_up
  by_cases e : j = i
  · rw [e, if_pos rfl, if_pos rfl]; rfl
  · rw [if_neg (show ¬ j.toNat = i.toNat by omega), if_neg e]
theorem LCH.set (h : GLF L P cO cI cZ ed) (w : LS1 x P P') (mx : x ∈ L) (kx : P.kd x = 30) (f : P.fl x = 1) (z : P'.lz x = P.lz x) (els : ELS L P' (P'.oa (P.le x))) (up : P'.oa (P.le x) = va_up (P.oa (P.le x)) i.toNat (some y)) (i0 : 0 ≤ i) (my : y ∈ L) (ky : P.kd y = P.ek x) (ne : P.ek x = 17 → P.ek y ≠ 1) : LCH x L P P' := by
  obtain ⟨a, b, c⟩ := h.1.1 x mx kx
  have lz := a.2.2.1
  refine ⟨w, f, els, ⟨by omega, by omega⟩, fun j j0 j1 => ?_⟩
  have q := a.2.2.2.2 j j0 (by omega)
  rw [set_el w up i0 j0, up]
  unfold va_up
  by_cases e : j = i
  · rw [if_pos e, if_pos (by rw [e])]; exact ⟨rfl, my, ky, ne⟩
  · rw [if_neg e, if_neg (show ¬ j.toNat = i.toNat by omega)]; exact ⟨q.1, q.2.1, q.2.2, fun e2 => c e2 j j0 (by omega)⟩
theorem LCH.rmv (h : GLF L P cO cI cZ ed) (w : LS1 x P P') (mx : x ∈ L) (kx : P.kd x = 30) (f : P.fl x = 1) (z : P'.lz x = P.lz x - 1) (zp : 0 < P.lz x) (els : ELS L P' (P'.oa (P.le x))) (r : RMV (P.oa (P.le x)) (P'.oa (P.le x)) i (P.lz x)) : LCH x L P P' := by
  obtain ⟨a, b, c⟩ := h.1.1 x mx kx
  have le : P'.le x = P.le x := by show P'.2.1 1 x = P.2.1 1 x; rw [w.1]
  refine ⟨w, f, els, ⟨by omega, by omega⟩, fun j j0 j1 => ?_⟩
  have q := (h.2.2.2.1.rmv w mx kx f z zp r a).2.2.2.2 j j0 j1
  rw [le, w.kd] at q
  refine ⟨q.1, q.2.1, q.2.2, fun e => ?_⟩
  rw [rmv_el9 w r j j0 (by omega)]
  exact c e _ (by split <;> omega) (by split <;> omega)
theorem LS1.trans9 (w : LS1 x P P') (v : LS1 x P' P2) : LS1 x P P2 := by
  have le : P'.le x = P.le x := by show P'.2.1 1 x = P.2.1 1 x; rw [w.1]
  exact ⟨v.1.trans w.1, v.2.1.trans w.2.1, fun y n f => (v.2.2.1 y n f).trans (w.2.2.1 y n f), fun a n => (v.2.2.2 a (by rw [le]; exact n)).trans (w.2.2.2 a n)⟩
theorem LS1.refl9 (x : Nat) (P : PO) : LS1 x P P := ⟨rfl, rfl, fun _ _ _ => rfl, fun _ _ => rfl⟩
end DRQ9
