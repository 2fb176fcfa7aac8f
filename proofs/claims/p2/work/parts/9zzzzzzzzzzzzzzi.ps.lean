/-! what a call does to it -/
theorem pl_nd {A : Nat → Prop} {X : va_W} {L : List Nat} {f : Nat → va_E} (h : va_D A (X ++ va_pl L f)) : L.Nodup := by
  have d := (pl_D.mp h).1
  rw [List.map_append] at d
  have e := (List.nodup_append.mp d).2.1
  have m : (va_pl L f).map (fun q => q.1) = L := by
    unfold va_pl
    rw [List.map_map]
    exact (List.map_congr_left (fun _ _ => rfl)).trans (List.map_id L)
  rw [m] at e
  exact e
theorem ADC.pos {L : List Nat} {P : PO} {cO : ClassId} {ed x : Nat} (h : ADC L P cO ed x) (f : P.fl x = 1) : 0 < P.an (P.le x) := by
  unfold ADC at h
  rcases h with h | h
  · exact h.2.2.2.2.1
  · exact absurd f h.1
theorem ADC.gl6 {L : List Nat} {P : PO} {cO : ClassId} {ed x : Nat} (h : ADC L P cO ed x) (z : P.lz x ≤ 4164) : P.gx x ≤ 6246 ∧ P.gc x ≤ 1 := by
  have g := ADC.gl9 h
  refine ⟨?_, g.2⟩
  have s := P.gx_spec x
  have t := groX_spec (P.lz x) (P.an (P.le x))
  unfold ADC at h
  rcases h with h | h
  · have e := (s.1 h.1).1
    by_cases q : P.lz x = P.an (P.le x)
    · have u := t.1 q (by omega)
      omega
    · have u := t.2 q
      omega
  · have e := (s.2 h.1).1
    omega
section PSI8
variable {L L' : List Nat} {P P' : PO} {cO cI cZ : ClassId} {ed x q : Nat} {w : Nat → Int}
theorem LVA.same (h : LVA L P) (e : P'.2.1 = P.2.1) : LVA L P' := fun z m k => by
  have c : P'.cap z = P.cap z := by unfold PO.cap PO.fl PO.le PO.an; rw [e]
  rw [c]
  exact h z m (by unfold PO.kd at k ⊢; rw [← e]; exact k)
theorem LVA.gl1 (h : LVA L P) (g : GLF L P cO cI cZ ed) (r : GL1 x q L P L' P') (mx : x ∈ L) (kx : P.kd x = 30) (fx : P.fl x = 1 ∨ P.le x ∉ L) (n : LVC (P'.cap x) ∧ P'.cap x ≤ 6246) : LVA L' P' := fun z m k => by
  by_cases e : z = x
  · rw [e]; exact n
  · have zq : z ≠ q := fun k2 => by rw [k2, r.1.2.2.2.2.1] at k; omega
    have ml : z ∈ L := by
      rcases r.2.2.1 z m with y | y | y
      · exact absurd y e
      · exact absurd y zq
      · exact y
    have s := r.2.2.2.1 z e zq
    have k0 : P.kd z = 30 := (show P'.kd z = P.kd z from s.2.1 0).symm.trans k
    have fl : P'.fl z = P.fl z := s.2.1 7
    have le : P'.le z = P.le z := s.2.1 1
    have c : P'.cap z = P.cap z := by
      unfold PO.cap
      rw [fl, le]
      by_cases f : P.fl z = 1
      · rw [if_pos f, if_pos f]
        have o := (g.2.2.2.1 z ml k0).2 f
        have nx : P.le z ≠ x := fun k2 => by rw [k2] at o; omega
        have nq : P.le z ≠ q := fun k2 => by
          have lx := r.2.2.2.2 (by rw [← k2]; exact o.1)
          rcases fx with y | y
          · have o2 := (g.2.2.2.1 x mx kx).2 y
            exact e (by rw [← o.2.2.1, k2, lx]; exact o2.2.2.1)
          · exact y (by rw [← lx, ← k2]; exact o.1)
        have sa := r.2.2.2.1 (P.le z) nx nq
        rw [show P'.an (P.le z) = P.an (P.le z) from sa.2.1 1]
      · rw [if_neg f, if_neg f]
    rw [c]
    exact h z ml k0
/-- one more in a list: slots, cells, lengths -/
theorem PSI.put (n1 : L.Nodup) (n2 : L'.Nodup) (h : GLF L P cO cI cZ ed) (r : GL1 x q L P L' P') (mx : x ∈ L) (kx : P.kd x = 30) (fx : P.fl x = 1 ∨ P.le x ∉ L) (v : LVC (P.cap x)) (z : P.lz x ≤ 4164) (g : P.fl x = 1 → (P'.an (P'.le x) = P.an (P.le x) ∧ P.lz x ≠ P.an (P.le x)) ∨ (P.lz x = P.an (P.le x) ∧ (P'.an (P'.le x) : Int) = P.an (P.le x) + (P.an (P.le x) : Int) / 2)) (n : P.fl x ≠ 1 → P'.an (P'.le x) = 10) (a : ADC L P cO ed x) (c6 : P.cap x ≤ 6246) : PSI wSL L' P' = PSI wSL L P + P.gx x ∧ 40 * (P.gc x : Int) ≤ PSI wCE L' P' - PSI wCE L P ∧ LVC (P'.cap x) ∧ P'.cap x ≤ 6246 := by
  have f' : P'.fl x = 1 := r.1.2.2.2.2.2.2.2.2
  have c' := (P'.cap_spec x).1 f'
  have s := P.gx_spec x
  have t := groX_spec (P.lz x) (P.an (P.le x))
  have u := groC_spec (P.lz x) (P.an (P.le x))
  have p1 := PSI.gl1 (w := wSL) n1 n2 h r mx kx fx
  have p2 := PSI.gl1 (w := wCE) n1 n2 h r mx kx fx
  have w1 : wSL 5 = 1 := by decide
  have w2 : wCE 5 = 4 := by decide
  rw [w1] at p1
  rw [w2] at p2
  by_cases f : P.fl x = 1
  · have c := (P.cap_spec x).1 f
    have e := s.1 f
    rcases g f with ⟨y, k⟩ | ⟨y, k⟩
    · have z1 := t.2 k
      have z2 := u.2 k
      have cc : P'.cap x = P.cap x := by rw [c', y, ← c]
      rw [cc] at p1 p2 ⊢
      exact ⟨by omega, by omega, v, c6⟩
    · have z1 := t.1 y (by omega)
      have z2 := u.1 y
      have ps := a.pos f
      have g1 := LVC.grow v (by rw [c]; omega) (by rw [c]; omega)
      have cc : P'.cap x = P.cap x + P.cap x / 2 := by rw [c', k, ← c]
      have tn := LVC.ten v f ps
      rw [cc] at p1 p2 ⊢
      have g2 := g1.2
      exact ⟨by omega, by omega, g1.1, by omega⟩
  · have c := (P.cap_spec x).2 f
    have e := s.2 f
    have k := n f
    have cc : P'.cap x = 10 := by rw [c', k]; rfl
    have l0 : LVS 0 = 0 := by decide
    have l1 : LVS 10 = 10 := by decide
    rw [cc, c, l0, l1] at p1
    rw [cc, c, l0, l1] at p2
    rw [cc]
    exact ⟨by omega, by omega, LVC.first.1, by omega⟩
end PSI8
