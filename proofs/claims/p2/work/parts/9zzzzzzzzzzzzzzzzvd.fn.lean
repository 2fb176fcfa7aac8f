/-! one more in the middle of a list, over the whole pool -/
section INSR9
variable {L L' : List Nat} {P P' : PO} {cO cI cZ : ClassId} {ed la x q y : Nat} {i k : Int}
theorem GLR.ins (h : GLR L P cO cI cZ ed) (w : GL1 x q L P L' P') (mx : x ∈ L) (kx : P.kd x = 30) (fx : P.fl x = 1 ∨ P.le x ∉ L) (ek : P.ek x = 17) (qx : LOK L P cO 17 x) (my : y ∈ L) (ky : P.kd y = 17) (z : P'.lz x = P.lz x + 1) (zb : P.lz x < 20000) (ac : P'.ac q = cO) (an0 : P.lz x + 1 ≤ P'.an q) (an1 : (P'.an q : Int) ≤ 40000) (els : ELS L' P' (P'.oa q)) (r : INSF (P.oa (P.le x)) (P'.oa q) i (P.lz x) y) (i0 : 0 ≤ i) (i1 : i ≤ P.lz x) (e1 : P.ek y ≠ 1) : GLR L' P' cO cI cZ ed := by
  have lz0 := qx.2.2.1.1
  have le : P'.le x = q := w.1.2.2.2.1
  obtain ⟨f, ef⟩ : ∃ f : Nat → Option Nat, f = fun j : Nat => if (j : Int) < P.lz x then P.oa (P.le x) j else if (j : Int) = P.lz x then some y else none := ⟨_, rfl⟩
  have f0 : ∀ j : Nat, (j : Int) < P.lz x → f j = P.oa (P.le x) j := fun j a => by rw [ef]; exact if_pos a
  have f1 : f (P.lz x).toNat = some y := by
    rw [ef]
    show (if (((P.lz x).toNat : Nat) : Int) < P.lz x then _ else _) = _
    rw [if_neg (by omega), if_pos (by omega)]
  -- each of f stands in the list as it is now, and the other way round
  have fg : ∀ j : Nat, (j : Int) < P.lz x + 1 → ∃ k : Nat, (k : Int) < P.lz x + 1 ∧ P'.oa q j = f k := fun j a => by
    by_cases c : (j : Int) < i
    · exact ⟨j, by omega, by rw [r.1 j c, f0 j (by omega)]⟩
    · by_cases d : (j : Int) = i
      · refine ⟨(P.lz x).toNat, by omega, ?_⟩
        rw [f1, ← r.2.1]; congr 1; omega
      · refine ⟨j - 1, by omega, ?_⟩
        have t := r.2.2 (j - 1) (by omega) (by omega)
        rw [f0 (j - 1) (by omega), ← t]; congr 1; omega
  have gf : ∀ j : Nat, ∀ u : Nat, f j = some u → ∃ k : Nat, P'.oa q k = some u := fun j u e => by
    by_cases a : (j : Int) < P.lz x
    · rw [f0 j a] at e
      by_cases c : (j : Int) < i
      · exact ⟨j, by rw [r.1 j c]; exact e⟩
      · exact ⟨j + 1, by rw [r.2.2 j (by omega) a]; exact e⟩
    · rw [ef] at e
      have e' : (if (j : Int) < P.lz x then P.oa (P.le x) j else if (j : Int) = P.lz x then some y else none) = some u := e
      rw [if_neg a] at e'
      by_cases d : (j : Int) = P.lz x
      · rw [if_pos d] at e'
        exact ⟨i.toNat, by rw [r.2.1]; exact e'⟩
      · rw [if_neg d] at e'; cases e'
  obtain ⟨Q, eQ⟩ : ∃ Q : PO, Q = P'.ro9 q f := ⟨_, rfl⟩
  have qa : Q.oa q = f := by rw [eQ]; exact ro9_at _ _ _
  have qo : ∀ u : Nat, u ≠ q → Q.oa u = P'.oa u := fun u n => by rw [eQ]; exact ro9_of _ _ n
  have q1 : Q.1 = P'.1 := by rw [eQ]; rfl
  have q2 : Q.2.1 = P'.2.1 := by rw [eQ]; rfl
  have q3 : Q.2.2.2 = P'.2.2.2 := by rw [eQ]; rfl
  have wq : GL1 x q L P L' Q := by
    obtain ⟨a, b, c, d, e⟩ := w
    refine ⟨?_, b, c, fun u n m => ?_, e⟩
    · unfold PO.kd PO.le PO.ow at a ⊢
      rw [q2]; exact a
    · obtain ⟨d1, d2, d3, d4, d5⟩ := d u n m
      refine ⟨fun g => by rw [q1]; exact d1 g, fun g => by rw [q2]; exact d2 g, (qo u m).trans d3, ?_, ?_⟩
      · show Q.2.2.2.1 u = _; rw [q3]; exact d4
      · show Q.2.2.2.2 u = _; rw [q3]; exact d5
  have lzq : ∀ u : Nat, Q.lz u = P'.lz u := fun u => by show Q.1 0 u = P'.1 0 u; rw [q1]
  have anq : Q.an q = P'.an q := by show Q.2.1 1 q = P'.2.1 1 q; rw [q2]
  have acq : Q.ac q = P'.ac q := by show Q.2.2.2.2 q = P'.2.2.2.2 q; rw [q3]
  have kdq : ∀ u : Nat, Q.kd u = P'.kd u := fun u => by show Q.2.1 0 u = P'.2.1 0 u; rw [q2]
  have ekq : ∀ u : Nat, Q.ek u = P'.ek u := fun u => by show Q.2.1 8 u = P'.2.1 8 u; rw [q2]
  have elsq : ELS L' Q (Q.oa q) := fun j u e => by
    rw [qa] at e
    obtain ⟨k, t⟩ := gf j u e
    rw [kdq]; exact els k u t
  have aq : GLR L' Q cO cI cZ ed := h.add wq mx kx fx ek my ky (by rw [lzq]; exact z) zb (by rw [acq]; exact ac) (by rw [anq]; exact an0) (by rw [anq]; exact an1) elsq (by rw [qa]; exact f1) (fun j a => by rw [qa]; exact f0 j a) (fun _ => e1)
  have mq : x ∈ L' := w.1.1
  have kq : Q.kd x = 30 := by rw [kdq]; exact w.1.2.2.1
  have leq : Q.le x = q := by show Q.2.1 1 x = q; rw [q2]; exact le
  have flq : Q.fl x = 1 := by show Q.2.1 7 x = 1; rw [q2]; exact w.1.2.2.2.2.2.2.2.2
  have ekx : Q.ek x = 17 := by
    rw [ekq]
    show P'.2.1 8 x = 17
    rw [w.1.2.2.2.2.2.2.2.1]; exact ek
  have lk := (aq.1.1 x mq kq)
  have ls : LS1 x Q P' := ⟨q2.symm, q3.symm, fun u _ g => by rw [q1], fun a n => by rw [leq] at n; exact (qo a n).symm⟩
  refine LCH.glfR ⟨ls, flq, ?_, ⟨by omega, by rw [lzq]; exact Int.le_refl _⟩, fun j j0 j1 => ?_⟩ aq mq kq
  · rw [leq]; exact els
  · rw [leq]
    rw [z] at j1
    obtain ⟨k, k1, t⟩ := fg j.toNat (by omega)
    have a := lk.1.2.2.2.2 (k : Int) (by omega) (by rw [lzq, z]; omega)
    rw [leq, qa, Int.toNat_natCast] at a
    have b := lk.2.2 ekx (k : Int) (by omega) (by rw [lzq, z]; omega)
    have el : P'.el x j = Q.el x (k : Int) := by
      unfold PO.el
      rw [le, leq, qa, Int.toNat_natCast, t]
    rw [t, el, ekx]
    rw [ekx] at a
    exact ⟨a.1, a.2.1, a.2.2, fun _ => b⟩
end INSR9
