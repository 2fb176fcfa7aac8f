/-! a row that comes into the middle of a list -/
section INS9
variable {L L' : List Nat} {P P' : PO} {cO cI cZ : ClassId} {ed la x q y : Nat} {i k : Int}
theorem ALP.lch (h : ALP L P cO cI cZ ed la) (w : LCH x L P P') (mx : x ∈ L) (kx : P.kd x = 30) (e : P.ek x = 17) : ALP L P' cO cI cZ ed la := by
  have gl := w.glf h.glf mx kx
  have f := w.2.1
  have v := w.1
  have ke : KEP [x] L P L P' la := h.lskep v mx kx f (by omega) (Or.inr (by simp))
  have lo : ∀ (l k' : Nat), LOK L P cO k' l → P.ek l = k' → LOK L P' cO k' l := fun l k' q9 e9 => by
    have a := (gl.1.1 l q9.1 ((v.kd l).trans q9.2.1)).1
    rw [v.ek, e9] at a
    exact a
  refine ⟨⟨⟨lo la 12 h.lok h.2.1.2.1, by rw [ke.2.2.1]; exact h.1.1.2.1, fun j j0 j1 => ?_, fun z m d => gl.2.1 z m d⟩, fun z m d => gl.2.2.1 z m d⟩, LS1.own h.2.1 ke v mx kx f w.2.2.1 w.2.2.2.1.2, fun z m j j0 j1 => ?_, gl.1⟩
  · rw [ke.2.2.1] at j1 ⊢
    rw [ke.2.2.2 j j0 j1]
    obtain ⟨a, b, c, d, g⟩ := h.1.blk j0 j1
    obtain ⟨g1, g2, g3⟩ := ke.2.1 _ a.1 a.2
    have o := h.2.1.2.2.1 _ a.1 a.2
    have n : P.el la j ≠ x := kd_ne a.2 kx (by decide)
    refine ⟨⟨a.1, (v.kd _).trans a.2⟩, by rw [g2]; exact lo _ _ b o.1.1, by rw [g1]; exact lo _ _ c o.2.1, by rw [g3, v.kd]; exact d, ?_⟩
    have f1 : P'.bf (P.el la j) = P.bf (P.el la j) := v.2.2.1 _ n 0
    have f2 : P'.bs (P.el la j) = P.bs (P.el la j) := v.2.2.1 _ n 1
    rw [f1, f2]; exact g
  · have m' := ke.back m
    have ib := h.inb m'
    have bp := (ke.2.1 z ib.1.1 ib.1.2).1
    have lb := ib.2.2.1
    have o := h.2.1.2.2.1 _ ib.1.1 ib.1.2
    have n : P.bp z ≠ x := fun e9 => by have := o.2.1; rw [e9] at this; omega
    have lz : P'.lz (P.bp z) = P.lz (P.bp z) := v.2.2.1 _ n 0
    rw [bp, lz] at j1
    rw [bp, ke.2.2.1, OWA.els h.2.1.1 v mx kx f lb.1 lb.2.1 n j0 j1]
    have pk := h.at m' j0 j1
    exact (h.2.2.1 z m' j j0 j1).same (v.2.2.1 _ (kd_ne pk.1.2 kx (by decide)) 1) (by show P'.2.1 1 _ = P.2.1 1 _; rw [v.1]) (by show P'.2.2.2.1 _ = P.2.2.2.1 _; rw [v.2.1])
/-- what stands at each place of a list into which one has come -/
theorem INSF.el (w : GL1 x q L P L' P') (r : INSF (P.oa (P.le x)) (P'.oa q) i (P.lz x) y) (i0 : 0 ≤ i) : (∀ k : Int, 0 ≤ k → k < i → P'.el x k = P.el x k) ∧ P'.el x i = y ∧ ∀ k : Int, i ≤ k → k < P.lz x → P'.el x (k + 1) = P.el x k := by
  have le : P'.le x = q := w.1.2.2.2.1
  refine ⟨fun k k0 k1 => ?_, ?_, fun k k0 k1 => ?_⟩
  · unfold PO.el
    rw [le, r.1 k.toNat (by omega)]
  · unfold PO.el
    rw [le, r.2.1]; rfl
  · unfold PO.el
    rw [le, show (k + 1).toNat = k.toNat + 1 from by omega, r.2.2 k.toNat (by omega) (by omega)]
theorem ALP.ins (h : ALP L P cO cI cZ ed la) (w : GL1 x q L P L' P') (mx : x ∈ L) (kx : P.kd x = 30) (fx : P.fl x = 1 ∨ P.le x ∉ L) (ek : P.ek x = 17) (qx : LOK L P cO 17 x) (my : y ∈ L) (ky : P.kd y = 17) (z : P'.lz x = P.lz x + 1) (zb : P.lz x < 20000) (ac : P'.ac q = cO) (an0 : P.lz x + 1 ≤ P'.an q) (an1 : (P'.an q : Int) ≤ 40000) (els : ELS L' P' (P'.oa q)) (r : INSF (P.oa (P.le x)) (P'.oa q) i (P.lz x) y) (i0 : 0 ≤ i) (i1 : i ≤ P.lz x) (e1 : P.ek y ≠ 1) : ALP L' P' cO cI cZ ed la := by
  have lz0 := qx.2.2.1.1
  have le : P'.le x = q := w.1.2.2.2.1
  obtain ⟨f, ef⟩ : ∃ f : Nat → Option Nat, f = fun j : Nat => if (j : Int) < P.lz x then P.oa (P.le x) j else if (j : Int) = P.lz x then some y else none := ⟨_, rfl⟩
  have f0 : ∀ j : Nat, (j : Int) < P.lz x → f j = P.oa (P.le x) j := fun j a => by rw [ef]; exact if_pos a
  have f1 : f (P.lz x).toNat = some y := by
    rw [ef]
    show (if (((P.lz x).toNat : Nat) : Int) < P.lz x then _ else _) = _
    rw [if_neg (by omega), if_pos (by omega)]
  -- each of f stands in the list as it is now, and the other way round
  have fg : ∀ j : Nat, (j : Int) < P.lz x + 1 → ∃ k : Nat, (k : Int) < P.lz x + 1 ∧ P'.oa q j = f k := fun j a => by
    by_cases c : (j : Int) < i
    · exact ⟨j, by omega, by rw [r.1 j c, f0 j (by omega)]⟩
    · by_cases d : (j : Int) = i
      · refine ⟨(P.lz x).toNat, by omega, ?_⟩
        rw [f1, ← r.2.1]; congr 1; omega
      · refine ⟨j - 1, by omega, ?_⟩
        have t := r.2.2 (j - 1) (by omega) (by omega)
        rw [f0 (j - 1) (by omega), ← t]; congr 1; omega
  have gf : ∀ j : Nat, ∀ u : Nat, f j = some u → ∃ k : Nat, P'.oa q k = some u := fun j u e => by
    by_cases a : (j : Int) < P.lz x
    · rw [f0 j a] at e
      by_cases c : (j : Int) < i
      · exact ⟨j, by rw [r.1 j c]; exact e⟩
      · exact ⟨j + 1, by rw [r.2.2 j (by omega) a]; exact e⟩
    · rw [ef] at e
      have e' : (if (j : Int) < P.lz x then P.oa (P.le x) j else if (j : Int) = P.lz x then some y else none) = some u := e
      rw [if_neg a] at e'
      by_cases d : (j : Int) = P.lz x
      · rw [if_pos d] at e'
        exact ⟨i.toNat, by rw [r.2.1]; exact e'⟩
      · rw [if_neg d] at e'; cases e'
  obtain ⟨Q, eQ⟩ : ∃ Q : PO, Q = P'.ro9 q f := ⟨_, rfl⟩
  have qa : Q.oa q = f := by rw [eQ]; exact ro9_at _ _ _
  have qo : ∀ u : Nat, u ≠ q → Q.oa u = P'.oa u := fun u n => by rw [eQ]; exact ro9_of _ _ n
  have q1 : Q.1 = P'.1 := by rw [eQ]; rfl
  have q2 : Q.2.1 = P'.2.1 := by rw [eQ]; rfl
  have q3 : Q.2.2.2 = P'.2.2.2 := by rw [eQ]; rfl
  have wq : GL1 x q L P L' Q := by
    obtain ⟨a, b, c, d, e⟩ := w
    refine ⟨?_, b, c, fun u n m => ?_, e⟩
    · unfold PO.kd PO.le PO.ow at a ⊢
      rw [q2]; exact a
    · obtain ⟨d1, d2, d3, d4, d5⟩ := d u n m
      refine ⟨fun g => by rw [q1]; exact d1 g, fun g => by rw [q2]; exact d2 g, (qo u m).trans d3, ?_, ?_⟩
      · show Q.2.2.2.1 u = _; rw [q3]; exact d4
      · show Q.2.2.2.2 u = _; rw [q3]; exact d5
  have lzq : ∀ u : Nat, Q.lz u = P'.lz u := fun u => by show Q.1 0 u = P'.1 0 u; rw [q1]
  have anq : Q.an q = P'.an q := by show Q.2.1 1 q = P'.2.1 1 q; rw [q2]
  have acq : Q.ac q = P'.ac q := by show Q.2.2.2.2 q = P'.2.2.2.2 q; rw [q3]
  have kdq : ∀ u : Nat, Q.kd u = P'.kd u := fun u => by show Q.2.1 0 u = P'.2.1 0 u; rw [q2]
  have ekq : ∀ u : Nat, Q.ek u = P'.ek u := fun u => by show Q.2.1 8 u = P'.2.1 8 u; rw [q2]
  have elsq : ELS L' Q (Q.oa q) := fun j u e => by
    rw [qa] at e
    obtain ⟨k, t⟩ := gf j u e
    rw [kdq]; exact els k u t
  have aq : ALP L' Q cO cI cZ ed la := h.add wq mx kx fx ek (Or.inl rfl) qx my ky (by rw [lzq]; exact z) zb (by rw [acq]; exact ac) (by rw [anq]; exact an0) (by rw [anq]; exact an1) elsq (by rw [qa]; exact f1) (fun j a => by rw [qa]; exact f0 j a) (fun e => absurd e (by decide)) (fun _ => e1)
  have mq : x ∈ L' := w.1.1
  have kq : Q.kd x = 30 := by rw [kdq]; exact w.1.2.2.1
  have leq : Q.le x = q := by show Q.2.1 1 x = q; rw [q2]; exact le
  have flq : Q.fl x = 1 := by show Q.2.1 7 x = 1; rw [q2]; exact w.1.2.2.2.2.2.2.2.2
  have ekx : Q.ek x = 17 := by
    rw [ekq]
    show P'.2.1 8 x = 17
    rw [w.1.2.2.2.2.2.2.2.1]; exact ek
  have lk := (aq.2.2.2.1 x mq kq)
  have ls : LS1 x Q P' := ⟨q2.symm, q3.symm, fun u _ g => by rw [q1], fun a n => by rw [leq] at n; exact (qo a n).symm⟩
  refine aq.lch ⟨ls, flq, ?_, ⟨by omega, by rw [lzq]; exact Int.le_refl _⟩, fun j j0 j1 => ?_⟩ mq kq ekx
  · rw [leq]; exact els
  · rw [leq]
    rw [z] at j1
    obtain ⟨k, k1, t⟩ := fg j.toNat (by omega)
    have a := lk.1.2.2.2.2 (k : Int) (by omega) (by rw [lzq, z]; omega)
    rw [leq, qa, Int.toNat_natCast] at a
    have b := lk.2.2 ekx (k : Int) (by omega) (by rw [lzq, z]; omega)
    have el : P'.el x j = Q.el x (k : Int) := by
      unfold PO.el
      rw [le, leq, qa, Int.toNat_natCast, t]
    rw [t, el, ekx]
    rw [ekx] at a
    exact ⟨a.1, a.2.1, a.2.2, fun _ => b⟩
end INS9
theorem els_none {f : Nat → Option Nat} (e : f = fun _ => none) (L : List Nat) (P : PO) : ELS L P f := by rw [e]; exact els_empty L P
