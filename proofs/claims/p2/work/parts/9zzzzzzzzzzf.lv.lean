/-! what lives: the table grows until nothing changes -/
section LIV10
variable {P P' P2 : PO} {lv lv' : Int → Int → Int} {la x l y : Nat} {f g : Int → Int} {b n d r j : Int} {fv : Nat → Option Nat} {L : List Nat} {cO cI cZ : ClassId} {ed : Nat}
/-- all the same but the contents of the table of what lives -/
def RIK (P P' : PO) : Prop := P'.1 = P.1 ∧ P'.2.1 = P.2.1 ∧ P'.2.2.1 = P.2.2.1 ∧ P'.2.2.2.2 = P.2.2.2.2 ∧ ∀ z : Nat, P.kd z ≠ 43 → P'.ia z = P.ia z
theorem RIK.refl (P : PO) : RIK P P := ⟨rfl, rfl, rfl, rfl, fun _ _ => rfl⟩
theorem RIK.ri9 (h : P.kd y = 43) : RIK P (P.ri9 y g) := ⟨rfl, rfl, rfl, rfl, fun z k => ri9_of P g (fun e => k (by rw [e]; exact h))⟩
theorem RIK.kd (h : RIK P P') (z : Nat) : P'.kd z = P.kd z := congrArg (fun q : Nat → Nat → Nat => q 0 z) h.2.1
theorem RIK.trans (h : RIK P P') (k : RIK P' P2) : RIK P P2 := ⟨k.1.trans h.1, k.2.1.trans h.2.1, k.2.2.1.trans h.2.2.1, k.2.2.2.1.trans h.2.2.2.1, fun z q => (k.2.2.2.2 z (by rw [h.kd]; exact q)).trans (h.2.2.2.2 z q)⟩
/-- whatever doesn't look at the contents is the same -/
theorem RIK.any (h : RIK P P') (C : PO → Prop) (k : ∀ (a b : Nat → Int → Int) (i : Nat → Nat → Int) (n : Nat → Nat → Nat) (o : Nat → Nat → Option Nat) (c : Nat → ClassId), C (i, n, o, a, c) → C (i, n, o, b, c)) (q : C P') : C P := by
  obtain ⟨i, m, o, a, c⟩ := P
  obtain ⟨i', m', o', a', c'⟩ := P'
  obtain ⟨h1, h2, h3, h4, -⟩ := h
  have h1 : i' = i := h1
  have h2 : m' = m := h2
  have h3 : o' = o := h3
  have h4 : c' = c := h4
  subst h1; subst h2; subst h3; subst h4
  exact k _ _ _ _ _ _ q
theorem RIK.el (h : RIK P P') (l : Nat) (i : Int) : P'.el l i = P.el l i := (h.any (fun Q => ∀ z : Nat, z = Q.el l i → z = P'.el l i) (fun _ _ _ _ _ _ q => q) (fun _ q => q) _ rfl).symm
theorem RIK.pp (h : RIK P P') (z : Nat) : P'.pp z = P.pp z := congrArg (fun q : Nat → Nat → Nat => q 1 z) h.2.1
theorem RIK.pu (h : RIK P P') (z : Nat) : P'.pu z = P.pu z := congrArg (fun q : Nat → Nat → Nat => q 2 z) h.2.1
theorem RIK.pr (h : RIK P P') (z : Nat) : P'.pr z = P.pr z := congrArg (fun q : Nat → Nat → Nat => q 3 z) h.2.1
theorem RIK.pn (h : RIK P P') (z : Nat) : P'.pn z = P.pn z := congrArg (fun q : Nat → Nat → Int => q 1 z) h.1
theorem RIK.lz (h : RIK P P') (z : Nat) : P'.lz z = P.lz z := congrArg (fun q : Nat → Nat → Int => q 0 z) h.1
theorem RIK.plc {p z : Int} (h : RIK P P') (k : P.kd (P.pp x) = 40) : PLCE P' x p z ↔ PLCE P x p z := by
  have e : P'.ia (P.pp x) = P.ia (P.pp x) := h.2.2.2.2 _ (by rw [k]; decide)
  unfold PLCE
  rw [h.pp, h.pn, e]
theorem RIK.pon (h : RIK P P') (pk : ∀ j : Int, 0 ≤ j → j < n → P.kd (P.pp (P.el l j)) = 40 ∧ P.kd (P.pu (P.el l j)) = 41 ∧ P.kd (P.pr (P.el l j)) = 42) : PON P' l b n r ↔ PON P l b n r := by
  unfold PON
  refine exists_congr fun j => exists_congr fun z => ?_
  rw [h.el]
  constructor
  · rintro ⟨a, c, d, e, f⟩
    obtain ⟨k1, k2, k3⟩ := pk j a c
    rw [h.pr, h.2.2.2.2 _ (by rw [k3]; decide)] at e
    rw [h.pu, h.2.2.2.2 _ (by rw [k2]; decide)] at f
    exact ⟨a, c, (h.plc k1).mp d, e, f⟩
  · rintro ⟨a, c, d, e, f⟩
    obtain ⟨k1, k2, k3⟩ := pk j a c
    refine ⟨a, c, (h.plc k1).mpr d, ?_, ?_⟩
    · rw [h.pr, h.2.2.2.2 _ (by rw [k3]; decide)]; exact e
    · rw [h.pu, h.2.2.2.2 _ (by rw [k2]; decide)]; exact f
theorem RIK.beA (h : RIK P P') : BHA P' lv la (P'.el la b) (rWays (P'.ro (P'.be (P'.el la b))) (P'.bf (P'.el la b)) (P'.bs (P'.el la b))) r ↔ BHA P lv la (P.el la b) (rWays (P.ro (P.be (P.el la b))) (P.bf (P.el la b)) (P.bs (P.el la b))) r := by
  refine h.any (fun Q => BHA P' lv la (P'.el la b) (rWays (P'.ro (P'.be (P'.el la b))) (P'.bf (P'.el la b)) (P'.bs (P'.el la b))) r ↔ BHA Q lv la (Q.el la b) (rWays (Q.ro (Q.be (Q.el la b))) (Q.bf (Q.el la b)) (Q.bs (Q.el la b))) r) (fun _ _ _ _ _ _ q => q) Iff.rfl
theorem ALP.phk (a : ALP L P cO cI cZ ed la) (w0 : 0 ≤ d) (w1 : d < P.lz la) : ∀ j : Int, 0 ≤ j → j < P.lz (P.bp (P.el la d)) → P.kd (P.pp (P.el (P.bp (P.el la d)) j)) = 40 ∧ P.kd (P.pu (P.el (P.bp (P.el la d)) j)) = 41 ∧ P.kd (P.pr (P.el (P.bp (P.el la d)) j)) = 42 := fun j j0 j1 => by
  have e := (a.1.blk w0 w1).2.2.1.2.2.2.2 j j0 j1
  have p := a.1.2 _ e.2.1 e.2.2
  exact ⟨p.2.1.2.1, p.2.2.1.2.1, p.2.2.2.1.2.1⟩
theorem RIK.beB (h : RIK P P') (a : ALP L P cO cI cZ ed la) (b0 : 0 ≤ b) (b1 : b < P.lz la) : BHB P' la (P.el la b) b n r ↔ BHB P la (P.el la b) b n r := by
  unfold BHB
  refine exists_congr fun k => ?_
  have ew : WYL P' la (P.el la b) k = WYL P la (P.el la b) k := (h.any (fun Q => ∀ z : Nat, z = WYL Q la (P.el la b) k → z = WYL P' la (P.el la b) k) (fun _ _ _ _ _ _ q => q) (fun _ q => q) _ rfl).symm
  rw [ew, h.lz]
  have bk := (a.1.blk b0 b1).2.2.2.2
  have rw9 := rWay_spec (P.bf (P.el la b)) (P.bs (P.el la b)) k
  have q := h.pon (b := b) (r := r) (a.phk (d := rWay (P.bf (P.el la b)) (P.bs (P.el la b)) k) (by omega) (by omega))
  exact ⟨fun ⟨k0, k1, k2⟩ => ⟨k0, k1, q.mp k2⟩, fun ⟨k0, k1, k2⟩ => ⟨k0, k1, q.mpr k2⟩⟩
theorem RIK.beh (h : RIK P P') (a : ALP L P cO cI cZ ed la) (b0 : 0 ≤ b) (b1 : b < P.lz la) : BEH P' lv la b r ↔ BEH P lv la b r := by
  have ew : rWays (P'.ro (P'.be (P'.el la b))) (P'.bf (P'.el la b)) (P'.bs (P'.el la b)) = rWays (P.ro (P.be (P.el la b))) (P.bf (P.el la b)) (P.bs (P.el la b)) := (h.any (fun Q => ∀ z : Int, z = rWays (Q.ro (Q.be (Q.el la b))) (Q.bf (Q.el la b)) (Q.bs (Q.el la b)) → z = rWays (P'.ro (P'.be (P'.el la b))) (P'.bf (P'.el la b)) (P'.bs (P'.el la b))) (fun _ _ _ _ _ _ q => q) (fun _ q => q) _ rfl).symm
  unfold BEH
  rw [h.beA, ew, h.el, h.beB a b0 b1]
theorem RIK.bhx (h : RIK P P') (a : ALP L P cO cI cZ ed la) (b0 : 0 ≤ b) (b1 : b < P.lz la) (k : BHX P' lv la b f) : BHX P lv la b f := fun r r0 r1 => (k r r0 r1).trans (h.beh a b0 b1)
theorem RIK.bke (h : RIK P P') (k : BKE P' x g f) : BKE P x g f := h.any (fun Q => BKE Q x g f) (fun _ _ _ _ _ _ q => q) k
/-- what lives before the j-th of n rows, S: behind them all -/
def BKS (P : PO) (l : Nat) (n j r : Int) (S : Prop) : Prop := (∃ i : Int, j ≤ i ∧ i < n ∧ RUS P (P.el l i) r ∧ ∀ k : Int, j ≤ k → k < i → ¬ RST P (P.el l k) r) ∨ (S ∧ ∀ k : Int, j ≤ k → k < n → ¬ RST P (P.el l k) r)
theorem BKS.last {S : Prop} : BKS P l n n r S ↔ S := ⟨fun q => q.elim (fun ⟨i, a, c, _⟩ => by omega) (fun q => q.1), fun q => Or.inr ⟨q, fun k a c => by omega⟩⟩
theorem BKS.step {S : Prop} (q : j < n) : BKS P l n j r S ↔ (RUS P (P.el l j) r ∨ (BKS P l n (j + 1) r S ∧ ¬ RST P (P.el l j) r)) := by
  constructor
  · intro h
    rcases h with ⟨i, a, c, d, e⟩ | ⟨s, e⟩
    · by_cases w : i = j
      · rw [w] at d; exact Or.inl d
      · exact Or.inr ⟨Or.inl ⟨i, by omega, c, d, fun k k0 k1 => e k (by omega) k1⟩, e j (Int.le_refl j) (by omega)⟩
    · exact Or.inr ⟨Or.inr ⟨s, fun k k0 k1 => e k (by omega) k1⟩, e j (Int.le_refl j) q⟩
  · intro h
    rcases h with h | ⟨⟨i, a, c, d, e⟩ | ⟨s, e⟩, w⟩
    · exact Or.inl ⟨j, Int.le_refl j, q, h, fun k k0 k1 => by omega⟩
    · refine Or.inl ⟨i, by omega, c, d, fun k k0 k1 => ?_⟩
      by_cases z : k = j
      · rw [z]; exact w
      · exact e k (by omega) k1
    · refine Or.inr ⟨s, fun k k0 k1 => ?_⟩
      by_cases z : k = j
      · rw [z]; exact w
      · exact e k (by omega) k1
theorem BKS.mono {S T : Prop} (i : S → T) (h : BKS P l n j r S) : BKS P l n j r T := h.imp id (fun q => ⟨i q.1, q.2⟩)
/-- what lives at the end of b, before its last row -/
def EDS (P : PO) (lv : Int → Int → Int) (la : Nat) (b r : Int) : Prop := RUS P (P.be (P.el la b)) r ∨ (BEH P lv la b r ∧ ¬ RST P (P.be (P.el la b)) r)
/-- .. at the beginning of b -/
def TFL (P : PO) (lv : Int → Int → Int) (la : Nat) (b r : Int) : Prop := BKS P (P.br (P.el la b)) (P.lz (P.br (P.el la b))) 0 r (EDS P lv la b r)
def MONO (lv lv' : Int → Int → Int) : Prop := ∀ b r : Int, lv b r ≠ 0 → lv' b r ≠ 0
theorem MONO.refl (lv : Int → Int → Int) : MONO lv lv := fun _ _ h => h
theorem MONO.trans {lv2 : Int → Int → Int} (h : MONO lv lv') (k : MONO lv' lv2) : MONO lv lv2 := fun b r q => k b r (h b r q)
theorem MONO.tfl (m : MONO lv lv') (h : TFL P lv la b r) : TFL P lv' la b r := by
  refine BKS.mono (fun e => ?_) h
  rcases e with e | ⟨e, w⟩
  · exact Or.inl e
  · refine Or.inr ⟨?_, w⟩
    rcases e with ⟨k, a, c, d, z⟩ | e
    · exact Or.inl ⟨k, a, c, m _ _ d, z⟩
    · exact Or.inr e
/-- the registers now alive are those before the row j of b -/
def NWJ (P : PO) (lv : Int → Int → Int) (la : Nat) (b j : Int) (f : Int → Int) : Prop := ∀ r : Int, 0 ≤ r → r ≤ 1001 → (f r ≠ 0 ↔ BKS P (P.br (P.el la b)) (P.lz (P.br (P.el la b))) j r (EDS P lv la b r))
theorem NWJ.first (i : BHX P lv la b g) (k : BKE P (P.be (P.el la b)) g f) (e : j = P.lz (P.br (P.el la b))) : NWJ P lv la b j f := fun r r0 r1 => by
  rw [k r r0 r1, e, BKS.last, i r r0 r1]
  exact Iff.rfl
theorem NWJ.next (i : NWJ P lv la b (j + 1) g) (k : BKE P (P.el (P.br (P.el la b)) j) g f) (q : j < P.lz (P.br (P.el la b))) : NWJ P lv la b j f := fun r r0 r1 => by
  rw [k r r0 r1, BKS.step q, i r r0 r1]
theorem NWJ.tfl (i : NWJ P lv la b 0 f) (r0 : 0 ≤ r) (r1 : r ≤ 1001) : f r ≠ 0 ↔ TFL P lv la b r := i r r0 r1
/-- what the table holds is held up by the table -/
def LVI (P : PO) (lv : Int → Int → Int) (la : Nat) (n : Int) : Prop := ∀ b r : Int, 0 ≤ b → b < n → 0 ≤ r → r ≤ 1001 → lv b r ≠ 0 → TFL P lv la b r
/-- the first d places of the first n rows are 0 -/
def LVZ (P : PO) (fv : Nat → Option Nat) (n d : Int) : Prop := ∀ b r : Int, 0 ≤ r → r ≤ 1001 → 0 ≤ b → (b < n ∨ (b = n ∧ r < d)) → LVT P fv b r = 0
theorem LVZ.put {e : Int} (h : LVZ P fv n d) (ey : fv n.toNat = some y) (ed : e = d) (hP : P' = P.ri9 y (zup (P.ia y) e 0)) : LVZ P' fv n (d + 1) := fun b r r0 r1 b0 q => by
  subst ed
  have key : LVT P fv b r = 0 ∨ (b = n ∧ r = e) := by
    rcases q with q | ⟨q, w⟩
    · exact Or.inl (h b r r0 r1 b0 (Or.inl q))
    · by_cases z : r = e
      · exact Or.inr ⟨q, z⟩
      · exact Or.inl (h b r r0 r1 b0 (Or.inr ⟨q, by omega⟩))
  unfold LVT at key ⊢
  rw [hP]
  by_cases w : (fv b.toNat).getD 0 = y
  · rw [w, ri9_at]
    rw [w] at key
    unfold zup
    split
    · rfl
    · rcases key with k | ⟨_, k⟩
      · exact k
      · contradiction
  · rw [ri9_of _ _ w]
    rcases key with k | ⟨k, _⟩
    · exact k
    · exfalso; apply w; rw [k, ey]; rfl
theorem LVZ.row (h : LVZ P fv n d) (q : 1001 < d) : LVZ P fv (n + 1) 0 := fun b r r0 r1 b0 w => by
  rcases w with w | ⟨_, w⟩
  · by_cases z : b = n
    · exact h b r r0 r1 b0 (Or.inr ⟨z, by omega⟩)
    · exact h b r r0 r1 b0 (Or.inl (by omega))
  · omega
theorem LVZ.none (P : PO) (fv : Nat → Option Nat) : LVZ P fv 0 0 := fun b r r0 r1 b0 q => by omega
theorem LVZ.lvi (h : LVZ P fv n d) : LVI P2 (LVT P fv) la n := fun b r b0 b1 r0 r1 q => absurd (h b r r0 r1 b0 (Or.inl b1)) q
theorem MONO.put {e v : Int} (hv : v ≠ 0) (hP : P' = P.ri9 y (zup (P.ia y) e v)) : MONO (LVT P fv) (LVT P' fv) := fun b r q => by
  unfold LVT at q ⊢
  rw [hP]
  by_cases w : (fv b.toNat).getD 0 = y
  · rw [w, ri9_at]
    rw [w] at q
    unfold zup
    split
    · exact hv
    · exact q
  · rw [ri9_of _ _ w]; exact q
/-- a place other than that has not changed -/
theorem LVT.put {e v : Int} (t : TDI fv n) (ey : fv d.toNat = some y) (d0 : 0 ≤ d) (d1 : d < n) (b0 : 0 ≤ b) (b1 : b < n) (all : ∀ i : Int, 0 ≤ i → i < n → ∃ z : Nat, fv i.toNat = some z) (hP : P' = P.ri9 y (zup (P.ia y) e v)) (ne : ¬ (b = d ∧ r = e)) : LVT P' fv b r = LVT P fv b r := by
  obtain ⟨z, ez⟩ := all b b0 b1
  unfold LVT
  rw [hP, ez]
  show (P.ri9 y (zup (P.ia y) e v)).ia z r = P.ia z r
  by_cases w : z = y
  · have bd : b = d := by
      rcases Int.lt_trichotomy b d with q | q | q
      · exact absurd (by rw [ez, ey, w]) (t b d b0 q d1)
      · exact q
      · exact absurd (by rw [ez, ey, w]) (t d b d0 q b1)
    rw [w, ri9_at]
    exact zup_ne _ _ (fun q => ne ⟨bd, q⟩)
  · rw [ri9_of _ _ w]
theorem LVI.put {e v : Int} (h : LVI P2 (LVT P fv) la n) (t : TDI fv n) (ey : fv d.toNat = some y) (d0 : 0 ≤ d) (d1 : d < n) (all : ∀ i : Int, 0 ≤ i → i < n → ∃ z : Nat, fv i.toNat = some z) (hP : P' = P.ri9 y (zup (P.ia y) e v)) (hv : v ≠ 0) (w : TFL P2 lv la d e) (m : MONO lv (LVT P fv)) : LVI P2 (LVT P' fv) la n := fun b r b0 b1 r0 r1 q => by
  have mm : MONO (LVT P fv) (LVT P' fv) := MONO.put hv hP
  by_cases z : b = d ∧ r = e
  · rw [z.1, z.2]; exact (m.trans mm).tfl w
  · rw [LVT.put t ey d0 d1 b0 b1 all hP z] at q
    exact mm.tfl (h b r b0 b1 r0 r1 q)
/-- how many places of the table are 0 -/
def ZN (P : PO) (fv : Nat → Option Nat) (n : Int) : Int := sumI (fun b => un (P.ia ((fv b.toNat).getD 0)) 1002) n.toNat
theorem ZN.nn (P : PO) (fv : Nat → Option Nat) (n : Int) : 0 ≤ ZN P fv n := sumI_nn (fun i _ _ => (un_rng _ 1002).1)
theorem ZN.put {e v : Int} (t : TDI fv n) (ey : fv d.toNat = some y) (d0 : 0 ≤ d) (d1 : d < n) (all : ∀ i : Int, 0 ≤ i → i < n → ∃ z : Nat, fv i.toNat = some z) (hP : P' = P.ri9 y (zup (P.ia y) e v)) (e0 : 0 ≤ e) (e1 : e ≤ 1001) (hz : P.ia y e = 0) (hv : v ≠ 0) : ZN P' fv n = ZN P fv n - 1 := by
  have h := sumI_one (f := fun b => un (P.ia ((fv b.toNat).getD 0)) 1002) (g := fun b => un (P'.ia ((fv b.toNat).getD 0)) 1002) (n := n.toNat) (k := d) (d := -1) d0 (by omega) (by
    show un (P'.ia ((fv d.toNat).getD 0)) 1002 = un (P.ia ((fv d.toNat).getD 0)) 1002 + -1
    rw [ey]
    show un (P'.ia y) 1002 = un (P.ia y) 1002 + -1
    rw [hP, ri9_at, (un_set (P.ia y) (k := e) (v := v) 1002 e0 (by omega)).1 hz hv]
    omega) (fun i i0 i1 ne => by
    obtain ⟨z, ez⟩ := all i i0 (by omega)
    show un (P'.ia ((fv i.toNat).getD 0)) 1002 = un (P.ia ((fv i.toNat).getD 0)) 1002
    rw [ez]
    show un (P'.ia z) 1002 = un (P.ia z) 1002
    have w : z ≠ y := fun w => by
      rcases Int.lt_trichotomy i d with q | q | q
      · exact t i d i0 q d1 (by rw [ez, ey, w])
      · exact ne q
      · exact t d i d0 q (by omega) (by rw [ez, ey, w])
    rw [hP, ri9_of _ _ w])
  unfold ZN
  omega
theorem TBK.all {k : Nat} {c : ClassId} {len lo hi : Int} (h : TBK L P k c fv n len lo hi) : ∀ i : Int, 0 ≤ i → i < n → ∃ z : Nat, fv i.toNat = some z := fun i i0 i1 => by
  obtain ⟨z, e, _⟩ := h i i0 i1
  exact ⟨z, e⟩
/-- from d on the row b is as it was -/
def LKPE (P P' : PO) (fv : Nat → Option Nat) (b d : Int) : Prop := ∀ r : Int, d ≤ r → r ≤ 1001 → LVT P' fv b r = LVT P fv b r
theorem RIK.be (h : RIK P P') (z : Nat) : P'.be z = P.be z := congrArg (fun q : Nat → Nat → Nat => q 3 z) h.2.1
theorem RIK.br (h : RIK P P') (z : Nat) : P'.br z = P.br z := congrArg (fun q : Nat → Nat → Nat => q 2 z) h.2.1
/-- above the block d the table holds all that lives -/
def LUB (P : PO) (lv : Int → Int → Int) (la : Nat) (n d : Int) : Prop := ∀ b r : Int, d < b → b < n → 0 ≤ r → r ≤ 1001 → TFL P lv la b r → lv b r ≠ 0
theorem LUB.none (h : n ≤ d + 1) : LUB P lv la n d := fun b r b0 b1 => by omega
theorem LUB.wk {d2 : Int} (h : LUB P lv la n d) (q : d ≤ d2) : LUB P lv la n d2 := fun b r b0 b1 => h b r (by omega) b1
def LU2 (P P1 P2 : PO) (fv : Nat → Option Nat) (la : Nat) (n b d : Int) : Prop := LUB P (LVT P2 fv) la n b ∧ (∀ b r : Int, LVT P2 fv b r = LVT P1 fv b r) ∧ ∀ r : Int, 0 ≤ r → r < d → TFL P (LVT P2 fv) la b r → LVT P2 fv b r ≠ 0
theorem LU2.first (h : LUB P (LVT P' fv) la n b) : LU2 P P' P' fv la n b 0 := ⟨h, fun _ _ => rfl, fun r a c => by omega⟩
theorem LU2.next (h : LU2 P P' P2 fv la n b d) (k : TFL P (LVT P' fv) la b d → LVT P2 fv b d ≠ 0) : LU2 P P' P2 fv la n b (d + 1) := ⟨h.1, h.2.1, fun r a c q => by
  by_cases e : r = d
  · rw [e] at q ⊢
    have m : MONO (LVT P2 fv) (LVT P' fv) := fun b r w => by rw [← h.2.1 b r]; exact w
    exact k (m.tfl q)
  · exact h.2.2 r a (by omega) q⟩
theorem LU2.row (h : LU2 P P' P2 fv la n b d) (q : 1001 < d) : LUB P (LVT P2 fv) la n (b - 1) := fun c r c0 c1 r0 r1 w => by
  by_cases e : c = b
  · rw [e] at w ⊢; exact h.2.2 r r0 (by omega) w
  · exact h.1 c r (by omega) c1 r0 r1 w
end LIV10
