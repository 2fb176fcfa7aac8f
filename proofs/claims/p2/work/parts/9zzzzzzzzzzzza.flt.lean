/-! lists out of which something goes: told exactly -/
/-- what is left (e', n' long) of a list (e, n long) of which all from j on have been looked at: what is in G went -/
def FLT (G : Nat → Prop) (e : Int → Nat) (n : Int) (e' : Int → Nat) (n' j : Int) : Prop := j ≤ n' ∧ ∃ m : Int → Int, (∀ k : Int, 0 ≤ k → k < j → m k = k) ∧ (∀ k i : Int, 0 ≤ k → k < i → i < n' → m k < m i) ∧ (∀ k : Int, 0 ≤ k → k < n' → 0 ≤ m k ∧ m k < n ∧ e' k = e (m k) ∧ (j ≤ k → ¬ G (e (m k)))) ∧ ∀ i : Int, j ≤ i → i < n → ¬ G (e i) → ∃ k : Int, 0 ≤ k ∧ k < n' ∧ m k = i
section FLT9
variable {G : Nat → Prop} {e e' e2 : Int → Nat} {n n' j n2 : Int}
theorem FLT.first (G : Nat → Prop) (e : Int → Nat) (n : Int) : FLT G e n e n n := ⟨Int.le_refl _, id, fun _ _ _ => rfl, fun _ _ _ h _ => h, fun k k0 k1 => ⟨k0, k1, rfl, fun q => by omega⟩, fun i i0 i1 _ => by omega⟩
theorem FLT.congr (h : FLT G e n e' n' j) (z : n2 = n') (q : ∀ k : Int, 0 ≤ k → k < n' → e2 k = e' k) : FLT G e n e2 n2 j := by
  subst z
  obtain ⟨a, m, m1, m2, m3, m4⟩ := h
  exact ⟨a, m, m1, m2, fun k k0 k1 => ⟨(m3 k k0 k1).1, (m3 k k0 k1).2.1, (q k k0 k1).trans (m3 k k0 k1).2.2.1, (m3 k k0 k1).2.2.2⟩, m4⟩
theorem FLT.at (h : FLT G e n e' n' (j + 1)) (j0 : 0 ≤ j) : e' j = e j ∧ j < n' := by
  obtain ⟨a, m, m1, m2, m3, m4⟩ := h
  have q := (m3 j j0 (by omega)).2.2.1
  rw [m1 j j0 (by omega)] at q
  exact ⟨q, by omega⟩
theorem FLT.keep (h : FLT G e n e' n' (j + 1)) (j0 : 0 ≤ j) (g : ¬ G (e' j)) : FLT G e n e' n' j := by
  have w := h.at j0
  obtain ⟨a, m, m1, m2, m3, m4⟩ := h
  refine ⟨by omega, m, fun k k0 k1 => m1 k k0 (by omega), m2, fun k k0 k1 => ⟨(m3 k k0 k1).1, (m3 k k0 k1).2.1, (m3 k k0 k1).2.2.1, fun q => ?_⟩, fun i i0 i1 ng => ?_⟩
  · by_cases s : k = j
    · rw [s, m1 j j0 (by omega), ← w.1]; exact g
    · exact (m3 k k0 k1).2.2.2 (by omega)
  · by_cases s : i = j
    · exact ⟨j, j0, w.2, by rw [s]; exact m1 j j0 (by omega)⟩
    · exact m4 i (by omega) i1 ng
theorem FLT.remove (h : FLT G e n e' n' (j + 1)) (j0 : 0 ≤ j) (g : G (e' j)) (z : n2 = n' - 1) (q : ∀ k : Int, 0 ≤ k → k + 1 < n' → e2 k = e' (if k < j then k else k + 1)) : FLT G e n e2 n2 j := by
  subst z
  have w := h.at j0
  obtain ⟨a, m, m1, m2, m3, m4⟩ := h
  refine ⟨by omega, fun k => m (if k < j then k else k + 1), fun k k0 k1 => ?_, fun k i k0 ki i1 => ?_, fun k k0 k1 => ?_, fun i i0 i1 ng => ?_⟩
  · show m (if k < j then k else k + 1) = k
    rw [if_pos k1]; exact m1 k k0 (by omega)
  · show m (if k < j then k else k + 1) < m (if i < j then i else i + 1)
    by_cases s : k < j
    · rw [if_pos s]
      by_cases t : i < j
      · rw [if_pos t]; exact m2 k i k0 ki (by omega)
      · rw [if_neg t]; exact m2 k (i + 1) k0 (by omega) (by omega)
    · rw [if_neg s, if_neg (by omega)]; exact m2 (k + 1) (i + 1) (by omega) (by omega) (by omega)
  · show 0 ≤ m (if k < j then k else k + 1) ∧ m (if k < j then k else k + 1) < n ∧ e2 k = e (m (if k < j then k else k + 1)) ∧ (j ≤ k → ¬ G (e (m (if k < j then k else k + 1))))
    rw [q k k0 (by omega)]
    by_cases s : k < j
    · rw [if_pos s]
      have r := m3 k k0 (by omega)
      exact ⟨r.1, r.2.1, r.2.2.1, fun c => by omega⟩
    · rw [if_neg s]
      have r := m3 (k + 1) (by omega) (by omega)
      exact ⟨r.1, r.2.1, r.2.2.1, fun c => r.2.2.2 (by omega)⟩
  · have ne : i ≠ j := fun c => by
      rw [c] at ng
      exact ng (by rw [← w.1]; exact g)
    obtain ⟨k, k0, k1, k2⟩ := m4 i (by omega) i1 ng
    have kj : j < k := by
      rcases Int.lt_or_le j k with c | c
      · exact c
      · have r := m1 k k0 (by omega)
        omega
    refine ⟨k - 1, by omega, by omega, ?_⟩
    show m (if k - 1 < j then k - 1 else k - 1 + 1) = i
    rw [if_neg (by omega), show k - 1 + 1 = k from by omega]; exact k2
end FLT9
/-- only lists have changed, and what they hold -/
def LSQ (P P' : PO) : Prop := P'.2.1 = P.2.1 ∧ P'.2.2.2 = P.2.2.2 ∧ ∀ y : Nat, P.kd y ≠ 30 → ∀ f : Nat, P'.1 f y = P.1 f y
/-- a list is as it was -/
def UNT (P P' : PO) (l : Nat) : Prop := P'.lz l = P.lz l ∧ ∀ k : Int, 0 ≤ k → k < P.lz l → P'.el l k = P.el l k
/-- of a list of PHIs (rows) those that are gone went, from j on -/
def FLP (P Q : PO) (l : Nat) (j : Int) : Prop := FLT (fun z => P.pg z ≠ 0) (P.el l) (P.lz l) (Q.el l) (Q.lz l) j
def FLR (P Q : PO) (l : Nat) (j : Int) : Prop := FLT (fun z => P.rg z ≠ 0) (P.el l) (P.lz l) (Q.el l) (Q.lz l) j
def FBK (P Q : PO) (x : Nat) : Prop := FLP P Q (P.bp x) 0 ∧ FLR P Q (P.br x) 0
/-- i blocks have been swept, X of the next, all others are as they were -/
def SWJ (P Q : PO) (la : Nat) (i : Int) (X : Prop) : Prop := LSQ P Q ∧ UNT P Q la ∧ X ∧ ∀ b : Int, 0 ≤ b → b < P.lz la → (b < i → FBK P Q (P.el la b)) ∧ (i < b → UNT P Q (P.bp (P.el la b)) ∧ UNT P Q (P.br (P.el la b)))
def SWU (P Q : PO) (la : Nat) (i : Int) : Prop := i < P.lz la → UNT P Q (P.bp (P.el la i)) ∧ UNT P Q (P.br (P.el la i))
def SWE (P Q : PO) (la : Nat) : Prop := SWJ P Q la (P.lz la) True
section SWE9
variable {L : List Nat} {P Q Q' : PO} {cO cI cZ : ClassId} {ed x l la : Nat} {X X' : Prop} {i j : Int}
theorem LSQ.refl (P : PO) : LSQ P P := ⟨rfl, rfl, fun _ _ _ => rfl⟩
theorem LSQ.step (h : LSQ P Q) (w : LS1 l Q Q') (k : Q.kd l = 30) : LSQ P Q' := by
  refine ⟨w.1.trans h.1, w.2.1.trans h.2.1, fun y n f => ?_⟩
  have kd : ∀ z : Nat, Q.kd z = P.kd z := fun z => by show Q.2.1 0 z = P.2.1 0 z; rw [h.1]
  exact (w.2.2.1 y (fun q => n (by rw [← kd, q]; exact k)) f).trans (h.2.2 y n f)
theorem UNT.refl (P : PO) (l : Nat) : UNT P P l := ⟨rfl, fun _ _ _ => rfl⟩
theorem UNT.trans (h : UNT P Q l) (k : UNT Q Q' l) : UNT P Q' l := ⟨k.1.trans h.1, fun i i0 i1 => (k.2 i i0 (by rw [h.1]; exact i1)).trans (h.2 i i0 i1)⟩
theorem UNT.flp (h : UNT P Q l) : FLP P Q l (P.lz l) := (FLT.first _ _ _).congr h.1 h.2
theorem UNT.flr (h : UNT P Q l) : FLR P Q l (P.lz l) := (FLT.first _ _ _).congr h.1 h.2
theorem FLP.away (h : FLP P Q l j) (k : UNT Q Q' l) : FLP P Q' l j := FLT.congr h k.1 k.2
theorem FLR.away (h : FLR P Q l j) (k : UNT Q Q' l) : FLR P Q' l j := FLT.congr h k.1 k.2
/-- another list stays -/
theorem ALP.unt {m : Nat} (a : ALP L Q cO cI cZ ed la) (w : LS1 l Q Q') (ml : l ∈ L) (kl : Q.kd l = 30) (fl : Q.fl l = 1) (mm : m ∈ L) (km : Q.kd m = 30) (n : m ≠ l) : UNT Q Q' m := ⟨w.2.2.1 m n 0, fun k k0 k1 => a.owa.els w ml kl fl mm km n k0 k1⟩
theorem LSQ.bp (h : LSQ P Q) (x : Nat) : Q.bp x = P.bp x := by unfold PO.bp; rw [h.1]
theorem LSQ.br (h : LSQ P Q) (x : Nat) : Q.br x = P.br x := by unfold PO.br; rw [h.1]
theorem LSQ.be (h : LSQ P Q) (x : Nat) : Q.be x = P.be x := by unfold PO.be; rw [h.1]
theorem LSQ.kd (h : LSQ P Q) (x : Nat) : Q.kd x = P.kd x := by unfold PO.kd; rw [h.1]
theorem SWJ.first (P : PO) (la : Nat) : SWJ P P la 0 (SWU P P la 0) := ⟨LSQ.refl _, UNT.refl _ _, fun _ => ⟨UNT.refl _ _, UNT.refl _ _⟩, fun b b0 b1 => ⟨fun q => by omega, fun _ => ⟨UNT.refl _ _, UNT.refl _ _⟩⟩⟩
theorem SWJ.wk (h : SWJ P Q la i X) (f : X → X') : SWJ P Q la i X' := ⟨h.1, h.2.1, f h.2.2.1, h.2.2.2⟩
theorem SWJ.next (h : SWJ P Q la i (FBK P Q (P.el la i))) (i0 : 0 ≤ i) : SWJ P Q la (i + 1) (SWU P Q la (i + 1)) := ⟨h.1, h.2.1, fun q => (h.2.2.2 (i + 1) (by omega) q).2 (by omega), fun b b0 b1 => ⟨fun q => by
  by_cases c : b = i
  · rw [c]; exact h.2.2.1
  · exact (h.2.2.2 b b0 b1).1 (by omega), fun q => (h.2.2.2 b b0 b1).2 (by omega)⟩⟩
/-- blocks are where they were -/
theorem SWJ.blk (h : SWJ P Q la i X) {b : Int} (b0 : 0 ≤ b) (b1 : b < P.lz la) : Q.el la b = P.el la b ∧ b < Q.lz la := ⟨h.2.1.2 b b0 b1, by rw [h.2.1.1]; exact b1⟩
theorem SWJ.nmp {X' : Prop} {i' : Int} (h : SWJ P Q la i X) (h' : SWJ P Q' la i' X') (i0 : 0 ≤ i) (i1 : i < P.lz la) (ex : x = Q.el la i) (e : Q'.bp x = l) : P.bp (P.el la i) = l := by rw [← e, h'.1.bp, ex, (h.blk i0 i1).1]
theorem SWJ.nmr {X' : Prop} {i' : Int} (h : SWJ P Q la i X) (h' : SWJ P Q' la i' X') (i0 : 0 ≤ i) (i1 : i < P.lz la) (ex : x = Q.el la i) (e : Q'.br x = l) : P.br (P.el la i) = l := by rw [← e, h'.1.br, ex, (h.blk i0 i1).1]
theorem SWJ.jp {k : Int} (h : SWJ P Q la i (FLP P Q (P.bp (P.el la i)) j ∧ X)) (e : j = k) : SWJ P Q la i (FLP P Q (P.bp (P.el la i)) k ∧ X) := by rw [← e]; exact h
theorem SWJ.jr {k : Int} (h : SWJ P Q la i (X ∧ FLR P Q (P.br (P.el la i)) j)) (e : j = k) : SWJ P Q la i (X ∧ FLR P Q (P.br (P.el la i)) k) := by rw [← e]; exact h
/-- the lists of blocks are apart -/
theorem SWJ.apart (h : SWJ P Q la i X) (a : ALP L Q cO cI cZ ed la) (i0 : 0 ≤ i) (i1 : i < P.lz la) (el : l = P.bp (P.el la i) ∨ l = P.br (P.el la i)) : (l ∈ L ∧ Q.kd l = 30 ∧ Q.ow l = P.el la i ∧ (Q.ek l = 15 ∨ Q.ek l = 17)) ∧ la ≠ l ∧ ∀ b : Int, 0 ≤ b → b < P.lz la → b ≠ i → (P.bp (P.el la b) ≠ l ∧ P.bp (P.el la b) ∈ L ∧ Q.kd (P.bp (P.el la b)) = 30) ∧ P.br (P.el la b) ≠ l ∧ P.br (P.el la b) ∈ L ∧ Q.kd (P.br (P.el la b)) = 30 := by
  have bk : ∀ b : Int, 0 ≤ b → b < P.lz la → (Q.ek (P.br (P.el la b)) = 17 ∧ Q.ow (P.br (P.el la b)) = P.el la b ∧ P.br (P.el la b) ∈ L ∧ Q.kd (P.br (P.el la b)) = 30) ∧ Q.ek (P.bp (P.el la b)) = 15 ∧ Q.ow (P.bp (P.el la b)) = P.el la b ∧ P.bp (P.el la b) ∈ L ∧ Q.kd (P.bp (P.el la b)) = 30 := fun b b0 b1 => by
    have w := h.blk b0 b1
    have r := (a.inb ⟨b, b0, w.2, rfl⟩).1
    have o := a.2.1.2.2.1 _ r.1 r.2
    rw [w.1, h.1.br, h.1.bp] at o
    exact o
  have me : l ∈ L ∧ Q.kd l = 30 ∧ Q.ow l = P.el la i ∧ (Q.ek l = 15 ∨ Q.ek l = 17) := by
    have o := bk i i0 i1
    rcases el with e | e
    · rw [e]; exact ⟨o.2.2.2.1, o.2.2.2.2, o.2.2.1, Or.inl o.2.1⟩
    · rw [e]; exact ⟨o.1.2.2.1, o.1.2.2.2, o.1.2.1, Or.inr o.1.1⟩
  refine ⟨me, fun e => ?_, fun b b0 b1 ne => ?_⟩
  · have q := me.2.2.2
    rw [← e, a.2.1.2.1] at q
    omega
  · have o := bk b b0 b1
    have dn : P.el la b ≠ P.el la i := fun e => by
      have w := h.blk b0 b1
      have v := h.blk i0 i1
      rcases Int.lt_or_le b i with c | c
      · exact a.2.1.2.2.2 b i b0 c v.2 (by rw [w.1, v.1]; exact e)
      · exact a.2.1.2.2.2 i b i0 (by omega) w.2 (by rw [w.1, v.1]; exact e.symm)
    exact ⟨⟨fun e => dn (by rw [← o.2.2.1, e, me.2.2.1]), o.2.2.2.1, o.2.2.2.2⟩, fun e => dn (by rw [← o.1.2.1, e, me.2.2.1]), o.1.2.2.1, o.1.2.2.2⟩
/-- one list of the block in hand has changed -/
theorem SWJ.step (h : SWJ P Q la i X) (a : ALP L Q cO cI cZ ed la) (i0 : 0 ≤ i) (i1 : i < P.lz la) (el : l = P.bp (P.el la i) ∨ l = P.br (P.el la i)) (w : LS1 l Q Q') (fl : Q.fl l = 1) (f : X') : SWJ P Q' la i X' := by
  obtain ⟨me, nl, ot⟩ := h.apart a i0 i1 el
  refine ⟨h.1.step w me.2.1, h.2.1.trans (a.unt w me.1 me.2.1 fl a.lok.1 a.lok.2.1 nl), f, fun b b0 b1 => ?_⟩
  have u := h.2.2.2 b b0 b1
  by_cases c : b = i
  · exact ⟨fun q => by omega, fun q => by omega⟩
  · have o := ot b b0 b1 c
    have t1 := a.unt w me.1 me.2.1 fl o.1.2.1 o.1.2.2 o.1.1
    have t2 := a.unt w me.1 me.2.1 fl o.2.2.1 o.2.2.2 o.2.1
    exact ⟨fun q => ⟨(u.1 q).1.away t1, (u.1 q).2.away t2⟩, fun q => ⟨(u.2 q).1.trans t1, (u.2 q).2.trans t2⟩⟩
theorem rmv_el9 (w : LS1 l Q Q') (r : RMV (Q.oa (Q.le l)) (Q'.oa (Q.le l)) j (Q.lz l)) : ∀ k : Int, 0 ≤ k → k + 1 < Q.lz l → Q'.el l k = Q.el l (if k < j then k else k + 1) := fun k k0 k1 => by
  have le : Q'.le l = Q.le l := by show Q'.2.1 1 l = Q.2.1 1 l; rw [w.1]
  unfold PO.el
  rw [le, rmv_el w r k0 k1]
theorem SWJ.enterp (h : SWJ P Q la i (SWU P Q la i)) (i1 : i < P.lz la) (e : P.bp (P.el la i) = l) (z : j + 1 = Q.lz l) : SWJ P Q la i (FLP P Q (P.bp (P.el la i)) (j + 1) ∧ UNT P Q (P.br (P.el la i))) := h.wk (fun q => by
  have u := q i1
  refine ⟨?_, u.2⟩
  have v := u.1.flp
  rw [← u.1.1, e, ← z] at v
  rw [e]; exact v)
theorem SWJ.enterr (h : SWJ P Q la i (FLP P Q (P.bp (P.el la i)) 0 ∧ UNT P Q (P.br (P.el la i)))) (e : P.br (P.el la i) = l) (z : j + 1 = Q.lz l) : SWJ P Q la i (FLP P Q (P.bp (P.el la i)) 0 ∧ FLR P Q (P.br (P.el la i)) (j + 1)) := h.wk (fun q => by
  refine ⟨q.1, ?_⟩
  have v := q.2.flr
  rw [← q.2.1, e, ← z] at v
  rw [e]; exact v)
theorem LSQ.num (h : LSQ P Q) {z : Nat} (k : Q.kd z ≠ 30) (f : Nat) : Q.1 f z = P.1 f z := h.2.2 z (by rw [← h.kd]; exact k) f
theorem SWJ.remp (h : SWJ P Q la i (FLP P Q (P.bp (P.el la i)) (j + 1) ∧ UNT P Q (P.br (P.el la i)))) (a : ALP L Q cO cI cZ ed la) (i0 : 0 ≤ i) (i1 : i < P.lz la) (j0 : 0 ≤ j) (e : P.bp (P.el la i) = l) (w : LS1 l Q Q') (fl : Q.fl l = 1) (z : Q'.lz l = Q.lz l - 1) (r : RMV (Q.oa (Q.le l)) (Q'.oa (Q.le l)) j (Q.lz l)) (g : Q.pg (Q.el l j) ≠ 0) (k : Q.kd (Q.el l j) ≠ 30) : SWJ P Q' la i (FLP P Q' (P.bp (P.el la i)) j ∧ UNT P Q' (P.br (P.el la i))) := by
  obtain ⟨me, nl, ot⟩ := h.apart a i0 i1 (Or.inl e.symm)
  have ne : P.br (P.el la i) ≠ l := fun q => by
    have v := h.blk i0 i1
    have r := (a.inb ⟨i, i0, v.2, rfl⟩).1
    have o := a.2.1.2.2.1 _ r.1 r.2
    rw [v.1, h.1.br, h.1.bp, q, e] at o
    omega
  refine h.step a i0 i1 (Or.inl e.symm) w fl ⟨?_, ?_⟩
  · have f := h.2.2.1.1
    rw [e] at f ⊢
    exact FLT.remove f j0 (by show P.pg _ ≠ 0; have t : Q.pg (Q.el l j) = P.pg (Q.el l j) := h.1.num k 2; rw [← t]; exact g) z (rmv_el9 w r)
  · have v := h.blk i0 i1
    have r := (a.inb ⟨i, i0, v.2, rfl⟩).1
    have o := a.2.1.2.2.1 _ r.1 r.2
    rw [v.1, h.1.br] at o
    exact h.2.2.1.2.trans (a.unt w me.1 me.2.1 fl o.1.2.2.1 o.1.2.2.2 ne)
theorem SWJ.keepp (h : SWJ P Q la i (FLP P Q (P.bp (P.el la i)) (j + 1) ∧ UNT P Q (P.br (P.el la i)))) (j0 : 0 ≤ j) (e : P.bp (P.el la i) = l) (g : Q.pg (Q.el l j) = 0) (k : Q.kd (Q.el l j) ≠ 30) : SWJ P Q la i (FLP P Q (P.bp (P.el la i)) j ∧ UNT P Q (P.br (P.el la i))) := h.wk (fun q => ⟨by
  have f := q.1
  rw [e] at f ⊢
  exact FLT.keep f j0 (fun c => c (by have t : Q.pg (Q.el l j) = P.pg (Q.el l j) := h.1.num k 2; rw [← t]; exact g)), q.2⟩)
theorem SWJ.remr (h : SWJ P Q la i (FLP P Q (P.bp (P.el la i)) 0 ∧ FLR P Q (P.br (P.el la i)) (j + 1))) (a : ALP L Q cO cI cZ ed la) (i0 : 0 ≤ i) (i1 : i < P.lz la) (j0 : 0 ≤ j) (e : P.br (P.el la i) = l) (w : LS1 l Q Q') (fl : Q.fl l = 1) (z : Q'.lz l = Q.lz l - 1) (r : RMV (Q.oa (Q.le l)) (Q'.oa (Q.le l)) j (Q.lz l)) (g : Q.rg (Q.el l j) ≠ 0) (k : Q.kd (Q.el l j) ≠ 30) : SWJ P Q' la i (FLP P Q' (P.bp (P.el la i)) 0 ∧ FLR P Q' (P.br (P.el la i)) j) := by
  obtain ⟨me, nl, ot⟩ := h.apart a i0 i1 (Or.inr e.symm)
  have ne : P.bp (P.el la i) ≠ l := fun q => by
    have v := h.blk i0 i1
    have r := (a.inb ⟨i, i0, v.2, rfl⟩).1
    have o := a.2.1.2.2.1 _ r.1 r.2
    rw [v.1, h.1.br, h.1.bp, q, e] at o
    omega
  refine h.step a i0 i1 (Or.inr e.symm) w fl ⟨?_, ?_⟩
  · have v := h.blk i0 i1
    have r := (a.inb ⟨i, i0, v.2, rfl⟩).1
    have o := a.2.1.2.2.1 _ r.1 r.2
    rw [v.1, h.1.bp] at o
    exact h.2.2.1.1.away (a.unt w me.1 me.2.1 fl o.2.2.2.1 o.2.2.2.2 ne)
  · have f := h.2.2.1.2
    rw [e] at f ⊢
    exact FLT.remove f j0 (by show P.rg _ ≠ 0; have t : Q.rg (Q.el l j) = P.rg (Q.el l j) := h.1.num k 6; rw [← t]; exact g) z (rmv_el9 w r)
theorem SWJ.keepr (h : SWJ P Q la i (FLP P Q (P.bp (P.el la i)) 0 ∧ FLR P Q (P.br (P.el la i)) (j + 1))) (j0 : 0 ≤ j) (e : P.br (P.el la i) = l) (g : Q.rg (Q.el l j) = 0) (k : Q.kd (Q.el l j) ≠ 30) : SWJ P Q la i (FLP P Q (P.bp (P.el la i)) 0 ∧ FLR P Q (P.br (P.el la i)) j) := h.wk (fun q => ⟨q.1, by
  have f := q.2
  rw [e] at f ⊢
  exact FLT.keep f j0 (fun c => c (by have t : Q.rg (Q.el l j) = P.rg (Q.el l j) := h.1.num k 6; rw [← t]; exact g))⟩)
theorem SWJ.done (h : SWJ P Q la i (SWU P Q la i)) (e : P.lz la = i) : SWE P Q la := by
  unfold SWE
  rw [e]
  exact h.wk (fun _ => trivial)
end SWE9
