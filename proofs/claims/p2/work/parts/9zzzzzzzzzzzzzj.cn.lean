/-! what a row makes of two numbers, as a function -/
def RV9 (o : Int) (p q : Int32) : Int32 := if o = 1 then p + q else if o = 2 then p - q else if o = 3 then p * q else if o = 4 then p / q else if o = 5 then p - p / q * q else if o = 6 then p &&& q else if o = 7 then p ||| q else if o = 8 then p ^^^ q else if o = 9 then p <<< ((q &&& 31) &&& 31) else if o = 10 then p >>> ((q &&& 31) &&& 31) else if o = 11 then (if q ≤ p then 0 else 1) else if o = 12 then (if q < p then 0 else 1) else if o = 13 then (if p = q then 1 else 0) else (if p = q then 0 else 1)
def RL9 (o : Int) (p q : Int32) : Int64 := if (o = 4 ∨ o = 5) ∧ q = 0 then lI 4294967296 else lI (RV9 o p q).toInt &&& lI 4294967295
section RL99
variable {o : Int} {p q x y : Int32} {r : Int64}
theorem RL9.o1 (e : o = 1) (h : x = p + q) (h2 : r = lI x.toInt &&& lI 4294967295) : r = RL9 o p q := by subst e; rw [h2, h]; simp [RL9, RV9]
theorem RL9.o2 (e : o = 2) (h : x = p - q) (h2 : r = lI x.toInt &&& lI 4294967295) : r = RL9 o p q := by subst e; rw [h2, h]; simp [RL9, RV9]
theorem RL9.o3 (e : o = 3) (h : x = p * q) (h2 : r = lI x.toInt &&& lI 4294967295) : r = RL9 o p q := by subst e; rw [h2, h]; simp [RL9, RV9]
theorem RL9.o6 (e : o = 6) (h : x = p &&& q) (h2 : r = lI x.toInt &&& lI 4294967295) : r = RL9 o p q := by subst e; rw [h2, h]; simp [RL9, RV9]
theorem RL9.o7 (e : o = 7) (h : x = p ||| q) (h2 : r = lI x.toInt &&& lI 4294967295) : r = RL9 o p q := by subst e; rw [h2, h]; simp [RL9, RV9]
theorem RL9.o8 (e : o = 8) (h : x = p ^^^ q) (h2 : r = lI x.toInt &&& lI 4294967295) : r = RL9 o p q := by subst e; rw [h2, h]; simp [RL9, RV9]
theorem RL9.o4 (e : o = 4) (b : ¬ q = 0) (h : x = p / q) (h2 : r = lI x.toInt &&& lI 4294967295) : r = RL9 o p q := by subst e; rw [h2, h]; simp [RL9, RV9, b]
theorem RL9.z4 (e : o = 4) (b : q = 0) : lI 4294967296 = RL9 o p q := by subst e; simp [RL9, b]
theorem RL9.o5 (e : o = 5) (b : ¬ q = 0) (h : x = p - p / q * q) (h2 : r = lI x.toInt &&& lI 4294967295) : r = RL9 o p q := by subst e; rw [h2, h]; simp [RL9, RV9, b]
theorem RL9.z5 (e : o = 5) (b : q = 0) : lI 4294967296 = RL9 o p q := by subst e; simp [RL9, b]
theorem RL9.o9 (e : o = 9) (g : y = q &&& 31) (h : x = p <<< (y &&& 31)) (h2 : r = lI x.toInt &&& lI 4294967295) : r = RL9 o p q := by subst e; subst g; rw [h2, h]; rfl
theorem RL9.o10 (e : o = 10) (g : y = q &&& 31) (h : x = p >>> (y &&& 31)) (h2 : r = lI x.toInt &&& lI 4294967295) : r = RL9 o p q := by subst e; subst g; rw [h2, h]; rfl
theorem RL9.a11 (e : o = 11) (b : q ≤ p) (h2 : r = lI 0 &&& lI 4294967295) : r = RL9 o p q := by subst e; rw [h2]; unfold RL9 RV9; simp only [b]; rfl
theorem RL9.b11 (e : o = 11) (b : ¬ q ≤ p) (h2 : r = lI 1 &&& lI 4294967295) : r = RL9 o p q := by subst e; rw [h2]; unfold RL9 RV9; simp only [b]; rfl
theorem RL9.a12 (e : o = 12) (b : q < p) (h2 : r = lI 0 &&& lI 4294967295) : r = RL9 o p q := by subst e; rw [h2]; unfold RL9 RV9; simp only [b]; rfl
theorem RL9.b12 (e : o = 12) (b : ¬ q < p) (h2 : r = lI 1 &&& lI 4294967295) : r = RL9 o p q := by subst e; rw [h2]; unfold RL9 RV9; simp only [b]; rfl
theorem RL9.a13 (e : o = 13) (b : ¬ p = q) (h2 : r = lI 0 &&& lI 4294967295) : r = RL9 o p q := by subst e; rw [h2]; unfold RL9 RV9; simp only [b]; rfl
theorem RL9.b13 (e : o = 13) (b : p = q) (h2 : r = lI 1 &&& lI 4294967295) : r = RL9 o p q := by subst e; rw [h2]; unfold RL9 RV9; simp only [b]; rfl
theorem RL9.d (n1 : ¬ o = 1) (n2 : ¬ o = 2) (n3 : ¬ o = 3) (n4 : ¬ o = 4) (n5 : ¬ o = 5) (n6 : ¬ o = 6) (n7 : ¬ o = 7) (n8 : ¬ o = 8) (n9 : ¬ o = 9) (n10 : ¬ o = 10) (n11 : ¬ o = 11) (n12 : ¬ o = 12) (n13 : ¬ o = 13) : RL9 o p q = lI (if p = q then (0 : Int32) else 1).toInt &&& lI 4294967295 := by unfold RL9 RV9; rw [if_neg (fun t => by rcases t.1 with t | t; exact n4 t; exact n5 t), if_neg n1, if_neg n2, if_neg n3, if_neg n4, if_neg n5, if_neg n6, if_neg n7, if_neg n8, if_neg n9, if_neg n10, if_neg n11, if_neg n12, if_neg n13]
theorem RL9.a14 (n1 : ¬ o = 1) (n2 : ¬ o = 2) (n3 : ¬ o = 3) (n4 : ¬ o = 4) (n5 : ¬ o = 5) (n6 : ¬ o = 6) (n7 : ¬ o = 7) (n8 : ¬ o = 8) (n9 : ¬ o = 9) (n10 : ¬ o = 10) (n11 : ¬ o = 11) (n12 : ¬ o = 12) (n13 : ¬ o = 13) (b : p = q) (h2 : r = lI 0 &&& lI 4294967295) : r = RL9 o p q := by rw [RL9.d n1 n2 n3 n4 n5 n6 n7 n8 n9 n10 n11 n12 n13, h2, if_pos b]; rfl
theorem RL9.b14 (n1 : ¬ o = 1) (n2 : ¬ o = 2) (n3 : ¬ o = 3) (n4 : ¬ o = 4) (n5 : ¬ o = 5) (n6 : ¬ o = 6) (n7 : ¬ o = 7) (n8 : ¬ o = 8) (n9 : ¬ o = 9) (n10 : ¬ o = 10) (n11 : ¬ o = 11) (n12 : ¬ o = 12) (n13 : ¬ o = 13) (b : ¬ p = q) (h2 : r = lI 1 &&& lI 4294967295) : r = RL9 o p q := by rw [RL9.d n1 n2 n3 n4 n5 n6 n7 n8 n9 n10 n11 n12 n13, h2, if_neg b]; rfl
end RL99
/-! what is known of an operand -/
def SOF (st : Int → Int) (g v : Int) : Int := if g = 0 then 1 else st v
def NOF (nm : Int → Int) (g v : Int) : Int := if g = 0 then v else nm v
theorem SOF_rng {st : Int → Int} {g v : Int} (h : ∀ j : Int, 0 ≤ st j ∧ st j ≤ 2) : 0 ≤ SOF st g v ∧ SOF st g v ≤ 2 := by
  unfold SOF
  split
  · exact ⟨by decide, by decide⟩
  · exact h v
theorem NOF_rng {nm : Int → Int} {g v : Int} (h : ∀ j : Int, -2147483648 ≤ nm j ∧ nm j ≤ 2147483647) (hv : -2147483648 ≤ v ∧ v ≤ 2147483647) : -2147483648 ≤ NOF nm g v ∧ NOF nm g v ≤ 2147483647 := by
  unfold NOF
  split
  · exact hv
  · exact h v
/-- set: state and number of a register -/
def SET9 (st nm st' nm' : Int → Int) (ch ch' r s v : Int) : Prop := ((st r = s ∧ (s ≠ 1 ∨ nm r = v)) ∧ st' = st ∧ nm' = nm ∧ ch' = ch) ∨ (¬ (st r = s ∧ (s ≠ 1 ∨ nm r = v)) ∧ st' = zup st r s ∧ nm' = zup nm r v ∧ ch' = 1)
theorem SET9.same {st nm : Int → Int} {ch ch' r s v : Int} (a : st r = s) (b : s ≠ 1 ∨ nm r = v) (c : ch' = ch) : SET9 st nm st nm ch ch' r s v := Or.inl ⟨⟨a, b⟩, rfl, rfl, c⟩
theorem SET9.new {st nm st' nm' : Int → Int} {ch ch' r s v : Int} (a : ¬ (st r = s ∧ (s ≠ 1 ∨ nm r = v))) (e1 : st' = zup st r s) (e2 : nm' = zup nm r v) (c : ch' = 1) : SET9 st nm st' nm' ch ch' r s v := Or.inr ⟨a, e1, e2, c⟩
/-- what look finds: nothing (0), or state s and number v for register t -/
def STP (st nm st' nm' : Int → Int) (ch ch' t s v : Int) : Prop := (s = 0 ∧ st' = st ∧ nm' = nm ∧ ch' = ch) ∨ (s ≠ 0 ∧ SET9 st nm st' nm' ch ch' t s v)
theorem STP.none {st nm : Int → Int} {ch ch' t s v : Int} (a : s = 0) (c : ch' = ch) : STP st nm st nm ch ch' t s v := Or.inl ⟨a, rfl, rfl, c⟩
theorem STP.of {st nm st' nm' : Int → Int} {ch ch' t s v s' v' : Int} (h : SET9 st nm st' nm' ch ch' t s' v') (a : s = s') (b : v = v') (c : s' ≠ 0) : STP st nm st' nm' ch ch' t s v := by rw [a, b]; exact Or.inr ⟨c, h⟩
def LKV (o x y : Int) : Int64 := if o = 0 then lI x &&& lI 4294967295 else RL9 o (zI x) (zI y)
def FRS9 (o sa sb x y : Int) : Int := if o = 20 then 2 else if sa = 0 ∨ sb = 0 then 0 else if sa = 2 ∨ sb = 2 then 2 else if lg_cmp (LKV o x y) (lI 4294967296) = 0 then 2 else 1
def FRN9 (o sa sb x y : Int) : Int := if o = 20 then 0 else if sa = 0 ∨ sb = 0 then 0 else if sa = 2 ∨ sb = 2 then 0 else if lg_cmp (LKV o x y) (lI 4294967296) = 0 then 0 else (LKV o x y).toInt32.toInt
def RFS (P : PO) (st nm : Int → Int) (x : Nat) : Int := FRS9 (P.ro x) (SOF st (P.rA x) (P.ra x)) (if P.ro x = 0 then 1 else SOF st (P.rB x) (P.rb x)) (NOF nm (P.rA x) (P.ra x)) (if P.ro x = 0 then 0 else NOF nm (P.rB x) (P.rb x))
def RFN (P : PO) (st nm : Int → Int) (x : Nat) : Int := FRN9 (P.ro x) (SOF st (P.rA x) (P.ra x)) (if P.ro x = 0 then 1 else SOF st (P.rB x) (P.rb x)) (NOF nm (P.rA x) (P.ra x)) (if P.ro x = 0 then 0 else NOF nm (P.rB x) (P.rb x))
/-- look(Row) -/
def LKW (P : PO) (x : Nat) (st nm st' nm' : Int → Int) (ch ch' : Int) : Prop := (rSets (P.ro x) = 0 ∧ st' = st ∧ nm' = nm ∧ ch' = ch) ∨ (rSets (P.ro x) ≠ 0 ∧ STP st nm st' nm' ch ch' (P.rt x) (RFS P st nm x) (RFN P st nm x))
section LKW9
variable {P : PO} {x : Nat} {st nm st' nm' : Int → Int} {ch ch' : Int} {v : Int64} {n : Int}
theorem LKW.no (a : rSets (P.ro x) = 0) (c : ch' = ch) : LKW P x st nm st nm ch ch' := Or.inl ⟨a, rfl, rfl, c⟩
theorem LKW.in (a : rSets (P.ro x) ≠ 0) (o : P.ro x = 20) (h : SET9 st nm st' nm' ch ch' (P.rt x) 2 0) : LKW P x st nm st' nm' ch ch' := Or.inr ⟨a, STP.of h (by unfold RFS FRS9; rw [if_pos o]) (by unfold RFN FRN9; rw [if_pos o]) (by decide)⟩
theorem LKW.un (a : rSets (P.ro x) ≠ 0) (o : P.ro x ≠ 20) (u : SOF st (P.rA x) (P.ra x) = 0 ∨ (P.ro x ≠ 0 ∧ SOF st (P.rB x) (P.rb x) = 0)) (c : ch' = ch) : LKW P x st nm st nm ch ch' := Or.inr ⟨a, STP.none (by
  unfold RFS FRS9
  rw [if_neg o, if_pos]
  rcases u with u | u
  · exact Or.inl u
  · exact Or.inr (by rw [if_neg u.1]; exact u.2)) c⟩
theorem LKW.any (a : rSets (P.ro x) ≠ 0) (o : P.ro x ≠ 20) (u : SOF st (P.rA x) (P.ra x) ≠ 0) (w : P.ro x ≠ 0 → SOF st (P.rB x) (P.rb x) ≠ 0) (y : SOF st (P.rA x) (P.ra x) = 2 ∨ (P.ro x ≠ 0 ∧ SOF st (P.rB x) (P.rb x) = 2)) (h : SET9 st nm st' nm' ch ch' (P.rt x) 2 0) : LKW P x st nm st' nm' ch ch' := by
  have c1 : ¬ (SOF st (P.rA x) (P.ra x) = 0 ∨ (if P.ro x = 0 then 1 else SOF st (P.rB x) (P.rb x)) = 0) := fun q => by
    rcases q with q | q
    · exact u q
    · by_cases z : P.ro x = 0
      · rw [if_pos z] at q; omega
      · rw [if_neg z] at q; exact w z q
  have c2 : SOF st (P.rA x) (P.ra x) = 2 ∨ (if P.ro x = 0 then 1 else SOF st (P.rB x) (P.rb x)) = 2 := y.imp id (fun q => by rw [if_neg q.1]; exact q.2)
  exact Or.inr ⟨a, STP.of h (by unfold RFS FRS9; rw [if_neg o, if_neg c1, if_pos c2]) (by unfold RFN FRN9; rw [if_neg o, if_neg c1, if_pos c2]) (by decide)⟩
theorem LKW.c1 (u : SOF st (P.rA x) (P.ra x) = 1) (w : P.ro x ≠ 0 → SOF st (P.rB x) (P.rb x) = 1) : ¬ (SOF st (P.rA x) (P.ra x) = 0 ∨ (if P.ro x = 0 then 1 else SOF st (P.rB x) (P.rb x)) = 0) ∧ ¬ (SOF st (P.rA x) (P.ra x) = 2 ∨ (if P.ro x = 0 then 1 else SOF st (P.rB x) (P.rb x)) = 2) := by
  have c : (if P.ro x = 0 then 1 else SOF st (P.rB x) (P.rb x)) = 1 := by
    by_cases z : P.ro x = 0
    · rw [if_pos z]
    · rw [if_neg z]; exact w z
  exact ⟨by omega, by omega⟩
theorem LKW.stop (a : rSets (P.ro x) ≠ 0) (o : P.ro x ≠ 20) (u : SOF st (P.rA x) (P.ra x) = 1) (w : P.ro x ≠ 0 → SOF st (P.rB x) (P.rb x) = 1) (e : v = LKV (P.ro x) (NOF nm (P.rA x) (P.ra x)) (if P.ro x = 0 then 0 else NOF nm (P.rB x) (P.rb x))) (y : lg_cmp v (lI 4294967296) = 0) (h : SET9 st nm st' nm' ch ch' (P.rt x) 2 0) : LKW P x st nm st' nm' ch ch' := by
  obtain ⟨c1, c2⟩ := LKW.c1 u w
  rw [e] at y
  exact Or.inr ⟨a, STP.of h (by unfold RFS FRS9; rw [if_neg o, if_neg c1, if_neg c2, if_pos y]) (by unfold RFN FRN9; rw [if_neg o, if_neg c1, if_neg c2, if_pos y]) (by decide)⟩
theorem LKW.told (a : rSets (P.ro x) ≠ 0) (o : P.ro x ≠ 20) (u : SOF st (P.rA x) (P.ra x) = 1) (w : P.ro x ≠ 0 → SOF st (P.rB x) (P.rb x) = 1) (e : v = LKV (P.ro x) (NOF nm (P.rA x) (P.ra x)) (if P.ro x = 0 then 0 else NOF nm (P.rB x) (P.rb x))) (y : ¬ lg_cmp v (lI 4294967296) = 0) (en : v.toInt32 = zI n) (n0 : -2147483648 ≤ n) (n1 : n ≤ 2147483647) (h : SET9 st nm st' nm' ch ch' (P.rt x) 1 n) : LKW P x st nm st' nm' ch ch' := by
  obtain ⟨c1, c2⟩ := LKW.c1 u w
  have q : n = v.toInt32.toInt := by rw [en, zI_toInt n0 (by omega)]
  rw [e] at y q
  refine Or.inr ⟨a, STP.of h (by unfold RFS FRS9; rw [if_neg o, if_neg c1, if_neg c2, if_neg y]) ?_ (by decide)⟩
  unfold RFN FRN9; rw [if_neg o, if_neg c1, if_neg c2, if_neg y]; exact q.symm
theorem LKV.copy {y : Int} (o : P.ro x = 0) (e : v = lI n &&& lI 4294967295) : v = LKV (P.ro x) n (if P.ro x = 0 then 0 else y) := by rw [e]; unfold LKV; rw [if_pos o]
theorem LKV.res {y : Int} (o : P.ro x ≠ 0) (e : v = RL9 (P.ro x) (zI n) (zI y)) : v = LKV (P.ro x) n (if P.ro x = 0 then 0 else y) := by rw [e, if_neg o]; unfold LKV; rw [if_neg o]
end LKW9
/-- a PHI: what its first k operands come to, of those whose way is open -/
def JN9 (s v x y : Int) : Int × Int := if x = 0 then (s, v) else if x = 2 ∨ s = 2 ∨ (s = 1 ∧ v ≠ y) then (2, v) else (1, y)
def FPA (P : PO) (st nm op : Int → Int) (x : Nat) (b n : Int) : Nat → Int × Int
  | 0 => (0, 0)
  | k + 1 => if op (P.ia (P.pp x) k * n + b) = 0 then FPA P st nm op x b n k else JN9 (FPA P st nm op x b n k).1 (FPA P st nm op x b n k).2 (SOF st (P.ia (P.pr x) k) (P.ia (P.pu x) k)) (NOF nm (P.ia (P.pr x) k) (P.ia (P.pu x) k))
section FPA9
variable {P : PO} {st nm op : Int → Int} {x : Nat} {b n k : Int}
theorem FPA.succ (k0 : 0 ≤ k) : FPA P st nm op x b n (k + 1).toNat = if op (P.ia (P.pp x) k * n + b) = 0 then FPA P st nm op x b n k.toNat else JN9 (FPA P st nm op x b n k.toNat).1 (FPA P st nm op x b n k.toNat).2 (SOF st (P.ia (P.pr x) k) (P.ia (P.pu x) k)) (NOF nm (P.ia (P.pr x) k) (P.ia (P.pu x) k)) := by
  rw [show (k + 1).toNat = k.toNat + 1 from by omega]
  show (if op (P.ia (P.pp x) ((k.toNat : Nat) : Int) * n + b) = 0 then _ else JN9 _ _ (SOF st (P.ia (P.pr x) ((k.toNat : Nat) : Int)) (P.ia (P.pu x) ((k.toNat : Nat) : Int))) (NOF nm (P.ia (P.pr x) ((k.toNat : Nat) : Int)) (P.ia (P.pu x) ((k.toNat : Nat) : Int)))) = _
  rw [show ((k.toNat : Nat) : Int) = k from by omega]
/-- s and v are what the first k come to -/
def FPI (P : PO) (st nm op : Int → Int) (x : Nat) (b n k s v : Int) : Prop := s = (FPA P st nm op x b n k.toNat).1 ∧ v = (FPA P st nm op x b n k.toNat).2
variable {s v s' v' : Int}
theorem FPI.first (P : PO) (st nm op : Int → Int) (x : Nat) (b n : Int) : FPI P st nm op x b n 0 0 0 := ⟨rfl, rfl⟩
theorem FPI.shut (h : FPI P st nm op x b n k s v) (k0 : 0 ≤ k) (q : op (P.ia (P.pp x) k * n + b) = 0) : FPI P st nm op x b n (k + 1) s v := by unfold FPI; rw [FPA.succ k0, if_pos q]; exact h
theorem FPI.un (h : FPI P st nm op x b n k s v) (k0 : 0 ≤ k) (q : op (P.ia (P.pp x) k * n + b) ≠ 0) (u : SOF st (P.ia (P.pr x) k) (P.ia (P.pu x) k) = 0) : FPI P st nm op x b n (k + 1) s v := by unfold FPI; rw [FPA.succ k0, if_neg q]; unfold JN9; rw [if_pos u]; exact h
theorem FPI.any (h : FPI P st nm op x b n k s v) (k0 : 0 ≤ k) (q : op (P.ia (P.pp x) k * n + b) ≠ 0) (u : SOF st (P.ia (P.pr x) k) (P.ia (P.pu x) k) ≠ 0) (w : SOF st (P.ia (P.pr x) k) (P.ia (P.pu x) k) = 2 ∨ s = 2 ∨ (s = 1 ∧ v ≠ NOF nm (P.ia (P.pr x) k) (P.ia (P.pu x) k))) : FPI P st nm op x b n (k + 1) 2 v := by
  unfold FPI
  rw [FPA.succ k0, if_neg q]
  unfold JN9
  rw [if_neg u, ← h.1, ← h.2, if_pos w]; exact ⟨rfl, rfl⟩
theorem FPI.told (h : FPI P st nm op x b n k s v) (k0 : 0 ≤ k) (q : op (P.ia (P.pp x) k * n + b) ≠ 0) (u : SOF st (P.ia (P.pr x) k) (P.ia (P.pu x) k) ≠ 0) (w : ¬ (SOF st (P.ia (P.pr x) k) (P.ia (P.pu x) k) = 2 ∨ s = 2 ∨ (s = 1 ∧ v ≠ NOF nm (P.ia (P.pr x) k) (P.ia (P.pu x) k)))) : FPI P st nm op x b n (k + 1) 1 (NOF nm (P.ia (P.pr x) k) (P.ia (P.pu x) k)) := by
  unfold FPI
  rw [FPA.succ k0, if_neg q]
  unfold JN9
  rw [if_neg u, ← h.1, ← h.2, if_neg w]; exact ⟨rfl, rfl⟩
theorem FPI.to {k' : Int} (h : FPI P st nm op x b n k s v) (e : k = k') (e1 : s = s') (e2 : v = v') : FPI P st nm op x b n k' s' v' := by rw [← e, ← e1, ← e2]; exact h
end FPA9
/-- look(Phi) -/
def LKH (P : PO) (x : Nat) (b n : Int) (st nm op st' nm' : Int → Int) (ch ch' : Int) : Prop := STP st nm st' nm' ch ch' (P.pt x) (FPA P st nm op x b n (P.pn x).toNat).1 (FPA P st nm op x b n (P.pn x).toNat).2
theorem LKH.no {P : PO} {x : Nat} {b n k s v : Int} {st nm op : Int → Int} {ch ch' : Int} (h : FPI P st nm op x b n k s v) (e : k = P.pn x) (z : s = 0) (c : ch' = ch) : LKH P x b n st nm op st nm ch ch' := by rw [e] at h; exact STP.none (h.1.symm.trans z) c
theorem LKH.yes {P : PO} {x : Nat} {b n k s v : Int} {st nm op st' nm' : Int → Int} {ch ch' : Int} (h : FPI P st nm op x b n k s v) (e : k = P.pn x) (z : s ≠ 0) (g : SET9 st nm st' nm' ch ch' (P.pt x) s v) : LKH P x b n st nm op st' nm' ch ch' := by rw [e] at h; exact STP.of g h.1.symm h.2.symm z
/-- go: a way is open, a block come to -/
def GOX (op gn op' gn' : Int → Int) (ch ch' f t m : Int) : Prop := (op' = zup op (f * m + t) 1 ∧ gn' = zup gn t 1) ∧ ((op (f * m + t) ≠ 0 ∧ gn t ≠ 0 ∧ ch' = ch) ∨ ((op (f * m + t) = 0 ∨ gn t = 0) ∧ ch' = 1))
