/-! states only rise -/
def LQ9 (s v s' v' : Int) : Prop := s = 0 ∨ s' = 2 ∨ (s = 1 ∧ s' = 1 ∧ v = v')
def RIS (st nm st' nm' : Int → Int) : Prop := ∀ r : Int, LQ9 (st r) (nm r) (st' r) (nm' r)
def SR9 (st : Int → Int) : Prop := ∀ j : Int, 0 ≤ st j ∧ st j ≤ 2
section LQ99
variable {s v s' v' s2 v2 x y x' y' g w o : Int} {st nm st' nm' op op' gn gn' : Int → Int}
theorem LQ9.refl (h : 0 ≤ s ∧ s ≤ 2) : LQ9 s v s v := by unfold LQ9; omega
theorem LQ9.trans (h : LQ9 s v s' v') (k : LQ9 s' v' s2 v2) : LQ9 s v s2 v2 := by unfold LQ9 at *; omega
theorem RIS.refl (h : SR9 st) : RIS st nm st nm := fun r => LQ9.refl (h r)
theorem SOF.ris (h : RIS st nm st' nm') : LQ9 (SOF st g w) (NOF nm g w) (SOF st' g w) (NOF nm' g w) := by
  unfold SOF NOF
  by_cases q : g = 0
  · rw [if_pos q, if_pos q, if_pos q, if_pos q]; exact LQ9.refl ⟨by decide, by decide⟩
  · rw [if_neg q, if_neg q, if_neg q, if_neg q]; exact h w
theorem FRS9.rng (o s s' x y : Int) : 0 ≤ FRS9 o s s' x y ∧ FRS9 o s s' x y ≤ 2 := by
  unfold FRS9
  (repeat' split) <;> exact ⟨by decide, by decide⟩
theorem FRS9.mono (h : LQ9 s x s' x') (k : LQ9 s2 y v2 y') (r1 : 0 ≤ s ∧ s ≤ 2) (r2 : 0 ≤ s2 ∧ s2 ≤ 2) (r3 : 0 ≤ s' ∧ s' ≤ 2) (r4 : 0 ≤ v2 ∧ v2 ≤ 2) : LQ9 (FRS9 o s s2 x y) (FRN9 o s s2 x y) (FRS9 o s' v2 x' y') (FRN9 o s' v2 x' y') := by
  by_cases a : o = 20
  · exact Or.inr (Or.inl (by unfold FRS9; rw [if_pos a]))
  by_cases b : s = 0 ∨ s2 = 0
  · exact Or.inl (by unfold FRS9; rw [if_neg a, if_pos b])
  have b' : ¬ (s' = 0 ∨ v2 = 0) := by unfold LQ9 at h k; omega
  by_cases c : s' = 2 ∨ v2 = 2
  · exact Or.inr (Or.inl (by unfold FRS9; rw [if_neg a, if_neg b', if_pos c]))
  have c' : ¬ (s = 2 ∨ s2 = 2) := by unfold LQ9 at h k; omega
  have ex : x = x' := by unfold LQ9 at h; omega
  have ey : y = y' := by unfold LQ9 at k; omega
  rw [← ex, ← ey]
  unfold FRS9 FRN9
  rw [if_neg a, if_neg a, if_neg a, if_neg a, if_neg b, if_neg b, if_neg b', if_neg b', if_neg c, if_neg c, if_neg c', if_neg c']
  refine LQ9.refl ?_
  split <;> exact ⟨by decide, by decide⟩
theorem JN9.rng (h : 0 ≤ s ∧ s ≤ 2) : 0 ≤ (JN9 s v x y).1 ∧ (JN9 s v x y).1 ≤ 2 := by
  unfold JN9
  split
  · exact h
  · split <;> (constructor <;> (dsimp only; omega))
theorem JN9.mono (h : LQ9 s v s' v') (k : LQ9 x y x' y') (r1 : 0 ≤ s ∧ s ≤ 2) (r2 : 0 ≤ x ∧ x ≤ 2) (r3 : 0 ≤ s' ∧ s' ≤ 2) (r4 : 0 ≤ x' ∧ x' ≤ 2) : LQ9 (JN9 s v x y).1 (JN9 s v x y).2 (JN9 s' v' x' y').1 (JN9 s' v' x' y').2 := by
  unfold LQ9 at h k
  unfold JN9
  split <;> (try split) <;> (try split) <;> (try split) <;> (unfold LQ9; dsimp only; omega)
theorem JN9.up (r1 : 0 ≤ s ∧ s ≤ 2) (r2 : 0 ≤ x ∧ x ≤ 2) : LQ9 s v (JN9 s v x y).1 (JN9 s v x y).2 := by
  unfold JN9
  split <;> (try split) <;> (unfold LQ9; dsimp only; omega)
theorem JN9.pos (q : x ≠ 0) : (JN9 s v x y).1 ≠ 0 := by
  unfold JN9
  rw [if_neg q]
  split <;> (dsimp only; omega)
end LQ99
section FPB9
variable {P : PO} {st nm op st' nm' op' : Int → Int} {x : Nat} {b n i k : Int}
theorem FPA.rng (P : PO) (st nm op : Int → Int) (x : Nat) (b n : Int) : ∀ k : Nat, 0 ≤ (FPA P st nm op x b n k).1 ∧ (FPA P st nm op x b n k).1 ≤ 2
  | 0 => by show (0 : Int) ≤ 0 ∧ (0 : Int) ≤ 2; omega
  | k + 1 => by
    have ih := FPA.rng P st nm op x b n k
    show 0 ≤ (if _ = 0 then _ else _ : Int × Int).1 ∧ (if _ = 0 then _ else _ : Int × Int).1 ≤ 2
    split
    · exact ih
    · exact JN9.rng ih
theorem FPA.mono (h : RIS st nm st' nm') (s0 : SR9 st) (s1 : SR9 st') (o : ∀ j : Int, op j ≠ 0 → op' j ≠ 0) : ∀ k : Nat, LQ9 (FPA P st nm op x b n k).1 (FPA P st nm op x b n k).2 (FPA P st' nm' op' x b n k).1 (FPA P st' nm' op' x b n k).2
  | 0 => Or.inl rfl
  | k + 1 => by
    have ih := FPA.mono h s0 s1 o k
    have r0 := FPA.rng P st nm op x b n k
    have r1 := FPA.rng P st' nm' op' x b n k
    have q0 := SOF_rng (g := P.ia (P.pr x) k) (v := P.ia (P.pu x) k) s0
    have q1 := SOF_rng (g := P.ia (P.pr x) k) (v := P.ia (P.pu x) k) s1
    show LQ9 (if op _ = 0 then _ else _ : Int × Int).1 (if op _ = 0 then _ else _ : Int × Int).2 (if op' _ = 0 then _ else _ : Int × Int).1 (if op' _ = 0 then _ else _ : Int × Int).2
    by_cases a : op (P.ia (P.pp x) k * n + b) = 0
    · rw [if_pos a]
      by_cases c : op' (P.ia (P.pp x) k * n + b) = 0
      · rw [if_pos c]; exact ih
      · rw [if_neg c]; exact ih.trans (JN9.up r1 q1)
    · rw [if_neg a, if_neg (o _ a)]; exact JN9.mono ih (SOF.ris h) r0 q0 r1 q1
/-- an operand that is told, and whose way is open, tells the PHI -/
theorem FPA.pos (s0 : SR9 st) (i0 : 0 ≤ i) (a : op (P.ia (P.pp x) i * n + b) ≠ 0) (q : SOF st (P.ia (P.pr x) i) (P.ia (P.pu x) i) ≠ 0) : ∀ k : Nat, i < k → (FPA P st nm op x b n k).1 ≠ 0
  | 0, h => by omega
  | k + 1, h => by
    have r0 := FPA.rng P st nm op x b n k
    have q0 := SOF_rng (g := P.ia (P.pr x) k) (v := P.ia (P.pu x) k) s0
    show (if op _ = 0 then _ else _ : Int × Int).1 ≠ 0
    by_cases e : i = k
    · rw [if_neg (by rw [← e]; exact a)]
      exact JN9.pos (by rw [← e]; exact q)
    · have ih := FPA.pos s0 i0 a q k (by omega)
      split
      · exact ih
      · have u := JN9.up (v := (FPA P st nm op x b n k).2) (y := NOF nm (P.ia (P.pr x) k) (P.ia (P.pu x) k)) r0 q0
        unfold LQ9 at u
        omega
end FPB9
section STP9
variable {P : PO} {x : Nat} {st nm st' nm' : Int → Int} {ch ch' t s v r : Int}
theorem STP.ris (h : STP st nm st' nm' ch ch' t s v) (s0 : SR9 st) (m : LQ9 (st t) (nm t) s v) : RIS st nm st' nm' := fun r => by
  rcases h with ⟨_, e1, e2, _⟩ | ⟨_, ⟨_, e1, e2, _⟩ | ⟨_, e1, e2, _⟩⟩
  · rw [e1, e2]; exact LQ9.refl (s0 r)
  · rw [e1, e2]; exact LQ9.refl (s0 r)
  · rw [e1, e2]
    by_cases q : r = t
    · rw [q, zup_eq, zup_eq]; exact m
    · rw [zup_ne _ _ q, zup_ne _ _ q]; exact LQ9.refl (s0 r)
theorem STP.sr (h : STP st nm st' nm' ch ch' t s v) (s0 : SR9 st) (r : 0 ≤ s ∧ s ≤ 2) : SR9 st' := fun j => by
  rcases h with ⟨_, e1, _, _⟩ | ⟨_, ⟨_, e1, _, _⟩ | ⟨_, e1, _, _⟩⟩
  · rw [e1]; exact s0 j
  · rw [e1]; exact s0 j
  · rw [e1]
    by_cases q : j = t
    · rw [q, zup_eq]; exact r
    · rw [zup_ne _ _ q]; exact s0 j
theorem STP.off (h : STP st nm st' nm' ch ch' t s v) (q : r ≠ t) : st' r = st r ∧ nm' r = nm r := by
  rcases h with ⟨_, e1, e2, _⟩ | ⟨_, ⟨_, e1, e2, _⟩ | ⟨_, e1, e2, _⟩⟩
  · rw [e1, e2]; exact ⟨rfl, rfl⟩
  · rw [e1, e2]; exact ⟨rfl, rfl⟩
  · rw [e1, e2, zup_ne _ _ q, zup_ne _ _ q]; exact ⟨rfl, rfl⟩
theorem STP.own (h : STP st nm st' nm' ch ch' t s v) (s0 : SR9 st) (r : 0 ≤ s ∧ s ≤ 2) (m : LQ9 (st t) (nm t) s v) : LQ9 (st' t) (nm' t) s v := by
  rcases h with ⟨_, e1, e2, _⟩ | ⟨_, ⟨a, e1, e2, _⟩ | ⟨_, e1, e2, _⟩⟩
  · rw [e1, e2]; exact m
  · rw [e1, e2]; exact m
  · rw [e1, e2, zup_eq, zup_eq]; exact LQ9.refl r
/-- nothing has changed, or something rose -/
theorem STP.prg (h : STP st nm st' nm' ch ch' t s v) (s0 : SR9 st) (r : 0 ≤ s ∧ s ≤ 2) (m : LQ9 (st t) (nm t) s v) (t0 : 0 ≤ t) (t1 : t ≤ 1001) : (st' = st ∧ nm' = nm ∧ ch' = ch ∧ (s ≠ 0 → st t ≠ 0)) ∨ (ch' = 1 ∧ sumI (fun r => 2 - st' r) 1002 < sumI (fun r => 2 - st r) 1002) := by
  have q0 := s0 t
  rcases h with ⟨z, e1, e2, e3⟩ | ⟨z, ⟨a, e1, e2, e3⟩ | ⟨a, e1, e2, e3⟩⟩
  · exact Or.inl ⟨e1, e2, e3, fun q => absurd z q⟩
  · exact Or.inl ⟨e1, e2, e3, fun _ => by omega⟩
  · refine Or.inr ⟨e3, ?_⟩
    have lt : st t < s := by
      unfold LQ9 at m
      rcases m with m | m | m
      · omega
      · rcases Int.lt_or_le (st t) s with w | w
        · exact w
        · exact absurd ⟨by omega, Or.inl (by omega)⟩ a
      · exact absurd ⟨by omega, Or.inr m.2.2⟩ a
    have e := sumI_one (f := fun r => 2 - st r) (g := fun r => 2 - st' r) (n := 1002) (k := t) (d := st t - s) t0 (by omega) (by show 2 - st' t = 2 - st t + (st t - s); rw [e1, zup_eq]; omega) (fun i _ _ ne => by show 2 - st' i = 2 - st i; rw [e1, zup_ne _ _ ne])
    rw [e]; omega
end STP9
