/-! what the objects of a pool have cost: a weight for each, told by their kinds and by how long their rows are -/
def sumL (f : Nat → Int) : List Nat → Int
  | [] => 0
  | x :: l => f x + sumL f l
theorem sumL_congr {f g : Nat → Int} : ∀ l : List Nat, (∀ z : Nat, z ∈ l → f z = g z) → sumL f l = sumL g l
  | [], _ => rfl
  | x :: l, h => by
    have a := h x (List.mem_cons_self)
    have b := sumL_congr l (fun z m => h z (List.mem_cons_of_mem _ m))
    show f x + sumL f l = g x + sumL g l
    rw [a, b]
theorem sumL_zero {f : Nat → Int} : ∀ l : List Nat, (∀ z : Nat, z ∈ l → f z = 0) → sumL f l = 0
  | [], _ => rfl
  | x :: l, h => by
    have a := h x (List.mem_cons_self)
    have b := sumL_zero l (fun z m => h z (List.mem_cons_of_mem _ m))
    show f x + sumL f l = 0
    omega
theorem sumL_nn {f : Nat → Int} (h : ∀ z : Nat, 0 ≤ f z) : ∀ l : List Nat, 0 ≤ sumL f l
  | [] => Int.le_refl 0
  | x :: l => by
    have a := h x
    have b := sumL_nn h l
    show 0 ≤ f x + sumL f l
    omega
theorem sumL_erase {f : Nat → Int} {a : Nat} : ∀ l : List Nat, a ∈ l → sumL f l = f a + sumL f (l.erase a)
  | [], h => absurd h (by simp)
  | x :: l, h => by
    by_cases e : x = a
    · subst e
      rw [List.erase_cons_head]
      rfl
    · rw [List.erase_cons_tail (by simpa using e)]
      have m : a ∈ l := by
        rcases List.mem_cons.mp h with q | q
        · exact absurd q.symm e
        · exact q
      have b := sumL_erase (f := f) l m
      show f x + sumL f l = f a + (f x + sumL f (l.erase a))
      omega
/-- the same sum: what is left out weighs nothing -/
theorem sumL_eq {f g : Nat → Int} : ∀ l l' : List Nat, l.Nodup → l'.Nodup → (∀ z : Nat, z ∈ l → f z = 0 ∨ (z ∈ l' ∧ g z = f z)) → (∀ z : Nat, z ∈ l' → g z = 0 ∨ (z ∈ l ∧ f z = g z)) → sumL f l = sumL g l'
  | [], l', _, _, _, h2 => by
    rw [sumL_zero l' (fun z m => by
      rcases h2 z m with q | q
      · exact q
      · exact absurd q.1 (by simp))]
    rfl
  | a :: t, l', n1, n2, h1, h2 => by
    have nt := (List.nodup_cons.mp n1)
    by_cases fz : f a = 0
    · have b := sumL_eq t l' nt.2 n2 (fun z m => h1 z (List.mem_cons_of_mem _ m)) (fun z m => by
        rcases h2 z m with q | q
        · exact Or.inl q
        · rcases List.mem_cons.mp q.1 with e | e
          · rw [e] at q ⊢; exact Or.inl (q.2.symm.trans fz)
          · exact Or.inr ⟨e, q.2⟩)
      show f a + sumL f t = sumL g l'
      omega
    · have w : a ∈ l' ∧ g a = f a := by
        rcases h1 a (List.mem_cons_self) with q | q
        · exact absurd q fz
        · exact q
      have b := sumL_eq t (l'.erase a) nt.2 (n2.erase a) (fun z m => by
        rcases h1 z (List.mem_cons_of_mem _ m) with q | q
        · exact Or.inl q
        · exact Or.inr ⟨(List.mem_erase_of_ne (fun e => nt.1 (by rw [← e]; exact m))).mpr q.1, q.2⟩) (fun z m => by
        have ne : z ≠ a := fun e => by rw [e] at m; exact absurd m (List.Nodup.not_mem_erase n2)
        rcases h2 z (List.mem_of_mem_erase m) with q | q
        · exact Or.inl q
        · rcases List.mem_cons.mp q.1 with e | e
          · exact absurd e ne
          · exact Or.inr ⟨e, q.2⟩)
      have c := sumL_erase (f := g) l' w.1
      show f a + sumL f t = sumL g l'
      omega
/-- one weight has changed -/
theorem sumL_one {f g : Nat → Int} {x : Nat} {l l' : List Nat} (n1 : l.Nodup) (n2 : l'.Nodup) (m1 : x ∈ l) (m2 : x ∈ l') (h1 : ∀ z : Nat, z ∈ l → z ≠ x → f z = 0 ∨ (z ∈ l' ∧ g z = f z)) (h2 : ∀ z : Nat, z ∈ l' → z ≠ x → g z = 0 ∨ (z ∈ l ∧ f z = g z)) : sumL g l' = sumL f l + (g x - f x) := by
  have a := sumL_erase (f := f) l m1
  have b := sumL_erase (f := g) l' m2
  have c := sumL_eq (f := f) (g := g) (l.erase x) (l'.erase x) (n1.erase x) (n2.erase x) (fun z m => by
    have ne : z ≠ x := fun e => by rw [e] at m; exact absurd m (List.Nodup.not_mem_erase n1)
    rcases h1 z (List.mem_of_mem_erase m) ne with q | q
    · exact Or.inl q
    · exact Or.inr ⟨(List.mem_erase_of_ne ne).mpr q.1, q.2⟩) (fun z m => by
    have ne : z ≠ x := fun e => by rw [e] at m; exact absurd m (List.Nodup.not_mem_erase n2)
    rcases h2 z (List.mem_of_mem_erase m) ne with q | q
    · exact Or.inl q
    · exact Or.inr ⟨(List.mem_erase_of_ne ne).mpr q.1, q.2⟩)
  omega
/-- one has come -/
theorem sumL_new {f g : Nat → Int} {x : Nat} {l l' : List Nat} (n1 : l.Nodup) (n2 : l'.Nodup) (m1 : x ∉ l) (m2 : x ∈ l') (h1 : ∀ z : Nat, z ∈ l → f z = 0 ∨ (z ∈ l' ∧ g z = f z)) (h2 : ∀ z : Nat, z ∈ l' → z ≠ x → g z = 0 ∨ (z ∈ l ∧ f z = g z)) : sumL g l' = sumL f l + g x := by
  have b := sumL_erase (f := g) l' m2
  have c := sumL_eq (f := f) (g := g) l (l'.erase x) n1 (n2.erase x) (fun z m => by
    have ne : z ≠ x := fun e => m1 (by rw [← e]; exact m)
    rcases h1 z m with q | q
    · exact Or.inl q
    · exact Or.inr ⟨(List.mem_erase_of_ne ne).mpr q.1, q.2⟩) (fun z m => by
    have ne : z ≠ x := fun e => by rw [e] at m; exact absurd m (List.Nodup.not_mem_erase n2)
    exact h2 z (List.mem_of_mem_erase m) ne)
  omega
/-- a sum over objects is at most the sum along a row that names them all -/
theorem sumL_cover {f : Nat → Int} (nn : ∀ z : Nat, 0 ≤ f z) {E : Int → Nat} : ∀ (n : Nat) (l : List Nat), l.Nodup → (∀ z : Nat, z ∈ l → f z = 0 ∨ ∃ i : Int, 0 ≤ i ∧ i < n ∧ z = E i) → sumL f l ≤ sumI (fun i => f (E i)) n
  | 0, l, _, h => by
    rw [sumL_zero l (fun z m => by
      rcases h z m with q | ⟨i, i0, i1, _⟩
      · exact q
      · omega)]
    exact Int.le_refl 0
  | n + 1, l, nd, h => by
    by_cases m : E n ∈ l
    · have a := sumL_erase (f := f) l m
      have b := sumL_cover nn (E := E) n (l.erase (E n)) (nd.erase _) (fun z w => by
        have ne : z ≠ E n := fun e => by rw [e] at w; exact absurd w (List.Nodup.not_mem_erase nd)
        rcases h z (List.mem_of_mem_erase w) with q | ⟨i, i0, i1, e⟩
        · exact Or.inl q
        · refine Or.inr ⟨i, i0, ?_, e⟩
          have ni : i ≠ (n : Int) := fun k => ne (by rw [e, k])
          omega)
      show sumL f l ≤ sumI (fun i => f (E i)) n + f (E n)
      omega
    · have b := sumL_cover nn (E := E) n l nd (fun z w => by
        rcases h z w with q | ⟨i, i0, i1, e⟩
        · exact Or.inl q
        · refine Or.inr ⟨i, i0, ?_, e⟩
          have ni : i ≠ (n : Int) := fun k => m (by rw [k] at e; rw [← e]; exact w)
          omega)
      have c := nn (E n)
      show sumL f l ≤ sumI (fun i => f (E i)) n + f (E n)
      omega
/-- lengths that the row of a list has: 10, and half as much again each time; LVS: all of them up to there together -/
def LVC (c : Int) : Prop := c = 0 ∨ c = 10 ∨ c = 15 ∨ c = 22 ∨ c = 33 ∨ c = 49 ∨ c = 73 ∨ c = 109 ∨ c = 163 ∨ c = 244 ∨ c = 366 ∨ c = 549 ∨ c = 823 ∨ c = 1234 ∨ c = 1851 ∨ c = 2776 ∨ c = 4164 ∨ c = 6246
def LVS (c : Int) : Int := if c < 10 then 0 else if c < 15 then 10 else if c < 22 then 25 else if c < 33 then 47 else if c < 49 then 80 else if c < 73 then 129 else if c < 109 then 202 else if c < 163 then 311 else if c < 244 then 474 else if c < 366 then 718 else if c < 549 then 1084 else if c < 823 then 1633 else if c < 1234 then 2456 else if c < 1851 then 3690 else if c < 2776 then 5541 else if c < 4164 then 8317 else if c < 6246 then 12481 else 18727
theorem LVC.first : LVC 10 ∧ LVS 10 = LVS 0 + 10 := ⟨Or.inr (Or.inl rfl), by decide⟩
theorem LVC.grow {c : Int} (h : LVC c) (c0 : 0 < c) (c1 : c ≤ 4164) : LVC (c + c / 2) ∧ LVS (c + c / 2) = LVS c + (c + c / 2) := by
  unfold LVC at h
  rcases h with h | h | h | h | h | h | h | h | h | h | h | h | h | h | h | h | h | h <;> subst h <;> first | omega | exact ⟨by unfold LVC; decide, by decide⟩
theorem ite_nn9 {p : Prop} {d : Decidable p} {a b : Int} (h : 0 ≤ a) (k : 0 ≤ b) : 0 ≤ @ite Int p d a b := by
  by_cases q : p
  · rw [if_pos q]; exact h
  · rw [if_neg q]; exact k
theorem LVS.nn (c : Int) : 0 ≤ LVS c := (ite_nn9 (by decide) (ite_nn9 (by decide) (ite_nn9 (by decide) (ite_nn9 (by decide) (ite_nn9 (by decide) (ite_nn9 (by decide) (ite_nn9 (by decide) (ite_nn9 (by decide) (ite_nn9 (by decide) (ite_nn9 (by decide) (ite_nn9 (by decide) (ite_nn9 (by decide) (ite_nn9 (by decide) (ite_nn9 (by decide) (ite_nn9 (by decide) (ite_nn9 (by decide) (ite_nn9 (by decide) (by decide))))))))))))))))))
/-- of a list that never held more than n -/
theorem LVS.rows {c : Int} (h : LVC c) (k : c ≤ 1851) : LVS c ≤ 5541 := by
  unfold LVC at h
  rcases h with h | h | h | h | h | h | h | h | h | h | h | h | h | h | h | h | h | h <;> subst h <;> first | omega | decide
theorem LVS.phis {c : Int} (h : LVC c) (k : c ≤ 823) : LVS c ≤ 2456 := by
  unfold LVC at h
  rcases h with h | h | h | h | h | h | h | h | h | h | h | h | h | h | h | h | h | h <;> subst h <;> first | omega | decide
theorem LVC.hold {c n : Int} (h : LVC c) (g : c = n → False) (k : n ≤ 1850) (q : 2 * c ≤ 3 * n) : c ≤ 1851 := by
  unfold LVC at h
  omega
/-- what an object weighs, with what its earlier rows took; w: weights by kind (0 a row, 1 and 2 a PHI and its rows, 3 a block, 4 and 5 a list and its rows), so that slots and cells are counted alike -/
def WT9 (w : Nat → Int) (P : PO) (z : Nat) : Int := if P.kd z = 17 then w 0 else if P.kd z = 15 then w 1 + w 2 * ((P.an (P.pp z) - 1 : Nat) : Int) else if P.kd z = 12 then w 3 else if P.kd z = 30 then w 4 + w 5 * LVS (P.cap z) else 0
def PSI (w : Nat → Int) (L : List Nat) (P : PO) : Int := sumL (WT9 w P) L
/-- slots -/
def wSL (k : Nat) : Int := if k = 0 then 7 else if k = 1 then 0 else if k = 2 then 6 else if k = 3 then 5 else if k = 4 then 3 else 1
/-- cells, forty times -/
def wCE (k : Nat) : Int := if k = 0 then 40 else if k = 1 then 70 else if k = 2 then 30 else if k = 3 then 40 else if k = 4 then 40 else 4
section PSI9
variable {L L' : List Nat} {P P' : PO} {cO cI cZ : ClassId} {ed x q z : Nat} {w : Nat → Int}
theorem WT9.row (h : P.kd z = 17) : WT9 w P z = w 0 := by unfold WT9; rw [if_pos h]
theorem WT9.phi (h : P.kd z = 15) : WT9 w P z = w 1 + w 2 * ((P.an (P.pp z) - 1 : Nat) : Int) := by unfold WT9; rw [if_neg (by omega), if_pos h]
theorem WT9.blk (h : P.kd z = 12) : WT9 w P z = w 3 := by unfold WT9; rw [if_neg (by omega), if_neg (by omega), if_pos h]
theorem WT9.list (h : P.kd z = 30) : WT9 w P z = w 4 + w 5 * LVS (P.cap z) := by unfold WT9; rw [if_neg (by omega), if_neg (by omega), if_neg (by omega), if_pos h]
theorem WT9.no (h : P.kd z ≠ 17 ∧ P.kd z ≠ 15 ∧ P.kd z ≠ 12 ∧ P.kd z ≠ 30) : WT9 w P z = 0 := by unfold WT9; rw [if_neg h.1, if_neg h.2.1, if_neg h.2.2.1, if_neg h.2.2.2]
theorem WT9.nn (n : ∀ k : Nat, 0 ≤ w k) (P : PO) (z : Nat) : 0 ≤ WT9 w P z := by
  by_cases k1 : P.kd z = 17
  · rw [WT9.row k1]; exact n 0
  · by_cases k2 : P.kd z = 15
    · rw [WT9.phi k2]
      have a := Int.mul_nonneg (n 2) (show (0 : Int) ≤ ((P.an (P.pp z) - 1 : Nat) : Int) from by omega)
      have b := n 1
      omega
    · by_cases k3 : P.kd z = 12
      · rw [WT9.blk k3]; exact n 3
      · by_cases k4 : P.kd z = 30
        · rw [WT9.list k4]
          have a := Int.mul_nonneg (n 5) (LVS.nn (P.cap z))
          have b := n 4
          omega
        · rw [WT9.no ⟨k1, k2, k3, k4⟩]; exact Int.le_refl 0
theorem PSI.nn (n : ∀ k : Nat, 0 ≤ w k) (L : List Nat) (P : PO) : 0 ≤ PSI w L P := sumL_nn (WT9.nn n P) L
/-- numbers and what rows hold have changed, nothing else -/
theorem PSI.same (e : P'.2.1 = P.2.1) : PSI w L P' = PSI w L P := sumL_congr L (fun z _ => by unfold WT9 PO.cap PO.kd PO.an PO.pp PO.fl PO.le; rw [e])
/-- a list has another row, longer or not -/
theorem PSI.gl1 (n1 : L.Nodup) (n2 : L'.Nodup) (h : GLF L P cO cI cZ ed) (g : GL1 x q L P L' P') (mx : x ∈ L) (kx : P.kd x = 30) (fx : P.fl x = 1 ∨ P.le x ∉ L) : PSI w L' P' = PSI w L P + w 5 * (LVS (P'.cap x) - LVS (P.cap x)) := by
  have ow := h.2.2.2.1
  have nq : ∀ z : Nat, z ∈ L → z ≠ P.le x → z ≠ q := fun z m n e => n (by rw [e]; exact g.2.2.2.2 (by rw [← e]; exact m))
  have le0 : ∀ z : Nat, z ∈ L → z = P.le x → P.fl x = 1 ∧ P.kd z = 31 ∧ P.ow z = x := fun z m e => by
    rcases fx with f | f
    · have o := (ow x mx kx).2 f
      rw [e]; exact ⟨f, o.2.1, o.2.2.1⟩
    · exact absurd (by rw [← e]; exact m) f
  have sm : ∀ z : Nat, z ∈ L → z ≠ x → z ≠ P.le x → SM9 z P P' := fun z m n1 n2 => g.2.2.2.1 z n1 (nq z m n2)
  have wt : ∀ z : Nat, z ∈ L → z ≠ x → z ≠ P.le x → WT9 w P' z = WT9 w P z := fun z m n1 n2 => by
    have s := sm z m n1 n2
    have k : P'.kd z = P.kd z := s.2.1 0
    by_cases k1 : P.kd z = 17
    · rw [WT9.row k1, WT9.row (k.trans k1)]
    · by_cases k2 : P.kd z = 15
      · have pk := (h.2.2.1 z m k2).2.1
        have np : P.pp z ≠ P.le x := fun e => by
          have o := le0 _ pk.1 e
          omega
        have nx : P.pp z ≠ x := fun e => by rw [e] at pk; omega
        have sp := sm (P.pp z) pk.1 nx np
        rw [WT9.phi k2, WT9.phi (k.trans k2), show P'.pp z = P.pp z from s.2.1 1, show P'.an (P.pp z) = P.an (P.pp z) from sp.2.1 1]
      · by_cases k3 : P.kd z = 12
        · rw [WT9.blk k3, WT9.blk (k.trans k3)]
        · by_cases k4 : P.kd z = 30
          · rw [WT9.list k4, WT9.list (k.trans k4)]
            have fl : P'.fl z = P.fl z := s.2.1 7
            have le : P'.le z = P.le z := s.2.1 1
            have c : P'.cap z = P.cap z := by
              unfold PO.cap
              rw [fl, le]
              by_cases f : P.fl z = 1
              · rw [if_pos f, if_pos f]
                have o := (ow z m k4).2 f
                have na : P.le z ≠ P.le x := fun e => by
                  have o2 := le0 _ o.1 e
                  exact n1 (o.2.2.1.symm.trans o2.2.2)
                have nx : P.le z ≠ x := fun e => by rw [e] at o; omega
                have sa := sm (P.le z) o.1 nx na
                rw [show P'.an (P.le z) = P.an (P.le z) from sa.2.1 1]
              · rw [if_neg f, if_neg f]
            rw [c]
          · rw [WT9.no ⟨k1, k2, k3, k4⟩, WT9.no (by rw [k]; exact ⟨k1, k2, k3, k4⟩)]
  have z31 : ∀ z : Nat, z ∈ L → z = P.le x → WT9 w P z = 0 := fun z m e => by
    have o := le0 z m e
    exact WT9.no ⟨by omega, by omega, by omega, by omega⟩
  have key := sumL_one (f := WT9 w P) (g := WT9 w P') n1 n2 mx g.1.1 (fun z m ne => by
    by_cases e : z = P.le x
    · exact Or.inl (z31 z m e)
    · exact Or.inr ⟨g.2.1 z m e, wt z m ne e⟩) (fun z m ne => by
    by_cases e : z = q
    · exact Or.inl (WT9.no (by rw [e, g.1.2.2.2.2.1]; exact ⟨by decide, by decide, by decide, by decide⟩))
    · have ml : z ∈ L := by
        rcases g.2.2.1 z m with k | k | k
        · exact absurd k ne
        · exact absurd k e
        · exact k
      by_cases e2 : z = P.le x
      · have o := le0 z ml e2
        have s := g.2.2.2.1 z ne e
        have k : P'.kd z = P.kd z := s.2.1 0
        exact Or.inl (WT9.no (by rw [k, o.2.1]; exact ⟨by decide, by decide, by decide, by decide⟩))
      · exact Or.inr ⟨ml, (wt z ml ne e2).symm⟩)
  unfold PSI
  rw [key, WT9.list kx, WT9.list g.1.2.2.1, Int.mul_sub]
  omega
/-- an object has come: what it weighs -/
theorem PSI.new (n1 : L.Nodup) (n2 : L'.Nodup) (h : GLF L P cO cI cZ ed) (g : EXT9 L P L' P') (nx : x ∉ L) (mx : x ∈ L') (o : ∀ z : Nat, z ∈ L' → z ≠ x → z ∈ L ∨ WT9 w P' z = 0) : PSI w L' P' = PSI w L P + WT9 w P' x := by
  have ow := h.2.2.2.1
  have wt : ∀ z : Nat, z ∈ L → WT9 w P' z = WT9 w P z := fun z m => by
    have s := (g z m).2
    have k : P'.kd z = P.kd z := s.2.1 0
    by_cases k1 : P.kd z = 17
    · rw [WT9.row k1, WT9.row (k.trans k1)]
    · by_cases k2 : P.kd z = 15
      · have pk := (h.2.2.1 z m k2).2.1
        have sp := (g (P.pp z) pk.1).2
        rw [WT9.phi k2, WT9.phi (k.trans k2), show P'.pp z = P.pp z from s.2.1 1, show P'.an (P.pp z) = P.an (P.pp z) from sp.2.1 1]
      · by_cases k3 : P.kd z = 12
        · rw [WT9.blk k3, WT9.blk (k.trans k3)]
        · by_cases k4 : P.kd z = 30
          · rw [WT9.list k4, WT9.list (k.trans k4)]
            have fl : P'.fl z = P.fl z := s.2.1 7
            have le : P'.le z = P.le z := s.2.1 1
            have c : P'.cap z = P.cap z := by
              unfold PO.cap
              rw [fl, le]
              by_cases f : P.fl z = 1
              · rw [if_pos f, if_pos f]
                have o := (ow z m k4).2 f
                have sa := (g (P.le z) o.1).2
                rw [show P'.an (P.le z) = P.an (P.le z) from sa.2.1 1]
              · rw [if_neg f, if_neg f]
            rw [c]
          · rw [WT9.no ⟨k1, k2, k3, k4⟩, WT9.no (by rw [k]; exact ⟨k1, k2, k3, k4⟩)]
  unfold PSI
  exact sumL_new (f := WT9 w P) (g := WT9 w P') n1 n2 nx mx (fun z m => Or.inr ⟨(g z m).1, wt z m⟩) (fun z m ne => by
    rcases o z m ne with q | q
    · exact Or.inr ⟨q, (wt z q).symm⟩
    · exact Or.inl q)
end PSI9
