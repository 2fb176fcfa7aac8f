/-! colours: the least that is free, and how many are taken -/
def CLD (w : Int → Int) (d : Int) : Prop := ∀ c : Int, 0 ≤ c → c < d → w c = 0
def TKX (w g : Int → Int) : Prop := ∀ c : Int, 0 ≤ c → c ≤ 1001 → w c ≠ 0 → ∃ r : Int, 0 ≤ r ∧ r < 1002 ∧ g r = c
def TKL (w : Int → Int) (d : Int) : Prop := ∀ c : Int, 0 ≤ c → c < d → w c ≠ 0
/-- every colour below z is one of g's -/
def LSX (g : Int → Int) (z : Int) : Prop := ∀ c : Int, 0 ≤ c → c < z → ∃ r : Int, 0 ≤ r ∧ r < 1002 ∧ g r = c
/-- how many registers have a colour -/
def CNT (g : Int → Int) : Int := sumI (fun r => if 0 ≤ g r then 1 else 0) 1002
def ALN (g : Int → Int) (d : Int) : Prop := ∀ r : Int, 0 ≤ r → r < d → g r = -1
section COL9
variable {w g : Int → Int} {d v t z r : Int}
theorem CLD.first (w : Int → Int) : CLD w 0 := fun c c0 c1 => by omega
theorem CLD.step (h : CLD w d) : CLD (zup w d 0) (d + 1) := fun c c0 c1 => by
  by_cases e : c = d
  · rw [e, zup_eq]
  · rw [zup_ne _ _ e]; exact h c c0 (by omega)
theorem CLD.tkx (h : CLD w d) (q : 1002 ≤ d) (g : Int → Int) : TKX w g := fun c c0 c1 n => absurd (h c c0 (by omega)) n
theorem TKX.put (h : TKX w g) (r0 : 0 ≤ r) (r1 : r < 1002) : TKX (zup w (g r) v) g := fun c c0 c1 n => by
  by_cases e : c = g r
  · exact ⟨r, r0, r1, e.symm⟩
  · rw [zup_ne _ _ e] at n; exact h c c0 c1 n
theorem TKL.first (w : Int → Int) : TKL w 0 := fun c c0 c1 => by omega
theorem TKL.step (h : TKL w d) (n : w d ≠ 0) : TKL w (d + 1) := fun c c0 c1 => by
  by_cases e : c = d
  · rw [e]; exact n
  · exact h c c0 (by omega)
theorem TKL.lsx (h : TKL w d) (k : TKX w g) (q : d ≤ 1002) : LSX g d := fun c c0 c1 => k c c0 (by omega) (h c c0 c1)
theorem LSX.le (h : LSX g z) (z0 : 0 ≤ z) : z ≤ CNT g := by
  have ex : ∃ o : Int → Int, ∀ c : Int, 0 ≤ c → c < z → 0 ≤ o c ∧ o c < 1002 ∧ g (o c) = c := by
    refine ⟨fun c => if q : 0 ≤ c ∧ c < z then Classical.choose (h c q.1 q.2) else 0, fun c c0 c1 => ?_⟩
    have q : 0 ≤ c ∧ c < z := ⟨c0, c1⟩
    have e : (if q : 0 ≤ c ∧ c < z then Classical.choose (h c q.1 q.2) else 0) = Classical.choose (h c c0 c1) := dif_pos q
    show 0 ≤ (if q : 0 ≤ c ∧ c < z then Classical.choose (h c q.1 q.2) else 0) ∧ (if q : 0 ≤ c ∧ c < z then Classical.choose (h c q.1 q.2) else 0) < 1002 ∧ g (if q : 0 ≤ c ∧ c < z then Classical.choose (h c q.1 q.2) else 0) = c
    rw [e]
    exact Classical.choose_spec (h c c0 c1)
  obtain ⟨o, ho⟩ := ex
  have s := sumI_ord (ord := o) (N := 1002) z.toNat (fun r => if 0 ≤ g r then 1 else 0) (fun b _ _ => by
    show (0 : Int) ≤ if 0 ≤ g b then 1 else 0
    by_cases q : 0 ≤ g b
    · rw [if_pos q]; decide
    · rw [if_neg q]; decide) (fun j j0 j1 => by
    have q := ho j j0 (by omega)
    exact ⟨q.1, q.2.1⟩) (fun i j i0 ij j1 e => by
    have q1 := (ho i i0 (by omega)).2.2
    have q2 := (ho j (by omega) (by omega)).2.2
    rw [e, q2] at q1
    omega)
  have e : ∀ m : Nat, (m : Int) ≤ z → sumI (fun j => if 0 ≤ g (o j) then 1 else 0) m = m := by
    intro m
    induction m with
    | zero => intro _; rfl
    | succ m ih =>
      intro q
      show sumI (fun j => if 0 ≤ g (o j) then 1 else 0) m + (if 0 ≤ g (o m) then 1 else 0) = _
      have p := (ho m (by omega) (by omega)).2.2
      rw [ih (by omega), p, if_pos (by omega)]
      omega
  have e2 := e z.toNat (by omega)
  have s' : sumI (fun j => if 0 ≤ g (o j) then 1 else 0) z.toNat ≤ CNT g := s
  rw [e2] at s'
  omega
theorem CNT.put (g : Int → Int) (t v : Int) : CNT (zup g t v) ≤ CNT g + 1 := by
  by_cases q : 0 ≤ t ∧ t < ((1002 : Nat) : Int)
  · have s := sumI_one (f := fun r => if 0 ≤ g r then 1 else 0) (g := fun r => if 0 ≤ zup g t v r then 1 else 0) (n := 1002) (k := t) (d := (if 0 ≤ v then 1 else 0) - (if 0 ≤ g t then 1 else 0)) q.1 q.2 (by
      show (if 0 ≤ zup g t v t then (1 : Int) else 0) = (if 0 ≤ g t then 1 else 0) + ((if 0 ≤ v then 1 else 0) - (if 0 ≤ g t then 1 else 0))
      rw [zup_eq]; omega) (fun i _ _ ne => by
      show (if 0 ≤ zup g t v i then (1 : Int) else 0) = if 0 ≤ g i then 1 else 0
      rw [zup_ne _ _ ne])
    have a : (if 0 ≤ v then (1 : Int) else 0) ≤ 1 := by by_cases e : 0 ≤ v <;> simp [e]
    have b : (0 : Int) ≤ (if 0 ≤ g t then (1 : Int) else 0) := by by_cases e : 0 ≤ g t <;> simp [e]
    unfold CNT
    omega
  · have s : CNT (zup g t v) = CNT g := sumI_eq (fun i i0 i1 => by
      have ne : i ≠ t := fun e => q (by rw [← e]; exact ⟨i0, i1⟩)
      show (if 0 ≤ zup g t v i then (1 : Int) else 0) = if 0 ≤ g i then 1 else 0
      rw [zup_ne _ _ ne])
    omega
theorem ALN.first (g : Int → Int) : ALN g 0 := fun r r0 r1 => by omega
theorem ALN.step (h : ALN g d) : ALN (zup g d (-1)) (d + 1) := fun r r0 r1 => by
  by_cases e : r = d
  · rw [e, zup_eq]
  · rw [zup_ne _ _ e]; exact h r r0 (by omega)
theorem ALN.cnt (h : ALN g d) (q : 1002 ≤ d) : CNT g = 0 := by
  have e : CNT g = sumI (fun _ => 0) 1002 := sumI_eq (fun i i0 i1 => by
    show (if 0 ≤ g i then (1 : Int) else 0) = 0
    rw [h i i0 (by omega), if_neg (by decide)])
  rw [e]; exact sumI_zero 1002
end COL9
