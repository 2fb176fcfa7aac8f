/-! LMT: every object of a Code stands in its lists, and no list has grown over its limit; of kinds parked or not alike -/
def kcl (k : Nat) : Nat := if k = 17 ∨ k = 7 then 21 else if k = 15 ∨ k = 5 then 20 else if k = 12 ∨ k = 2 then 19 else if k = 30 ∨ k = 3 then 18 else 0
theorem kcl_cases (k : Nat) : ((k = 17 ∨ k = 7) ∧ kcl k = 21) ∨ ((k = 15 ∨ k = 5) ∧ kcl k = 20) ∨ ((k = 12 ∨ k = 2) ∧ kcl k = 19) ∨ ((k = 30 ∨ k = 3) ∧ kcl k = 18) ∨ ((k ≠ 17 ∧ k ≠ 7 ∧ k ≠ 15 ∧ k ≠ 5 ∧ k ≠ 12 ∧ k ≠ 2 ∧ k ≠ 30 ∧ k ≠ 3) ∧ kcl k = 0) := by
  unfold kcl
  by_cases h1 : k = 17 ∨ k = 7
  · rw [if_pos h1]; exact Or.inl ⟨h1, rfl⟩
  rw [if_neg h1]
  by_cases h2 : k = 15 ∨ k = 5
  · rw [if_pos h2]; exact Or.inr (Or.inl ⟨h2, rfl⟩)
  rw [if_neg h2]
  by_cases h3 : k = 12 ∨ k = 2
  · rw [if_pos h3]; exact Or.inr (Or.inr (Or.inl ⟨h3, rfl⟩))
  rw [if_neg h3]
  by_cases h4 : k = 30 ∨ k = 3
  · rw [if_pos h4]; exact Or.inr (Or.inr (Or.inr (Or.inl ⟨h4, rfl⟩)))
  rw [if_neg h4]
  exact Or.inr (Or.inr (Or.inr (Or.inr ⟨by omega, rfl⟩)))
def PO.kc (P : PO) (z : Nat) : Nat := kcl (P.kd z)
def va_cls (e : va_E) : Nat := match e with | .inl _ => 0 | .inr q => q.1
theorem pE_kc (P : PO) (z : Nat) : va_cls (pE P z) = if P.kd z = 13 then 22 else P.kc z := by
  have c := kcl_cases (P.kd z)
  unfold PO.kc
  by_cases h13 : P.kd z = 13
  · rw [if_pos h13, pE_str h13]; rfl
  rw [if_neg h13]
  unfold pE
  by_cases h1 : P.kd z = 17
  · rw [if_pos h1, h1]; rfl
  rw [if_neg h1]
  by_cases h2 : P.kd z = 15
  · rw [if_pos h2, h2]; rfl
  rw [if_neg h2]
  by_cases h3 : P.kd z = 12
  · rw [if_pos h3, h3]; rfl
  rw [if_neg h3]
  by_cases h4 : P.kd z = 30
  · rw [if_pos h4, h4]; rfl
  rw [if_neg h4]
  by_cases h5 : P.kd z = 31
  · rw [if_pos h5, h5]; rfl
  rw [if_neg h5, if_neg h13]
  unfold pK
  by_cases h6 : P.kd z = 7
  · rw [if_pos h6, h6]; rfl
  rw [if_neg h6]
  by_cases h7 : P.kd z = 5
  · rw [if_pos h7, h7]; rfl
  rw [if_neg h7]
  by_cases h8 : P.kd z = 2
  · rw [if_pos h8, h8]; rfl
  rw [if_neg h8]
  by_cases h9 : P.kd z = 3
  · rw [if_pos h9, h9]; rfl
  rw [if_neg h9]
  have e : kcl (P.kd z) = 0 := by omega
  rw [e]
  by_cases ha : P.kd z = 1
  · rw [if_pos ha]; rfl
  rw [if_neg ha]; rfl
theorem kc_kin {P : PO} {g : Nat → Nat} (e : pE (P.kin g) = pE P) (z : Nat) : (P.kin g).kc z = P.kc z := by
  have h := congrArg va_cls (congrFun e z)
  rw [pE_kc, pE_kc] at h
  have a := kcl_cases (P.kd z)
  have b := kcl_cases ((P.kin g).kd z)
  unfold PO.kc at *
  by_cases h1 : (P.kin g).kd z = 13
  · by_cases h2 : P.kd z = 13
    · rw [h1, h2]
    · rw [if_pos h1, if_neg h2] at h; omega
  · by_cases h2 : P.kd z = 13
    · rw [if_neg h1, if_pos h2] at h; omega
    · rw [if_neg h1, if_neg h2] at h; exact h
section LMT9
variable {L L' E : List Nat} {P P' Q Q' : PO} {F : Nat → Prop} {cO cI cZ : ClassId} {ed la lb lr lp x q z : Nat} {n p n' p' s c s' c' : Int} {w : Nat → Int}
/-- every object stands in a list of its Code -/
def COVC (L : List Nat) (P : PO) (la lb lr lp : Nat) : Prop := ∀ z : Nat, z ∈ L → (P.kc z = 21 → (∃ i : Int, 0 ≤ i ∧ i < P.lz lr ∧ z = P.el lr i) ∨ ∃ k : Int, 0 ≤ k ∧ k < P.lz lb ∧ z = P.be (P.el lb k)) ∧ (P.kc z = 20 → ∃ i : Int, 0 ≤ i ∧ i < P.lz lp ∧ z = P.el lp i) ∧ (P.kc z = 19 → ∃ k : Int, 0 ≤ k ∧ k < P.lz lb ∧ z = P.el lb k) ∧ (P.kc z = 18 → (z = la ∨ z = lb ∨ z = lr ∨ z = lp) ∨ ∃ k : Int, 0 ≤ k ∧ k < P.lz lb ∧ (z = P.br (P.el lb k) ∨ z = P.bp (P.el lb k)))
/-- the lists hold what they are for -/
def LMK (L : List Nat) (P : PO) (la lb lr lp : Nat) : Prop := (∀ l : Nat, l = la ∨ l = lb ∨ l = lr ∨ l = lp → l ∈ L ∧ P.kc l = 18) ∧ (∀ i : Int, 0 ≤ i → i < P.lz lr → P.el lr i ∈ L ∧ P.kc (P.el lr i) = 21) ∧ (∀ i : Int, 0 ≤ i → i < P.lz lp → P.el lp i ∈ L ∧ P.kc (P.el lp i) = 20) ∧ (∀ k : Int, 0 ≤ k → k < P.lz lb → (P.el lb k ∈ L ∧ P.kc (P.el lb k) = 19) ∧ (P.be (P.el lb k) ∈ L ∧ P.kc (P.be (P.el lb k)) = 21) ∧ (P.br (P.el lb k) ∈ L ∧ P.kc (P.br (P.el lb k)) = 18) ∧ P.bp (P.el lb k) ∈ L ∧ P.kc (P.bp (P.el lb k)) = 18)
/-- lengths that a PHI's rows have -/
def PHL (a : Nat) : Prop := a = 4 ∨ a = 8 ∨ a = 16 ∨ a = 32 ∨ a = 64
theorem PHL.le {a : Nat} (h : PHL a) : a ≤ 64 := by unfold PHL at h; omega
/-- rows of lists and PHIs are their own -/
def LMO (L : List Nat) (P : PO) (la lb lr lp : Nat) : Prop := (∀ z : Nat, z ∈ L → P.kc z = 18 → (P.fl z = 1 → P.le z ∈ L ∧ P.kc (P.le z) = 0 ∧ P.ow (P.le z) = z) ∧ (P.fl z ≠ 1 → P.lz z = 0)) ∧ (∀ z : Nat, z ∈ L → P.kc z = 20 → P.pp z ∈ L ∧ P.kc (P.pp z) = 0 ∧ P.ow (P.pp z) = z ∧ PHL (P.an (P.pp z))) ∧ (∀ z : Nat, z ∈ L → P.kc z = 19 → P.ow (P.br z) = z ∧ P.ow (P.bp z) = z ∧ P.br z ≠ P.bp z) ∧ ∀ l : Nat, l = la ∨ l = lb ∨ l = lr ∨ l = lp → P.ow l = l
/-- the limits -/
def LMC (P : PO) (la lb lr lp : Nat) : Prop := (P.lz lb ≤ 180 ∧ P.lz lr ≤ 4164 ∧ P.lz lp ≤ 1936 ∧ P.cap la ≤ 244 ∧ P.cap lb ≤ 244 ∧ P.cap lp ≤ 2776) ∧ ∀ k : Int, 0 ≤ k → k < P.lz lb → (1 ≤ k → P.cap (P.br (P.el lb k)) ≤ 1851) ∧ P.cap (P.bp (P.el lb k)) ≤ 823 ∧ (60 ≤ k → P.cap (P.bp (P.el lb k)) < 10)
def LMT (L : List Nat) (P : PO) (la lb lr lp : Nat) : Prop := (COVC L P la lb lr lp ∧ DST P lb) ∧ LMK L P la lb lr lp ∧ LMO L P la lb lr lp ∧ LMC P la lb lr lp
theorem DST.nb9 (h : DST P lb) (l : P'.lz lb = P.lz lb ∧ ∀ i : Int, 0 ≤ i → i < P.lz lb → P'.el lb i = P.el lb i) (b : ∀ i : Int, 0 ≤ i → i < P.lz lb → P'.be (P.el lb i) = P.be (P.el lb i)) : DST P' lb := fun i j i0 ij j1 => by
  rw [l.1] at j1
  rw [l.2 i i0 (by omega), l.2 j (by omega) j1, b i i0 (by omega), b j (by omega) j1]
  exact h i j i0 ij j1
theorem LMT.kin {g : Nat → Nat} (h : LMT L P la lb lr lp) (e : pE (P.kin g) = pE P) : LMT L (P.kin g) la lb lr lp := by
  have k := fun z => kc_kin e z
  obtain ⟨⟨a, ds⟩, ⟨b1, b2, b3, b4⟩, ⟨c1, c2, c3, c4⟩, d⟩ := h
  refine ⟨⟨fun z m => ?_, ds⟩, ⟨fun l m => ?_, fun i i0 i1 => ?_, fun i i0 i1 => ?_, fun i i0 i1 => ?_⟩, ⟨fun z m u => ?_, fun z m u => ?_, fun z m u => ?_, c4⟩, d⟩
  · rw [k z]; exact a z m
  · rw [k l]; exact b1 l m
  · rw [k]; exact b2 i i0 i1
  · rw [k]; exact b3 i i0 i1
  · rw [k, k, k, k]; exact b4 i i0 i1
  · rw [k] at u; rw [k]; exact c1 z m u
  · rw [k] at u; rw [k]; exact c2 z m u
  · rw [k] at u; exact c3 z m u
theorem LMT.kin' {g : Nat → Nat} (h : LMT L (P.kin g) la lb lr lp) (e : pE (P.kin g) = pE P) : LMT L P la lb lr lp := by
  have k := fun z => (kc_kin e z).symm
  obtain ⟨⟨a, ds⟩, ⟨b1, b2, b3, b4⟩, ⟨c1, c2, c3, c4⟩, d⟩ := h
  refine ⟨⟨fun z m => ?_, ds⟩, ⟨fun l m => ?_, fun i i0 i1 => ?_, fun i i0 i1 => ?_, fun i i0 i1 => ?_⟩, ⟨fun z m u => ?_, fun z m u => ?_, fun z m u => ?_, c4⟩, d⟩
  · rw [k z]; exact a z m
  · rw [k l]; exact b1 l m
  · rw [k]; exact b2 i i0 i1
  · rw [k]; exact b3 i i0 i1
  · rw [k, k, k, k]; exact b4 i i0 i1
  · rw [k] at u; rw [k]; exact c1 z m u
  · rw [k] at u; rw [k]; exact c2 z m u
  · rw [k] at u; exact c3 z m u
/-- a step that leaves the Code's lists as they are -/
theorem LMT.step (h : LMT L P la lb lr lp) (hc : ∀ z : Nat, z ∈ L → P.kc z ≠ 0 → z ∈ L' ∧ P'.kc z = P.kc z) (hn : ∀ z : Nat, z ∈ L' → z ∉ L → P'.kc z = 0) (h0 : ∀ z : Nat, z ∈ L → z ∈ L' → P.kc z = 0 → P'.kc z = 0) (hb : ∀ z : Nat, z ∈ L → P.kc z = 19 → P'.bp z = P.bp z ∧ P'.br z = P.br z ∧ P'.be z = P.be z) (hl : ∀ l : Nat, l = lb ∨ l = lr ∨ l = lp → P'.lz l = P.lz l ∧ ∀ i : Int, 0 ≤ i → i < P.lz l → P'.el l i = P.el l i) (ho : LMO L' P' la lb lr lp) (hk : LMC P' la lb lr lp) : LMT L' P' la lb lr lp := by
  obtain ⟨⟨a, ds⟩, ⟨b1, b2, b3, b4⟩, c, d⟩ := h
  have lb9 := hl lb (Or.inl rfl)
  have lr9 := hl lr (Or.inr (Or.inl rfl))
  have lp9 := hl lp (Or.inr (Or.inr rfl))
  have old : ∀ z : Nat, z ∈ L' → P'.kc z ≠ 0 → z ∈ L ∧ P'.kc z = P.kc z := fun z m nz => by
    by_cases q : z ∈ L
    · refine ⟨q, ?_⟩
      by_cases r : P.kc z = 0
      · exact absurd (h0 z q m r) nz
      · exact (hc z q r).2
    · exact absurd (hn z m q) nz
  have mv : ∀ (z k : Nat), z ∈ L ∧ P.kc z = k → k ≠ 0 → z ∈ L' ∧ P'.kc z = k := fun z k q nz => by
    have r := hc z q.1 (by rw [q.2]; exact nz)
    exact ⟨r.1, r.2.trans q.2⟩
  have bk : ∀ k : Int, 0 ≤ k → k < P.lz lb → P'.el lb k = P.el lb k ∧ P'.bp (P.el lb k) = P.bp (P.el lb k) ∧ P'.br (P.el lb k) = P.br (P.el lb k) ∧ P'.be (P.el lb k) = P.be (P.el lb k) := fun k k0 k1 => ⟨lb9.2 k k0 k1, hb _ (b4 k k0 k1).1.1 (b4 k k0 k1).1.2⟩
  refine ⟨⟨fun z m => ⟨fun u => ?_, fun u => ?_, fun u => ?_, fun u => ?_⟩, ds.nb9 lb9 (fun k k0 k1 => (bk k k0 k1).2.2.2)⟩, ⟨fun l m => mv _ _ (b1 l m) (by decide), fun i i0 i1 => ?_, fun i i0 i1 => ?_, fun k k0 k1 => ?_⟩, ho, hk⟩
  · obtain ⟨m0, e⟩ := old z m (by omega)
    rcases (a z m0).1 (by omega) with ⟨i, i0, i1, e1⟩ | ⟨k, k0, k1, e1⟩
    · exact Or.inl ⟨i, i0, by rw [lr9.1]; exact i1, by rw [lr9.2 i i0 i1]; exact e1⟩
    · exact Or.inr ⟨k, k0, by rw [lb9.1]; exact k1, by rw [(bk k k0 k1).1, (bk k k0 k1).2.2.2]; exact e1⟩
  · obtain ⟨m0, e⟩ := old z m (by omega)
    obtain ⟨i, i0, i1, e1⟩ := (a z m0).2.1 (by omega)
    exact ⟨i, i0, by rw [lp9.1]; exact i1, by rw [lp9.2 i i0 i1]; exact e1⟩
  · obtain ⟨m0, e⟩ := old z m (by omega)
    obtain ⟨i, i0, i1, e1⟩ := (a z m0).2.2.1 (by omega)
    exact ⟨i, i0, by rw [lb9.1]; exact i1, by rw [lb9.2 i i0 i1]; exact e1⟩
  · obtain ⟨m0, e⟩ := old z m (by omega)
    rcases (a z m0).2.2.2 (by omega) with e1 | ⟨k, k0, k1, e1⟩
    · exact Or.inl e1
    · exact Or.inr ⟨k, k0, by rw [lb9.1]; exact k1, by rw [(bk k k0 k1).1, (bk k k0 k1).2.2.1, (bk k k0 k1).2.1]; exact e1⟩
  · rw [lr9.1] at i1; rw [lr9.2 i i0 i1]; exact mv _ _ (b2 i i0 i1) (by decide)
  · rw [lp9.1] at i1; rw [lp9.2 i i0 i1]; exact mv _ _ (b3 i i0 i1) (by decide)
  · rw [lb9.1] at k1
    obtain ⟨e1, e2, e3, e4⟩ := bk k k0 k1
    rw [e1, e2, e3, e4]
    have r := b4 k k0 k1
    exact ⟨mv _ _ r.1 (by decide), mv _ _ r.2.1 (by decide), mv _ _ r.2.2.1 (by decide), mv _ _ r.2.2.2 (by decide)⟩
/-- limits where the lengths are as they were -/
theorem LMC.same (h : LMC P la lb lr lp) (hl : ∀ l : Nat, l = lb ∨ l = lr ∨ l = lp → P'.lz l = P.lz l ∧ ∀ i : Int, 0 ≤ i → i < P.lz l → P'.el l i = P.el l i) (hb : ∀ k : Int, 0 ≤ k → k < P.lz lb → P'.bp (P.el lb k) = P.bp (P.el lb k) ∧ P'.br (P.el lb k) = P.br (P.el lb k)) (ca : P'.cap la ≤ 244) (cb : P'.cap lb ≤ 244) (cp : P'.cap lp ≤ 2776) (ck : ∀ k : Int, 0 ≤ k → k < P.lz lb → (1 ≤ k → P'.cap (P.br (P.el lb k)) ≤ 1851) ∧ P'.cap (P.bp (P.el lb k)) ≤ 823 ∧ (60 ≤ k → P'.cap (P.bp (P.el lb k)) < 10)) : LMC P' la lb lr lp := by
  have lb9 := hl lb (Or.inl rfl)
  have lr9 := hl lr (Or.inr (Or.inl rfl))
  have lp9 := hl lp (Or.inr (Or.inr rfl))
  obtain ⟨⟨a1, a2, a3, a4, a5, a6⟩, b⟩ := h
  refine ⟨⟨by rw [lb9.1]; exact a1, by rw [lr9.1]; exact a2, by rw [lp9.1]; exact a3, ca, cb, cp⟩, fun k k0 k1 => ?_⟩
  rw [lb9.1] at k1
  rw [lb9.2 k k0 k1, (hb k k0 k1).1, (hb k k0 k1).2]
  exact ck k k0 k1
end LMT9
