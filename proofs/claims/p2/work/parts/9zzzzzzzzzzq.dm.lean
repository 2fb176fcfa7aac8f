/-! the tables of what dominates, as they are made -/
section DOM10
variable {P P' Q P2 : PO} {la y : Nat} {a b c d e u v n m : Int} {f g h dp : Int → Int} {fd : Nat → Option Nat}
/-- all the same but contents of rows of numbers -/
def SMS (P P' : PO) : Prop := P'.1 = P.1 ∧ P'.2.1 = P.2.1 ∧ P'.2.2.1 = P.2.2.1 ∧ P'.2.2.2.2 = P.2.2.2.2
theorem SMS.refl (P : PO) : SMS P P := ⟨rfl, rfl, rfl, rfl⟩
theorem SMS.trans (h : SMS P P') (k : SMS P' P2) : SMS P P2 := ⟨k.1.trans h.1, k.2.1.trans h.2.1, k.2.2.1.trans h.2.2.1, k.2.2.2.trans h.2.2.2⟩
theorem SMS.ri9 (P : PO) (y : Nat) (g : Int → Int) : SMS P (P.ri9 y g) := ⟨rfl, rfl, rfl, rfl⟩
theorem SMS.any (h : SMS P P') (C : PO → Prop) (k : ∀ (a b : Nat → Int → Int) (i : Nat → Nat → Int) (n : Nat → Nat → Nat) (o : Nat → Nat → Option Nat) (c : Nat → ClassId), C (i, n, o, a, c) → C (i, n, o, b, c)) (q : C P') : C P := by
  obtain ⟨i, m, o, a, c⟩ := P
  obtain ⟨i', m', o', a', c'⟩ := P'
  obtain ⟨h1, h2, h3, h4⟩ := h
  have h1 : i' = i := h1
  have h2 : m' = m := h2
  have h3 : o' = o := h3
  have h4 : c' = c := h4
  subst h1; subst h2; subst h3; subst h4
  exact k _ _ _ _ _ _ q
theorem SMS.rcx (h : SMS P P') (k : RCX P' la u f n) : RCX P la u f n := h.any (fun Q => RCX Q la u f n) (fun _ _ _ _ _ _ q => q) k
theorem SMS.symm (h : SMS P P') : SMS P' P := ⟨h.1.symm, h.2.1.symm, h.2.2.1.symm, h.2.2.2.symm⟩
theorem SMS.dom (h : SMS P P') (k : DOM P' la a b) : DOM P la a b := h.any (fun Q => DOM Q la a b) (fun _ _ _ _ _ _ q => q) k
theorem SMS.idm (h : SMS P P') (k : IDM P' la a b) : IDM P la a b := h.any (fun Q => IDM Q la a b) (fun _ _ _ _ _ _ q => q) k
theorem LVT.same (ey : fd a.toNat = some y) (hP : P' = P.ri9 y (zup (P.ia y) e v)) : LVT P' fd a e = v := by
  unfold LVT
  rw [ey, hP]
  show (P.ri9 y (zup (P.ia y) e v)).ia y e = v
  rw [ri9_at, zup_eq]
/-- the first m rows of the table tell what dominates what -/
def DRWE (Q P : PO) (fd : Nat → Option Nat) (la : Nat) (n m : Int) : Prop := ∀ a b : Int, 0 ≤ a → a < m → 0 ≤ b → b < n → (LVT P fd a b ≠ 0 ↔ DOM Q la a b)
theorem DRWE.none (Q P : PO) (fd : Nat → Option Nat) (la : Nat) (n : Int) : DRWE Q P fd la n 0 := fun a b a0 a1 => by omega
theorem DRWE.put {k : Int} (r : DRWE Q P fd la n m) (t : TDI fd k) (ey : fd m.toNat = some y) (m0 : 0 ≤ m) (m1 : m < k) (all : ∀ i : Int, 0 ≤ i → i < k → ∃ z : Nat, fd i.toNat = some z) (hP : P' = P.ri9 y (zup (P.ia y) e v)) : DRWE Q P' fd la n m := fun a b a0 a1 b0 b1 => by
  rw [LVT.put t ey m0 m1 a0 (by omega) all hP (fun q => by have := q.1; omega)]
  exact r a b a0 a1 b0 b1
/-- the row a, as far as d -/
def DRR (P : PO) (fd : Nat → Option Nat) (a d : Int) (g h : Int → Int) : Prop := ∀ b : Int, 0 ≤ b → b < d → (LVT P fd a b ≠ 0 ↔ (g b ≠ 0 ∧ h b = 0))
theorem DRR.none (P : PO) (fd : Nat → Option Nat) (a : Int) (g h : Int → Int) : DRR P fd a 0 g h := fun b b0 b1 => by omega
theorem DRR.put {k : Int} (r : DRR P fd a d g h) (t : TDI fd k) (ey : fd a.toNat = some y) (a0 : 0 ≤ a) (a1 : a < k) (all : ∀ i : Int, 0 ≤ i → i < k → ∃ z : Nat, fd i.toNat = some z) (hP : P' = P.ri9 y (zup (P.ia y) d v)) (w : v ≠ 0 ↔ (g d ≠ 0 ∧ h d = 0)) : DRR P' fd a (d + 1) g h := fun b b0 b1 => by
  by_cases q : b = d
  · rw [q, LVT.same ey hP]; exact w
  · rw [LVT.put t ey a0 a1 a0 a1 all hP (fun z => q z.2)]
    exact r b b0 (by omega)
theorem DRWE.row (r : DRWE Q P fd la n a) (k : DRR P fd a d g h) (dn : n ≤ d) (a0 : 0 ≤ a) (a1 : a < n) (rg : RCX Q la (-1) g n) (rh : RCX Q la a h n) (w : g a ≠ 0) : DRWE Q P fd la n (a + 1) := fun x b x0 x1 b0 b1 => by
  by_cases q : x = a
  · rw [q, k b b0 (by omega), rg b b0 b1]
    have ra := (rg a a0 a1).mp w
    have rb := rh b b0 b1
    exact ⟨fun z => ⟨ra, z.1, fun y => rb.mpr y z.2⟩, fun z => ⟨z.2.1, Classical.byContradiction fun y => z.2.2 (rb.mp y)⟩⟩
  · exact r x b x0 (by omega) b0 b1
/-- a row of zeros -/
def DRZ (P : PO) (fd : Nat → Option Nat) (a d : Int) : Prop := ∀ b : Int, 0 ≤ b → b < d → LVT P fd a b = 0
theorem DRZ.none (P : PO) (fd : Nat → Option Nat) (a : Int) : DRZ P fd a 0 := fun b b0 b1 => by omega
theorem DRZ.put {k : Int} (r : DRZ P fd a d) (t : TDI fd k) (ey : fd a.toNat = some y) (a0 : 0 ≤ a) (a1 : a < k) (all : ∀ i : Int, 0 ≤ i → i < k → ∃ z : Nat, fd i.toNat = some z) (hP : P' = P.ri9 y (zup (P.ia y) d 0)) : DRZ P' fd a (d + 1) := fun b b0 b1 => by
  by_cases q : b = d
  · rw [q, LVT.same ey hP]
  · rw [LVT.put t ey a0 a1 a0 a1 all hP (fun z => q z.2)]
    exact r b b0 (by omega)
theorem DRWE.zero (r : DRWE Q P fd la n a) (k : DRZ P fd a d) (dn : n ≤ d) (a0 : 0 ≤ a) (a1 : a < n) (rg : RCX Q la (-1) g n) (w : g a = 0) : DRWE Q P fd la n (a + 1) := fun x b x0 x1 b0 b1 => by
  by_cases q : x = a
  · rw [q, k b b0 (by omega)]
    exact ⟨fun z => absurd rfl z, fun z => absurd w ((rg a a0 a1).mpr z.1)⟩
  · exact r x b x0 (by omega) b0 b1
/-- how many dominate: the first d of the table counted -/
def DPC (P : PO) (fd : Nat → Option Nat) (b d : Int) : Int := sumI (fun a => LVT P fd a b) d.toNat
theorem DPC.zero (P : PO) (fd : Nat → Option Nat) (b : Int) : DPC P fd b 0 = 0 := rfl
theorem DPC.step (d0 : 0 ≤ d) : DPC P fd b (d + 1) = DPC P fd b d + LVT P fd d b := by
  unfold DPC
  rw [show (d + 1).toNat = d.toNat + 1 by omega]
  show sumI _ d.toNat + LVT P fd (d.toNat : Int) b = _
  rw [show ((d.toNat : Nat) : Int) = d by omega]
def DPH (P : PO) (fd : Nat → Option Nat) (f : Int → Int) (n m : Int) : Prop := ∀ b : Int, 0 ≤ b → b < m → f b = DPC P fd b n
theorem DPH.none (P : PO) (fd : Nat → Option Nat) (f : Int → Int) (n : Int) : DPH P fd f n 0 := fun b b0 b1 => by omega
theorem DPH.put (r : DPH P fd f n m) (w : v = DPC P fd m n) : DPH P fd (zup f m v) n (m + 1) := fun b b0 b1 => by
  by_cases q : b = m
  · rw [q, zup_eq]; exact w
  · rw [zup_ne _ _ q]; exact r b b0 (by omega)
theorem DPH.keep (r : DPH P fd f n m) (q : m ≤ e) : DPH P fd (zup f e v) n m := fun b b0 b1 => by
  rw [zup_ne _ _ (by omega)]; exact r b b0 b1
/-- what dominates another has fewer above it -/
theorem DPH.lt (r : DRWE Q P fd la n n) (k : DPH P fd dp n n) (rng : ∀ x z : Int, 0 ≤ x → x < n → 0 ≤ LVT P fd x z ∧ LVT P fd x z ≤ 1) (w : DOM Q la a c) (ne : a ≠ c) (a0 : 0 ≤ a) (a1 : a < n) (c0 : 0 ≤ c) (c1 : c < n) : dp a < dp c := by
  rw [k a a0 a1, k c c0 c1]
  unfold DPC
  have h1 : LVT P fd c a = 0 := Classical.byContradiction fun z => ne (w.anti ((r c a c0 c1 a0 a1).mp z))
  have h2 : LVT P fd c c ≠ 0 := (r c c c0 c1 c0 c1).mpr (DOM.refl w.2.1)
  have h3 := rng c c c0 c1
  have s1 := sumI_one (f := fun x => LVT P fd x a) (g := fun x => if x = c then 1 else LVT P fd x a) (n := n.toNat) (k := c) (d := 1) c0 (by omega) (by show (if c = c then (1 : Int) else LVT P fd c a) = LVT P fd c a + 1; rw [if_pos rfl, h1]; rfl) (fun i _ _ ni => if_neg ni)
  have s2 := sumI_le (f := fun x => if x = c then 1 else LVT P fd x a) (g := fun x => LVT P fd x c) (n := n.toNat) (fun i i0 i1 => by
    show (if i = c then (1 : Int) else LVT P fd i a) ≤ LVT P fd i c
    split
    · rename_i q; rw [q]; omega
    · by_cases z : LVT P fd i a = 0
      · have := rng i c i0 (by omega); omega
      · have z2 : LVT P fd i c ≠ 0 := (r i c i0 (by omega) c0 c1).mpr (((r i a i0 (by omega) a0 a1).mp z).trans w)
        have := rng i c i0 (by omega)
        have := rng i a i0 (by omega)
        omega)
  omega
/-- the nearest so far of those before d -/
def IDP (P : PO) (fd : Nat → Option Nat) (dp : Int → Int) (b d v : Int) : Prop := (v = -1 ∧ ∀ a : Int, 0 ≤ a → a < d → a ≠ b → LVT P fd a b = 0) ∨ ((0 ≤ v ∧ v < d) ∧ v ≠ b ∧ LVT P fd v b ≠ 0 ∧ ∀ a : Int, 0 ≤ a → a < d → a ≠ b → LVT P fd a b ≠ 0 → dp a ≤ dp v)
theorem IDP.none (P : PO) (fd : Nat → Option Nat) (dp : Int → Int) (b : Int) : IDP P fd dp b 0 (-1) := Or.inl ⟨rfl, fun a a0 a1 => by omega⟩
theorem IDP.skip (r : IDP P fd dp b d v) (w : d = b ∨ LVT P fd d b = 0 ∨ (0 ≤ v ∧ dp d ≤ dp v)) : IDP P fd dp b (d + 1) v := by
  rcases r with ⟨e, k⟩ | ⟨⟨v0, v1⟩, v2, v3, k⟩
  · refine Or.inl ⟨e, fun a a0 a1 ne => ?_⟩
    by_cases q : a = d
    · rw [q] at ne ⊢; exact w.elim (fun z => absurd z ne) (fun z => z.elim id (fun y => by omega))
    · exact k a a0 (by omega) ne
  · refine Or.inr ⟨⟨v0, by omega⟩, v2, v3, fun a a0 a1 ne l => ?_⟩
    by_cases q : a = d
    · rw [q] at ne l ⊢; exact w.elim (fun z => absurd z ne) (fun z => z.elim (fun y => absurd y l) (fun y => y.2))
    · exact k a a0 (by omega) ne l
theorem IDP.take (r : IDP P fd dp b d v) (d0 : 0 ≤ d) (ne : d ≠ b) (l : LVT P fd d b ≠ 0) (w : v < 0 ∨ dp v < dp d) : IDP P fd dp b (d + 1) d := by
  refine Or.inr ⟨⟨d0, by omega⟩, ne, l, fun a a0 a1 na la9 => ?_⟩
  by_cases q : a = d
  · rw [q]; exact Int.le_refl _
  · rcases r with ⟨e, k⟩ | ⟨⟨v0, v1⟩, v2, v3, k⟩
    · exact absurd (k a a0 (by omega) na) la9
    · have := k a a0 (by omega) na la9
      omega
/-- of the first m blocks, those that are come to, the nearest is told -/
def IDQ (P : PO) (fd : Nat → Option Nat) (dp g idm : Int → Int) (n m : Int) : Prop := ∀ b : Int, 0 ≤ b → b < m → g b ≠ 0 → IDP P fd dp b n (idm b)
theorem IDQ.none (P : PO) (fd : Nat → Option Nat) (dp g idm : Int → Int) (n : Int) : IDQ P fd dp g idm n 0 := fun b b0 b1 => by omega
theorem IDQ.keep {idm : Int → Int} (r : IDQ P fd dp g idm n m) (q : m ≤ e) : IDQ P fd dp g (zup idm e v) n m := fun b b0 b1 w => by
  rw [zup_ne _ _ (by omega)]; exact r b b0 b1 w
theorem IDQ.next {idm : Int → Int} (r : IDQ P fd dp g idm n m) (w : g m ≠ 0 → IDP P fd dp m n (idm m)) : IDQ P fd dp g idm n (m + 1) := fun b b0 b1 q => by
  by_cases z : b = m
  · rw [z] at q ⊢; exact w q
  · exact r b b0 (by omega) q
theorem IDQ.idm {idm : Int → Int} (r : IDQ P fd dp g idm n n) (t : DRWE Q P fd la n n) (k : DPH P fd dp n n) (rng : ∀ x z : Int, 0 ≤ x → x < n → 0 ≤ LVT P fd x z ∧ LVT P fd x z ≤ 1) (rg : RCX Q la (-1) g n) (inr : ∀ c b : Int, DOM Q la c b → 0 ≤ c ∧ c < n) (b0 : 0 < b) (b1 : b < n) (w : g b ≠ 0) : IDM Q la (idm b) b ∧ 0 ≤ idm b ∧ idm b < n := by
  have rb := (rg b (by omega) b1).mp w
  have d0 : DOM Q la 0 b := ⟨RCH.zero (by decide), rb, fun z => (z (fun _ => False) (fun q => absurd rfl q) (fun _ _ q _ _ => q)).elim⟩
  have l0 := (t 0 b (by omega) (by omega) (by omega) b1).mpr d0
  rcases r b (by omega) b1 w with ⟨_, q⟩ | ⟨⟨v0, v1⟩, v2, v3, q⟩
  · exact absurd (q 0 (by omega) (by omega) (by omega)) l0
  · refine ⟨⟨(t _ b v0 v1 (by omega) b1).mp v3, v2, fun c cb ne ⟨ac, na⟩ => ?_⟩, v0, v1⟩
    obtain ⟨c0, c1⟩ := inr c b cb
    have lt := DPH.lt t k rng ac na v0 v1 c0 c1
    have le := q c c0 c1 ne ((t c b c0 c1 (by omega) b1).mpr cb)
    omega
end DOM10
