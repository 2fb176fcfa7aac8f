/-! join: what a function's lists may still cost, behind changes in place and a drop -/
theorem sumI_up {f : Int → Int} : ∀ (n k : Nat), (∀ i : Int, 0 ≤ i → i < n → 0 ≤ f i) → k ≤ n → sumI f k ≤ sumI f n
  | 0, k, _, h => by rw [show k = 0 from by omega]; exact Int.le_refl _
  | n + 1, k, p, h => by
    by_cases e : k = n + 1
    · rw [e]; exact Int.le_refl _
    · have t := sumI_up n k (fun i i0 i1 => p i i0 (by omega)) (by omega)
      have q := p n (by omega) (by omega)
      show sumI f k ≤ sumI f n + f n
      omega
theorem sumI_sub {f s : Int → Int} : ∀ (m n : Nat), (∀ i : Int, 0 ≤ i → i < m → 0 ≤ s i ∧ s i < n) → (∀ i j : Int, 0 ≤ i → i < j → j < m → s i < s j) → (∀ i : Int, 0 ≤ i → i < n → 0 ≤ f i) → sumI (fun i => f (s i)) m ≤ sumI f n
  | 0, n, _, _, p => sumI_up n 0 p (by omega)
  | m + 1, n, h, g, p => by
    have hm := h m (by omega) (by omega)
    obtain ⟨k, hk⟩ : ∃ k : Nat, (k : Int) = s m := ⟨(s m).toNat, by omega⟩
    have ih := sumI_sub (f := f) (s := s) m k (fun i i0 i1 => ⟨(h i i0 (by omega)).1, by have := g i m i0 i1 (by omega); omega⟩) (fun i j i0 ij j1 => g i j i0 ij (by omega)) (fun i i0 i1 => p i i0 (by omega))
    have up := sumI_up (f := f) n (k + 1) p (by omega)
    have e : sumI f (k + 1) = sumI f k + f k := rfl
    show sumI (fun i => f (s i)) m + f (s m) ≤ sumI f n
    rw [← hk]
    omega
section JNG9
variable {L L' L2 E E2 : List Nat} {P Q B : PO} {cO cI cZ : ClassId} {ed la : Nat} {m : Int} {st aa s : Int → Int}
theorem KEP.gap (ke : KEP E L P L' Q la) (e : Q.2.1 = P.2.1) : Q.gap la = P.gap la := by
  unfold PO.gap
  rw [ke.2.2.1]
  refine sumI_eq (fun i a b => ?_)
  rw [ke.2.2.2 i a (by omega), cap_same e, show Q.br (P.el la i) = P.br (P.el la i) from by unfold PO.br; rw [e]]
theorem gap_two (k1 : KEP E L P L' B la) (k2 : KEP E2 L P L2 Q la) (e : Q.2.1 = B.2.1) : Q.gap la = B.gap la := by
  unfold PO.gap
  rw [k1.2.2.1, k2.2.2.1]
  refine sumI_eq (fun i a b => ?_)
  rw [k1.2.2.2 i a (by omega), k2.2.2.2 i a (by omega), cap_same e, show Q.br (P.el la i) = B.br (P.el la i) from by unfold PO.br; rw [e]]
theorem gap_dre (d : DRE P Q la st aa s m) (e : Q.2.1 = P.2.1) (v : LVA L P) (a : ALP L P cO cI cZ ed la) : Q.gap la ≤ P.gap la := by
  have z := d.1.2.1
  have nn : ∀ i : Int, 0 ≤ i → i < ((P.lz la).toNat : Int) → 0 ≤ GC9 (P.cap (P.br (P.el la i))) := fun i i0 i1 => by
    have ib := a.inb ⟨i, i0, by omega, rfl⟩
    exact (GC9.top (v _ ib.2.1.1 ib.2.1.2.1).1).1
  have h := sumI_sub (f := fun i => GC9 (P.cap (P.br (P.el la i)))) (s := s) m.toNat (P.lz la).toNat (fun i i0 i1 => by
    have y := d.1.1.2.2.1 i i0 (by omega)
    exact ⟨by omega, by omega⟩) (fun i j i0 ij j1 => d.1.1.2.2.2 i j i0 ij (by omega)) nn
  have q : sumI (fun i => GC9 (Q.cap (Q.br (Q.el la i)))) m.toNat = sumI (fun i => GC9 (P.cap (P.br (P.el la (s i))))) m.toNat := sumI_eq (fun i i0 i1 => by
    rw [d.2.1 i i0 (by omega), cap_same e, show Q.br (P.el la (s i)) = P.br (P.el la (s i)) from by unfold PO.br; rw [e]])
  unfold PO.gap
  rw [z, q]
  exact h
end JNG9
/-- a row's length: as it was, or more and at most b -/
def GWX (a c b : Int) : Prop := a ≤ c ∧ (c = a ∨ c ≤ b)
theorem GWX.refl (a b : Int) : GWX a a b := ⟨Int.le_refl a, Or.inl rfl⟩
theorem GWX.trans {a c d b : Int} (h : GWX a c b) (k : GWX c d b) : GWX a d b := ⟨Int.le_trans h.1 k.1, by
  have h1 := h.1
  have h2 := h.2
  have k1 := k.1
  have k2 := k.2
  omega⟩
theorem GWX.of {a c b : Int} (h : a ≤ c) (k : c = a ∨ c ≤ b) : GWX a c b := ⟨h, k⟩
theorem GWX.le {a c b : Int} (h : GWX a c b) (a0 : 0 ≤ a) (b0 : 0 ≤ b) : c - a ≤ b := by
  have h2 := h.2
  omega
theorem GWX.top {a c b d : Int} (h : GWX a c b) (k : a ≤ d) (q : b ≤ d) : c ≤ d := by
  have h2 := h.2
  omega
/-- one more in a list of fewer than 1,200: not more than what is left of its lengths -/
theorem GC9.nn {c : Int} (h : LVC c) : 0 ≤ GC9 c := by
  unfold LVC at h
  rcases h with e | e | e | e | e | e | e | e | e | e | e | e | e | e | e | e | e | e <;> (subst e; decide)
theorem GC9.gx {L : List Nat} {P : PO} {cO : ClassId} {ed x : Nat} (v : LVC (P.cap x)) (h : ADC L P cO ed x) : P.lz x < 1200 → (P.gx x : Int) ≤ GC9 (P.cap x) := by
  intro z
  have s := P.gx_spec x
  have c := P.cap_spec x
  rcases h with ⟨f, _, _, l, p, _⟩ | ⟨f, _, _⟩
  · rw [(s.1 f).1]
    have g := groX_spec (P.lz x) (P.an (P.le x))
    have ce := c.1 f
    by_cases e : P.lz x = (P.an (P.le x) : Int)
    · rw [g.1 e (by omega)]
      rw [ce] at v ⊢
      have n0 : (0 : Int) < (P.an (P.le x) : Int) := by omega
      have n1 : (P.an (P.le x) : Int) < 1200 := by omega
      clear e l z g ce c s p
      generalize (P.an (P.le x) : Int) = n at *
      unfold LVC at v
      rcases v with e | e | e | e | e | e | e | e | e | e | e | e | e | e | e | e | e | e <;> first | omega | (subst e; decide)
    · rw [g.2 e]; exact GC9.nn v
  · rw [(s.2 f).1, c.2 f]; decide
