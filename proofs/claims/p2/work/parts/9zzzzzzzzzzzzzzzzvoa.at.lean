/-! flags and sets of one register, told of the function before its PHIs -/
section ATY9
variable {L : List Nat} {P P' Q R : PO} {cO cI cZ : ClassId} {ed la x xb : Nat} {b c n r z p o g : Int} {st fl : Int → Int}
theorem PRB.pae (h : PRB P x n) (a : PAE P P' x p o g) (e : P'.pn x = P.pn x + 1) (q : p < n) : PRB P' x n := fun i i0 i1 => by
  by_cases w : i = P.pn x
  · rw [w, a.2.1]; exact q
  · rw [(a.1 i i0 (by omega)).1]; exact h i i0 (by omega)
theorem SRW.ans (s : PHS Q R la) (b0 : 0 ≤ b) (b1 : b < Q.lz la) (e : xb = R.el la b) (a : ANS z (∃ k9 : Int, 0 ≤ k9 ∧ k9 < R.lz (R.br xb) ∧ RST R (R.el (R.br xb) k9) r)) : z ≠ 0 ↔ SRW Q la b (Q.lz (Q.br (Q.el la b))) r := by
  have w := s.2 b b0 b1
  have er : R.br xb = Q.br (Q.el la b) := by rw [e, w.1]; exact w.2.1.2.1
  have i1 : (∃ k9 : Int, 0 ≤ k9 ∧ k9 < R.lz (R.br xb) ∧ RST R (R.el (R.br xb) k9) r) ↔ SRW Q la b (Q.lz (Q.br (Q.el la b))) r := by
    rw [er, w.2.2.1.1]
    constructor
    · rintro ⟨k, k0, k1, t⟩
      have u := w.2.2.1.2 k k0 k1
      rw [u.1] at t
      exact ⟨k, k0, k1, k1, by rw [← show R.ro (Q.el (Q.br (Q.el la b)) k) = Q.ro (Q.el (Q.br (Q.el la b)) k) from u.2 0]; exact t.1, by rw [← show R.rt (Q.el (Q.br (Q.el la b)) k) = Q.rt (Q.el (Q.br (Q.el la b)) k) from u.2 1]; exact t.2⟩
    · rintro ⟨k, k0, _, k1, t1, t2⟩
      have u := w.2.2.1.2 k k0 k1
      exact ⟨k, k0, k1, by rw [u.1]; exact ⟨by rw [show R.ro (Q.el (Q.br (Q.el la b)) k) = Q.ro (Q.el (Q.br (Q.el la b)) k) from u.2 0]; exact t1, by rw [show R.rt (Q.el (Q.br (Q.el la b)) k) = Q.rt (Q.el (Q.br (Q.el la b)) k) from u.2 1]; exact t2⟩⟩
  constructor
  · exact fun q => i1.mp (a.1 q)
  · intro q e0; exact a.2 e0 (i1.mpr q)
theorem EDY.hfr (e : EDY P Q la) (a : ALP L P cO cI cZ ed la) (l0 : 0 < P.lz la) : HFR Q la st fl n c ↔ HFR P la st fl n c := by
  unfold HFR
  constructor
  · rintro ⟨k, k0, k1, k2, k3⟩; exact ⟨k, k0, k1, k2, (e.fro a l0).mp k3⟩
  · rintro ⟨k, k0, k1, k2, k3⟩; exact ⟨k, k0, k1, k2, (e.fro a l0).mpr k3⟩
/-- a register that no row sets gets no PHI -/
theorem PHA.skip {lv : Int → Int → Int} (h : PHA Q R la lv o) (np : NOP9 Q R la o) (s : ∀ b : Int, 0 ≤ b → b < Q.lz la → ¬ SRW Q la b (Q.lz (Q.br (Q.el la b))) o) : PHA Q R la lv (o + 1) := h.next (fun p q p0 p1 sb _ _ => by
  rcases sb with sb | sb
  · exact absurd sb (np.1 p o p0 p1 (Int.le_refl _))
  · have w := h.1.2 p p0 p1
    rw [w.1, w.2.1.2.1, w.2.2.1.1] at sb
    exact absurd ((h.1.srw p0 p1).mp sb) (s p p0 p1))
end ATY9
section ATZ9
variable {L' Lr : List Nat} {P P' Q R : PO} {cO cI cZ : ClassId} {ed la x : Nat} {c k : Int}
theorem FNP.mix9 (a : ALP L' P' cO cI cZ ed la) (hed : ed ∉ L' ++ Lr) (ow : P'.ow la = la) (dj : ∀ z : Nat, z ∈ L' → z ∉ Lr) (f : FNP (P'.mix Lr P) la x) : FNP P' la x := a.glr.fns (fun m => hed (List.mem_append_left _ m)) ⟨a.lok.1, a.lok.2.1, a.2.1.2.1, ow⟩ (fun z m _ => ext_mix dj z m) f
theorem FNP.phi (s : PHS Q R la) (c0 : 0 ≤ c) (c1 : c < Q.lz la) (k0 : 0 ≤ k) (k1 : k < R.lz (Q.bp (Q.el la c))) : FNP R la (R.el (Q.bp (Q.el la c)) k) := by
  have w := s.2 c c0 c1
  have e : R.bp (R.el la c) = Q.bp (Q.el la c) := by rw [w.1]; exact w.2.1.1
  exact Or.inr (Or.inr ⟨c, ⟨c0, by rw [s.1]; exact c1⟩, Or.inr (Or.inr (Or.inr (Or.inr (Or.inr (Or.inr (Or.inr ⟨k, ⟨k0, by rw [e]; exact k1⟩, Or.inl (by rw [e])⟩))))))⟩)
end ATZ9
