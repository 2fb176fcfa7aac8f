/-- a PHI's numbers and its rows set anew -/
def PO.px9 (P : PO) (x : Nat) (t n : Int) (p u r : Nat) (g : Int) : PO := P.at9 x 15 (fun k => if k = 0 then t else if k = 1 then n else if k = 2 then g else P.1 k x) (fun k => if k = 1 then p else if k = 2 then u else if k = 3 then r else P.2.1 k x) (P.oa x) (P.ia x) (P.ac x)
section PAD9
variable {L M : List Nat} {P Q P' : PO} {cO cI cZ : ClassId} {x a b k y m : Nat} {c : ClassId} {t n g : Int} {p u r : Nat} {f : Int → Int}
theorem pE_px9 (P : PO) (x : Nat) (t n : Int) (p u r : Nat) (g : Int) : va_up (pE P) x (phiE t n p u r g) = pE (P.px9 x t n p u r g) := by
  have h := pE_at9 P x 15 (fun k => if k = 0 then t else if k = 1 then n else if k = 2 then g else P.1 k x) (fun k => if k = 1 then p else if k = 2 then u else if k = 3 then r else P.2.1 k x) (P.oa x) (P.ia x) (P.ac x)
  rw [pE_phi (at9_kd _ _ _ _ _ _ _ _)] at h
  have q : phiE ((P.px9 x t n p u r g).pt x) ((P.px9 x t n p u r g).pn x) ((P.px9 x t n p u r g).pp x) ((P.px9 x t n p u r g).pu x) ((P.px9 x t n p u r g).pr x) ((P.px9 x t n p u r g).pg x) = phiE t n p u r g := by
    simp [PO.px9, PO.at9, PO.pt, PO.pn, PO.pp, PO.pu, PO.pr, PO.pg]
  rw [← q]; exact h
theorem px9_at (P : PO) (x : Nat) (t n : Int) (p u r : Nat) (g : Int) : (P.px9 x t n p u r g).kd x = 15 ∧ (P.px9 x t n p u r g).pp x = p ∧ (P.px9 x t n p u r g).pu x = u ∧ (P.px9 x t n p u r g).pr x = r ∧ (P.px9 x t n p u r g).pn x = n ∧ (P.px9 x t n p u r g).pt x = t ∧ (P.px9 x t n p u r g).pg x = g ∧ (P.px9 x t n p u r g).ek x = P.ek x ∧ (P.px9 x t n p u r g).ow x = P.ow x := by
  simp [PO.px9, PO.at9, PO.kd, PO.pp, PO.pu, PO.pr, PO.pn, PO.pt, PO.pg, PO.ek, PO.ow]
theorem SM9.ri9 {z : Nat} (h : z ≠ a) : SM9 z P (P.ri9 a f) := ⟨fun _ => rfl, fun _ => rfl, rfl, ri9_of P f h, rfl⟩
theorem PXC.refl (x : Nat) (L : List Nat) (P : PO) : PXC x L P L P := ⟨fun _ m => ⟨m, rfl, rfl, rfl⟩, CHG.refl _ L P, fun _ m n => absurd m n⟩
theorem PXC.ri9 (w : PXC x L P M Q) (o : P.ow a = x) (h : 40 ≤ P.kd a) : PXC x L P M (Q.ri9 a f) := ⟨w.1, fun z m s => ⟨(w.2.1 z m s).1, (w.2.1 z m s).2.trans (SM9.ri9 (fun e => s (Or.inr (by rw [e]; exact ⟨o, h⟩))))⟩, w.2.2⟩
theorem PXC.px9 (w : PXC x L P M Q) (kx : P.kd x = 15) (mx : x ∈ L) : PXC x L P M (Q.px9 x t n p u r g) := by
  have q := px9_at Q x t n p u r g
  refine ⟨fun z m => ?_, fun z m s => ?_, fun z m s => ?_⟩
  · obtain ⟨a, b, c, d⟩ := w.1 z m
    by_cases e : z = x
    · rw [e] at a b c d ⊢; exact ⟨a, by rw [q.1, kx], q.2.2.2.2.2.2.2.1.trans c, q.2.2.2.2.2.2.2.2.trans d⟩
    · have s : SM9 z Q (Q.px9 x t n p u r g) := SM9.at9 e
      exact ⟨a, (s.2.1 0).trans b, (s.2.1 8).trans c, (s.2.1 9).trans d⟩
  · obtain ⟨a, b⟩ := w.2.1 z m s
    exact ⟨a, b.trans (SM9.at9 (fun e => s (Or.inl e)))⟩
  · have := w.2.2 z m s
    by_cases e : z = x
    · exact absurd (by rw [e]; exact mx) s
    · have s2 : SM9 z Q (Q.px9 x t n p u r g) := SM9.at9 e
      rw [show (Q.px9 x t n p u r g).kd z = Q.kd z from s2.2.1 0]; exact this
theorem PXC.mnum (w : PXC x L P M Q) (nb : b ∉ M) (h : 40 ≤ k) : PXC x L P (b :: M) (Q.mnum b k y c m f) := by
  have e : EXT9 M Q (b :: M) (Q.mnum b k y c m f) := EXT9.one nb
  refine ⟨fun z mz => ?_, fun z mz s => ?_, fun z mz s => ?_⟩
  · obtain ⟨a, b, c, d⟩ := w.1 z mz
    obtain ⟨i, j⟩ := e z a
    exact ⟨i, (j.2.1 0).trans b, (j.2.1 8).trans c, (j.2.1 9).trans d⟩
  · obtain ⟨a, b⟩ := w.2.1 z mz s
    exact ⟨(e z a).1, b.trans (e z a).2⟩
  · rcases List.mem_cons.mp mz with q | q
    · rw [q, (mnum_arf M Q b k y c m f).1.2.1]; exact h
    · rw [show (Q.mnum b k y c m f).kd z = Q.kd z from (e z q).2.2.1 0]; exact w.2.2 z q s
/-- all of a PHI from its rows -/
theorem pik_mk {e1 e2 e3 : Int → Int} (mx : x ∈ L) (kx : P.kd x = 15) (ep : P.pp x = p) (eu : P.pu x = u) (er : P.pr x = r) (a1 : ARF9 L P p 40 x cI m) (a2 : ARF9 L P u 41 x cI m) (a3 : ARF9 L P r 42 x cZ m) (i1 : P.ia p = e1) (i2 : P.ia u = e2) (i3 : P.ia r = e3) (nn : 0 ≤ P.pn x ∧ P.pn x ≤ 300 ∧ P.pn x ≤ m ∧ m ≤ 1000 ∧ 4 ≤ m) (tt : 0 ≤ P.pt x ∧ P.pt x ≤ 1001 ∧ 0 ≤ P.pg x ∧ P.pg x ≤ 1) (ee : ∀ i : Int, 0 ≤ i → i < P.pn x → EF (e1 i) (e2 i) (e3 i)) : PIK L P cI cZ x := by
  obtain ⟨b1, b2, b3, b4, b5⟩ := a1
  obtain ⟨c1, c2, c3, c4, c5⟩ := a2
  obtain ⟨d1, d2, d3, d4, d5⟩ := a3
  refine ⟨⟨mx, kx⟩, by rw [ep]; exact ⟨b1, b2, b3, b4⟩, by rw [eu]; exact ⟨c1, c2, c3, c4⟩, by rw [er]; exact ⟨d1, d2, d3, d4⟩, ?_, tt, fun i i0 i1' => ?_⟩
  · rw [ep, eu, er, b5, c5, d5]; omega
  · have := ee i i0 i1'
    unfold EF at this
    rw [ep, eu, er, i1, i2, i3]; exact this
/-- what stands in a PHI's rows, one more than before -/
def PAE (P P' : PO) (x : Nat) (p o r : Int) : Prop := (∀ i : Int, 0 ≤ i → i < P.pn x → P'.ia (P'.pp x) i = P.ia (P.pp x) i ∧ P'.ia (P'.pu x) i = P.ia (P.pu x) i ∧ P'.ia (P'.pr x) i = P.ia (P.pr x) i) ∧ P'.ia (P'.pp x) (P.pn x) = p ∧ P'.ia (P'.pu x) (P.pn x) = o ∧ P'.ia (P'.pr x) (P.pn x) = r
theorem px_arr {a1 a2 a3 : Nat} {g1 g2 g3 : Int → Int} (k1 : a1 ∈ L ∧ P.kd a1 = 40 ∧ P.ac a1 = cI ∧ P.ow a1 = x) (k2 : a2 ∈ L ∧ P.kd a2 = 41 ∧ P.ac a2 = cI ∧ P.ow a2 = x) (k3 : a3 ∈ L ∧ P.kd a3 = 42 ∧ P.ac a3 = cZ ∧ P.ow a3 = x) (kx : P.kd x = 15) : (ARF9 L ((((P.ri9 a3 g3).ri9 a2 g2).ri9 a1 g1).px9 x t n p u r g) a1 40 x cI (P.an a1) ∧ ((((P.ri9 a3 g3).ri9 a2 g2).ri9 a1 g1).px9 x t n p u r g).ia a1 = g1) ∧ (ARF9 L ((((P.ri9 a3 g3).ri9 a2 g2).ri9 a1 g1).px9 x t n p u r g) a2 41 x cI (P.an a2) ∧ ((((P.ri9 a3 g3).ri9 a2 g2).ri9 a1 g1).px9 x t n p u r g).ia a2 = g2) ∧ (ARF9 L ((((P.ri9 a3 g3).ri9 a2 g2).ri9 a1 g1).px9 x t n p u r g) a3 42 x cZ (P.an a3) ∧ ((((P.ri9 a3 g3).ri9 a2 g2).ri9 a1 g1).px9 x t n p u r g).ia a3 = g3) := by
  have n1 : a1 ≠ x := kd_ne k1.2.1 kx (by decide)
  have n2 : a2 ≠ x := kd_ne k2.2.1 kx (by decide)
  have n3 : a3 ≠ x := kd_ne k3.2.1 kx (by decide)
  have m12 : a2 ≠ a1 := kd_ne k2.2.1 k1.2.1 (by decide)
  have m13 : a3 ≠ a1 := kd_ne k3.2.1 k1.2.1 (by decide)
  have m23 : a3 ≠ a2 := kd_ne k3.2.1 k2.2.1 (by decide)
  generalize hQ : ((P.ri9 a3 g3).ri9 a2 g2).ri9 a1 g1 = Q
  have q1 : Q.ia a1 = g1 := by rw [← hQ]; exact ri9_at _ _ _
  have q2 : Q.ia a2 = g2 := by rw [← hQ, ri9_of _ _ m12]; exact ri9_at _ _ _
  have q3 : Q.ia a3 = g3 := by rw [← hQ, ri9_of _ _ m13, ri9_of _ _ m23]; exact ri9_at _ _ _
  have e2 : Q.2.1 = P.2.1 := by rw [← hQ]; rfl
  have e5 : Q.2.2.2.2 = P.2.2.2.2 := by rw [← hQ]; rfl
  have go : ∀ (a k : Nat) (c : ClassId), a ≠ x → a ∈ L ∧ P.kd a = k ∧ P.ac a = c ∧ P.ow a = x → ARF9 L (Q.px9 x t n p u r g) a k x c (P.an a) := fun a k c na ka => by
    have s : SM9 a Q (Q.px9 x t n p u r g) := SM9.at9 na
    refine ⟨ka.1, (s.2.1 0).trans (by rw [e2]; exact ka.2.1), s.2.2.2.2.trans (by show Q.2.2.2.2 a = c; rw [e5]; exact ka.2.2.1), (s.2.1 9).trans (by rw [e2]; exact ka.2.2.2), (s.2.1 1).trans (by rw [e2]; rfl)⟩
  have ga : ∀ a : Nat, a ≠ x → (Q.px9 x t n p u r g).ia a = Q.ia a := fun a na => by
    have s : SM9 a Q (Q.px9 x t n p u r g) := SM9.at9 na
    exact s.2.2.2.1
  exact ⟨⟨go a1 40 cI n1 k1, (ga a1 n1).trans q1⟩, ⟨go a2 41 cI n2 k2, (ga a2 n2).trans q2⟩, go a3 42 cZ n3 k3, (ga a3 n3).trans q3⟩
theorem ef_add {f1 f2 f3 e1 e2 e3 : Int → Int} {n p o r : Int} (h : ∀ i : Int, 0 ≤ i → i < n → EF (f1 i) (f2 i) (f3 i)) (w : EF p o r) (a : ∀ i : Int, 0 ≤ i → i < n → e1 i = f1 i ∧ e2 i = f2 i ∧ e3 i = f3 i) (b : e1 n = p ∧ e2 n = o ∧ e3 n = r) : ∀ i : Int, 0 ≤ i → i < n + 1 → EF (e1 i) (e2 i) (e3 i) := fun i i0 i1 => by
  by_cases q : i = n
  · rw [q, b.1, b.2.1, b.2.2]; exact w
  · have := a i i0 (by omega)
    rw [this.1, this.2.1, this.2.2]; exact h i i0 (by omega)
end PAD9
