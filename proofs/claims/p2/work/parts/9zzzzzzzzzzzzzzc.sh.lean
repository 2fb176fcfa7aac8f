/-! rows that set nothing (SHOW): at most 200 of them, told by places of their own for the rows themselves -/
def SHA (P : PO) (la : Nat) : Prop := ∃ e : Nat → Int, (∀ b k : Int, 0 ≤ b → b < P.lz la → 0 ≤ k → k < P.lz (P.br (P.el la b)) → rSets (P.ro (P.el (P.br (P.el la b)) k)) = 0 → 0 ≤ e (P.el (P.br (P.el la b)) k) ∧ e (P.el (P.br (P.el la b)) k) < 200) ∧ ∀ b c j k : Int, 0 ≤ b → b < P.lz la → 0 ≤ c → c < P.lz la → 0 ≤ j → j < P.lz (P.br (P.el la b)) → 0 ≤ k → k < P.lz (P.br (P.el la c)) → rSets (P.ro (P.el (P.br (P.el la b)) j)) = 0 → rSets (P.ro (P.el (P.br (P.el la c)) k)) = 0 → P.el (P.br (P.el la b)) j ≠ P.el (P.br (P.el la c)) k → e (P.el (P.br (P.el la b)) j) ≠ e (P.el (P.br (P.el la c)) k)
/-- rows of Q that set nothing are such rows of P -/
def RSB (P Q : PO) (la : Nat) : Prop := ∀ b k : Int, 0 ≤ b → b < Q.lz la → 0 ≤ k → k < Q.lz (Q.br (Q.el la b)) → rSets (Q.ro (Q.el (Q.br (Q.el la b)) k)) = 0 → ∃ c j : Int, (0 ≤ c ∧ c < P.lz la) ∧ (0 ≤ j ∧ j < P.lz (P.br (P.el la c))) ∧ Q.el (Q.br (Q.el la b)) k = P.el (P.br (P.el la c)) j ∧ rSets (P.ro (P.el (P.br (P.el la c)) j)) = 0
def SHC (P : PO) (la : Nat) : Int := sumI (fun b => P.lz (P.br (P.el la b)) - CSR P (P.el la b) (P.lz (P.br (P.el la b)))) (P.lz la).toNat
section SHW9
variable {L L' : List Nat} {P Q R : PO} {cO cI cZ : ClassId} {ed la x y : Nat} {b c d i j k n p q r : Int} {gp gr : Nat → Int} {st aa s : Int → Int} {m : Int}
theorem RSB.refl (P : PO) (la : Nat) : RSB P P la := fun b k b0 b1 k0 k1 o => ⟨b, k, ⟨b0, b1⟩, ⟨k0, k1⟩, rfl, o⟩
theorem RSB.trans (h : RSB P Q la) (w : RSB Q R la) : RSB P R la := fun b k b0 b1 k0 k1 o => by
  obtain ⟨c, j, c9, j9, e, o2⟩ := w b k b0 b1 k0 k1 o
  obtain ⟨d, i, d9, i9, e2, o3⟩ := h c j c9.1 c9.2 j9.1 j9.2 o2
  exact ⟨d, i, d9, i9, e.trans e2, o3⟩
theorem SHA.rsb (h : SHA P la) (w : RSB P Q la) : SHA Q la := by
  obtain ⟨e, h1, h2⟩ := h
  refine ⟨e, fun b k b0 b1 k0 k1 o => ?_, fun b c j k b0 b1 c0 c1 j0 j1 k0 k1 o1 o2 ne => ?_⟩
  · obtain ⟨c, j, c9, j9, q, o2⟩ := w b k b0 b1 k0 k1 o
    rw [q]
    exact h1 c j c9.1 c9.2 j9.1 j9.2 o2
  · obtain ⟨b', j', b9, j9, q1, p1⟩ := w b j b0 b1 j0 j1 o1
    obtain ⟨c', k', c9, k9, q2, p2⟩ := w c k c0 c1 k0 k1 o2
    rw [q1, q2] at ne ⊢
    exact h2 b' c' j' k' b9.1 b9.2 c9.1 c9.2 j9.1 j9.2 k9.1 k9.2 p1 p2 ne
/-- the rows of a list that set nothing, one behind the other -/
theorem shw_row (P : PO) (y : Nat) : ∀ n : Nat, ∃ f : Int → Int, (∀ i : Int, 0 ≤ i → i < (n : Int) - CSR P y n → (0 ≤ f i ∧ f i < n) ∧ rSets (P.ro (P.el (P.br y) (f i))) = 0) ∧ ∀ i j : Int, 0 ≤ i → i < j → j < (n : Int) - CSR P y n → f i < f j
  | 0 => ⟨fun _ => 0, fun i i0 i1 => by
      have z : CSR P y ((0 : Nat) : Int) = 0 := CSR.zero P y
      omega, fun i j i0 ij j1 => by
      have z : CSR P y ((0 : Nat) : Int) = 0 := CSR.zero P y
      omega⟩
  | n + 1 => by
    obtain ⟨f, h1, h2⟩ := shw_row P y n
    have en : ((n + 1 : Nat) : Int) = (n : Int) + 1 := by omega
    by_cases o : rSets (P.ro (P.el (P.br y) (n : Int))) = 0
    · have z := CSR.no (P := P) (y := y) (k := (n : Int)) (by omega) o
      refine ⟨fun i => if i = (n : Int) - CSR P y n then (n : Int) else f i, fun i i0 i1 => ?_, fun i j i0 ij j1 => ?_⟩
      · rw [en, z] at i1
        show (0 ≤ (if i = (n : Int) - CSR P y n then (n : Int) else f i) ∧ (if i = (n : Int) - CSR P y n then (n : Int) else f i) < ((n + 1 : Nat) : Int)) ∧ rSets (P.ro (P.el (P.br y) (if i = (n : Int) - CSR P y n then (n : Int) else f i))) = 0
        by_cases q : i = (n : Int) - CSR P y n
        · rw [if_pos q]; exact ⟨⟨by omega, by omega⟩, o⟩
        · rw [if_neg q]
          have w := h1 i i0 (by omega)
          exact ⟨⟨w.1.1, by omega⟩, w.2⟩
      · rw [en, z] at j1
        show (if i = (n : Int) - CSR P y n then (n : Int) else f i) < (if j = (n : Int) - CSR P y n then (n : Int) else f j)
        rw [if_neg (show ¬ i = (n : Int) - CSR P y n from by omega)]
        have w := h1 i i0 (by omega)
        by_cases q : j = (n : Int) - CSR P y n
        · rw [if_pos q]; exact w.1.2
        · rw [if_neg q]; exact h2 i j i0 ij (by omega)
    · have z := CSR.yes (P := P) (y := y) (k := (n : Int)) (by omega) o
      refine ⟨f, fun i i0 i1 => ?_, fun i j i0 ij j1 => ?_⟩
      · rw [en, z] at i1
        have w := h1 i i0 (by omega)
        exact ⟨⟨w.1.1, by omega⟩, w.2⟩
      · rw [en, z] at j1
        exact h2 i j i0 ij (by omega)
theorem shw_blk (al : ALP L P cO cI cZ ed la) : ∀ n : Nat, (n : Int) ≤ P.lz la → ∃ F G : Int → Int, (∀ i : Int, 0 ≤ i → i < sumI (fun b => P.lz (P.br (P.el la b)) - CSR P (P.el la b) (P.lz (P.br (P.el la b)))) n → ((0 ≤ F i ∧ F i < n) ∧ 0 ≤ G i ∧ G i < P.lz (P.br (P.el la (F i)))) ∧ rSets (P.ro (P.el (P.br (P.el la (F i))) (G i))) = 0) ∧ ∀ i j : Int, 0 ≤ i → i < j → j < sumI (fun b => P.lz (P.br (P.el la b)) - CSR P (P.el la b) (P.lz (P.br (P.el la b)))) n → ¬ (F i = F j ∧ G i = G j)
  | 0, _ => ⟨fun _ => 0, fun _ => 0, fun i i0 i1 => by
      have z : sumI (fun b => P.lz (P.br (P.el la b)) - CSR P (P.el la b) (P.lz (P.br (P.el la b)))) 0 = 0 := rfl
      omega, fun i j i0 ij j1 => by
      have z : sumI (fun b => P.lz (P.br (P.el la b)) - CSR P (P.el la b) (P.lz (P.br (P.el la b)))) 0 = 0 := rfl
      omega⟩
  | n + 1, hn => by
    obtain ⟨F, G, h1, h2⟩ := shw_blk al n (by omega)
    have ln := (al.inb ⟨(n : Int), by omega, by omega, rfl⟩).2.1.2.2.1.1
    obtain ⟨f, f1, f2⟩ := shw_row P (P.el la (n : Int)) (P.lz (P.br (P.el la (n : Int)))).toNat
    have et : (((P.lz (P.br (P.el la (n : Int)))).toNat : Nat) : Int) = P.lz (P.br (P.el la (n : Int))) := by omega
    rw [et] at f1 f2
    obtain ⟨S, es⟩ : ∃ z : Int, z = sumI (fun b => P.lz (P.br (P.el la b)) - CSR P (P.el la b) (P.lz (P.br (P.el la b)))) n := ⟨_, rfl⟩
    have ss : sumI (fun b => P.lz (P.br (P.el la b)) - CSR P (P.el la b) (P.lz (P.br (P.el la b)))) (n + 1) = S + (P.lz (P.br (P.el la (n : Int))) - CSR P (P.el la (n : Int)) (P.lz (P.br (P.el la (n : Int))))) := by rw [es]; rfl
    rw [ss]
    rw [← es] at h1 h2
    refine ⟨fun i => if i < S then F i else (n : Int), fun i => if i < S then G i else f (i - S), fun i i0 i1 => ?_, fun i j i0 ij j1 => ?_⟩
    · show ((0 ≤ (if i < S then F i else (n : Int)) ∧ (if i < S then F i else (n : Int)) < ((n + 1 : Nat) : Int)) ∧ 0 ≤ (if i < S then G i else f (i - S)) ∧ (if i < S then G i else f (i - S)) < P.lz (P.br (P.el la (if i < S then F i else (n : Int))))) ∧ rSets (P.ro (P.el (P.br (P.el la (if i < S then F i else (n : Int)))) (if i < S then G i else f (i - S)))) = 0
      by_cases q : i < S
      · rw [if_pos q, if_pos q]
        have w := h1 i i0 q
        exact ⟨⟨⟨w.1.1.1, by omega⟩, w.1.2⟩, w.2⟩
      · rw [if_neg q, if_neg q]
        have w := f1 (i - S) (by omega) (by omega)
        exact ⟨⟨⟨by omega, by omega⟩, w.1⟩, w.2⟩
    · show ¬ ((if i < S then F i else (n : Int)) = (if j < S then F j else (n : Int)) ∧ (if i < S then G i else f (i - S)) = (if j < S then G j else f (j - S)))
      by_cases q : i < S
      · rw [if_pos q, if_pos q]
        by_cases q2 : j < S
        · rw [if_pos q2, if_pos q2]; exact h2 i j i0 ij q2
        · rw [if_neg q2, if_neg q2]
          have w := h1 i i0 q
          intro t
          have t1 := t.1
          omega
      · rw [if_neg q, if_neg q, if_neg (show ¬ j < S from by omega), if_neg (show ¬ j < S from by omega)]
        have w := f2 (i - S) (j - S) (by omega) (by omega) (by omega)
        intro t
        have t2 := t.2
        omega
/-- so there are at most 200 -/
theorem SHA.le (h : SHA P la) (al : ALP L P cO cI cZ ed la) (nd : NDR P la) : SHC P la ≤ 200 := by
  obtain ⟨e, h1, h2⟩ := h
  have l0 := al.lok.2.2.1.1
  obtain ⟨F, G, g1, g2⟩ := shw_blk al (P.lz la).toNat (by omega)
  have ez : (((P.lz la).toNat : Nat) : Int) = P.lz la := by omega
  unfold SHC
  refine pigI (f := fun i => e (P.el (P.br (P.el la (F i))) (G i))) (by omega) (fun i i0 i1 => ?_) (fun i j i0 ij j1 => ?_)
  · have w := g1 i i0 i1
    exact h1 (F i) (G i) w.1.1.1 (by omega) w.1.2.1 w.1.2.2 w.2
  · have w := g1 i i0 (by omega)
    have v := g1 j (by omega) j1
    have ne := g2 i j i0 ij j1
    exact h2 (F i) (F j) (G i) (G j) w.1.1.1 (by omega) v.1.1.1 (by omega) w.1.2.1 w.1.2.2 v.1.2.1 v.1.2.2 w.2 v.2 (fun q => ne (nd.1 (F i) (F j) (G i) (G j) w.1.1.1 (by omega) v.1.1.1 (by omega) w.1.2.1 w.1.2.2 v.1.2.1 v.1.2.2 q))
theorem sumI_four {f g h : Int → Int} : ∀ n : Nat, sumI f n + sumI g n = sumI (fun b => g b + h b) n + sumI (fun b => f b - h b) n
  | 0 => rfl
  | n + 1 => by
    have q := sumI_four (f := f) (g := g) (h := h) n
    show sumI f n + f n + (sumI g n + g n) = sumI (fun b => g b + h b) n + (g n + h n) + (sumI (fun b => f b - h b) n + (f n - h n))
    omega
/-- rows, PHIs: names and what sets nothing -/
theorem NST.shc (P : PO) (la : Nat) : P.tot 2 la + P.tot 1 la = NST P la + SHC P la := sumI_four (P.lz la).toNat
theorem SSP.rows (s : SSP P la) (h : SHA P la) (al : ALP L P cO cI cZ ed la) : P.tot 2 la + P.tot 1 la ≤ 1200 := by
  have a := h.le al s.2.2.1
  have b := NST.shc P la
  have c := s.2.2.2.2.2.2.1
  omega
/-- what each change does to them -/
theorem RSB.fne (v : FNE P Q la) : RSB P Q la := fun b k b0 b1 k0 k1 o => by
  rw [v.1] at b1
  obtain ⟨eb, w⟩ := v.2 b b0 b1
  rw [eb, w.1.2.1, w.2.2.1.1] at k1
  have u := w.2.2.1.2 k k0 k1
  rw [eb, w.1.2.1, u.1, show Q.ro (P.el (P.br (P.el la b)) k) = P.ro (P.el (P.br (P.el la b)) k) from u.2 0] at o
  exact ⟨b, k, ⟨b0, b1⟩, ⟨k0, k1⟩, by rw [eb, w.1.2.1, u.1], o⟩
theorem RSB.stq (h : STQ L P Q) (a : ALP L P cO cI cZ ed la) : RSB P Q la := fun b k b0 b1 k0 k1 o => by
  rw [h.lza a] at b1
  rw [h.lzr a b0 b1] at k1
  have u := h.row a b0 b1 k0 k1
  rw [u.1, u.2.1] at o
  exact ⟨b, k, ⟨b0, b1⟩, ⟨k0, k1⟩, u.1, o⟩
theorem RSB.swg (h : SWG P Q la gp gr) (a : ALP L P cO cI cZ ed la) : RSB P Q la := fun b k b0 b1 k0 k1 o => by
  rw [h.2.1.1] at b1
  obtain ⟨m, w⟩ := h.rw b0 b1
  have u := w.2.2.1 k k0 k1
  rw [u.2.2.1] at o
  rw [(h.1.row (a.krow b0 b1 u.1 u.2.1).2).1] at o
  exact ⟨b, m k, ⟨b0, b1⟩, ⟨u.1, u.2.1⟩, u.2.2.1, o⟩
theorem RSB.dre (h : DRE P Q la st aa s m) (a : ALP L P cO cI cZ ed la) : RSB P Q la := fun b k b0 b1 k0 k1 o => by
  rw [h.1.2.1] at b1
  have on := h.on b0 b1
  rw [(h.nph b0 b1).2] at k1
  have u := h.erw b0 b1 k0 k1
  rw [u, show Q.ro (P.el (P.br (P.el la (s b))) k) = P.ro (P.el (P.br (P.el la (s b))) k) from h.2.2.2.1 _ (a.krow on.1.1 on.1.2 k0 k1).2 0] at o
  exact ⟨s b, k, on.1, ⟨k0, k1⟩, u, o⟩
theorem RSB.jmr (h : JMR P Q la b d) (g : JMA P la b d) : RSB P Q la := fun c k c0 c1 k0 k1 o => by
  rw [h.1.1] at c1
  obtain ⟨c', i, c9, i9, e, _⟩ := h.row g c0 c1 k0 k1
  rw [e, show Q.ro (P.el (P.br (P.el la c')) i) = P.ro (P.el (P.br (P.el la c')) i) from h.2.2.2.1 c' i c9.1 c9.2 i9.1 i9.2 0] at o
  exact ⟨c', i, c9, i9, e, o⟩
theorem RSB.lsr (h : LSR P Q la) (a : ALP L P cO cI cZ ed la) : RSB P Q la := fun b k b0 b1 k0 k1 o => by
  rw [h.1.1.2.2 la a.lok.2.1] at b1
  have ib := a.inb ⟨b, b0, b1, rfl⟩
  rw [h.1.el, h.1.br, h.1.1.2.2 _ ib.2.1.2.1] at k1
  have kr : P.kd (P.el (P.br (P.el la b)) k) = 17 := (a.krow b0 b1 k0 k1).2
  have ne : ∀ f : Nat, Q.1 f (P.el (P.br (P.el la b)) k) = P.1 f (P.el (P.br (P.el la b)) k) := h.1.2.1 _ (fun q => by rw [q.kd a] at kr; omega)
  rw [h.1.el, h.1.br, h.1.el, show Q.ro (P.el (P.br (P.el la b)) k) = P.ro (P.el (P.br (P.el la b)) k) from ne 0] at o
  exact ⟨b, k, ⟨b0, b1⟩, ⟨k0, k1⟩, by rw [h.1.el, h.1.br, h.1.el], o⟩
theorem RSB.jjm (h : JJM P Q la d) (a : ALP L P cO cI cZ ed la) (d0 : 0 ≤ d) (d1 : d < P.lz la) : RSB P Q la := fun b k b0 b1 k0 k1 o => by
  rw [h.lz a d0 d1 a.lok.2.1] at b1
  have ib := a.inb ⟨b, b0, b1, rfl⟩
  rw [h.el, h.br, h.lz a d0 d1 ib.2.1.2.1] at k1
  rw [h.el, h.br, h.el, show Q.ro (P.el (P.br (P.el la b)) k) = P.ro (P.el (P.br (P.el la b)) k) from h.row a d0 d1 b0 b1 k0 k1 0] at o
  exact ⟨b, k, ⟨b0, b1⟩, ⟨k0, k1⟩, by rw [h.el, h.br, h.el], o⟩
/-- what a text gives: at most 200 rows -/
theorem SHA.first (al : ALP L P cO cI cZ ed la) (nd : NDR P la) (e : Nat → Int) (h : ∀ b k : Int, 0 ≤ b → b < P.lz la → 0 ≤ k → k < P.lz (P.br (P.el la b)) → 0 ≤ e (P.el (P.br (P.el la b)) k) ∧ e (P.el (P.br (P.el la b)) k) < 200) (g : ∀ b c j k : Int, 0 ≤ b → b < P.lz la → 0 ≤ c → c < P.lz la → 0 ≤ j → j < P.lz (P.br (P.el la b)) → 0 ≤ k → k < P.lz (P.br (P.el la c)) → P.el (P.br (P.el la b)) j ≠ P.el (P.br (P.el la c)) k → e (P.el (P.br (P.el la b)) j) ≠ e (P.el (P.br (P.el la c)) k)) : SHA P la := ⟨e, fun b k b0 b1 k0 k1 _ => h b k b0 b1 k0 k1, fun b c j k b0 b1 c0 c1 j0 j1 k0 k1 _ _ ne => g b c j k b0 b1 c0 c1 j0 j1 k0 k1 ne⟩
end SHW9
