/-- a function that wants names, however many they are -/
def NFQ (P : PO) (la : Nat) : Prop := (0 < P.lz la ∧ CMP P la ∧ NDR P la ∧ ALR P la) ∧ AVU P la (DA9 P la) ∧ (ENE P la ∧ OPE9 P la ∧ OPD P la) ∧ GN0 P la
theorem sumI_congr9 {f g : Int → Int} : ∀ (n : Nat), (∀ i : Int, 0 ≤ i → i < n → f i = g i) → sumI f n = sumI g n
  | 0, _ => rfl
  | n + 1, h => by
    show sumI f n + f n = sumI g n + g n
    rw [sumI_congr9 n (fun i i0 i1 => h i i0 (by omega)), h n (by omega) (by omega)]
theorem NFQ.nfp {P : PO} {la : Nat} (h : NFQ P la) (n : NST P la ≤ 1000) : NFP P la := ⟨h.1, ⟨h.2.1, n⟩, h.2.2.1, h.2.2.2⟩
section PHA9
variable {L L' : List Nat} {P Q R : PO} {cO cI cZ : ClassId} {ed la x : Nat} {b c d i j k n o p q r : Int} {lv : Int → Int → Int}
theorem PHA.nfq (h : PHA Q R la lv 1002) (hq : PLF Q la) (aq : ALP L Q cO cI cZ ed la) (ar : ALP L' R cO cI cZ ed la) (ra : ALR Q la) (lu : LUB Q lv la (Q.lz la) (-1)) (hz : ∀ r : Int, 0 ≤ r → r ≤ 1001 → lv 0 r ≠ 0 → SRW Q la 0 n r) (n1 : n ≤ Q.lz (Q.br (Q.el la 0))) (zu : ∀ j r : Int, 0 ≤ j → j < n → ¬ RUS Q (Q.el (Q.br (Q.el la 0)) j) r) : NFQ R la ∧ PRG R la := by
  have s := h.1
  have l0 := hq.1.1
  have ed9 := s.edy
  have zl := s.1
  have bk := fun (b : Int) (b0 : 0 ≤ b) (b1 : b < Q.lz la) => s.2 b b0 b1
  have ro : ∀ b : Int, 0 ≤ b → b < Q.lz la → R.ro (R.be (R.el la b)) = Q.ro (Q.be (Q.el la b)) := fun b b0 b1 => by
    have w := bk b b0 b1
    rw [w.1, w.2.1.2.2.1]; exact w.2.2.2 0
  have pq : ∀ b k : Int, 0 ≤ b → b < R.lz la → 0 ≤ k → k < R.lz (R.bp (R.el la b)) → PHQ Q R la lv b (R.el (R.bp (R.el la b)) k) := fun b k b0 b1 k0 k1 => by
    rw [zl] at b1
    have w := bk b b0 b1
    rw [w.1, w.2.1.1] at k1 ⊢
    exact h.2.1.1 b k b0 b1 k0 k1
  have pg : PRG R la := fun b k i b0 b1 k0 k1 i0 i1 => ((pq b k b0 b1 k0 k1).2.1 i i0 i1).1
  refine ⟨⟨⟨by omega, ⟨?_, fun b b0 b1 => ?_, fun p b p0 p1 b0 b1 w v i i0 i1 => ?_⟩, ⟨fun b c j k b0 b1 c0 c1 j0 j1 k0 k1 e => ?_, fun b c j k b0 b1 c0 c1 j0 j1 k0 k1 e => ?_, fun b c b0 b1 c0 c1 e => ?_⟩, fun b b0 b1 => ed9.rch aq l0 (ra b b0 (by omega))⟩, (fun b b0 b1 => ?_), ⟨⟨fun p p0 p1 e => ?_, fun b b0 b1 => ?_⟩, fun b k i b0 b1 k0 k1 i0 i1 => ?_, fun b k i j b0 b1 k0 k1 i0 ij j1 => ?_⟩, fun b b0 b1 => ⟨fun k k0 k1 => (pq b k b0 b1 k0 k1).1.2.2.2, fun k k0 k1 => ?_⟩⟩, pg⟩
  · have w := bk 0 (Int.le_refl 0) l0
    rw [w.1, w.2.1.1]; exact h.2.2.1.1
  · rw [zl] at b1
    have w := bk b b0 b1
    rw [ro b b0 b1, w.1, w.2.1.1]
    exact ⟨h.2.2.1.2 b b0 b1, (hq.1.2 b b0 b1).2⟩
  · have q := pq b i b0 b1 i0 i1
    rw [zl] at p1
    refine q.2.2.1 p p0 p1 ((ed9.2 p p0 p1 b).mp (EDG.yaw w v))
  · rw [zl] at b1 c1
    have wb := bk b b0 b1
    have wc := bk c c0 c1
    rw [wb.1, wb.2.1.2.1, wb.2.2.1.1] at j1
    rw [wc.1, wc.2.1.2.1, wc.2.2.1.1] at k1
    rw [wb.1, wb.2.1.2.1, (wb.2.2.1.2 j j0 j1).1, wc.1, wc.2.1.2.1, (wc.2.2.1.2 k k0 k1).1] at e
    exact hq.2.1.1 b c j k b0 b1 c0 c1 j0 j1 k0 k1 e
  · rw [zl] at b1 c1
    have wb := bk b b0 b1
    have wc := bk c c0 c1
    rw [wb.1, wb.2.1.1] at j1
    rw [wc.1, wc.2.1.1] at k1
    rw [wb.1, wb.2.1.1, wc.1, wc.2.1.1] at e
    exact h.2.1.2 b c j k b0 b1 c0 c1 j0 j1 k0 k1 e
  · rw [zl] at b1 c1
    have wb := bk b b0 b1
    have wc := bk c c0 c1
    rw [wb.1, wb.2.1.2.2.1, wc.1, wc.2.1.2.2.1] at e
    exact hq.2.1.2.2 b c b0 b1 c0 c1 e
  · have b2 := b1
    rw [zl] at b1
    have w := bk b b0 b1
    refine ⟨fun k k0 k1 i i0 i1 => Or.inr ?_, fun j j0 j1 => ?_, ?_⟩
    · have q := pq b k b0 b2 k0 k1
      have o := q.2.1 i i0 i1
      have kx := ar.kphi b0 b2 k0 k1
      have rg := (ar.pik kx.1 kx.2).2.2.2.2.2.2 i i0 i1
      have pb := ar.2.2.1 _ ⟨b, b0, b2, rfl⟩ k k0 k1 i i0 i1
      rw [zl] at pb
      rw [o.2.1]
      have lp : SRW Q la (R.ia (R.pp (R.el (R.bp (R.el la b)) k)) i) (Q.lz (Q.br (Q.el la (R.ia (R.pp (R.el (R.bp (R.el la b)) k)) i)))) (R.pt (R.el (R.bp (R.el la b)) k)) ∨ lv (R.ia (R.pp (R.el (R.bp (R.el la b)) k)) i) (R.pt (R.el (R.bp (R.el la b)) k)) ≠ 0 := by
        by_cases t : SRW Q la (R.ia (R.pp (R.el (R.bp (R.el la b)) k)) i) (Q.lz (Q.br (Q.el la (R.ia (R.pp (R.el (R.bp (R.el la b)) k)) i)))) (R.pt (R.el (R.bp (R.el la b)) k))
        · exact Or.inl t
        · exact Or.inr (lu _ _ (by omega) pb q.1.1 q.1.2.1 ((hq.tfl aq rg.1.1 pb).mpr (Or.inr ⟨Or.inr ⟨b, o.2.2, q.1.2.2.1⟩, t⟩)))
      rcases lp with t | t
      · exact Or.inr (Or.inr ((s.srw rg.1.1 pb).mpr t).all)
      · rcases h.name hq aq ra lu hz q.1.1 q.1.2.1 rg.1.1 pb t with k9 | k9 | k9
        · exact Or.inr (Or.inl k9)
        · refine Or.inr (Or.inr ?_)
          rw [k9] at t ⊢
          exact ((s.srw (Int.le_refl 0) l0).mpr (hz _ q.1.1 q.1.2.1 t)).all
        · exact Or.inl k9
    · rw [w.1, w.2.1.2.1, w.2.2.1.1] at j1
      have u := w.2.2.1.2 j j0 j1
      rw [w.1, w.2.1.2.1, u.1]
      have kx := aq.krow b0 b1 j0 j1
      refine h.ura hq aq ra lu hz b0 b1 u.2 (aq.rok kx.1 kx.2) (fun r v z => ?_) (fun r r0 r1 v t => lu b r (by omega) b1 r0 r1 ((hq.tfl aq b0 b1).mpr (Or.inl ⟨j, j0, j1, v, t⟩)))
      by_cases g : n ≤ j
      · exact g
      · rw [z] at v; exact absurd v (zu j r j0 (by omega))
    · rw [w.1, w.2.1.2.1, w.2.2.1.1, w.2.1.2.2.1]
      have kx := aq.kend b0 b1
      refine h.ura hq aq ra lu hz b0 b1 w.2.2.2 (aq.rok kx.1 kx.2.1) (fun r v z => ?_) (fun r r0 r1 v t => lu b r (by omega) b1 r0 r1 ((hq.tfl aq b0 b1).mpr (Or.inr ⟨Or.inl v, t⟩)))
      rw [z]; exact n1
  · rw [zl] at p1
    exact hq.2.2.1.1 p p0 p1 ((ed9.2 p p0 p1 0).mp e)
  · rw [zl] at b1
    have w := bk b b0 b1
    rw [ro b b0 b1, w.1, w.2.1.2.2.2.1, w.2.1.2.2.2.2]
    exact hq.2.2.1.2 b b0 b1
  · have q := pq b k b0 b1 k0 k1
    have o := (q.2.1 i i0 i1).2.2
    have kx := ar.kphi b0 b1 k0 k1
    have rg := (ar.pik kx.1 kx.2).2.2.2.2.2.2 i i0 i1
    have pb := ar.2.2.1 _ ⟨b, b0, b1, rfl⟩ k k0 k1 i i0 i1
    rw [zl] at pb
    exact (ed9.2 _ rg.1.1 pb b).mpr o
  · exact (pq b k b0 b1 k0 k1).2.2.2 i j i0 ij j1
  · rw [zl] at b1
    have w := bk b b0 b1
    rw [w.1, w.2.1.2.1, w.2.2.1.1] at k1
    have u := w.2.2.1.2 k k0 k1
    rw [w.1, w.2.1.2.1, u.1]
    exact (show R.rg _ = Q.rg _ from u.2 6).trans ((hq.2.2.2 b b0 b1).2 k k0 k1)
end PHA9
section NFQ9
variable {L : List Nat} {P Q : PO} {cO cI cZ : ClassId} {ed la : Nat} {ord idm g : Int → Int} {o n : Int}
theorem NID.of (t : IDT P la g idm n) (rg : RCX P la (-1) g n) (al : ALR P la) (e : n = P.lz la) : NID P la idm := fun b b0 b1 => by
  have w := t b b0 (by omega) ((rg b (by omega) (by omega)).mpr (al b (by omega) b1))
  exact ⟨w.1, w.2.1, by omega⟩
theorem IDM.edy9 {a b : Int} (h : IDM P la a b) (e : EDY P Q la) (aa : ALP L P cO cI cZ ed la) (z : 0 < P.lz la) : IDM Q la a b := ⟨(e.dom aa z).mpr h.1, h.2.1, fun c q k w => h.2.2 c ((e.dom aa z).mp q) k ⟨(e.dom aa z).mp w.1, w.2⟩⟩
theorem NID.edy9 (h : NID P la idm) (e : EDY P Q la) (a : ALP L P cO cI cZ ed la) (z : 0 < P.lz la) : NID Q la idm := fun b b0 b1 => by
  have w := h b b0 (by rw [← e.1]; exact b1)
  exact ⟨w.1.edy9 e a z, w.2.1, by rw [e.1]; exact w.2.2⟩
theorem NAL.of (h : ODR idm ord o n) (t : IDT P la g idm n) (rg : RCX P la (-1) g n) (al : ALR P la) (a : ALP L P cO cI cZ ed la) (e : n = P.lz la) : NAL ord o n := fun b b0 b1 => by
  obtain ⟨j, j0, j1, ej⟩ := h.all t rg a.1.1 e (al b b0 (by omega))
  exact ⟨j, j0, j1, ej⟩
/-- all blocks stand in the order: its names are all names -/
theorem NSM.all (a : ALP L P cO cI cZ ed la) (h : ODR idm ord o (P.lz la)) (al : NAL ord o (P.lz la)) : NST P la ≤ NSM P la ord o := by
  have n0 := h.1.1
  have z0 : 0 ≤ P.lz la := by have := h.1.2.1; omega
  have ch : ∀ b : Int, ∃ i : Int, 0 ≤ b → b < P.lz la → (0 ≤ i ∧ i < o ∧ ord i = b) := fun b => by
    by_cases c : 0 ≤ b ∧ b < P.lz la
    · obtain ⟨i, i0, i1, e⟩ := al b c.1 c.2
      exact ⟨i, fun _ _ => ⟨i0, i1, e⟩⟩
    · exact ⟨0, fun x y => absurd ⟨x, y⟩ c⟩
  have pos : ∃ p : Int → Int, ∀ b : Int, 0 ≤ b → b < P.lz la → (0 ≤ p b ∧ p b < o ∧ ord (p b) = b) := ⟨fun b => Classical.choose (ch b), fun b => Classical.choose_spec (ch b)⟩
  obtain ⟨p, hp⟩ := pos
  have q := sumI_ord (N := o.toNat) (ord := p) (P.lz la).toNat (fun i => if 0 ≤ i ∧ i < o then WSB P la (ord i) else 0) (fun b b0 b1 => by
    show 0 ≤ (if 0 ≤ b ∧ b < o then WSB P la (ord b) else 0)
    split
    · rename_i c
      have w := h.2.1 b c.1 c.2
      have z := WSB.nn a w.1 w.2
      unfold WSB
      omega
    · exact Int.le_refl 0) (fun j j0 j1 => by have w := hp j j0 (by omega); exact ⟨w.1, by omega⟩) (fun i j i0 ij j1 e => by
      have wi := hp i i0 (by omega)
      have wj := hp j (by omega) (by omega)
      have : i = j := by rw [← wi.2.2, ← wj.2.2, e]
      omega)
  have e1 : sumI (fun j => (fun i => if 0 ≤ i ∧ i < o then WSB P la (ord i) else 0) (p j)) (P.lz la).toNat = NST P la := by
    unfold NST
    refine sumI_congr9 _ fun j j0 j1 => ?_
    have w := hp j j0 (by omega)
    show (if 0 ≤ p j ∧ p j < o then WSB P la (ord (p j)) else 0) = WSB P la j
    rw [if_pos ⟨w.1, w.2.1⟩, w.2.2]
  have e2 : sumI (fun i => if 0 ≤ i ∧ i < o then WSB P la (ord i) else 0) o.toNat = NSM P la ord o := by
    unfold NSM
    refine sumI_congr9 _ fun j j0 j1 => ?_
    show (if 0 ≤ j ∧ j < o then WSB P la (ord j) else 0) = WSB P la (ord j)
    rw [if_pos ⟨j0, by omega⟩]
  rw [e1, e2] at q
  exact q
end NFQ9
