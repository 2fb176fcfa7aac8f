/-! LMT: a block of the Code taken -/
section LMT9J
variable {L L' : List Nat} {Q Q' : PO} {cO cI cZ : ClassId} {ed la lb lr lp x z : Nat} {n : Int}
theorem KEG.listE {E : List Nat} {l j : Nat} (k : KEG E L Q L' Q') (c1 : CLF L Q l j) (ne : l ∉ E) : Q'.lz l = Q.lz l ∧ ∀ i : Int, 0 ≤ i → i < Q.lz l → Q'.el l i = Q.el l i := ((k.1 l c1.1 (by rw [c1.2.1]; decide)).2.2.2.1 c1.2.1 c1.2.2.2).2 ne
theorem LMT.blk (h : LMT L Q la lb lr lp) (G : GLR L Q cO cI cZ ed) (G' : GLR L' Q' cO cI cZ ed) (v' : LVA L' Q') (v : LVA L Q) (c0 : CLF L Q la 12) (c1 : CLF L Q lb 12) (c2 : CLF L Q lr 17) (c3 : CLF L Q lp 15) (k : KEG [la, lb] L Q L' Q') (w : CB9 la lb x n L Q L' Q') (ds : DST Q' lb) (nb : NBK x L Q L' Q') (cp : CPB9 la lb x L Q Q') (n0 : 0 ≤ n) (n4 : n < 180) (zl : Q.lz la ≤ 179) : LMT L' Q' la lb lr lp := by
  have nla : ∀ l j : Nat, CLF L Q l j → j ≠ 12 → l ≠ la ∧ l ≠ lb := fun l j c e => ⟨fun q => by have a := c.2.2.1; rw [q, c0.2.2.1] at a; exact e a.symm, fun q => by have a := c.2.2.1; rw [q, c1.2.2.1] at a; exact e a.symm⟩
  have nr := nla lr 17 c2 (by decide)
  have np := nla lp 15 c3 (by decide)
  have lr9 := k.listE c2 (by simp [nr.1, nr.2])
  have lp9 := k.listE c3 (by simp [np.1, np.2])
  have kd' : ∀ z : Nat, z ∈ L → z ∈ L' → Q'.kc z = Q.kc z := fun z m m' => by unfold PO.kc; rw [((nb z m').1 m)]
  have bk : ∀ i : Int, 0 ≤ i → i < Q.lz lb → (Q.el lb i ∈ L ∧ Q.kd (Q.el lb i) = 12) ∧ Q'.bp (Q.el lb i) = Q.bp (Q.el lb i) ∧ Q'.br (Q.el lb i) = Q.br (Q.el lb i) ∧ Q'.be (Q.el lb i) = Q.be (Q.el lb i) := fun i i0 i1 => by
    have b := (G.lk c1).2.2.2.2 i i0 i1
    exact ⟨⟨b.2.1, b.2.2⟩, k.2 _ b.2.1 b.2.2⟩
  have lbe := w.2.2.2.1
  have lzb : Q.lz lb ≤ Q'.lz lb := by rcases w.2.1.2.2 with q | q <;> omega
  have xm := w.1.1
  have xk := w.1.2.1
  have n1 : n < Q'.lz lb := by have := w.2.1.2.1; omega
  have xb := G'.gb xm xk
  have xr := G'.lbr xm xk
  have xp := G'.lbp xm xk
  have cap9 : ∀ l : Nat, l ∈ L → Q.kd l = 30 → l ≠ la → l ≠ lb → Q'.cap l = Q.cap l := cp.2.1
  have nbl : ∀ i : Int, 0 ≤ i → i < Q.lz lb → (Q.br (Q.el lb i) ≠ la ∧ Q.br (Q.el lb i) ≠ lb) ∧ Q.bp (Q.el lb i) ≠ la ∧ Q.bp (Q.el lb i) ≠ lb := fun i i0 i1 => by
    have b := (bk i i0 i1).1
    have o := G.owc _ b.1 b.2
    have f : ∀ l r : Nat, CLF L Q l 12 → Q.ow r = Q.el lb i → r ≠ l := fun l r c e q => by
      rw [q, c.2.2.2] at e; have t := b.2; rw [← e, c.2.1] at t; omega
    exact ⟨⟨f la _ c0 o.1.2.1, f lb _ c1 o.1.2.1⟩, f la _ c0 o.2.2.1, f lb _ c1 o.2.2.1⟩
  have chg := w.2.2.2.2
  refine LMT.of G' (c0.kg9 k) (c1.kg9 k) (c2.kg9 k) (c3.kg9 k) ds (fun z m => ?_) (fun i i0 i1 => ?_) ⟨⟨?_, ?_, ?_, ?_, ?_, ?_⟩, fun i i0 i1 => ?_⟩
  · by_cases m0 : z ∈ L
    · rw [kd' z m0 m]
      refine ⟨fun u => ?_, fun u => ?_, fun u => ?_, fun u => ?_⟩
      · rcases (h.1.1 z m0).1 u with ⟨i, i0, i1, e1⟩ | ⟨i, i0, i1, e1⟩
        · exact Or.inl ⟨i, i0, by rw [lr9.1]; exact i1, by rw [lr9.2 i i0 i1]; exact e1⟩
        · exact Or.inr ⟨i, i0, by omega, by rw [lbe i i0 i1, (bk i i0 i1).2.2.2]; exact e1⟩
      · obtain ⟨i, i0, i1, e1⟩ := (h.1.1 z m0).2.1 u
        exact ⟨i, i0, by rw [lp9.1]; exact i1, by rw [lp9.2 i i0 i1]; exact e1⟩
      · obtain ⟨i, i0, i1, e1⟩ := (h.1.1 z m0).2.2.1 u
        exact ⟨i, i0, by omega, by rw [lbe i i0 i1]; exact e1⟩
      · rcases (h.1.1 z m0).2.2.2 u with e1 | ⟨i, i0, i1, e1⟩
        · exact Or.inl e1
        · exact Or.inr ⟨i, i0, by omega, by rw [lbe i i0 i1, (bk i i0 i1).2.2.1, (bk i i0 i1).2.1]; exact e1⟩
    · rcases (nb z m).2 m0 with (ez | ez | ez | ez) | ez
      · have kz : Q'.kc z = 19 := by rw [ez]; exact kc12 xk
        exact ⟨fun u => by omega, fun u => by omega, fun _ => ⟨n, n0, n1, ez.trans w.1.2.2.1⟩, fun u => by omega⟩
      · have kz : Q'.kc z = 18 := by rw [ez]; exact kc30 xp.2.1
        exact ⟨fun u => by omega, fun u => by omega, fun u => by omega, fun _ => Or.inr ⟨n, n0, n1, Or.inr (by rw [← w.1.2.2.1]; exact ez)⟩⟩
      · have kz : Q'.kc z = 18 := by rw [ez]; exact kc30 xr.2.1
        exact ⟨fun u => by omega, fun u => by omega, fun u => by omega, fun _ => Or.inr ⟨n, n0, n1, Or.inl (by rw [← w.1.2.2.1]; exact ez)⟩⟩
      · have kz : Q'.kc z = 21 := by rw [ez]; exact kc17 xb.1.2.1
        exact ⟨fun _ => Or.inr ⟨n, n0, n1, by rw [← w.1.2.2.1]; exact ez⟩, fun u => by omega, fun u => by omega, fun u => by omega⟩
      · have k0 := kc_hi9 ez
        exact ⟨fun u => by omega, fun u => by omega, fun u => by omega, fun u => by omega⟩
  · rw [lp9.1] at i1
    rw [lp9.2 i i0 i1]
    have b := (G.lk c3).2.2.2.2 i i0 i1
    have pk := G.pikR b.2.1 b.2.2
    have ne : ∀ y : Nat, y ∈ L → Q.kd y ≠ 30 → ¬ (y = la ∨ y = lb ∨ y = Q'.bp x ∨ y = Q'.br x) := fun y my ky q => by
      rcases q with q | q | q | q
      · exact ky (by rw [q]; exact c0.2.1)
      · exact ky (by rw [q]; exact c1.2.1)
      · exact ky (by rw [← (nb y (by rw [q]; exact xp.1)).1 my, q]; exact xp.2.1)
      · exact ky (by rw [← (nb y (by rw [q]; exact xr.1)).1 my, q]; exact xr.2.1)
    have s1 := chg _ b.2.1 (fun q => by
      rcases q with q | q
      · exact ne _ b.2.1 (by omega) q
      · have := b.2.2; have := q.1; omega)
    have s2 := chg _ pk.2.1.1 (fun q => by
      rcases q with q | q
      · exact ne _ pk.2.1.1 (by have := pk.2.1.2.1; omega) q
      · have := pk.2.1.2.1; have := q.1; omega)
    rw [show Q'.pp (Q.el lp i) = Q.pp (Q.el lp i) from s1.2.2.1 1, show Q'.an (Q.pp (Q.el lp i)) = Q.an (Q.pp (Q.el lp i)) from s2.2.2.1 1]
    exact (h.2.2.1.2.1 _ b.2.1 (kc15 b.2.2)).2.2.2
  · have l4 := h.2.2.2.1.1; rcases w.2.1.2.2 with q | q <;> omega
  · rw [lr9.1]; exact h.2.2.2.1.2.1
  · rw [lp9.1]; exact h.2.2.2.1.2.2.1
  · have c := h.2.2.2.1.2.2.2.1
    have va := (v la c0.1 c0.2.1).1
    rcases cp.1.1 with e | e | ⟨e, e'⟩
    · omega
    · omega
    · unfold LVC at va; omega
  · have c := h.2.2.2.1.2.2.2.2.1
    have l4 := h.2.2.2.1.1
    have va := (v lb c1.1 c1.2.1).1
    rcases cp.1.2 with e | e | ⟨e, e'⟩
    · omega
    · omega
    · unfold LVC at va; omega
  · rw [cap9 lp c3.1 c3.2.1 np.1 np.2]; exact h.2.2.2.1.2.2.2.2.2
  · by_cases i2 : i < Q.lz lb
    · have b := bk i i0 i2
      have r := G.lbr b.1.1 b.1.2
      have p := G.lbp b.1.1 b.1.2
      have o := nbl i i0 i2
      rw [lbe i i0 i2, b.2.2.1, b.2.1, cap9 _ r.1 r.2.1 o.1.1 o.1.2, cap9 _ p.1 p.2.1 o.2.1 o.2.2]
      exact h.2.2.2.2 i i0 i2
    · rcases w.2.1.2.2 with q | q
      · omega
      · have ei : i = n := by omega
        have nx : x ∉ L := fun m => by
          have k19 : Q.kc x = 19 := by rw [← kd' x m xm]; exact kc12 xk
          obtain ⟨j, j0, j1, e⟩ := (h.1.1 x m).2.2.1 k19
          have e2 : Q'.el lb j = Q'.el lb n := by rw [lbe j j0 j1, ← e]; exact w.1.2.2.1
          exact (ds j n j0 (by omega) n1).1 e2
        have c := cp.2.2 nx
        rw [ei, ← w.1.2.2.1, c.1, c.2]
        exact ⟨fun _ => by decide, by decide, fun _ => by decide⟩
end LMT9J
