/-! a PHI that the function does not hold yet gets operands; then it goes to its block -/
section ATX9
variable {L L' L0 Lr L2 : List Nat} {P P' Q R R' : PO} {cO cI cZ : ClassId} {ed la x q z l : Nat} {b c d k o : Int} {lv : Int → Int → Int}
theorem TKA.mix (p : L.Perm (L0 ++ Lr)) (h0 : ∀ z : Nat, z ∈ L0 → P.kd z < 43) : TKA L P (L' ++ Lr) (P'.mix Lr P) := fun z m k => by
  have w : z ∈ Lr := (List.mem_append.mp (p.mem_iff.mp m)).elim (fun r => absurd (h0 z r) (by omega)) id
  exact ⟨List.mem_append_right _ w, mix_in w⟩
/-- what the function holds is not such a PHI's -/
theorem ALP.fnq (a : ALP L P cO cI cZ ed la) (hed : ed ∉ L) (ow : P.ow la = la) (nf : ¬ FNP P la x) (m : z ∈ L) (f : FNP P la z) : ¬ (z = x ∨ (P.ow z = x ∧ 40 ≤ P.kd z)) := fun s => by
  have cl : CLF L P la 12 := ⟨a.lok.1, a.lok.2.1, a.2.1.2.1, ow⟩
  rcases s with s | ⟨s, t⟩
  · exact nf (by rw [← s]; exact f)
  · rcases a.glr.fnk hed cl m f with ⟨_, e, _⟩ | ⟨_, e, _⟩ | ⟨b, br, e⟩
    · omega
    · omega
    · rcases e with ⟨_, e⟩ | ⟨_, e⟩ | ⟨_, e, _⟩ | ⟨_, e, _⟩ | ⟨_, e, _⟩ | ⟨_, e, _⟩ | ⟨j, _, _, e⟩ | ⟨j, jr, _, e⟩
      · omega
      · omega
      · omega
      · omega
      · omega
      · omega
      · omega
      · rcases e with ⟨_, e⟩ | ⟨_, e⟩
        · omega
        · exact nf (by rw [← s, e]; exact Or.inr (Or.inr ⟨b, br, Or.inr (Or.inr (Or.inr (Or.inr (Or.inr (Or.inr (Or.inr ⟨j, jr, Or.inl rfl⟩))))))⟩))
theorem FNE.pxc (a : ALP L P cO cI cZ ed la) (hed : ed ∉ L) (ow : P.ow la = la) (l0 : 0 < P.lz la) (nf : ¬ FNP P la x) (w : PXC x L P L' P') : FNE P P' la ∧ ¬ FNP P' la x := by
  have cl : CLF L P la 12 := ⟨a.lok.1, a.lok.2.1, a.2.1.2.1, ow⟩
  have same : ∀ z : Nat, z ∈ L → FNP P la z → z ∈ L' ∧ SM9 z P P' := fun z m f => w.2.1 z m (a.fnq hed ow nf m f)
  exact ⟨CHG.fne (S := fun z => ¬ FNP P la z) (fun z m n => same z m (Classical.byContradiction n)) a l0 NHD9.fnp, fun f => nf (a.glr.fns hed cl same f)⟩
theorem PHW.pve (h : PHW Q R la o b x d) (v : PVE R R' x) : PHW Q R' la o b x d := by
  obtain ⟨⟨h1, h2⟩, h3, h4, h5, h6, h7⟩ := h
  obtain ⟨a, ⟨e1, e2, e3⟩, c1, c2, c3⟩ := v
  have ep : R'.pn x = R.pn x := a 1
  refine ⟨⟨(a 0).trans h1, (a 2).trans h2⟩, fun i i0 i1 => ?_, fun p p0 p1 w => ?_, fun i j i0 ij j1 => ?_, by rw [ep]; exact h6, by rw [ep]; exact h7⟩
  · rw [ep] at i1
    rw [e1, e2, e3, c1, c2, c3]; exact h3 i i0 i1
  · obtain ⟨k, k0, k1, k2⟩ := h4 p p0 p1 w
    exact ⟨k, k0, by rw [ep]; exact k1, by rw [e1, c1]; exact k2⟩
  · rw [ep] at j1
    rw [e1, c1]; exact h5 i j i0 ij j1
theorem PIK.pve (p : PIK L P cI cZ x) (s : ∀ z : Nat, z ∈ L → SM9 z P P') : PVE P P' x := by
  have g := s x p.1.1
  exact ⟨g.1, ⟨g.2.1 1, g.2.1 2, g.2.1 3⟩, (s _ p.2.1.1).2.2.2.1, (s _ p.2.2.1.1).2.2.2.1, (s _ p.2.2.2.1.1).2.2.2.1⟩
/-- one PHI more, at the end of block b's -/
theorem PHD.of (s : PHS Q R la) (a : ALP L R cO cI cZ ed la) (w : GL1 l q L R L2 R') (k : KEP [] L R L2 R' la) (hl : l = R.bp (R.el la b)) (ml : l ∈ L) (kl : R.kd l = 30) (fx : R.fl l = 1 ∨ R.le l ∉ L) (b0 : 0 ≤ b) (b1 : b < Q.lz la) (z1 : R'.lz l = R.lz l + 1) (nw : R'.oa q (R.lz l).toNat = some x) (od : ∀ j : Nat, (j : Int) < R.lz l → R'.oa q j = R.oa (R.le l) j) : OBS L R L2 R' ∧ UNT R R' la ∧ (∀ c : Int, 0 ≤ c → c < Q.lz la → UNT R R' (Q.br (Q.el la c)) ∧ (c ≠ b → UNT R R' (Q.bp (Q.el la c)))) ∧ R'.lz (Q.bp (Q.el la b)) = R.lz (Q.bp (Q.el la b)) + 1 ∧ (∀ k : Int, 0 ≤ k → k < R.lz (Q.bp (Q.el la b)) → R'.el (Q.bp (Q.el la b)) k = R.el (Q.bp (Q.el la b)) k) ∧ R'.el (Q.bp (Q.el la b)) (R.lz (Q.bp (Q.el la b))) = x := by
  have e9 := fun (c : Int) (c0 : 0 ≤ c) (c1 : c < Q.lz la) => s.2 c c0 c1
  have hq : l = Q.bp (Q.el la b) := by rw [hl, (e9 b b0 b1).1]; exact (e9 b b0 b1).2.1.1
  have ln : ∀ y : Nat, y ∈ L → R.kd y = 30 → y ≠ l → UNT R R' y := fun y m ky n9 => ⟨w.lz a ml kl fx m ky n9, fun i i0 i1 => w.elO a.glf.owa ml kl fx m ky n9 i0 i1⟩
  have zq := s.1
  have oc := fun (c : Int) (c0 : 0 ≤ c) (c1 : c < Q.lz la) => by
    have ib := a.inb ⟨c, c0, by rw [zq]; exact c1, rfl⟩
    exact a.2.1.2.2.1 _ ib.1.1 ib.1.2
  have ob := oc b b0 b1
  refine ⟨fun y m n1 n2 => ?_, k.2.2, fun c c0 c1 => ?_, by rw [← hq]; exact z1, ?_, ?_⟩
  · have n3 : y ≠ q := fun e => by have e2 := w.2.2.2.2 (by rw [← e]; exact m); rw [e, e2] at n2; rcases fx with f | f; exact n2 ((a.glf.owa l ml kl).2 f).2.1; rw [e, e2] at m; exact f m
    exact ⟨w.2.1 y m (fun e => by rw [e] at n2; rcases fx with f | f; exact n2 ((a.glf.owa l ml kl).2 f).2.1; rw [e] at m; exact f m), w.2.2.2.1 y (fun e => by rw [e] at n1; exact n1 kl) n3⟩
  · have o9 := oc c c0 c1
    have u := e9 c c0 c1
    have er : R.br (R.el la c) = Q.br (Q.el la c) := by rw [u.1]; exact u.2.1.2.1
    have ep : R.bp (R.el la c) = Q.bp (Q.el la c) := by rw [u.1]; exact u.2.1.1
    rw [er, ep] at o9
    refine ⟨ln _ o9.1.2.2.1 o9.1.2.2.2 (fun e => ?_), fun cn => ln _ o9.2.2.2.1 o9.2.2.2.2 (fun e => ?_)⟩
    · have e1 := o9.1.1; have e2 := ob.2.1; rw [e, hl, e2] at e1; omega
    · have e1 := o9.2.2.1; have e2 := ob.2.2.1; rw [e, hl] at e1; rw [e1] at e2
      rcases Int.lt_trichotomy b c with t | t | t
      · exact a.2.1.2.2.2 b c b0 t (by rw [zq]; exact c1) e2.symm
      · exact cn t.symm
      · exact a.2.1.2.2.2 c b c0 t (by rw [zq]; exact b1) e2
  · intro i i0 i1
    rw [← hq] at i1 ⊢
    exact w.elx od i0 i1
  · rw [← hq]; exact w.elast nw
end ATX9
