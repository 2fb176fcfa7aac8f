section RDR1
variable {L L' L2 : List Nat} {P P' P2 : PO} {cB cO cI cZ : ClassId} {x ed e : Nat} {S : Nat → Prop}
/-- a text stays where only other objects change -/
theorem TXT.chg (h : TXT L P cB e x) (c : CHG S L P L' P') (n : ∀ z : Nat, z ∈ L → P.kd z = 13 ∨ P.kd z = 46 → ¬ S z) : TXT L' P' cB e x := by
  rcases h with h | h
  · exact Or.inl h
  · obtain ⟨a, b, m, d, f, g, r⟩ := h
    obtain ⟨x1, x2⟩ := c x a (n x a (Or.inl b))
    obtain ⟨y1, y2⟩ := c (P.le x) m (n _ m (Or.inr d))
    have l : P'.le x = P.le x := x2.2.1 1
    have ea : P'.ia (P.le x) = P.ia (P.le x) := y2.2.2.2.1
    have en : P'.an (P.le x) = P.an (P.le x) := y2.2.1 1
    exact Or.inr ⟨x1, (x2.2.1 0).trans b, by rw [l]; exact y1, by rw [l]; exact (y2.2.1 0).trans d, by rw [l]; exact y2.2.2.2.2.trans f, by rw [l, en]; exact g, fun j => by rw [l, ea]; exact r j⟩
theorem TXT.rw1 {q : Nat} (h : TXT L P cB e x) (w : RW1 q P P') (k : P.kd q = 17 ∨ P.kd q = 12) : TXT L P' cB e x := h.chg (w.chg L) (fun z _ d s => by rw [s] at d; omega)
end RDR1
/-- a goal is 0, or among those that were read -/
def GIN (g : Int → Int) (n b : Int) : Prop := b = 0 ∨ ∃ k : Int, 0 ≤ k ∧ k < n ∧ g k = b
theorem GIN.mk {g : Int → Int} {n b k : Int} (a : 0 ≤ k) (c : k < n) (e : g k = b) : GIN g n b := Or.inr ⟨k, a, c, e⟩
theorem GIN.kept {g g' : Int → Int} {n n' b : Int} (h : GIN g n b) (l : n ≤ n') (e : ∀ j : Int, 0 ≤ j → j < n → g' j = g j) : GIN g' n' b := h.imp id (fun ⟨k, a, c, d⟩ => ⟨k, a, by omega, (e k a c).trans d⟩)
/-- the blocks of a list, and their end rows, are distinct -/
def DST (P : PO) (lb : Nat) : Prop := ∀ i j : Int, 0 ≤ i → i < j → j < P.lz lb → P.el lb i ≠ P.el lb j ∧ P.be (P.el lb i) ≠ P.be (P.el lb j)
section RDR2
variable {L L' L2 : List Nat} {P P' P2 : PO} {cO cI cZ : ClassId} {x ed e lb : Nat} {S : Nat → Prop} {E : List Nat}
theorem DST.blk (h : DST P lb) (g : GLF L P cO cI cZ ed) (c : lb ∈ L ∧ P.kd lb = 30 ∧ P.ek lb = 12 ∧ P.ow lb = lb) (k : KEG E L P L' P') (el : ∀ i : Int, 0 ≤ i → i < P.lz lb → P'.el lb i = P.el lb i)
    (z : P'.lz lb = P.lz lb ∨ (P'.lz lb = P.lz lb + 1 ∧ P'.el lb (P.lz lb) ∉ L ∧ P'.be (P'.el lb (P.lz lb)) ∉ L)) : DST P' lb := by
  have lk := (g.gla lb c.1 c.2.1).1
  rw [c.2.2.1] at lk
  have mm : ∀ i : Int, 0 ≤ i → i < P.lz lb → P.el lb i ∈ L ∧ P.kd (P.el lb i) = 12 ∧ P'.be (P.el lb i) = P.be (P.el lb i) ∧ P.be (P.el lb i) ∈ L := fun i i0 i1 => by
    have q := lk.2.2.2.2 i i0 i1
    exact ⟨q.2.1, q.2.2, (k.2 _ q.2.1 q.2.2).2.2, (g.gb q.2.1 q.2.2).1.1⟩
  intro i j i0 ij j1
  rcases z with z | ⟨z, n1, n2⟩
  · rw [z] at j1
    rw [el i i0 (by omega), el j (by omega) j1, (mm i i0 (by omega)).2.2.1, (mm j (by omega) j1).2.2.1]
    exact h i j i0 ij j1
  · by_cases q : j < P.lz lb
    · rw [el i i0 (by omega), el j (by omega) q, (mm i i0 (by omega)).2.2.1, (mm j (by omega) q).2.2.1]
      exact h i j i0 ij q
    · have ej : j = P.lz lb := by omega
      have mi := mm i i0 (by omega)
      rw [el i i0 (by omega), ej, mi.2.2.1]
      exact ⟨fun a => n1 (by rw [← a]; exact mi.1), fun a => n2 (by rw [← a]; exact mi.2.2.2)⟩
/-- all blocks but x, with their ends but e, stay -/
def RKB (x e : Nat) (L : List Nat) (P : PO) (L' : List Nat) (P' : PO) : Prop := ∀ y : Nat, y ∈ L → P.kd y = 12 → y ≠ x → P.be y ≠ e → (y ∈ L' ∧ P'.kd y = 12) ∧ P'.bf y = P.bf y ∧ P'.bs y = P.bs y ∧ P'.be y = P.be y ∧ P'.bp y = P.bp y ∧ P'.ro (P.be y) = P.ro (P.be y) ∧ P'.lz (P.bp y) = P.lz (P.bp y)
theorem RKB.refl (x e : Nat) (L : List Nat) (P : PO) : RKB x e L P L P := fun _ m k _ _ => ⟨⟨m, k⟩, rfl, rfl, rfl, rfl, rfl, rfl⟩
theorem RKB.trans (h : RKB x e L P L' P') (k : RKB x e L' P' L2 P2) : RKB x e L P L2 P2 := fun y m d n b => by
  obtain ⟨a1, a2, a3, a4, a5, a6, a7⟩ := h y m d n b
  obtain ⟨b1, b2, b3, b4, b5, b6, b7⟩ := k y a1.1 a1.2 n (by rw [a4]; exact b)
  rw [a4] at b6
  rw [a5] at b7
  exact ⟨b1, b2.trans a2, b3.trans a3, b4.trans a4, b5.trans a5, b6.trans a6, b7.trans a7⟩
theorem CHG.rkb (c : CHG S L P L' P') (g : GLF L P cO cI cZ ed) (k : KEG E L P L' P') (g' : GLF L' P' cO cI cZ ed) (mx : x ∈ L' ∧ P'.kd x = 12) (h : ∀ z : Nat, z ∈ L → S z → z = x ∨ (z = e ∧ P.kd z = 17) ∨ P.kd z = 31 ∨ (P.kd z = 17 ∧ P.ek z ≠ 1) ∨ (P.kd z = 30 ∧ P.ek z ≠ 15) ∨ z = P'.bp x) : RKB x e L P L' P' := by
  intro y m d n b
  obtain ⟨ky1, ky2, -, -⟩ := k.1 y m (by omega)
  have by2 := k.2 y m d
  obtain ⟨eb, ek, e1⟩ := (g.gb m d).1
  obtain ⟨-, l1, l2, l3, l4⟩ := g.owc y m d
  obtain ⟨-, -, o1, -, -⟩ := g'.owc y ky1 (ky2.trans d)
  obtain ⟨-, -, o2, o3, o4⟩ := g'.owc x mx.1 mx.2
  obtain ⟨-, kb2, -, -⟩ := k.1 _ eb (by omega)
  obtain ⟨-, kl2, -, -⟩ := k.1 _ l3 (by omega)
  have s1 := c y m (fun s => by
    rcases h y m s with q | q | q | q | q | q
    · exact n q
    · omega
    · omega
    · omega
    · omega
    · rw [← q] at o4; omega)
  have s2 := c (P.be y) eb (fun s => by
    rcases h _ eb s with q | q | q | q | q | q
    · have := mx.2; rw [← q] at this; omega
    · exact b q.1
    · omega
    · omega
    · omega
    · rw [← q] at o4; omega)
  have s3 := c (P.bp y) l3 (fun s => by
    rcases h _ l3 s with q | q | q | q | q | q
    · have := mx.2; rw [← q] at this; omega
    · omega
    · omega
    · omega
    · omega
    · rw [← q, ← by2.1] at o2; exact n (o1.symm.trans o2))
  exact ⟨⟨ky1, ky2.trans d⟩, s1.2.1 0, s1.2.1 1, s1.2.2.1 3, s1.2.2.1 1, s2.2.1 0, s3.2.1 0⟩
end RDR2
