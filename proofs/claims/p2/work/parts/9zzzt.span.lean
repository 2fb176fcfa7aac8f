/-- spans: one, and those of the blocks under it that stand behind the n-th -/
def SPI (B rd : Int) (id od sp : Int → Int) (n : Int) : Prop := ∀ a : Int, 0 ≤ a → a < B → sp a = 1 + sg (fun m => if n < m ∧ id (od m) = a then sp (od m) else 0) rd.toNat
theorem SPI.init {B rd n : Int} {id od sp : Int → Int} (h : ∀ a : Int, 0 ≤ a → a < B → sp a = 1) (e : rd ≤ n + 1) : SPI B rd id od sp n := fun a a0 a1 => by
  rw [h a a0 a1]
  have : sg (fun m => if n < m ∧ id (od m) = a then sp (od m) else 0) rd.toNat = sg (fun _ => 0) rd.toNat := sg_congr _ (fun j j0 j1 => by
    show (if n < j ∧ id (od j) = a then sp (od j) else 0) = 0
    rw [if_neg (by omega)])
  rw [this, sg_const]; omega
theorem SPI.step {B rd n : Int} {po id pl od sp : Int → Int} (o : OD B po id pl od rd) (h : SPI B rd id od sp n) (n0 : 0 < n) (n1 : n < rd) : SPI B rd id od (zup sp (id (od n)) (sp (id (od n)) + sp (od n))) (n - 1) := fun a a0 a1 => by
  have on := o.ord n (by omega) n1
  have nz := o.nz n0 n1
  have an := o.anc (od n) nz on.2.1 (by omega)
  -- what has been added stays
  have keep : ∀ m : Int, n ≤ m → m < rd → zup sp (id (od n)) (sp (id (od n)) + sp (od n)) (od m) = sp (od m) := fun m m0 m1 => by
    have om := o.ord m (by omega) m1
    refine zup_ne _ _ (fun z => ?_)
    have : pl (od m) = pl (id (od n)) := by rw [z]
    omega
  have e : sg (fun m => if n - 1 < m ∧ id (od m) = a then zup sp (id (od n)) (sp (id (od n)) + sp (od n)) (od m) else 0) rd.toNat = sg (zup (fun m => if n < m ∧ id (od m) = a then sp (od m) else 0) n (if id (od n) = a then sp (od n) else 0)) rd.toNat := sg_congr _ (fun j j0 j1 => by
    show (if n - 1 < j ∧ id (od j) = a then zup sp (id (od n)) (sp (id (od n)) + sp (od n)) (od j) else 0) = _
    by_cases c : j = n
    · rw [c, zup_eq]
      by_cases w : id (od n) = a
      · rw [if_pos ⟨by omega, w⟩, if_pos w, keep n (Int.le_refl _) n1]
      · rw [if_neg (fun z => w z.2), if_neg w]
    · rw [zup_ne _ _ c]
      by_cases w : n < j ∧ id (od j) = a
      · rw [if_pos w, if_pos ⟨by omega, w.2⟩, keep j (by omega) (by omega)]
      · rw [if_neg w, if_neg (fun z => w ⟨by omega, z.2⟩)])
  rw [e, sg_up _ _ _ (by omega) (by omega)]
  have z : (if n < n ∧ id (od n) = a then sp (od n) else 0) = 0 := if_neg (by omega)
  have ha := h a a0 a1
  by_cases w : a = id (od n)
  · rw [if_pos w.symm, w, zup_eq]
    rw [w] at ha z
    rw [z]; omega
  · rw [if_neg (fun y => w y.symm), zup_ne _ _ w, z]; omega
/-- the blocks under a stand side by side -/
theorem OD.side {B rd a : Int} {po id pl od : Int → Int} (o : OD B po id pl od rd) (pa : 0 ≤ pl a) : ∀ (n : Nat) (m : Int), m < rd → pl a ≤ m - n → Anc id a (od m) → Anc id a (od (m - n))
  | 0, m, _, _, h => by rw [show m - ((0 : Nat) : Int) = m by omega]; exact h
  | n + 1, m, m1, l, h => by
    have r := OD.side o pa n m m1 (by omega) h
    have q := o.ord (m - n) (by omega) (by omega)
    rcases r.cas with w | w
    · exfalso
      have : pl (od (m - n)) = pl a := by rw [w]
      omega
    · have p := o.pre (m - n) (by omega) (by omega)
      rw [show m - ((n + 1 : Nat) : Int) = m - n - 1 by omega]
      exact w.2.2.trans p
/-- a span is how many stand under a block -/
theorem SPI.under {B rd : Int} {po id pl od sp : Int → Int} (o : OD B po id pl od rd) (h : SPI B rd id od sp 0) (pos : ∀ a : Int, 0 ≤ a → a < B → 1 ≤ sp a) : ∀ (n : Nat) (a : Int), 0 ≤ a → a < B → 0 ≤ pl a → rd - pl a ≤ n → ∀ m : Int, pl a ≤ m → m < pl a + sp a → m < rd ∧ Anc id a (od m) := by
  intro n
  induction n with
  | zero => intro a a0 a1 pa l; have := (o.plc a a0 a1 pa).1; omega
  | succ n ih =>
    intro a a0 a1 pa l
    have qa := o.plc a a0 a1 pa
    -- sums over the children, one after the other
    have key : ∀ x : Nat, (x : Int) ≤ rd → sg (fun m => if 0 < m ∧ id (od m) = a then sp (od m) else 0) x = 0 ∨ ∃ m : Int, (0 < m ∧ m < x) ∧ id (od m) = a ∧ pl a + 1 + sg (fun m => if 0 < m ∧ id (od m) = a then sp (od m) else 0) x ≤ m + sp (od m) := by
      intro x
      induction x with
      | zero => intro _; exact Or.inl rfl
      | succ x ihx =>
        intro xr
        have sx : sg (fun m => if 0 < m ∧ id (od m) = a then sp (od m) else 0) (x + 1) = sg (fun m => if 0 < m ∧ id (od m) = a then sp (od m) else 0) x + (if 0 < (x : Int) ∧ id (od x) = a then sp (od x) else 0) := rfl
        rw [sx]
        by_cases c : 0 < (x : Int) ∧ id (od x) = a
        · rw [if_pos c]
          have ox := o.ord x (by omega) (by omega)
          have zx := o.nz c.1 (by omega)
          have ax := o.anc (od x) zx ox.2.1 (by omega)
          rw [c.2, ox.2.2] at ax
          right
          refine ⟨x, ⟨c.1, by omega⟩, c.2, ?_⟩
          rcases ihx (by omega) with q | ⟨m, m0, m1, m2⟩
          · rw [q]; omega
          · have om := o.ord m (by omega) (by omega)
            have zm := o.nz m0.1 (by omega)
            have am := o.anc (od m) zm om.2.1 (by omega)
            rw [m1, om.2.2] at am
            have far : m + sp (od m) ≤ x := by
              rcases Int.lt_or_le (x : Int) (m + sp (od m)) with w | w
              · exfalso
                have t := (ih (od m) (by omega) om.2.1 (by omega) (by omega) x (by omega) (by omega)).2
                rcases t.cas with y | y
                · have : pl (od x) = pl (od m) := by rw [y]
                  omega
                · have y2 := y.2.2
                  rw [c.2] at y2
                  obtain ⟨k, hk⟩ := y2
                  have := (o.ancPl k (od m) a hk a0 a1 pa).2.2.1
                  omega
              · exact w
            omega
        · rw [if_neg c]
          rcases ihx (by omega) with q | ⟨m, m0, m1, m2⟩
          · left; omega
          · right; exact ⟨m, by omega, m1, by omega⟩
    intro m ma mb
    have r1 := o.r1
    have ha := h a a0 a1
    rcases key rd.toNat (by omega) with q | ⟨c, c0, c1, c2⟩
    · rw [q] at ha
      have e : m = pl a := by omega
      rw [e, qa.2.1]; exact ⟨qa.1, Anc.refl⟩
    · have oc := o.ord c (by omega) (by omega)
      have zc := o.nz c0.1 (by omega)
      have ac := o.anc (od c) zc oc.2.1 (by omega)
      rw [c1, oc.2.2] at ac
      have pc := pos (od c) (by omega) oc.2.1
      have t := ih (od c) (by omega) oc.2.1 (by omega) (by omega) (c + sp (od c) - 1) (by omega) (by omega)
      have ta : Anc id a (od (c + sp (od c) - 1)) := (Anc.up (by omega) (by rw [c1]; omega) (by rw [c1]; exact Anc.refl)).trans t.2
      have s := o.side pa (c + sp (od c) - 1 - m).toNat (c + sp (od c) - 1) t.1 (by omega) ta
      rw [show c + sp (od c) - 1 - (((c + sp (od c) - 1 - m).toNat : Nat) : Int) = m by omega] at s
      exact ⟨by omega, s⟩
/-- what place and span say of two blocks -/
theorem SPI.anc {B rd a b : Int} {po id pl od sp : Int → Int} (o : OD B po id pl od rd) (h : SPI B rd id od sp 0) (pos : ∀ a : Int, 0 ≤ a → a < B → 1 ≤ sp a) (a0 : 0 ≤ a) (a1 : a < B) (b0 : 0 ≤ b) (b1 : b < B) (pa : 0 ≤ pl a) (l : pl a ≤ pl b) (u : pl b < pl a + sp a) : Anc id a b := by
  have q := (h.under o pos (rd - pl a).toNat a a0 a1 pa (by omega) (pl b) l u).2
  rw [(o.plc b b0 b1 (by omega)).2.1] at q; exact q
theorem SPI.pos {B rd n : Int} {id od sp : Int → Int} (h : SPI B rd id od sp n) (r : ∀ x : Int, 0 ≤ sp x) : ∀ a : Int, 0 ≤ a → a < B → 1 ≤ sp a := fun a a0 a1 => by
  have q := sg_nonneg (f := fun m => if n < m ∧ id (od m) = a then sp (od m) else 0) rd.toNat (fun j => by
    show 0 ≤ (if n < j ∧ id (od j) = a then sp (od j) else 0)
    split
    · exact r _
    · omega)
  have := h a a0 a1
  omega
