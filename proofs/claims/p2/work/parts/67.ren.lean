/-- a register's number in an operand -/
def rgF (x : Int) : Int := x - 4294967296
def RNF (lt : Int → Int) (x : Int) : Int := if 4294967296 ≤ x ∧ x < 1099511627776 then 4294967296 + lt (x - 4294967296) else x
/-- targets by sites: PHI i is site i - P, ROW i is site i -/
def TT (tg pt : Int → Int) (P s : Int) : Int := if 0 ≤ s then tg s else pt (s + P)
theorem TT_row (tg pt : Int → Int) (P : Int) {i : Int} (v : Int) (h : 0 ≤ i) : TT (zup tg i v) pt P = zup (TT tg pt P) i v := by
  funext s
  unfold TT zup
  by_cases a : 0 ≤ s
  · rw [if_pos a]
    by_cases c : s = i
    · rw [if_pos c, if_pos c]
    · rw [if_neg c, if_neg c]; show _ = (if 0 ≤ s then tg s else pt (s + P)); rw [if_pos a]
  · rw [if_neg a, if_neg (by omega)]; show _ = (if 0 ≤ s then tg s else pt (s + P)); rw [if_neg a]
theorem TT_phi (tg pt : Int → Int) (P : Int) {i : Int} (v : Int) (h : i < P) : TT tg (zup pt i v) P = zup (TT tg pt P) (i - P) v := by
  funext s
  unfold TT zup
  by_cases a : 0 ≤ s
  · rw [if_pos a, if_neg (by omega)]; show _ = (if 0 ≤ s then tg s else pt (s + P)); rw [if_pos a]
  · rw [if_neg a]
    by_cases c : s = i - P
    · rw [if_pos c, if_pos (by omega)]
    · rw [if_neg c, if_neg (by omega)]; show _ = (if 0 ≤ s then tg s else pt (s + P)); rw [if_neg a]
/-- which numbers have been given: sd tells the site of a number, db its block -/
abbrev RS (P R : Int) (T dn sd db bl : Int → Int) (g : Int) : Prop := (0 ≤ g) ∧ (∀ s : Int, 0 ≤ dn s ∧ dn s ≤ 1) ∧ (∀ s : Int, -P ≤ s → s < R → dn s = 1 → 0 ≤ T s → T s < g ∧ sd (T s) = s ∧ db (T s) = bl s) ∧ (∀ v : Int, 0 ≤ v → v < g → (-P ≤ sd v ∧ sd v < R) ∧ dn (sd v) = 1 ∧ db v = bl (sd v) ∧ T (sd v) = v) ∧ (g = sg (fun j => if dn (j - P) = 1 ∧ 0 ≤ T (j - P) then 1 else 0) (P + R).toNat) ∧ (sg (fun j => if 0 ≤ T (j - P) then 1 else 0) (P + R).toNat ≤ 1000)
theorem RS.g0 {P R : Int} {T dn sd db bl : Int → Int} {g : Int} (h : RS P R T dn sd db bl g) : 0 ≤ g := h.1
theorem RS.d01 {P R : Int} {T dn sd db bl : Int → Int} {g : Int} (h : RS P R T dn sd db bl g) : ∀ s : Int, 0 ≤ dn s ∧ dn s ≤ 1 := h.2.1
theorem RS.num {P R : Int} {T dn sd db bl : Int → Int} {g : Int} (h : RS P R T dn sd db bl g) : ∀ s : Int, -P ≤ s → s < R → dn s = 1 → 0 ≤ T s → T s < g ∧ sd (T s) = s ∧ db (T s) = bl s := h.2.2.1
theorem RS.inv {P R : Int} {T dn sd db bl : Int → Int} {g : Int} (h : RS P R T dn sd db bl g) : ∀ v : Int, 0 ≤ v → v < g → (-P ≤ sd v ∧ sd v < R) ∧ dn (sd v) = 1 ∧ db v = bl (sd v) ∧ T (sd v) = v := h.2.2.2.1
theorem RS.cnt {P R : Int} {T dn sd db bl : Int → Int} {g : Int} (h : RS P R T dn sd db bl g) : g = sg (fun j => if dn (j - P) = 1 ∧ 0 ≤ T (j - P) then 1 else 0) (P + R).toNat := h.2.2.2.2.1
theorem RS.tot {P R : Int} {T dn sd db bl : Int → Int} {g : Int} (h : RS P R T dn sd db bl g) : sg (fun j => if 0 ≤ T (j - P) then 1 else 0) (P + R).toNat ≤ 1000 := h.2.2.2.2.2
theorem RS.room {P R : Int} {T dn sd db bl : Int → Int} {g s : Int} (h : RS P R T dn sd db bl g) (s0 : -P ≤ s) (s1 : s < R) (d : dn s = 0) (t : 0 ≤ T s) : g + 1 ≤ 1000 := by
  have q := sg_lt (f := fun j => if dn (j - P) = 1 ∧ 0 ≤ T (j - P) then 1 else 0) (g := fun j => if 0 ≤ T (j - P) then 1 else 0) (P + R).toNat (fun j a c => by
    show (if dn (j - P) = 1 ∧ 0 ≤ T (j - P) then (1 : Int) else 0) ≤ if 0 ≤ T (j - P) then 1 else 0
    by_cases e : 0 ≤ T (j - P)
    · rw [if_pos e]; split <;> omega
    · rw [if_neg e, if_neg (fun q => e q.2)]; omega) (k := s + P) (by omega) (by omega) (by
    show (if dn (s + P - P) = 1 ∧ 0 ≤ T (s + P - P) then (1 : Int) else 0) < if 0 ≤ T (s + P - P) then 1 else 0
    rw [show s + P - P = s by omega, if_pos t, if_neg (by omega)]; omega)
  have := h.cnt
  have := h.tot
  omega
theorem RS.give {P R : Int} {T dn sd db bl : Int → Int} {g s : Int} (h : RS P R T dn sd db bl g) (s0 : -P ≤ s) (s1 : s < R) (d : dn s = 0) (t : 0 ≤ T s) : RS P R (zup T s g) (zup dn s 1) (zup sd g s) (zup db g (bl s)) bl (g + 1) := by
  have g0 := h.g0
  refine ⟨by omega, fun s' => ?_, fun s' a b c e => ?_, fun v a b => ?_, ?_, ?_⟩
  · unfold zup; split
    · omega
    · exact h.d01 s'
  · by_cases q : s' = s
    · rw [q, zup_eq, zup_eq, zup_eq]; exact ⟨by omega, rfl, rfl⟩
    · rw [zup_ne _ _ q] at c e ⊢
      have n := h.num s' a b c e
      rw [zup_ne sd _ (by omega), zup_ne db _ (by omega)]
      exact ⟨by omega, n.2⟩
  · by_cases q : v = g
    · rw [q, zup_eq, zup_eq, zup_eq, zup_eq]; exact ⟨⟨s0, s1⟩, rfl, rfl, rfl⟩
    · rw [zup_ne sd _ q, zup_ne db _ q]
      have n := h.inv v a (by omega)
      have ne : ¬ sd v = s := by intro w; rw [w, d] at n; omega
      rw [zup_ne dn _ ne, zup_ne T _ ne]; exact n
  · have e : sg (fun j => if zup dn s 1 (j - P) = 1 ∧ 0 ≤ zup T s g (j - P) then 1 else 0) (P + R).toNat = sg (zup (fun j => if dn (j - P) = 1 ∧ 0 ≤ T (j - P) then 1 else 0) (s + P) 1) (P + R).toNat := by
      apply sg_congr
      intro j a b
      by_cases q : j = s + P
      · rw [q, zup_eq, show s + P - P = s by omega, zup_eq, zup_eq, if_pos ⟨rfl, g0⟩]
      · rw [zup_ne _ _ q, zup_ne dn _ (by omega), zup_ne T _ (by omega)]
    have z : (if dn (s + P - P) = 1 ∧ 0 ≤ T (s + P - P) then (1 : Int) else 0) = 0 := by
      rw [show s + P - P = s by omega, if_neg (by omega)]
    rw [e, sg_up _ _ _ (by omega) (by omega), ← h.cnt, z]
    omega
  · have e : sg (fun j => if 0 ≤ zup T s g (j - P) then 1 else 0) (P + R).toNat = sg (fun j => if 0 ≤ T (j - P) then 1 else 0) (P + R).toNat := by
      apply sg_congr
      intro j a b
      by_cases q : j - P = s
      · rw [q, zup_eq, if_pos g0, if_pos t]
      · rw [zup_ne T _ q]
    rw [e]; exact h.tot
theorem RS.pass {P R : Int} {T dn sd db bl : Int → Int} {g s : Int} (h : RS P R T dn sd db bl g) (d : dn s = 0) (t : T s < 0) : RS P R T (zup dn s 1) sd db bl g := by
  refine ⟨h.g0, fun s' => ?_, fun s' a b c e => ?_, fun v a b => ?_, ?_, h.tot⟩
  · unfold zup; split
    · omega
    · exact h.d01 s'
  · by_cases q : s' = s
    · rw [q] at e; omega
    · rw [zup_ne _ _ q] at c; exact h.num s' a b c e
  · have n := h.inv v a b
    have ne : ¬ sd v = s := by intro w; rw [w, d] at n; omega
    rw [zup_ne dn _ ne]; exact n
  · rw [h.cnt]
    apply sg_congr
    intro j a b
    by_cases q : j - P = s
    · rw [q, if_neg (by omega), if_neg (by omega)]
    · rw [zup_ne dn _ q]
/-- what was hidden comes back, down to mark m -/
def und (hr hl : Int → Int) (m : Int) : Nat → (Int → Int) → (Int → Int)
  | 0, lt => lt
  | n + 1, lt => und hr hl m n (zup lt (hr (m + n)) (hl (m + n)))
theorem und_push (hr hl lt : Int → Int) (m h r g : Int) (hm : m ≤ h) : und (zup hr h r) (zup hl h (lt r)) m (h + 1 - m).toNat (zup lt r g) = und hr hl m (h - m).toNat lt := by
  have key : ∀ (n : Nat) (l : Int → Int), m + n ≤ h → und (zup hr h r) (zup hl h (lt r)) m n l = und hr hl m n l := by
    intro n
    induction n with
    | zero => intro l _; rfl
    | succ n ih =>
      intro l hn
      show und _ _ m n _ = und _ _ m n _
      rw [zup_ne hr _ (by omega), zup_ne hl _ (by omega)]
      exact ih _ (by omega)
  have e : (h + 1 - m).toNat = (h - m).toNat + 1 := by omega
  rw [e]
  show und _ _ m (h - m).toNat _ = _
  rw [show m + ((h - m).toNat : Int) = h by omega, zup_eq, zup_eq]
  have e2 : zup (zup lt r g) r (lt r) = lt := by
    funext j
    unfold zup
    by_cases q : j = r
    · rw [if_pos q, q]
    · rw [if_neg q, if_neg q]
  rw [e2]
  exact key _ _ (by omega)
theorem und_step (hr hl lt : Int → Int) (m h : Int) (hm : m < h) : und hr hl m (h - m).toNat lt = und hr hl m (h - 1 - m).toNat (zup lt (hr (h - 1)) (hl (h - 1))) := by
  have e : (h - m).toNat = (h - 1 - m).toNat + 1 := by omega
  rw [e]
  show und hr hl m (h - 1 - m).toNat (zup lt (hr (m + ((h - 1 - m).toNat : Int))) (hl (m + ((h - 1 - m).toNat : Int)))) = _
  rw [show m + ((h - 1 - m).toNat : Int) = h - 1 by omega]
theorem und_comp (hr hl : Int → Int) (m1 m2 : Int) (n : Nat) (lt : Int → Int) (h2 : m2 ≤ m1) : und hr hl m2 (m1 - m2).toNat (und hr hl m1 n lt) = und hr hl m2 (m1 + n - m2).toNat lt := by
  induction n generalizing lt with
  | zero => show und hr hl m2 _ lt = _; rw [show m1 + ((0 : Nat) : Int) - m2 = m1 - m2 by omega]
  | succ n ih =>
    show und hr hl m2 _ (und hr hl m1 n _) = _
    rw [ih]
    have := und_step hr hl lt m2 (m1 + ((n + 1 : Nat) : Int)) (by omega)
    rw [this, show m1 + ((n + 1 : Nat) : Int) - 1 = m1 + n by omega]
/-- the road to the block at the top, and what stood when each of its blocks began -/
abbrev PH (id pa pm lt hr hl db : Int → Int) (g h d : Int) : Prop := (0 ≤ d ∧ 0 ≤ h) ∧ (∀ j : Int, 0 ≤ j → j < d → 0 ≤ pm j ∧ pm j ≤ h) ∧ (∀ i j : Int, 0 ≤ i → i < j → j < d → pm i ≤ pm j) ∧ (∀ j : Int, 0 < j → j < d → ¬ pa j = 0 ∧ 0 ≤ id (pa j) ∧ id (pa j) = pa (j - 1)) ∧ (0 < d → pa 0 = 0) ∧ (∀ j : Int, 0 ≤ j → j < d → ∀ r : Int, 0 ≤ r → r < 1024 → 0 ≤ und hr hl (pm j) (h - pm j).toNat lt r → und hr hl (pm j) (h - pm j).toNat lt r < g ∧ 0 < j ∧ Anc id (db (und hr hl (pm j) (h - pm j).toNat lt r)) (pa (j - 1))) ∧ (∀ r : Int, 0 ≤ r → r < 1024 → 0 ≤ lt r → lt r < g ∧ 0 < d ∧ Anc id (db (lt r)) (pa (d - 1))) ∧ (h ≤ g)
theorem PH.d0 {id pa pm lt hr hl db : Int → Int} {g h d : Int} (hSt : PH id pa pm lt hr hl db g h d) : 0 ≤ d ∧ 0 ≤ h := hSt.1
theorem PH.mrk {id pa pm lt hr hl db : Int → Int} {g h d : Int} (hSt : PH id pa pm lt hr hl db g h d) : ∀ j : Int, 0 ≤ j → j < d → 0 ≤ pm j ∧ pm j ≤ h := hSt.2.1
theorem PH.mo {id pa pm lt hr hl db : Int → Int} {g h d : Int} (hSt : PH id pa pm lt hr hl db g h d) : ∀ i j : Int, 0 ≤ i → i < j → j < d → pm i ≤ pm j := hSt.2.2.1
theorem PH.chn {id pa pm lt hr hl db : Int → Int} {g h d : Int} (hSt : PH id pa pm lt hr hl db g h d) : ∀ j : Int, 0 < j → j < d → ¬ pa j = 0 ∧ 0 ≤ id (pa j) ∧ id (pa j) = pa (j - 1) := hSt.2.2.2.1
theorem PH.z0 {id pa pm lt hr hl db : Int → Int} {g h d : Int} (hSt : PH id pa pm lt hr hl db g h d) : 0 < d → pa 0 = 0 := hSt.2.2.2.2.1
theorem PH.sav {id pa pm lt hr hl db : Int → Int} {g h d : Int} (hSt : PH id pa pm lt hr hl db g h d) : ∀ j : Int, 0 ≤ j → j < d → ∀ r : Int, 0 ≤ r → r < 1024 → 0 ≤ und hr hl (pm j) (h - pm j).toNat lt r → und hr hl (pm j) (h - pm j).toNat lt r < g ∧ 0 < j ∧ Anc id (db (und hr hl (pm j) (h - pm j).toNat lt r)) (pa (j - 1)) := hSt.2.2.2.2.2.1
theorem PH.cur {id pa pm lt hr hl db : Int → Int} {g h d : Int} (hSt : PH id pa pm lt hr hl db g h d) : ∀ r : Int, 0 ≤ r → r < 1024 → 0 ≤ lt r → lt r < g ∧ 0 < d ∧ Anc id (db (lt r)) (pa (d - 1)) := hSt.2.2.2.2.2.2.1
theorem PH.hg {id pa pm lt hr hl db : Int → Int} {g h d : Int} (hSt : PH id pa pm lt hr hl db g h d) : h ≤ g := hSt.2.2.2.2.2.2.2
theorem PH.init {id pa pm lt hr hl db : Int → Int} (h : ∀ r : Int, 0 ≤ r → r < 1024 → lt r < 0) : PH id pa pm lt hr hl db 0 0 0 := by
  refine ⟨by omega, fun j a b => by omega, fun i j a b c => by omega, fun j a b => by omega, fun q => by omega, fun j a b => by omega, fun r r0 r1 q => ?_, by omega⟩
  have := h r r0 r1; omega
theorem PH.pop {id pa pm lt hr hl db : Int → Int} {g h d : Int} (p : PH id pa pm lt hr hl db g h d) (hd : 0 < d) : PH id pa pm (und hr hl (pm (d - 1)) (h - pm (d - 1)).toNat lt) hr hl db g (pm (d - 1)) (d - 1) := by
  have m1 := p.mrk (d - 1) (by omega) (by omega)
  refine ⟨by omega, fun j a b => ?_, fun i j a b c => p.mo i j a b (by omega), fun j a b => p.chn j a (by omega), fun _ => p.z0 hd, fun j a b r => ?_, fun r r0 r1 q => ?_, by have := p.hg; omega⟩
  · have := p.mrk j a (by omega)
    have := p.mo j (d - 1) a b (by omega)
    omega
  · have mo := p.mo j (d - 1) a b (by omega)
    rw [und_comp hr hl (pm (d - 1)) (pm j) _ lt mo, show pm (d - 1) + ((h - pm (d - 1)).toNat : Int) - pm j = h - pm j by omega]
    exact p.sav j a (by omega) r
  · have s := p.sav (d - 1) (by omega) (by omega) r r0 r1 q
    exact ⟨s.1, s.2.1, s.2.2⟩
theorem PH.push {id pa pm lt hr hl db : Int → Int} {g h d b : Int} (p : PH id pa pm lt hr hl db g h d) (hb : (d = 0 ∧ b = 0) ∨ (0 < d ∧ ¬ b = 0 ∧ 0 ≤ id b ∧ pa (d - 1) = id b)) : PH id (zup pa d b) (zup pm d h) lt hr hl db g h (d + 1) := by
  have d0 := p.d0
  have an : ∀ j : Int, j < d → zup pa d b j = pa j := fun j q => zup_ne _ _ (by omega)
  have mn : ∀ j : Int, j < d → zup pm d h j = pm j := fun j q => zup_ne _ _ (by omega)
  refine ⟨by omega, fun j a c => ?_, fun i j a c e => ?_, fun j a c => ?_, fun _ => ?_, fun j a c r r0 r1 => ?_, fun r r0 r1 q => ?_, p.hg⟩
  · by_cases q : j = d
    · rw [q, zup_eq]; omega
    · rw [mn j (by omega)]; exact p.mrk j a (by omega)
  · rw [mn i (by omega)]
    by_cases q : j = d
    · rw [q, zup_eq]; exact (p.mrk i a (by omega)).2
    · rw [mn j (by omega)]; exact p.mo i j a c (by omega)
  · rw [an (j - 1) (by omega)]
    by_cases q : j = d
    · rw [q, zup_eq]
      rcases hb with x | x
      · omega
      · exact ⟨x.2.1, x.2.2.1, x.2.2.2.symm⟩
    · rw [an j (by omega)]; exact p.chn j a (by omega)
  · by_cases q : d = 0
    · rcases hb with x | x
      · rw [q, zup_eq]; exact x.2
      · omega
    · rw [an 0 (by omega)]; exact p.z0 (by omega)
  · by_cases q : j = d
    · rw [q, zup_eq, show (h - h).toNat = 0 by omega]
      show 0 ≤ lt r → lt r < g ∧ 0 < d ∧ Anc id (db (lt r)) (zup pa d b (d - 1))
      intro w
      rw [an (d - 1) (by omega)]
      exact p.cur r r0 r1 w
    · rw [mn j (by omega), an (j - 1) (by omega)]
      exact p.sav j a (by omega) r r0 r1
  · have c := p.cur r r0 r1 q
    rw [show d + 1 - 1 = d by omega, zup_eq]
    refine ⟨c.1, by omega, ?_⟩
    rcases hb with x | x
    · omega
    · rw [x.2.2.2] at c; exact Anc.up x.2.1 x.2.2.1 c.2.2
theorem PH.give {id pa pm lt hr hl db : Int → Int} {g h d r b : Int} (p : PH id pa pm lt hr hl db g h d) (hd : 0 < d) (hb : pa (d - 1) = b) (g0 : 0 ≤ g) : PH id pa pm (zup lt r g) (zup hr h r) (zup hl h (lt r)) (zup db g b) (g + 1) (h + 1) d := by
  have d0 := p.d0
  refine ⟨by omega, fun j a c => ?_, p.mo, p.chn, p.z0, fun j a c r' r0 r1 => ?_, fun r' r0 r1 q => ?_, by have := p.hg; omega⟩
  · have := p.mrk j a c; omega
  · rw [und_push hr hl lt (pm j) h r g (p.mrk j a c).2]
    intro w
    have s := p.sav j a c r' r0 r1 w
    rw [zup_ne db _ (by omega)]
    exact ⟨by omega, s.2⟩
  · by_cases e : r' = r
    · rw [e, zup_eq, zup_eq, hb]; exact ⟨by omega, hd, Anc.refl⟩
    · rw [zup_ne lt _ e] at q ⊢
      have c := p.cur r' r0 r1 q
      rw [zup_ne db _ (by omega)]
      exact ⟨by omega, c.2⟩
/-- a road up from the top meets the blocks of the path one by one -/
theorem PH.find {id pa pm lt hr hl db : Int → Int} {g h d x : Int} (p : PH id pa pm lt hr hl db g h d) (hd : 0 < d) (a : Anc id x (pa (d - 1))) (ne : ¬ pa (d - 1) = x) : 1 < d ∧ Anc id x (pa (d - 2)) := by
  have i := a.inv (fun e => ne e.symm)
  have d1 : 1 < d := by
    rcases Int.lt_or_le 1 d with q | q
    · exact q
    · exfalso; apply i.1; rw [show d - 1 = 0 by omega]; exact p.z0 hd
  refine ⟨d1, ?_⟩
  have c := (p.chn (d - 1) (by omega) (by omega)).2.2
  rw [c, show d - 1 - 1 = d - 2 by omega] at i
  exact i.2.2
def isg (x : Int) : Prop := 4294967296 ≤ x ∧ x < 1099511627776
/-- a register that stands in an operand has been set in a block from which b hangs -/
def RV (g : Int) (id db : Int → Int) (x b : Int) : Prop := isg x → 0 ≤ x - 4294967296 ∧ x - 4294967296 < g ∧ Anc id (db (x - 4294967296)) b
def RVi (g : Int) (id db sd : Int → Int) (x b i : Int) : Prop := RV g id db x b ∧ (isg x → db (x - 4294967296) = b → sd (x - 4294967296) < i)
theorem RV.up {g : Int} {id db : Int → Int} {x b c : Int} (h : RV g id db x b) : RV (g + 1) id (zup db g c) x b := by
  intro q
  have := h q
  rw [zup_ne db _ (by omega)]
  exact ⟨this.1, by omega, this.2.2⟩
theorem RVi.up {g : Int} {id db sd : Int → Int} {x b c i s : Int} (h : RVi g id db sd x b i) : RVi (g + 1) id (zup db g c) (zup sd g s) x b i := by
  refine ⟨h.1.up, fun q w => ?_⟩
  have := h.1 q
  rw [zup_ne db _ (by omega)] at w
  rw [zup_ne sd _ (by omega)]
  exact h.2 q w
/-- which block a site is in -/
abbrev BLK (B P R : Int) (rs fs bl : Int → Int) : Prop := (∀ x i : Int, 0 ≤ x → x < B → rs x ≤ i → i < rs (x + 1) → bl i = x) ∧ (∀ x i : Int, 0 ≤ x → x < B → fs x ≤ i → i < fs (x + 1) → bl (i - P) = x) ∧ (∀ s : Int, 0 ≤ s → s < R → (0 ≤ bl s ∧ bl s < B) ∧ rs (bl s) ≤ s ∧ s < rs (bl s + 1)) ∧ (∀ s : Int, -P ≤ s → s < 0 → (0 ≤ bl s ∧ bl s < B) ∧ fs (bl s) ≤ s + P ∧ s + P < fs (bl s + 1)) ∧ (∀ x : Int, 0 ≤ x → x < B → 0 ≤ rs x ∧ rs x ≤ rs (x + 1) ∧ rs (x + 1) ≤ R) ∧ (∀ x : Int, 0 ≤ x → x < B → 0 ≤ fs x ∧ fs x ≤ fs (x + 1) ∧ fs (x + 1) ≤ P)
theorem BLK.row {B P R : Int} {rs fs bl : Int → Int} (h : BLK B P R rs fs bl) : ∀ x i : Int, 0 ≤ x → x < B → rs x ≤ i → i < rs (x + 1) → bl i = x := h.1
theorem BLK.phi {B P R : Int} {rs fs bl : Int → Int} (h : BLK B P R rs fs bl) : ∀ x i : Int, 0 ≤ x → x < B → fs x ≤ i → i < fs (x + 1) → bl (i - P) = x := h.2.1
theorem BLK.rbl {B P R : Int} {rs fs bl : Int → Int} (h : BLK B P R rs fs bl) : ∀ s : Int, 0 ≤ s → s < R → (0 ≤ bl s ∧ bl s < B) ∧ rs (bl s) ≤ s ∧ s < rs (bl s + 1) := h.2.2.1
theorem BLK.pbl {B P R : Int} {rs fs bl : Int → Int} (h : BLK B P R rs fs bl) : ∀ s : Int, -P ≤ s → s < 0 → (0 ≤ bl s ∧ bl s < B) ∧ fs (bl s) ≤ s + P ∧ s + P < fs (bl s + 1) := h.2.2.2.1
theorem BLK.rm {B P R : Int} {rs fs bl : Int → Int} (h : BLK B P R rs fs bl) : ∀ x : Int, 0 ≤ x → x < B → 0 ≤ rs x ∧ rs x ≤ rs (x + 1) ∧ rs (x + 1) ≤ R := h.2.2.2.2.1
theorem BLK.fm {B P R : Int} {rs fs bl : Int → Int} (h : BLK B P R rs fs bl) : ∀ x : Int, 0 ≤ x → x < B → 0 ≤ fs x ∧ fs x ≤ fs (x + 1) ∧ fs (x + 1) ≤ P := h.2.2.2.2.2
/-- q is the place of an operand that a PHI of x has for its pred p -/
def SLT (fs ps pr as : Int → Int) (q x p : Int) : Prop := ∃ i k : Int, fs x ≤ i ∧ i < fs (x + 1) ∧ 0 ≤ k ∧ k < ps (x + 1) - ps x ∧ q = as i + k ∧ pr (ps x + k) = p
def AMF (B : Int) (fs ps as : Int → Int) : Prop := ∀ x y i j : Int, 0 ≤ x → x < B → 0 ≤ y → y < B → fs x ≤ i → i < fs (x + 1) → fs y ≤ j → j < fs (y + 1) → i < j → as i + (ps (x + 1) - ps x) ≤ as j
theorem SLT.one {B P R : Int} {rs fs ps pr as bl : Int → Int} (k : BLK B P R rs fs bl) (m : AMF B fs ps as) {q x p y p' : Int} (x0 : 0 ≤ x) (x1 : x < B) (y0 : 0 ≤ y) (y1 : y < B) (h : SLT fs ps pr as q x p) (h' : SLT fs ps pr as q y p') : x = y ∧ p = p' := by
  obtain ⟨i, a, i0, i1, a0, a1, e1, e2⟩ := h
  obtain ⟨j, c, j0, j1, c0, c1, f1, f2⟩ := h'
  have ij : i = j := by
    rcases Int.lt_trichotomy i j with w | w | w
    · have := m x y i j x0 x1 y0 y1 i0 i1 j0 j1 w; omega
    · exact w
    · have := m y x j i y0 y1 x0 x1 j0 j1 i0 i1 w; omega
  subst ij
  have xy : x = y := by rw [← k.phi x i x0 x1 i0 i1, ← k.phi y i y0 y1 j0 j1]
  subst xy
  have : a = c := by omega
  subst this
  exact ⟨rfl, by rw [← e2, ← f2]⟩
/-- the renaming: the first n blocks of the order are done, and of block b the sites in front of cs -/
abbrev RN (B P R : Int) (fs ps pr as bl id pl tg pt lf rt eu ar dn sd db : Int → Int) (g n b cs : Int) : Prop := (RS P R (TT tg pt P) dn sd db bl g) ∧ (∀ s : Int, -P ≤ s → s < R → (dn s = 1 ↔ ((0 ≤ pl (bl s) ∧ pl (bl s) < n) ∨ (bl s = b ∧ s < cs)))) ∧ (∀ s : Int, 0 ≤ s → s < R → dn s = 1 → RVi g id db sd (lf s) (bl s) s ∧ RVi g id db sd (rt s) (bl s) s) ∧ (∀ x : Int, 0 ≤ x → x < B → 0 ≤ pl x → pl x < n → RV g id db (eu x) x) ∧ (∀ q x p : Int, 0 ≤ x → x < B → SLT fs ps pr as q x p → 0 ≤ pl p → pl p < n → RV g id db (ar q) p)
theorem RN.st {B P R : Int} {fs ps pr as bl id pl tg pt lf rt eu ar dn sd db : Int → Int} {g n b cs : Int} (h : RN B P R fs ps pr as bl id pl tg pt lf rt eu ar dn sd db g n b cs) : RS P R (TT tg pt P) dn sd db bl g := h.1
theorem RN.dnd {B P R : Int} {fs ps pr as bl id pl tg pt lf rt eu ar dn sd db : Int → Int} {g n b cs : Int} (h : RN B P R fs ps pr as bl id pl tg pt lf rt eu ar dn sd db g n b cs) : ∀ s : Int, -P ≤ s → s < R → (dn s = 1 ↔ ((0 ≤ pl (bl s) ∧ pl (bl s) < n) ∨ (bl s = b ∧ s < cs))) := h.2.1
theorem RN.rowu {B P R : Int} {fs ps pr as bl id pl tg pt lf rt eu ar dn sd db : Int → Int} {g n b cs : Int} (h : RN B P R fs ps pr as bl id pl tg pt lf rt eu ar dn sd db g n b cs) : ∀ s : Int, 0 ≤ s → s < R → dn s = 1 → RVi g id db sd (lf s) (bl s) s ∧ RVi g id db sd (rt s) (bl s) s := h.2.2.1
theorem RN.endu {B P R : Int} {fs ps pr as bl id pl tg pt lf rt eu ar dn sd db : Int → Int} {g n b cs : Int} (h : RN B P R fs ps pr as bl id pl tg pt lf rt eu ar dn sd db g n b cs) : ∀ x : Int, 0 ≤ x → x < B → 0 ≤ pl x → pl x < n → RV g id db (eu x) x := h.2.2.2.1
theorem RN.argu {B P R : Int} {fs ps pr as bl id pl tg pt lf rt eu ar dn sd db : Int → Int} {g n b cs : Int} (h : RN B P R fs ps pr as bl id pl tg pt lf rt eu ar dn sd db g n b cs) : ∀ q x p : Int, 0 ≤ x → x < B → SLT fs ps pr as q x p → 0 ≤ pl p → pl p < n → RV g id db (ar q) p := h.2.2.2.2
theorem RN.undone {B P R : Int} {fs ps pr as bl id pl tg pt lf rt eu ar dn sd db : Int → Int} {g n b cs s : Int} (h : RN B P R fs ps pr as bl id pl tg pt lf rt eu ar dn sd db g n b cs) (s0 : -P ≤ s) (s1 : s < R) (e : bl s = b) (pb : pl b = n) (c : cs ≤ s) : dn s = 0 := by
  have q := (h.st.d01 s)
  have : ¬ dn s = 1 := by
    intro w
    rcases (h.dnd s s0 s1).mp w with x | x
    · rw [e, pb] at x; omega
    · omega
  omega
theorem dnd_one {P R : Int} {bl pl dn : Int → Int} {n b s : Int} (h : ∀ s' : Int, -P ≤ s' → s' < R → (dn s' = 1 ↔ ((0 ≤ pl (bl s') ∧ pl (bl s') < n) ∨ (bl s' = b ∧ s' < s)))) (e : bl s = b) : ∀ s' : Int, -P ≤ s' → s' < R → (zup dn s 1 s' = 1 ↔ ((0 ≤ pl (bl s') ∧ pl (bl s') < n) ∨ (bl s' = b ∧ s' < s + 1))) := by
  intro s' a c
  by_cases q : s' = s
  · rw [q, zup_eq]
    exact ⟨fun _ => Or.inr ⟨e, by omega⟩, fun _ => rfl⟩
  · rw [zup_ne _ _ q, h s' a c]
    constructor
    · rintro (x | x)
      · exact Or.inl x
      · exact Or.inr ⟨x.1, by omega⟩
    · rintro (x | x)
      · exact Or.inl x
      · exact Or.inr ⟨x.1, by omega⟩
theorem RN.phi {B P R : Int} {fs ps pr as bl id pl tg pt lf rt eu ar dn sd db : Int → Int} {g n b i : Int} (h : RN B P R fs ps pr as bl id pl tg pt lf rt eu ar dn sd db g n b (i - P)) (i0 : 0 ≤ i) (i1 : i < P) (hR : 0 ≤ R) (e : bl (i - P) = b) (pb : pl b = n) (t : 0 ≤ pt i) : RN B P R fs ps pr as bl id pl tg (zup pt i g) lf rt eu ar (zup dn (i - P) 1) (zup sd g (i - P)) (zup db g b) (g + 1) n b (i + 1 - P) := by
  have u := h.undone (s := i - P) (by omega) (by omega) e pb (by omega)
  have tt : 0 ≤ TT tg pt P (i - P) := by unfold TT; rw [if_neg (by omega), show i - P + P = i by omega]; exact t
  have gv := h.st.give (s := i - P) (by omega) (by omega) u tt
  rw [e] at gv
  refine ⟨by rw [TT_phi tg pt P g i1]; exact gv, ?_, fun s a c d => ?_, fun x a c d f => (h.endu x a c d f).up, fun q x p a c d f k => (h.argu q x p a c d f k).up⟩
  · have := dnd_one h.dnd e
    rw [show i - P + 1 = i + 1 - P by omega] at this
    exact this
  · rw [zup_ne dn _ (by omega)] at d
    have r := h.rowu s a c d
    exact ⟨r.1.up, r.2.up⟩
theorem RNF_ok {id pa pm lt hr hl db sd : Int → Int} {g h d b i x : Int} {n : Int} (p : PH id pa pm lt hr hl db g h d) (hd : pa (d - 1) = b) (ord : ∀ v : Int, 0 ≤ v → v < g → db v = b → sd v < i) (hx : ((-2147483648 ≤ x ∧ x ≤ 4294968319) ∨ x = 1099511627776)) : RVi g id db sd (RNF lt x) b i := by
  unfold RNF
  by_cases q : 4294967296 ≤ x ∧ x < 1099511627776
  · rw [if_pos q]
    have key : isg (4294967296 + lt (x - 4294967296)) → 0 ≤ lt (x - 4294967296) := fun w => by unfold isg at w; omega
    have e : 4294967296 + lt (x - 4294967296) - 4294967296 = lt (x - 4294967296) := by omega
    refine ⟨fun w => ?_, fun w z => ?_⟩
    · rw [e]
      have c := p.cur (x - 4294967296) (by omega) (by omega) (key w)
      rw [hd] at c
      exact ⟨key w, c.1, c.2.2⟩
    · rw [e] at z ⊢
      have c := p.cur (x - 4294967296) (by omega) (by omega) (key w)
      exact ord _ (key w) c.1 z
  · rw [if_neg q]
    exact ⟨fun w => absurd w q, fun w => absurd w q⟩
theorem RN.ord {B P R : Int} {fs ps pr as bl id pl tg pt lf rt eu ar dn sd db : Int → Int} {g n b cs : Int} (h : RN B P R fs ps pr as bl id pl tg pt lf rt eu ar dn sd db g n b cs) (pb : pl b = n) : ∀ v : Int, 0 ≤ v → v < g → db v = b → sd v < cs := by
  intro v a c e
  have n' := h.st.inv v a c
  rcases (h.dnd (sd v) n'.1.1 n'.1.2).mp n'.2.1 with x | x
  · rw [← n'.2.2.1, e, pb] at x; omega
  · exact x.2
/-- a ROW is renamed, and sets nothing -/
theorem RN.row0 {B P R : Int} {fs ps pr as bl id pl tg pt lf rt eu ar dn sd db pa pm lt hr hl : Int → Int} {g n b i h d : Int} (r : RN B P R fs ps pr as bl id pl tg pt lf rt eu ar dn sd db g n b i) (p : PH id pa pm lt hr hl db g h d) (hd : pa (d - 1) = b) (i0 : 0 ≤ i) (i1 : i < R) (hP : 0 ≤ P) (e : bl i = b) (pb : pl b = n) (t : tg i < 0) (hl' : ((-2147483648 ≤ lf i ∧ lf i ≤ 4294968319) ∨ lf i = 1099511627776)) (hr' : ((-2147483648 ≤ rt i ∧ rt i ≤ 4294968319) ∨ rt i = 1099511627776)) : RN B P R fs ps pr as bl id pl tg pt (zup lf i (RNF lt (lf i))) (zup rt i (RNF lt (rt i))) eu ar (zup dn i 1) sd db g n b (i + 1) := by
  have u := r.undone (s := i) (by omega) i1 e pb (by omega)
  have tt : TT tg pt P i < 0 := by unfold TT; rw [if_pos i0]; exact t
  have o := r.ord pb
  refine ⟨r.st.pass u tt, dnd_one r.dnd e, fun s a c q => ?_, r.endu, r.argu⟩
  by_cases w : s = i
  · rw [w, zup_eq, zup_eq, e]
    exact ⟨RNF_ok (n := n) p hd o hl', RNF_ok (n := n) p hd o hr'⟩
  · rw [zup_ne dn _ w] at q
    rw [zup_ne lf _ w, zup_ne rt _ w]
    exact r.rowu s a c q
/-- a ROW is renamed, and its target gets the next number -/
theorem RN.row1 {B P R : Int} {fs ps pr as bl id pl tg pt lf rt eu ar dn sd db pa pm lt hr hl : Int → Int} {g n b i h d : Int} (r : RN B P R fs ps pr as bl id pl tg pt lf rt eu ar dn sd db g n b i) (p : PH id pa pm lt hr hl db g h d) (hd : pa (d - 1) = b) (i0 : 0 ≤ i) (i1 : i < R) (hP : 0 ≤ P) (e : bl i = b) (pb : pl b = n) (t : 0 ≤ tg i) (hl' : ((-2147483648 ≤ lf i ∧ lf i ≤ 4294968319) ∨ lf i = 1099511627776)) (hr' : ((-2147483648 ≤ rt i ∧ rt i ≤ 4294968319) ∨ rt i = 1099511627776)) : RN B P R fs ps pr as bl id pl (zup tg i g) pt (zup lf i (RNF lt (lf i))) (zup rt i (RNF lt (rt i))) eu ar (zup dn i 1) (zup sd g i) (zup db g b) (g + 1) n b (i + 1) := by
  have u := r.undone (s := i) (by omega) i1 e pb (by omega)
  have tt : 0 ≤ TT tg pt P i := by unfold TT; rw [if_pos i0]; exact t
  have gv := r.st.give (s := i) (by omega) i1 u tt
  rw [e] at gv
  have o := r.ord pb
  refine ⟨by rw [TT_row tg pt P g i0]; exact gv, dnd_one r.dnd e, fun s a c q => ?_, fun x a c d' f => (r.endu x a c d' f).up, fun q x p' a c d' f k => (r.argu q x p' a c d' f k).up⟩
  by_cases w : s = i
  · rw [w, zup_eq, zup_eq, e]
    exact ⟨(RNF_ok (n := n) p hd o hl').up, (RNF_ok (n := n) p hd o hr').up⟩
  · rw [zup_ne dn _ w] at q
    rw [zup_ne lf _ w, zup_ne rt _ w]
    have z := r.rowu s a c q
    exact ⟨z.1.up, z.2.up⟩
theorem RN.jump {B P R : Int} {fs ps pr as bl id pl tg pt lf rt eu ar dn sd db : Int → Int} {g n b cs cs' : Int} (h : RN B P R fs ps pr as bl id pl tg pt lf rt eu ar dn sd db g n b cs) (hj : ∀ s : Int, -P ≤ s → s < R → bl s = b → (s < cs ↔ s < cs')) : RN B P R fs ps pr as bl id pl tg pt lf rt eu ar dn sd db g n b cs' := by
  refine ⟨h.st, fun s a c => ?_, h.rowu, h.endu, h.argu⟩
  rw [h.dnd s a c]
  constructor
  · rintro (x | x)
    · exact Or.inl x
    · exact Or.inr ⟨x.1, (hj s a c x.1).mp x.2⟩
  · rintro (x | x)
    · exact Or.inl x
    · exact Or.inr ⟨x.1, (hj s a c x.1).mpr x.2⟩
/-- block b is done, with its end and the operands for it -/
theorem RN.next {B P R : Int} {fs ps pr as bl id pl tg pt lf rt eu ar eu' ar' dn sd db : Int → Int} {g n b cs b' cs' : Int} (h : RN B P R fs ps pr as bl id pl tg pt lf rt eu ar dn sd db g n b cs) (inj : ∀ x : Int, 0 ≤ x → x < B → pl x = n → x = b) (b0 : 0 ≤ b) (b1 : b < B) (pb : pl b = n) (n0 : 0 ≤ n) (all : ∀ s : Int, -P ≤ s → s < R → bl s = b → s < cs) (blr : ∀ s : Int, -P ≤ s → s < R → 0 ≤ bl s ∧ bl s < B) (none : ∀ s : Int, -P ≤ s → s < R → bl s = b' → ¬ s < cs') (he : RV g id db (eu' b) b) (he' : ∀ x : Int, ¬ x = b → eu' x = eu x) (prb : ∀ q x p : Int, 0 ≤ x → x < B → SLT fs ps pr as q x p → 0 ≤ p ∧ p < B) (ha : ∀ q x : Int, 0 ≤ x → x < B → SLT fs ps pr as q x b → RV g id db (ar' q) b) (ha' : ∀ q x p : Int, 0 ≤ x → x < B → SLT fs ps pr as q x p → ¬ p = b → ar' q = ar q) : RN B P R fs ps pr as bl id pl tg pt lf rt eu' ar' dn sd db g (n + 1) b' cs' := by
  refine ⟨h.st, fun s a c => ?_, h.rowu, fun x a c d e => ?_, fun q x p a c d e f => ?_⟩
  · rw [h.dnd s a c]
    have br := blr s a c
    constructor
    · rintro (x | x)
      · exact Or.inl ⟨x.1, by omega⟩
      · rw [x.1, pb]; exact Or.inl ⟨n0, by omega⟩
    · rintro (x | x)
      · by_cases w : pl (bl s) = n
        · have := inj _ br.1 br.2 w
          exact Or.inr ⟨this, all s a c this⟩
        · exact Or.inl ⟨x.1, by omega⟩
      · exact absurd x.2 (none s a c x.1)
  · by_cases w : x = b
    · rw [w]; exact he
    · rw [he' x w]
      have : ¬ pl x = n := fun z => w (inj x a c z)
      exact h.endu x a c d (by omega)
  · by_cases w : p = b
    · rw [w] at d ⊢; exact ha q x a c d
    · rw [ha' q x p a c d w]
      have pr0 := prb q x p a c d
      have : ¬ pl p = n := fun z => w (inj p pr0.1 pr0.2 z)
      exact h.argu q x p a c d e (by omega)
/-- the operands of the PHIs f to i - 1 in place k are renamed -/
def ARI (as ar w lt : Int → Int) (f k i : Int) : Prop := ∀ q : Int, ((∃ j : Int, f ≤ j ∧ j < i ∧ q = as j + k) → w q = RNF lt (ar q)) ∧ (¬ (∃ j : Int, f ≤ j ∧ j < i ∧ q = as j + k) → w q = ar q)
theorem ARI.init (as ar lt : Int → Int) (f k : Int) : ARI as ar ar lt f k f := by
  intro q
  refine ⟨fun ⟨j, a, b, _⟩ => by omega, fun _ => rfl⟩
theorem ARI.step {as ar w lt : Int → Int} {f k i : Int} (h : ARI as ar w lt f k i) (hi : f ≤ i) (ne : ∀ j : Int, f ≤ j → j < i → ¬ as j = as i) : ARI as ar (zup w (as i + k) (RNF lt (w (as i + k)))) lt f k (i + 1) := by
  intro q
  have old : w (as i + k) = ar (as i + k) := (h _).2 (fun ⟨j, a, b, c⟩ => ne j a b (by omega))
  by_cases e : q = as i + k
  · rw [e, zup_eq, old]
    exact ⟨fun _ => rfl, fun n => absurd ⟨i, hi, by omega, rfl⟩ n⟩
  · rw [zup_ne _ _ e]
    refine ⟨fun ⟨j, a, b, c⟩ => (h q).1 ⟨j, a, ?_, c⟩, fun n => (h q).2 (fun ⟨j, a, b, c⟩ => n ⟨j, a, by omega, c⟩)⟩
    rcases Int.lt_or_le j i with x | x
    · exact x
    · exfalso; apply e; rw [c, show j = i by omega]
/-- all operands that PHIs of x have for p are renamed, and no others -/
def RAE (fs ps pr as ar w lt : Int → Int) (x p : Int) : Prop := (∀ q : Int, SLT fs ps pr as q x p → w q = RNF lt (ar q)) ∧ (∀ q : Int, ¬ SLT fs ps pr as q x p → w q = ar q)
theorem PL.lt {ek g1 g2 : Int → Int} {B : Int} {ps pr : Int → Int} (L : PL ek g1 g2 B ps pr) {x : Int} (x0 : 0 ≤ x) (x1 : x < B) : ∀ (n : Nat) (k : Int), ps x ≤ k → k + n + 1 < ps (x + 1) → pr k < pr (k + n + 1) := by
  intro n
  induction n with
  | zero =>
    intro k a b
    rw [show k + ((0 : Nat) : Int) + 1 = k + 1 by omega] at b ⊢
    exact L.inc x k x0 x1 a b
  | succ n ih =>
    intro k a b
    have h1 := ih k a (by omega)
    have h2 := L.inc x (k + n + 1) x0 x1 (by omega) (by omega)
    rw [show k + ((n + 1 : Nat) : Int) + 1 = k + n + 1 + 1 by omega]
    omega
theorem PL.inj {ek g1 g2 : Int → Int} {B : Int} {ps pr : Int → Int} (L : PL ek g1 g2 B ps pr) {x k k' : Int} (x0 : 0 ≤ x) (x1 : x < B) (a : ps x ≤ k) (b : k < ps (x + 1)) (a' : ps x ≤ k') (b' : k' < ps (x + 1)) (e : pr k = pr k') : k = k' := by
  rcases Int.lt_trichotomy k k' with w | w | w
  · have := L.lt x0 x1 (k' - k - 1).toNat k a (by omega)
    rw [show k + ((k' - k - 1).toNat : Int) + 1 = k' by omega] at this; omega
  · exact w
  · have := L.lt x0 x1 (k - k' - 1).toNat k' a' (by omega)
    rw [show k' + ((k - k' - 1).toNat : Int) + 1 = k by omega] at this; omega
theorem RAE.none {fs ps pr as ar lt : Int → Int} {x p : Int} (h : ∀ k : Int, ps x ≤ k → k < ps (x + 1) → ¬ pr k = p) : RAE fs ps pr as ar ar lt x p := by
  have n : ∀ q : Int, ¬ SLT fs ps pr as q x p := fun q ⟨i, k, _, _, a, b, _, c⟩ => h (ps x + k) (by omega) (by omega) c
  exact ⟨fun q s => absurd s (n q), fun q _ => rfl⟩
theorem RAE.of {ek g1 g2 fs ps pr as ar w lt : Int → Int} {B x p k : Int} (L : PL ek g1 g2 B ps pr) (x0 : 0 ≤ x) (x1 : x < B) (k0 : 0 ≤ k) (k1 : ps x + k < ps (x + 1)) (k2 : pr (ps x + k) = p) (h : ARI as ar w lt (fs x) k (fs (x + 1))) : RAE fs ps pr as ar w lt x p := by
  refine ⟨fun q s => (h q).1 ?_, fun q s => (h q).2 (fun ⟨j, a, b, c⟩ => s ⟨j, k, a, b, k0, by omega, c, k2⟩)⟩
  obtain ⟨i, k', a, b, c, d, e, f⟩ := s
  have := L.inj x0 x1 (k := ps x + k) (k' := ps x + k') (by omega) k1 (by omega) (by omega) (by rw [k2, f])
  exact ⟨i, a, b, by omega⟩
theorem ARI.past {as ar w lt : Int → Int} {f k i : Int} (h : ARI as ar w lt f k i) (e : i ≤ f) : ARI as ar w lt f k f := by
  intro q
  refine ⟨fun ⟨j, a, b, _⟩ => by omega, fun _ => (h q).2 (fun ⟨j, a, b, _⟩ => by omega)⟩
/-- the operands for p in the first i goals of p are renamed -/
def GAI (g1 g2 fs ps pr as ar w lt : Int → Int) (B p i : Int) : Prop := ∀ q x : Int, 0 ≤ x → x < B → (SLT fs ps pr as q x p → ((∃ j : Int, 0 ≤ j ∧ j < i ∧ glF g1 g2 p j = x) → w q = RNF lt (ar q)) ∧ (¬ (∃ j : Int, 0 ≤ j ∧ j < i ∧ glF g1 g2 p j = x) → w q = ar q)) ∧ (∀ p' : Int, ¬ p' = p → SLT fs ps pr as q x p' → w q = ar q)
theorem GAI.init (g1 g2 fs ps pr as ar lt : Int → Int) (B p : Int) : GAI g1 g2 fs ps pr as ar ar lt B p 0 := by
  intro q x a b
  refine ⟨fun _ => ⟨fun ⟨j, c, d, _⟩ => by omega, fun _ => rfl⟩, fun _ _ _ => rfl⟩
theorem GAI.step {ek g1 g2 rs fs ps pr as bl ar w w' lt : Int → Int} {B P R p i : Int} (k : BLK B P R rs fs bl) (m : AMF B fs ps as) (h : GAI g1 g2 fs ps pr as ar w lt B p i) (i0 : 0 ≤ i) (i1 : i < gcF ek g1 g2 p) (g0 : 0 ≤ glF g1 g2 p i) (g1' : glF g1 g2 p i < B) (r : RAE fs ps pr as w w' lt (glF g1 g2 p i) p) : GAI g1 g2 fs ps pr as ar w' lt B p (i + 1) := by
  intro q x a b
  refine ⟨fun s => ⟨fun ⟨j, c, d, e⟩ => ?_, fun n => ?_⟩, fun p' np s => ?_⟩
  · by_cases ji : j = i
    · rw [ji] at e
      have s2 := s
      rw [← e] at s2
      rw [r.1 q s2]
      congr 1
      apply ((h q x a b).1 s).2
      rintro ⟨j', c', d', e'⟩
      have := gl_one (ek := ek) (p := p) (i := j') (i' := i) c' (by omega) i0 i1 (by rw [e', e])
      omega
    · rw [r.2 q ?_]
      · exact ((h q x a b).1 s).1 ⟨j, c, by omega, e⟩
      · intro s'
        have o := SLT.one k m a b g0 g1' s s'
        have := gl_one (ek := ek) (p := p) (i := j) (i' := i) c (by omega) i0 i1 (by rw [e, o.1])
        omega
  · rw [r.2 q ?_]
    · exact ((h q x a b).1 s).2 (fun ⟨j, c, d, e⟩ => n ⟨j, c, by omega, e⟩)
    · intro s'
      have o := SLT.one k m a b g0 g1' s s'
      exact n ⟨i, i0, by omega, o.1.symm⟩
  · rw [r.2 q ?_]
    · exact (h q x a b).2 p' np s
    · intro s'
      exact np (SLT.one k m a b g0 g1' s s').2
/-- the next block begins -/
theorem RN.begin {B P R : Int} {rs fs ps pr as bl id pl tg pt lf rt eu ar dn sd db : Int → Int} {g n b : Int} (k : BLK B P R rs fs bl) (h : RN B P R fs ps pr as bl id pl tg pt lf rt eu ar dn sd db g n (-1) (-P)) (fb : fs b ≤ P) : RN B P R fs ps pr as bl id pl tg pt lf rt eu ar dn sd db g n b (fs b - P) := by
  refine ⟨h.st, fun s a c => ?_, h.rowu, h.endu, h.argu⟩
  rw [h.dnd s a c]
  constructor
  · rintro (x | x)
    · exact Or.inl x
    · omega
  · rintro (x | x)
    · exact Or.inl x
    · exfalso
      rcases Int.lt_or_le s 0 with w | w
      · have := k.pbl s a w
        rw [x.1] at this; omega
      · omega
/-- block b is done -/
theorem RN.close {ek g1 g2 : Int → Int} {B P R : Int} {rs fs ps pr as bl id po pl od tg pt lf rt eu ar w dn sd db pa pm lt hr hl : Int → Int} {rd g n b h d gi : Int} (k : BLK B P R rs fs bl) (m : AMF B fs ps as) (L : PL ek g1 g2 B ps pr) (o : OD B po id pl od rd) (r : RN B P R fs ps pr as bl id pl tg pt lf rt eu ar dn sd db g n b (rs (b + 1))) (p : PH id pa pm lt hr hl db g h d) (hd : pa (d - 1) = b) (n0 : 0 ≤ n) (n1 : n < rd) (eb : od n = b) (G : GAI g1 g2 fs ps pr as ar w lt B b gi) (hg : gcF ek g1 g2 b ≤ gi) (hP : 0 ≤ P) (rb : 0 ≤ rs (b + 1)) (xe : ((-2147483648 ≤ eu b ∧ eu b ≤ 4294968319) ∨ eu b = 1099511627776)) (xa : ∀ q : Int, ((-2147483648 ≤ ar q ∧ ar q ≤ 4294968319) ∨ ar q = 1099511627776)) : RN B P R fs ps pr as bl id pl tg pt lf rt (zup eu b (RNF lt (eu b))) w dn sd db g (n + 1) (-1) (-P) := by
  obtain ⟨q0, q1, q2⟩ := o.ord n n0 n1
  rw [eb] at q0 q1 q2
  have blr : ∀ s : Int, -P ≤ s → s < R → 0 ≤ bl s ∧ bl s < B := by
    intro s a c
    rcases Int.lt_or_le s 0 with w | w
    · exact (k.pbl s a w).1
    · exact (k.rbl s w c).1
  have od' := r.ord q2
  refine r.next (fun x a c e => ?_) q0 q1 q2 n0 (fun s a c e => ?_) blr (fun s a c e => by have := blr s a c; omega) ?_ (fun x ne => zup_ne _ _ ne) (fun q x p' a c s => ?_) (fun q x a c s => ?_) (fun q x p' a c s np => (G q x a c).2 p' np s)
  · have := (o.plc x a c (by omega)).2.1
    rw [e, eb] at this; exact this.symm
  · rcases Int.lt_or_le s 0 with w | w
    · omega
    · have := (k.rbl s w c).2.2; rw [e] at this; exact this
  · rw [zup_eq]; exact (RNF_ok (n := n) p hd od' xe).1
  · obtain ⟨i, k', _, _, a1, a2, _, e⟩ := s
    have := (L.out x (ps x + k') a c (by omega) (by omega)).1
    rw [e] at this; exact this
  · have s2 := s
    obtain ⟨i, k', _, _, a1, a2, _, e⟩ := s2
    have ed := (L.out x (ps x + k') a c (by omega) (by omega)).2
    rw [e] at ed
    obtain ⟨j, j0, j1, j2⟩ := ed
    rw [((G q x a c).1 s).1 ⟨j, j0, by omega, j2⟩]
    exact (RNF_ok (n := n) p hd od' (xa q)).1
/-- the starts are in order, from 0 to the end -/
abbrev MS (B N : Int) (f : Int → Int) : Prop := (0 ≤ B) ∧ (f 0 = 0) ∧ (∀ b : Int, 0 ≤ b → b < B → f b ≤ f (b + 1)) ∧ (f B = N)
theorem MS.b0 {B N : Int} {f : Int → Int} (h : MS B N f) : 0 ≤ B := h.1
theorem MS.z {B N : Int} {f : Int → Int} (h : MS B N f) : f 0 = 0 := h.2.1
theorem MS.mo {B N : Int} {f : Int → Int} (h : MS B N f) : ∀ b : Int, 0 ≤ b → b < B → f b ≤ f (b + 1) := h.2.2.1
theorem MS.e {B N : Int} {f : Int → Int} (h : MS B N f) : f B = N := h.2.2.2
theorem MS.le {B N : Int} {f : Int → Int} (h : MS B N f) : ∀ (n : Nat) (b : Int), 0 ≤ b → b + n ≤ B → f b ≤ f (b + n) := by
  intro n
  induction n with
  | zero => intro b a c; rw [show b + ((0 : Nat) : Int) = b by omega]; exact Int.le_refl _
  | succ n ih =>
    intro b a c
    have h1 := ih b a (by omega)
    have h2 := h.mo (b + n) (by omega) (by omega)
    rw [show b + ((n + 1 : Nat) : Int) = b + n + 1 by omega]
    omega
theorem MS.le' {B N : Int} {f : Int → Int} (h : MS B N f) {a b : Int} (a0 : 0 ≤ a) (ab : a ≤ b) (b1 : b ≤ B) : f a ≤ f b := by
  have := h.le (b - a).toNat a a0 (by omega)
  rw [show a + ((b - a).toNat : Int) = b by omega] at this; exact this
theorem MS.at {B N : Int} {f : Int → Int} (h : MS B N f) (s : Int) (s0 : 0 ≤ s) (s1 : s < N) : ∃ x : Int, 0 ≤ x ∧ x < B ∧ f x ≤ s ∧ s < f (x + 1) := by
  have key : ∀ n : Nat, (n : Int) ≤ B → s < f n → ∃ x : Int, 0 ≤ x ∧ x < B ∧ f x ≤ s ∧ s < f (x + 1) := by
    intro n
    induction n with
    | zero => intro _ b; have := h.z; rw [show ((0 : Nat) : Int) = 0 by omega] at b; omega
    | succ n ih =>
      intro a b
      rcases Int.lt_or_le s (f n) with w | w
      · exact ih (by omega) w
      · exact ⟨n, by omega, by omega, w, by rw [show ((n + 1 : Nat) : Int) = (n : Int) + 1 by omega] at b; exact b⟩
  have b0 := h.b0
  exact key B.toNat (by omega) (by rw [show ((B.toNat : Nat) : Int) = B by omega, h.e]; exact s1)
theorem MS.one {B N : Int} {f : Int → Int} (h : MS B N f) {s x y : Int} (x0 : 0 ≤ x) (x1 : x < B) (a : f x ≤ s) (b : s < f (x + 1)) (y0 : 0 ≤ y) (y1 : y < B) (c : f y ≤ s) (d : s < f (y + 1)) : x = y := by
  rcases Int.lt_trichotomy x y with w | w | w
  · have := h.le' (a := x + 1) (b := y) (by omega) (by omega) (by omega); omega
  · exact w
  · have := h.le' (a := y + 1) (b := x) (by omega) (by omega) (by omega); omega
theorem BLK.ex {B P R : Int} {rs fs : Int → Int} (hr : MS B R rs) (hf : MS B P fs) : ∃ bl : Int → Int, BLK B P R rs fs bl := by
  have ex : ∀ s : Int, ∃ x : Int, (0 ≤ s → s < R → 0 ≤ x ∧ x < B ∧ rs x ≤ s ∧ s < rs (x + 1)) ∧ (-P ≤ s → s < 0 → 0 ≤ x ∧ x < B ∧ fs x ≤ s + P ∧ s + P < fs (x + 1)) := by
    intro s
    rcases Int.lt_or_le s 0 with w | w
    · rcases Int.lt_or_le s (-P) with v | v
      · exact ⟨0, fun _ => by omega, fun _ => by omega⟩
      · obtain ⟨x, a⟩ := hf.at (s + P) (by omega) (by omega)
        exact ⟨x, fun _ => by omega, fun _ _ => a⟩
    · rcases Int.lt_or_le s R with v | v
      · obtain ⟨x, a⟩ := hr.at s w v
        exact ⟨x, fun _ _ => a, fun _ => by omega⟩
      · exact ⟨0, fun _ => by omega, fun _ => by omega⟩
  obtain ⟨bl, hbl⟩ : ∃ bl : Int → Int, ∀ s : Int, (0 ≤ s → s < R → 0 ≤ bl s ∧ bl s < B ∧ rs (bl s) ≤ s ∧ s < rs (bl s + 1)) ∧ (-P ≤ s → s < 0 → 0 ≤ bl s ∧ bl s < B ∧ fs (bl s) ≤ s + P ∧ s + P < fs (bl s + 1)) := ⟨fun s => Classical.choose (ex s), fun s => Classical.choose_spec (ex s)⟩
  refine ⟨bl, fun x i a b c d => ?_, fun x i a b c d => ?_, fun s a b => ?_, fun s a b => ?_, fun x a b => ?_, fun x a b => ?_⟩
  · have z := hr.le' (a := 0) (b := x) (by omega) a (by omega)
    have z2 := hr.le' (a := x + 1) (b := B) (by omega) (by omega) (by omega)
    have := hr.z
    have := hr.e
    have q := (hbl i).1 (by omega) (by omega)
    exact hr.one q.1 q.2.1 q.2.2.1 q.2.2.2 a b c d
  · have z := hf.le' (a := 0) (b := x) (by omega) a (by omega)
    have z2 := hf.le' (a := x + 1) (b := B) (by omega) (by omega) (by omega)
    have := hf.z
    have := hf.e
    have q := (hbl (i - P)).2 (by omega) (by omega)
    exact hf.one (s := i) q.1 q.2.1 (by have := q.2.2.1; omega) (by have := q.2.2.2; omega) a b c d
  · have q := (hbl s).1 a b
    exact ⟨⟨q.1, q.2.1⟩, q.2.2⟩
  · have q := (hbl s).2 a b
    exact ⟨⟨q.1, q.2.1⟩, q.2.2⟩
  · have z := hr.le' (a := 0) (b := x) (by omega) a (by omega)
    have z2 := hr.le' (a := x + 1) (b := B) (by omega) (by omega) (by omega)
    have := hr.z
    have := hr.e
    have := hr.mo x a b
    omega
  · have z := hf.le' (a := 0) (b := x) (by omega) a (by omega)
    have z2 := hf.le' (a := x + 1) (b := B) (by omega) (by omega) (by omega)
    have := hf.z
    have := hf.e
    have := hf.mo x a b
    omega
theorem RN.roomP {B P R : Int} {fs ps pr as bl id pl tg pt lf rt eu ar dn sd db : Int → Int} {g n b i : Int} (h : RN B P R fs ps pr as bl id pl tg pt lf rt eu ar dn sd db g n b (i - P)) (i0 : 0 ≤ i) (i1 : i < P) (hR : 0 ≤ R) (e : bl (i - P) = b) (pb : pl b = n) (t : 0 ≤ pt i) : g + 1 ≤ 1000 := by
  have u := h.undone (s := i - P) (by omega) (by omega) e pb (by omega)
  have tt : 0 ≤ TT tg pt P (i - P) := by unfold TT; rw [if_neg (by omega), show i - P + P = i by omega]; exact t
  exact h.st.room (by omega) (by omega) u tt
theorem RN.roomR {B P R : Int} {fs ps pr as bl id pl tg pt lf rt eu ar dn sd db : Int → Int} {g n b i : Int} (h : RN B P R fs ps pr as bl id pl tg pt lf rt eu ar dn sd db g n b i) (i0 : 0 ≤ i) (i1 : i < R) (hP : 0 ≤ P) (e : bl i = b) (pb : pl b = n) (t : 0 ≤ tg i) : g + 1 ≤ 1000 := by
  have u := h.undone (s := i) (by omega) i1 e pb (by omega)
  have tt : 0 ≤ TT tg pt P i := by unfold TT; rw [if_pos i0]; exact t
  exact h.st.room (by omega) i1 u tt
/-- the PHIs of b are done: its ROWs begin -/
theorem RN.rows {B P R : Int} {rs fs ps pr as bl id pl tg pt lf rt eu ar dn sd db : Int → Int} {g n b i : Int} (k : BLK B P R rs fs bl) (h : RN B P R fs ps pr as bl id pl tg pt lf rt eu ar dn sd db g n b (i - P)) (b0 : 0 ≤ b) (b1 : b < B) (i0 : fs (b + 1) ≤ i) (i1 : i ≤ P) : RN B P R fs ps pr as bl id pl tg pt lf rt eu ar dn sd db g n b (rs b) := by
  apply h.jump
  intro s a c e
  have := k.rm b b0 b1
  rcases Int.lt_or_le s 0 with w | w
  · have q := k.pbl s a w
    rw [e] at q; omega
  · have q := k.rbl s w c
    rw [e] at q; omega
theorem RN.init {B P R : Int} {rs fs ps pr as bl id pl tg pt lf rt eu ar : Int → Int} (k : BLK B P R rs fs bl) (hP : 0 ≤ P) (hR : 0 ≤ R) (t : sg (fun j => if 0 ≤ TT tg pt P (j - P) then 1 else 0) (P + R).toNat ≤ 1000) (sd db : Int → Int) : ∃ dn : Int → Int, RN B P R fs ps pr as bl id pl tg pt lf rt eu ar dn sd db 0 0 (-1) (-P) := by
  obtain ⟨dn, hdn⟩ : ∃ dn : Int → Int, ∀ s : Int, dn s = 0 := ⟨fun _ => 0, fun _ => rfl⟩
  have e : sg (fun j => if dn (j - P) = 1 ∧ 0 ≤ TT tg pt P (j - P) then 1 else 0) (P + R).toNat = 0 := by
    rw [sg_congr (g := fun _ => 0) (P + R).toNat (fun j a b => by show (if dn (j - P) = 1 ∧ _ then (1 : Int) else 0) = 0; rw [hdn, if_neg (by omega)]), sg_const]; omega
  refine ⟨dn, ⟨⟨by omega, fun s => by rw [hdn]; omega, fun s a b c => by rw [hdn] at c; omega, fun v a b => by omega, e.symm, t⟩, fun s a b => ?_, fun s a b c => by rw [hdn] at c; omega, fun x a b c d => by omega, fun q x p a b c d e => by omega⟩⟩
  rw [hdn]
  constructor
  · intro w; omega
  · rintro (x | x)
    · omega
    · omega
theorem RNF_rng {lt : Int → Int} (h : ∀ j : Int, -1 ≤ lt j ∧ lt j ≤ 1023) {x : Int} (hx : ((-2147483648 ≤ x ∧ x ≤ 4294968319) ∨ x = 1099511627776)) : ((-2147483648 ≤ RNF lt x ∧ RNF lt x ≤ 4294968319) ∨ RNF lt x = 1099511627776) := by
  unfold RNF
  split
  · have := h (x - 4294967296); omega
  · exact hx
