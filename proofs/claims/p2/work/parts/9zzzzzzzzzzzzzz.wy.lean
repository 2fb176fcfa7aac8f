/-! what never grows in a function: its blocks and ways, told by places that are apart (no sums) -/
theorem pig9 : ∀ (m n : Nat) (f : Nat → Nat), (∀ i : Nat, i < n → f i < m) → (∀ i j : Nat, i < j → j < n → f i ≠ f j) → n ≤ m
  | 0, n, f, h, _ => by
    by_cases z : n = 0
    · omega
    · exact absurd (h 0 (by omega)) (by omega)
  | m + 1, n, f, h, g => by
    by_cases z : n = 0
    · omega
    · have key := pig9 m (n - 1) (fun i => if f i = m then f (n - 1) else f i) (fun i hi => by
        show (if f i = m then f (n - 1) else f i) < m
        have h1 := h i (by omega)
        have h2 := h (n - 1) (by omega)
        have h3 := g i (n - 1) hi (by omega)
        split <;> omega) (fun i j ij hj => by
        show (if f i = m then f (n - 1) else f i) ≠ (if f j = m then f (n - 1) else f j)
        have h1 := g i j ij (by omega)
        have h2 := g i (n - 1) (by omega) (by omega)
        have h3 := g j (n - 1) (by omega) (by omega)
        split <;> split <;> omega)
      omega
theorem pigI {f : Int → Int} {n m : Int} (m0 : 0 ≤ m) (h : ∀ i : Int, 0 ≤ i → i < n → 0 ≤ f i ∧ f i < m) (g : ∀ i j : Int, 0 ≤ i → i < j → j < n → f i ≠ f j) : n ≤ m := by
  have key := pig9 m.toNat n.toNat (fun i => (f (i : Int)).toNat) (fun i hi => by
    have q := h (i : Int) (by omega) (by omega)
    show (f (i : Int)).toNat < m.toNat
    omega) (fun i j ij hj => by
    have q := g (i : Int) (j : Int) (by omega) (by omega) (by omega)
    have a := h (i : Int) (by omega) (by omega)
    have b := h (j : Int) (by omega) (by omega)
    show (f (i : Int)).toNat ≠ (f (j : Int)).toNat
    omega)
  omega
/-- block b of Q is block s b of P, with the end of block t b: no block has come, numbers only fall, ways of Q are ways of P -/
def WYR (P Q : PO) (la : Nat) : Prop := ∃ s t : Int → Int, (∀ b : Int, 0 ≤ b → b < Q.lz la → (b ≤ s b ∧ s b < P.lz la) ∧ 0 ≤ t b ∧ t b < P.lz la) ∧ (∀ b c : Int, 0 ≤ b → b < c → c < Q.lz la → s b ≠ s c ∧ t b ≠ t c) ∧ (∀ b c : Int, 0 ≤ b → b < Q.lz la → EDG Q la b c → EDG P la (t b) (s c)) ∧ (∀ b : Int, 0 ≤ b → b < Q.lz la → Q.ro (Q.be (Q.el la b)) = 31 → P.ro (P.be (P.el la (t b))) = 31) ∧ ∀ b : Int, 0 ≤ b → b < Q.lz la → Q.lz (Q.bp (Q.el la b)) ≤ P.lz (P.bp (P.el la (s b)))
/-- two blocks lead to c -/
def MPR (P : PO) (la : Nat) (c : Int) : Prop := ∃ p q : Int, (0 ≤ p ∧ p < P.lz la) ∧ (0 ≤ q ∧ q < P.lz la) ∧ p ≠ q ∧ EDG P la p c ∧ EDG P la q c
/-- an IF leads from p to c, and another block does so too -/
def IFW (P : PO) (la : Nat) (p c : Int) : Prop := (0 ≤ p ∧ p < P.lz la) ∧ P.ro (P.be (P.el la p)) = 31 ∧ EDG P la p c ∧ MPR P la c
/-- blocks, and ways of an IF to what two lead to, have places of their own among 180 -/
def TOK (P : PO) (la : Nat) : Prop := ∃ (e : Int → Int) (g : Int → Int → Int), (∀ b : Int, 0 ≤ b → b < P.lz la → 0 ≤ e b ∧ e b < 180) ∧ (∀ p c : Int, IFW P la p c → 0 ≤ g p c ∧ g p c < 180) ∧ (∀ b c : Int, 0 ≤ b → b < c → c < P.lz la → e b ≠ e c) ∧ (∀ p c q d : Int, IFW P la p c → IFW P la q d → g p c = g q d → p = q ∧ c = d) ∧ ∀ b p c : Int, 0 ≤ b → b < P.lz la → IFW P la p c → e b ≠ g p c
/-- no more than 60 blocks lead to a block -/
def PR60 (P : PO) (la : Nat) : Prop := ∀ (b : Int) (f : Int → Int) (n : Int), 0 ≤ b → b < P.lz la → (∀ i : Int, 0 ≤ i → i < n → (0 ≤ f i ∧ f i < P.lz la) ∧ EDG P la (f i) b) → (∀ i j : Int, 0 ≤ i → i < j → j < n → f i ≠ f j) → n ≤ 60
/-- to a block of number 60 or more one block leads at most -/
def I60 (P : PO) (la : Nat) : Prop := ∀ b : Int, 60 ≤ b → b < P.lz la → ¬ MPR P la b
/-- no block has more than n PHIs -/
def PHM (P : PO) (la : Nat) (n : Int) : Prop := ∀ b : Int, 0 ≤ b → b < P.lz la → P.lz (P.bp (P.el la b)) ≤ n
section WYR9
variable {L L' : List Nat} {P Q R : PO} {cO cI cZ : ClassId} {ed la : Nat} {a b c d n p q x : Int} {st aa s : Int → Int} {m : Int}
theorem WYR.same (z : Q.lz la = P.lz la) (e : ∀ b c : Int, 0 ≤ b → b < P.lz la → EDG Q la b c → EDG P la b c) (o : ∀ b : Int, 0 ≤ b → b < P.lz la → Q.ro (Q.be (Q.el la b)) = 31 → P.ro (P.be (P.el la b)) = 31) (h : ∀ b : Int, 0 ≤ b → b < P.lz la → Q.lz (Q.bp (Q.el la b)) ≤ P.lz (P.bp (P.el la b))) : WYR P Q la := ⟨fun b => b, fun b => b, fun b b0 b1 => ⟨⟨Int.le_refl b, show b < P.lz la from by omega⟩, b0, show b < P.lz la from by omega⟩, fun b c b0 bc c1 => ⟨show b ≠ c from by omega, show b ≠ c from by omega⟩, fun b c b0 b1 w => e b c b0 (by omega) w, fun b b0 b1 w => o b b0 (by omega) w, fun b b0 b1 => h b b0 (by omega)⟩
theorem WYR.refl (P : PO) (la : Nat) : WYR P P la := WYR.same rfl (fun _ _ _ _ e => e) (fun _ _ _ o => o) (fun _ _ _ => Int.le_refl _)
theorem WYR.trans (h : WYR P Q la) (k : WYR Q R la) (aq : ALP L R cO cI cZ ed la) : WYR P R la := by
  obtain ⟨s, t, h1, h2, h3, h4, h5⟩ := h
  obtain ⟨u, v, k1, k2, k3, k4, k5⟩ := k
  have inj : ∀ {f : Int → Int}, (∀ b c : Int, 0 ≤ b → b < c → c < Q.lz la → f b ≠ f c) → ∀ b c : Int, 0 ≤ b → b < Q.lz la → 0 ≤ c → c < Q.lz la → b ≠ c → f b ≠ f c := fun w b c b0 b1 c0 c1 ne => by
    rcases Int.lt_trichotomy b c with y | y | y
    · exact w b c b0 y c1
    · exact absurd y ne
    · exact fun e => w c b c0 y b1 e.symm
  refine ⟨fun b => s (u b), fun b => t (v b), fun b b0 b1 => ?_, fun b c b0 bc c1 => ?_, fun b c b0 b1 w => ?_, fun b b0 b1 w => ?_, fun b b0 b1 => ?_⟩
  · have y := k1 b b0 b1
    have z := h1 (u b) (by omega) y.1.2
    have z2 := h1 (v b) y.2.1 y.2.2
    exact ⟨⟨Int.le_trans y.1.1 z.1.1, z.1.2⟩, z2.2⟩
  · have yb := k1 b b0 (by omega)
    have yc := k1 c (by omega) c1
    have y := k2 b c b0 bc c1
    exact ⟨inj (fun b c b0 bc c1 => (h2 b c b0 bc c1).1) (u b) (u c) (by omega) yb.1.2 (by omega) yc.1.2 y.1, inj (fun b c b0 bc c1 => (h2 b c b0 bc c1).2) (v b) (v c) yb.2.1 yb.2.2 yc.2.1 yc.2.2 y.2⟩
  · have y := k1 b b0 b1
    exact h3 (v b) (u c) y.2.1 y.2.2 (k3 b c b0 b1 w)
  · have y := k1 b b0 b1
    exact h4 (v b) y.2.1 y.2.2 (k4 b b0 b1 w)
  · have y := k1 b b0 b1
    exact Int.le_trans (k5 b b0 b1) (h5 (u b) (by omega) y.1.2)
theorem WYR.fne (v : FNE P Q la) : WYR P Q la := WYR.same v.1 (fun b c b0 b1 e => by
    obtain ⟨eb, w⟩ := v.2 b b0 b1
    have o : Q.ro (P.be (P.el la b)) = P.ro (P.be (P.el la b)) := w.2.2.2 0
    unfold EDG at e
    rw [eb, w.1.2.2.1, w.1.2.2.2.1, w.1.2.2.2.2, o] at e
    exact e) (fun b b0 b1 o => by
    obtain ⟨eb, w⟩ := v.2 b b0 b1
    rw [eb, w.1.2.2.1, show Q.ro (P.be (P.el la b)) = P.ro (P.be (P.el la b)) from w.2.2.2 0] at o
    exact o) (fun b b0 b1 => by
    obtain ⟨eb, w⟩ := v.2 b b0 b1
    rw [eb, w.1.1, w.2.1.1]
    exact Int.le_refl _)
/-- drop: what is kept, numbered anew -/
theorem WYR.dre (h : DRE P Q la st aa s m) (al : ALP L P cO cI cZ ed la) (aq : ALP L' Q cO cI cZ ed la) (ks : KST P la st) : WYR P Q la := by
  have z := h.1.2.1
  refine ⟨s, s, fun b b0 b1 => ?_, fun b c b0 bc c1 => ?_, fun b c b0 b1 e => ?_, fun b b0 b1 o => ?_, fun b b0 b1 => ?_⟩
  · rw [z] at b1
    have y := h.1.1.2.2.1 b b0 b1
    exact ⟨y.1, by omega, y.1.2⟩
  · rw [z] at c1
    have y := h.1.1.2.2.2 b c b0 bc c1
    exact ⟨by omega, by omega⟩
  · have g := EDG.rng aq b0 b1 e
    rw [z] at b1 g
    exact (h.edg al ks b0 b1 g.1 g.2).mp e
  · rw [z] at b1
    have y := h.on b0 b1
    rw [h.ebe b0 b1, h.ro al y.1.1 y.1.2] at o
    exact o
  · rw [z] at b1
    rw [(h.nph b0 b1).1]
    exact Int.le_refl _
/-- join: block b goes behind y, then it is dropped -/
theorem WYR.jmr (h : JMR P Q la x d) (g : JMA P la x d) (r : DRE Q R la st aa s m) (al : ALP L Q cO cI cZ ed la) (aq : ALP L' R cO cI cZ ed la) (ks : KST Q la st) (sx : ∀ c : Int, 0 ≤ c → c < Q.lz la → st c ≠ 0 → c ≠ x) : WYR P R la := by
  have z := r.1.2.1
  have zq := h.1.1
  have ob : ∀ b : Int, 0 ≤ b → b < m → (b ≤ s b ∧ s b < P.lz la) ∧ s b ≠ x := fun b b0 b1 => by
    have y := r.1.1.2.2.1 b b0 b1
    exact ⟨⟨y.1.1, by omega⟩, sx (s b) (by omega) y.1.2 y.2.1⟩
  refine ⟨s, fun b => if s b = d then x else s b, fun b b0 b1 => ?_, fun b c b0 bc c1 => ?_, fun b c b0 b1 e => ?_, fun b b0 b1 o => ?_, fun b b0 b1 => ?_⟩
  · rw [z] at b1
    have y := ob b b0 b1
    refine ⟨y.1, ?_⟩
    show 0 ≤ (if s b = d then x else s b) ∧ (if s b = d then x else s b) < P.lz la
    have gx := g.1
    split <;> omega
  · rw [z] at c1
    have y := r.1.1.2.2.2 b c b0 bc c1
    have yb := ob b b0 (by omega)
    have yc := ob c (by omega) c1
    refine ⟨by omega, ?_⟩
    show (if s b = d then x else s b) ≠ (if s c = d then x else s c)
    split <;> split <;> omega
  · have rg := EDG.rng aq b0 b1 e
    rw [z] at b1 rg
    have e1 := (r.edg al ks b0 b1 rg.1 rg.2).mp e
    have y := ob b b0 b1
    show EDG P la (if s b = d then x else s b) (s c)
    by_cases w : s b = d
    · rw [if_pos w]
      rw [w] at e1
      exact (h.edy g).mp e1
    · rw [if_neg w]
      exact (h.edg (by omega) y.1.2 y.2 w).mp e1
  · rw [z] at b1
    have y := ob b b0 b1
    have o1 := r.on b0 b1
    rw [r.ebe b0 b1, r.ro al o1.1.1 o1.1.2] at o
    have eq := h.1.2 (s b) (by omega) y.1.2
    show P.ro (P.be (P.el la (if s b = d then x else s b))) = 31
    rw [eq.1, eq.2.2.2] at o
    by_cases w : s b = d
    · rw [if_pos w]
      rw [w, h.2.2.2.2.1.2.1] at o
      exact o
    · rw [if_neg w]
      rw [show Q.ro (P.be (P.el la (s b))) = P.ro (P.be (P.el la (s b))) from h.2.2.2.2.1.1 (s b) (by omega) y.1.2 w 0] at o
      exact o
  · rw [z] at b1
    have y := ob b b0 b1
    have eq := h.1.2 (s b) (by omega) y.1.2
    rw [(r.nph b0 b1).1, eq.1, eq.2.1, (h.2.1 (s b) (by omega) y.1.2).1.1]
    exact Int.le_refl _
theorem MPR.wyr {s t : Int → Int} (h2 : ∀ b c : Int, 0 ≤ b → b < c → c < Q.lz la → s b ≠ s c ∧ t b ≠ t c) (h1 : ∀ b : Int, 0 ≤ b → b < Q.lz la → (b ≤ s b ∧ s b < P.lz la) ∧ 0 ≤ t b ∧ t b < P.lz la) (h3 : ∀ b c : Int, 0 ≤ b → b < Q.lz la → EDG Q la b c → EDG P la (t b) (s c)) (w : MPR Q la c) : MPR P la (s c) := by
  obtain ⟨p, q, ⟨p0, p1⟩, ⟨q0, q1⟩, ne, e1, e2⟩ := w
  refine ⟨t p, t q, (h1 p p0 p1).2, (h1 q q0 q1).2, ?_, h3 p c p0 p1 e1, h3 q c q0 q1 e2⟩
  rcases Int.lt_trichotomy p q with y | y | y
  · exact (h2 p q p0 y q1).2
  · exact absurd y ne
  · exact fun e => (h2 q p q0 y p1).2 e.symm
theorem TOK.wyr (k : TOK P la) (h : WYR P Q la) (aq : ALP L Q cO cI cZ ed la) : TOK Q la := by
  obtain ⟨e, g, k1, k2, k3, k4, k5⟩ := k
  obtain ⟨s, t, h1, h2, h3, h4, _⟩ := h
  have up : ∀ p c : Int, IFW Q la p c → IFW P la (t p) (s c) := fun p c w => ⟨(h1 p w.1.1 w.1.2).2, h4 p w.1.1 w.1.2 w.2.1, h3 p c w.1.1 w.1.2 w.2.2.1, w.2.2.2.wyr h2 h1 h3⟩
  have rg : ∀ p c : Int, IFW Q la p c → 0 ≤ c ∧ c < Q.lz la := fun p c w => EDG.rng aq w.1.1 w.1.2 w.2.2.1
  have ne : ∀ b c : Int, 0 ≤ b → b < Q.lz la → 0 ≤ c → c < Q.lz la → b ≠ c → s b ≠ s c ∧ t b ≠ t c := fun b c b0 b1 c0 c1 y => by
    rcases Int.lt_trichotomy b c with z | z | z
    · exact h2 b c b0 z c1
    · exact absurd z y
    · have w := h2 c b c0 z b1
      exact ⟨fun v => w.1 v.symm, fun v => w.2 v.symm⟩
  refine ⟨fun b => e (s b), fun p c => g (t p) (s c), fun b b0 b1 => ?_, fun p c w => k2 _ _ (up p c w), fun b c b0 bc c1 => ?_, fun p c q d w v y => ?_, fun b p c b0 b1 w => ?_⟩
  · have y := (h1 b b0 b1).1
    exact k1 (s b) (by omega) y.2
  · have yb := (h1 b b0 (by omega)).1
    have yc := (h1 c (by omega) c1).1
    have n := (h2 b c b0 bc c1).1
    rcases Int.lt_trichotomy (s b) (s c) with z | z | z
    · exact k3 _ _ (by omega) z yc.2
    · exact absurd z n
    · exact fun v => k3 _ _ (by omega) z yb.2 v.symm
  · have u := k4 _ _ _ _ (up p c w) (up q d v) y
    have rc := rg p c w
    have rd := rg q d v
    refine ⟨Classical.byContradiction fun z => ?_, Classical.byContradiction fun z => ?_⟩
    · exact (ne p q w.1.1 w.1.2 v.1.1 v.1.2 z).2 u.1
    · exact (ne c d rc.1 rc.2 rd.1 rd.2 z).1 u.2
  · have y := (h1 b b0 b1).1
    exact k5 (s b) (t p) (s c) (by omega) y.2 (up p c w)
theorem PR60.wyr (k : PR60 P la) (h : WYR P Q la) : PR60 Q la := by
  obtain ⟨s, t, h1, h2, h3, _, _⟩ := h
  intro b f n b0 b1 w v
  have y := (h1 b b0 b1).1
  refine k (s b) (fun i => t (f i)) n (by omega) y.2 (fun i i0 i1 => ?_) (fun i j i0 ij j1 => ?_)
  · have u := w i i0 i1
    exact ⟨(h1 (f i) u.1.1 u.1.2).2, h3 (f i) b u.1.1 u.1.2 u.2⟩
  · have ui := (w i i0 (by omega)).1
    have uj := (w j (by omega) j1).1
    have ne := v i j i0 ij j1
    show t (f i) ≠ t (f j)
    rcases Int.lt_trichotomy (f i) (f j) with z | z | z
    · exact (h2 _ _ ui.1 z uj.2).2
    · exact absurd z ne
    · exact fun q => (h2 _ _ uj.1 z ui.2).2 q.symm
theorem I60.wyr (k : I60 P la) (h : WYR P Q la) : I60 Q la := by
  obtain ⟨s, t, h1, h2, h3, _, _⟩ := h
  intro b b0 b1 w
  have y := (h1 b (by omega) b1).1
  exact k (s b) (by omega) y.2 (w.wyr h2 h1 h3)
theorem PHM.wyr (k : PHM P la n) (h : WYR P Q la) : PHM Q la n := by
  obtain ⟨s, t, h1, _, _, _, h5⟩ := h
  intro b b0 b1
  have y := (h1 b b0 b1).1
  exact Int.le_trans (h5 b b0 b1) (k (s b) (by omega) y.2)
/-- so there are at most 180 blocks -/
theorem TOK.len (k : TOK P la) : P.lz la ≤ 180 := by
  obtain ⟨e, g, k1, _, k3, _, _⟩ := k
  exact pigI (f := e) (by omega) k1 k3
/-- and a PHI has at most 60 operands -/
theorem PR60.pn {k : Int} (h : PR60 P la) (s : SSP P la) (al : ALP L P cO cI cZ ed la) (b0 : 0 ≤ b) (b1 : b < P.lz la) (k0 : 0 ≤ k) (k1 : k < P.lz (P.bp (P.el la b))) : P.pn (P.el (P.bp (P.el la b)) k) ≤ 60 := by
  have en := s.2.2.2.2.2.2.2
  have kx := al.kphi b0 b1 k0 k1
  have pk := al.pik kx.1 kx.2
  refine h b (P.ia (P.pp (P.el (P.bp (P.el la b)) k))) _ b0 b1 (fun i i0 i1 => ⟨⟨(pk.2.2.2.2.2.2 i i0 i1).1.1, al.2.2.1 _ ⟨b, b0, b1, rfl⟩ k k0 k1 i i0 i1⟩, en.2.1 b k i b0 b1 k0 k1 i0 i1⟩) (fun i j i0 ij j1 => en.2.2 b k i j b0 b1 k0 k1 i0 ij j1)
/-- what a text gives: at most 60 blocks -/
theorem TOK.first (z : P.lz la ≤ 60) : TOK P la := ⟨fun b => b, fun p c => 60 + 2 * p + (if c = P.bf (P.el la p) then 0 else 1), fun b b0 b1 => ⟨b0, show b < 180 from by omega⟩, fun p c w => by
    have y := w.1
    show 0 ≤ 60 + 2 * p + (if c = P.bf (P.el la p) then 0 else 1) ∧ 60 + 2 * p + (if c = P.bf (P.el la p) then 0 else 1) < 180
    split <;> omega, fun b c b0 bc c1 => show b ≠ c from by omega, fun p c q d w v y => by
    have y2 : 60 + 2 * p + (if c = P.bf (P.el la p) then 0 else 1) = 60 + 2 * q + (if d = P.bf (P.el la q) then 0 else 1) := y
    have pq : p = q := by
      by_cases u1 : c = P.bf (P.el la p)
      · by_cases u2 : d = P.bf (P.el la q)
        · rw [if_pos u1, if_pos u2] at y2; omega
        · rw [if_pos u1, if_neg u2] at y2; omega
      · by_cases u2 : d = P.bf (P.el la q)
        · rw [if_neg u1, if_pos u2] at y2; omega
        · rw [if_neg u1, if_neg u2] at y2; omega
    subst pq
    refine ⟨rfl, ?_⟩
    have wc := w.2.2.1.way.2
    have wd := v.2.2.1.way.2
    by_cases u1 : c = P.bf (P.el la p)
    · by_cases u2 : d = P.bf (P.el la p)
      · rw [u1, u2]
      · rw [if_pos u1, if_neg u2] at y2; omega
    · by_cases u2 : d = P.bf (P.el la p)
      · rw [if_neg u1, if_pos u2] at y2; omega
      · rcases wc with wc | wc
        · exact absurd wc.symm u1
        · rcases wd with wd | wd
          · exact absurd wd.symm u2
          · exact wc.2.symm.trans wd.2, fun b p c b0 b1 w => by
    have y := w.1
    show b ≠ 60 + 2 * p + (if c = P.bf (P.el la p) then 0 else 1)
    split <;> omega⟩
theorem PR60.first (z : P.lz la ≤ 60) : PR60 P la := fun b f n b0 b1 w v => by
  have y := pigI (f := f) (m := P.lz la) (n := n) (by omega) (fun i i0 i1 => (w i i0 i1).1) v
  omega
theorem I60.first (z : P.lz la ≤ 60) : I60 P la := fun b b0 b1 => by omega
/-- a block in a frontier has two PREDS -/
theorem RCH.last (h : RCH P la a x) (n : x ≠ 0) : ∃ p : Int, RCH P la a p ∧ EDG P la p x := by
  have key := h (fun b => RCH P la a b ∧ (b ≠ 0 → ∃ p : Int, RCH P la a p ∧ EDG P la p b)) (fun z => ⟨RCH.zero z, fun w => absurd rfl w⟩) (fun p q s e ne => ⟨s.1.step e ne, fun _ => ⟨p, s.1, e⟩⟩)
  exact key.2 n
theorem RCH.before (h : RCH P la (-1) x) (n : x ≠ 0) : ∃ p : Int, RCH P la x p ∧ EDG P la p x := by
  have key := h (fun b => RCH P la x b ∨ ∃ p : Int, RCH P la x p ∧ EDG P la p x) (fun _ => Or.inl (RCH.zero n)) (fun p q s e _ => by
    rcases s with s | s
    · by_cases z : q = x
      · rw [z] at e; exact Or.inr ⟨p, s, e⟩
      · exact Or.inl (s.step e z)
    · exact Or.inr s)
  rcases key with k | k
  · exact absurd k (RCH.not x)
  · exact k
theorem FRO.mpr (f : FRO P la a x) (al : ALP L P cO cI cZ ed la) (l0 : 0 < P.lz la) (en : ENE P la) : MPR P la x := Classical.byContradiction fun nm => by
  have x0 := f.ne0 al l0 en
  obtain ⟨_, nd, p, dp, e⟩ := f
  have rp := dp.2.1.rng al.1.1 (by omega)
  have one : ∀ q : Int, 0 ≤ q → q < P.lz la → EDG P la q x → q = p := fun q q0 q1 eq => Classical.byContradiction fun ne => nm ⟨q, p, ⟨q0, q1⟩, rp, ne, eq, e⟩
  have ex : x ≠ -1 := fun z => by
    have g := EDG.rng al rp.1 rp.2 e
    omega
  have rx : RCH P la (-1) x := dp.2.1.step e ex
  by_cases ax : a = x
  · obtain ⟨q, rq, eq⟩ := rx.before x0
    have g := rq.rng al.1.1 (by omega)
    have z := one q g.1 g.2 eq
    rw [z, ← ax] at rq
    exact dp.2.2 rq
  · refine nd ⟨ax, dp.1, rx, fun r => ?_⟩
    obtain ⟨q, rq, eq⟩ := r.last x0
    have g := rq.rng al.1.1 (by omega)
    have z := one q g.1 g.2 eq
    rw [z] at rq
    exact dp.2.2 rq
end WYR9
