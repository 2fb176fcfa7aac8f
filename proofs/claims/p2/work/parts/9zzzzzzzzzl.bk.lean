/-- lists keep the lengths of their rows -/
def CPA (L : List Nat) (P P' : PO) : Prop := ∀ y : Nat, y ∈ L → P.kd y = 30 → P'.cap y = P.cap y
/-- what a text's block may change: it, its end, the list of rows taken, its own rows, rows that end nothing -/
def SBK (x e lr lx : Nat) (P : PO) (z : Nat) : Prop := z = x ∨ z = e ∨ z = lr ∨ z = lx ∨ (P.kd z = 31 ∧ (P.ow z = lr ∨ P.ow z = lx)) ∨ (P.kd z = 17 ∧ P.ek z ≠ 1)
/-- a row taken from the list lr, or made -/
def CRH (lr x : Nat) (n : Int) (L : List Nat) (P : PO) (L' : List Nat) (P' : PO) : Prop := (x ∈ L' ∧ P'.kd x = 17 ∧ P'.ek x ≠ 1) ∧ (n + 1 ≤ P'.lz lr ∧ LG9 (P'.lz lr) (P.lz lr) n) ∧ (P'.rA x = 0 ∧ P'.rB x = 0) ∧ CHG (fun z => z = x ∨ z = lr ∨ (P.kd z = 31 ∧ P.ow z = lr)) L P L' P' ∧ CPS lr L P P' ∧ (x ∈ L → P.kd x = 17 ∧ P.ek x ≠ 1)
/-- the blocks of a text that was read so far -/
def BLS (P : PO) (la lb : Nat) (g : Int → Int) (n : Int) : Prop := DST P lb ∧ ∀ i : Int, 0 ≤ i → i < P.lz la → P.el la i = P.el lb i ∧ P.lz (P.bp (P.el la i)) = 0 ∧ GIN g n (P.bf (P.el la i)) ∧ GIN g n (P.bs (P.el la i)) ∧ 30 ≤ P.ro (P.be (P.el la i)) ∧ P.ro (P.be (P.el la i)) ≤ 32
/-- no rule broken: 60 blocks, 200 ROWs -/
def BRN (rp z r : Int) : Prop := rp < 0 → z ≤ 60 ∧ r ≤ 200
/-- a list's row is as it was, or short -/
def CPG (c c0 z : Int) : Prop := c0 ≤ c ∧ (c ≤ c0 ∨ c ≤ 2 * z + 10)
theorem CPG.refl (c z : Int) : CPG c c z := ⟨Int.le_refl _, Or.inl (Int.le_refl _)⟩
theorem CPG.step {c c' c0 z z' : Int} (h : CPG c c0 z) (l : c ≤ c') (g : c' ≤ c ∨ c' ≤ 10 ∨ 2 * c' ≤ 3 * z + 2) (n : 0 ≤ z) (m : z ≤ z') : CPG c' c0 z' := by
  obtain ⟨h1, h2⟩ := h
  exact ⟨by omega, by omega⟩
theorem CPG.d {c c0 z : Int} (h : CPG c c0 z) (n : 0 ≤ z) (k : 0 ≤ c0) : c - c0 ≤ 2 * z + 10 ∧ c0 ≤ c := by
  obtain ⟨h1, h2⟩ := h
  exact ⟨by omega, h1⟩
theorem LGM.eq {a b n : Int} (e : a = b) : LGM a b n := by rw [e]; exact LGM.refl _ _
theorem LG9.gm {a b n n' : Int} (h : LG9 a b n) (l : n + 1 ≤ n') : LGM a b n' := by
  have h' : a = b ∨ (a = b + 1 ∧ n = b) := h
  exact ⟨by omega, by omega⟩
theorem LGM.wk {a b n n' : Int} (h : LGM a b n) (l : n ≤ n') : LGM a b n' := by
  obtain ⟨h1, h2⟩ := h
  exact ⟨h1, by omega⟩
theorem LGM.to2 {a a' b b' n : Int} (h : LGM a b n) (e : a' = a) (f : b' = b) : LGM a' b' n := by rw [e, f]; exact h
section BLK5
variable {E E2 L L' M M2 : List Nat} {P P' Q Q2 : PO} {cO cI cZ cB : ClassId} {ed la lb lr lx x e t y : Nat} {S : Nat → Prop} {n : Int}
theorem CPA.refl (L : List Nat) (P : PO) : CPA L P P := fun _ _ _ => rfl
theorem CPA.trans (h : CPA L P Q) (k : KEG E L P M Q) (t : CPA M Q Q2) : CPA L P Q2 := fun y m d => by
  have q := k.mem m d (by decide)
  exact (t y q.1 q.2).trans (h y m d)
/-- a list that nothing has touched -/
theorem CHG.lst (c : CHG S L P L' P') (o : OWA L P cO ed) (m : y ∈ L) (k : P.kd y = 30) (h : ¬ S y) (g : ∀ z : Nat, z ∈ L → P.kd z = 31 → P.ow z = y → ¬ S z) : P'.lz y = P.lz y ∧ (∀ i : Int, 0 ≤ i → i < P.lz y → P'.el y i = P.el y i) ∧ P'.cap y = P.cap y := by
  have s := (c y m h).2
  have fl : P'.fl y = P.fl y := s.2.1 7
  have le : P'.le y = P.le y := s.2.1 1
  by_cases f : P.fl y = 1
  · obtain ⟨a, b, w, _⟩ := (o y m k).2 f
    have s2 := (c _ a (g _ a b w)).2
    have an : P'.an (P.le y) = P.an (P.le y) := s2.2.1 1
    have oa : P'.oa (P.le y) = P.oa (P.le y) := s2.2.2.1
    refine ⟨s.1 0, fun i _ _ => ?_, ?_⟩
    · unfold PO.el; rw [le, oa]
    · unfold PO.cap; rw [fl, le, an]
  · have z := ((o y m k).1 f).1
    refine ⟨s.1 0, fun i i0 i1 => by omega, ?_⟩
    unfold PO.cap; rw [fl, if_neg f, if_neg f]
theorem CHG.cpa (c : CHG S L P L' P') (o : OWA L P cO ed) (h : ∀ z : Nat, z ∈ L → S z → P.kd z ≠ 30 ∧ P.kd z ≠ 31) : CPA L P P' := fun y m k =>
  (c.lst o m k (fun q => (h y m q).1 k) (fun z mz kz _ q => (h z mz q).2 kz)).2.2
theorem EXT9.cpa (e : EXT9 L P L' P') (o : OWA L P cO ed) : CPA L P P' := fun y m k => e.cap o m k
theorem SM9.sbk {z : Nat} (s : SM9 z P Q) (h : SBK x e lr lx Q z) : SBK x e lr lx P z := by
  have e0 : Q.kd z = P.kd z := s.2.1 0
  have e8 : Q.ek z = P.ek z := s.2.1 8
  have e9 : Q.ow z = P.ow z := s.2.1 9
  unfold SBK at h ⊢
  rw [e0, e8, e9] at h; exact h
theorem CHG.sbk (h : CHG (SBK x e lr lx P) L P M Q) (k : CHG S M Q M2 Q2) (s : ∀ z : Nat, z ∈ M → S z → SBK x e lr lx Q z) : CHG (SBK x e lr lx P) L P M2 Q2 := h.trans2 k (fun z m n sm q => n (sm.sbk (s z (h z m n).1 q)))
theorem CRH.sm (c : CRH lr x n L P L' P') (m : y ∈ L) (k : P.kd y = 30) (ne : y ≠ lr) : SM9 y P P' := (c.2.2.2.1 y m (fun s => by
  rcases s with s | s | s
  · have q := c.2.2.2.2.2 (by rw [← s]; exact m); rw [← s] at q; omega
  · exact ne s
  · omega)).2
theorem CRH.txt (c : CRH lr x n L P L' P') (kl : P.kd lr = 30) (h : TXT L P cB e t) : TXT L' P' cB e t := h.chg c.2.2.2.1 (fun z m d s => by
  rcases s with s | s | s
  · have q := c.2.2.2.2.2 (by rw [← s]; exact m); rw [← s] at q; omega
  · rw [s] at d; omega
  · omega)
theorem CRH.sbk {w : Nat} (c : CRH lr w n M Q M2 Q2) (h : CHG (SBK x e lr lx P) L P M Q) : CHG (SBK x e lr lx P) L P M2 Q2 := h.sbk c.2.2.2.1 (fun z m s => by
  unfold SBK
  rcases s with s | s | s
  · have q := c.2.2.2.2.2 (by rw [← s]; exact m)
    rw [← s] at q; exact Or.inr (Or.inr (Or.inr (Or.inr (Or.inr q))))
  · exact Or.inr (Or.inr (Or.inl s))
  · exact Or.inr (Or.inr (Or.inr (Or.inr (Or.inl ⟨s.1, Or.inl s.2⟩)))))
/-- of a list of a Code, when a block comes -/
theorem CB9.not (c : CB9 la lb x n L P L' P') (g' : GLF L' P' cO cI cZ ed) (k : KEG E L P L' P') (m : y ∈ L) (d : P.kd y = 30) (o : P.ow y = y) (n1 : y ≠ la) (n2 : y ≠ lb) : ¬ (y = la ∨ y = lb ∨ y = P'.bp x ∨ y = P'.br x) := by
  obtain ⟨⟨xm, xk, _⟩, _⟩ := c
  have ym := k.mem m d (by decide)
  have yo : P'.ow y = y := ((k.1 y m (by omega)).2.2.2.1 d o).1
  obtain ⟨⟨_, w2, _, _⟩, _, w1, _, _⟩ := g'.owc x xm xk
  intro h
  rcases h with h | h | h | h
  · exact n1 h
  · exact n2 h
  · rw [← h, yo] at w1; rw [← w1] at xk; omega
  · rw [← h, yo] at w2; rw [← w2] at xk; omega
theorem CB9.txt (c : CB9 la lb x n L P L' P') (g' : GLF L' P' cO cI cZ ed) (k : KEG E L P L' P') (ka : P.kd la = 30) (kb : P.kd lb = 30) (h : TXT L P cB e t) : TXT L' P' cB e t := by
  obtain ⟨⟨xm, xk, _⟩, _, _, _, ch⟩ := c
  obtain ⟨⟨_, _, _, w2⟩, _, _, _, w1⟩ := g'.owc x xm xk
  refine h.chg ch (fun z m d s => ?_)
  have kz := (k.1 z m (by omega)).2.1
  rcases s with s | s
  · rcases s with s | s | s | s
    · rw [s] at d; omega
    · rw [s] at d; omega
    · rw [← s] at w1; omega
    · rw [← s] at w2; omega
  · omega
/-- what the blocks of a text are, where they have not changed -/
theorem BLS.old {g g' : Int → Int} {n' : Int} (b : BLS P la lb g n) (hl : ∀ i : Int, 0 ≤ i → i < P.lz la → Q.el la i = P.el la i ∧ Q.el lb i = P.el lb i ∧ SM9 (P.el la i) P Q ∧ SM9 (P.be (P.el la i)) P Q ∧ SM9 (P.bp (P.el la i)) P Q) (nn : n ≤ n') (gg : ∀ j : Int, 0 ≤ j → j < n → g' j = g j) {i : Int} (i0 : 0 ≤ i) (i1 : i < P.lz la) :
    Q.el la i = Q.el lb i ∧ Q.lz (Q.bp (Q.el la i)) = 0 ∧ GIN g' n' (Q.bf (Q.el la i)) ∧ GIN g' n' (Q.bs (Q.el la i)) ∧ 30 ≤ Q.ro (Q.be (Q.el la i)) ∧ Q.ro (Q.be (Q.el la i)) ≤ 32 := by
  obtain ⟨e1, e2, s1, s2, s3⟩ := hl i i0 i1
  obtain ⟨b1, b2, b3, b4, b5, b6⟩ := b.2 i i0 i1
  have f1 : Q.bp (P.el la i) = P.bp (P.el la i) := s1.2.1 1
  have f2 : Q.be (P.el la i) = P.be (P.el la i) := s1.2.1 3
  have f3 : Q.bf (P.el la i) = P.bf (P.el la i) := s1.1 0
  have f4 : Q.bs (P.el la i) = P.bs (P.el la i) := s1.1 1
  have f5 : Q.ro (P.be (P.el la i)) = P.ro (P.be (P.el la i)) := s2.1 0
  have f6 : Q.lz (P.bp (P.el la i)) = P.lz (P.bp (P.el la i)) := s3.1 0
  rw [e1, e2, f1, f2, f3, f4, f5, f6]
  exact ⟨b1, b2, b3.kept nn gg, b4.kept nn gg, b5, b6⟩
theorem BLS.ext {g : Int → Int} (b : BLS P la lb g n) (G : GLF L P cO cI cZ ed) (u : EXT9 L P L' P') (ca : la ∈ L ∧ P.kd la = 30 ∧ P.ek la = 12 ∧ P.ow la = la) (cb : lb ∈ L ∧ P.kd lb = 30 ∧ P.ek lb = 12 ∧ P.ow lb = lb) (z : P.lz la ≤ P.lz lb) : BLS P' la lb g n := by
  have lk := (G.gla la ca.1 ca.2.1).1
  rw [ca.2.2.1] at lk
  refine ⟨b.1.blk G cb (u.keg (E := []) G) (fun i i0 i1 => u.el G.owa cb.1 cb.2.1 i0 i1) (Or.inl ((u lb cb.1).2.1 0)), fun i i0 i1 => ?_⟩
  have i2 : i < P.lz la := by have e : P'.lz la = P.lz la := (u la ca.1).2.1 0; omega
  refine b.old (fun j j0 j1 => ?_) (Int.le_refl _) (fun _ _ _ => rfl) i0 i2
  obtain ⟨_, ym, yk⟩ := lk.2.2.2.2 j j0 j1
  exact ⟨u.el G.owa ca.1 ca.2.1 j0 j1, u.el G.owa cb.1 cb.2.1 j0 (by omega), (u _ ym).2, (u _ (G.gb ym yk).1.1).2, (u _ (G.owc _ ym yk).2.2.2.1).2⟩
/-- a block was read -/
theorem BLS.blk {g g' : Int → Int} {n' md : Int} (b : BLS P la lb g n) (G : GLF L P cO cI cZ ed) (ca : la ∈ L ∧ P.kd la = 30 ∧ P.ek la = 12 ∧ P.ow la = la) (cb : lb ∈ L ∧ P.kd lb = 30 ∧ P.ek lb = 12 ∧ P.ow lb = lb) (mz : md = P.lz la) (zb : md ≤ P.lz lb)
    (c : CB9 la lb x md L P M Q) (k1 : KEG E L P M Q) (G1 : GLF M Q cO cI cZ ed) (d1 : DST Q lb) (ch : CHG (SBK x (Q.be x) lr lx Q) M Q M2 Q2) (elx : lx = Q.br x) (cr : lr ∈ M ∧ Q.kd lr = 30 ∧ Q.ek lr = 17 ∧ Q.ow lr = lr)
    (k2 : KEG E2 M Q M2 Q2) (nn : n ≤ n') (gg : ∀ j : Int, 0 ≤ j → j < n → g' j = g j) (w2 : GIN g' n' (Q2.bf x)) (w3 : GIN g' n' (Q2.bs x)) (w4 : 30 ≤ Q2.ro (Q.be x) ∧ Q2.ro (Q.be x) ≤ 32) :
    BLS Q2 la lb g' n' ∧ (Q2.lz la = P.lz la + 1 ∧ Q2.lz lb = Q.lz lb ∧ Q2.tot 2 la = P.tot 2 la + Q2.lz (Q2.br x)) ∧ Q2.cap la = Q.cap la ∧ Q2.cap lb = Q.cap lb := by
  obtain ⟨⟨xm, xk, xb, xa, z5, _⟩, ⟨z1, z2, _⟩, ea, eb, c1⟩ := c
  have am := k1.mem ca.1 ca.2.1 (by decide)
  have bm := k1.mem cb.1 cb.2.1 (by decide)
  have ae : Q.ek la = 12 := (k1.ek ca.1 ca.2.1 (by decide)).trans ca.2.2.1
  have be9 : Q.ek lb = 12 := (k1.ek cb.1 cb.2.1 (by decide)).trans cb.2.2.1
  have bo : Q.ow lb = lb := ((k1.1 lb cb.1 (by have := cb.2.1; omega)).2.2.2.1 cb.2.1 cb.2.2.2).1
  obtain ⟨⟨r1, r2, r3, r4⟩, p1, p2, p3, p4⟩ := G1.owc x xm xk
  obtain ⟨xe1, xe2, xe3⟩ := (G1.gb xm xk).1
  obtain ⟨l1, l2, l3, l4⟩ := cr
  obtain ⟨ca1, ca2, ca3, ca4⟩ := ca
  obtain ⟨cb1, cb2, cb3, cb4⟩ := cb
  have w1 : Q2.lz (Q2.bp x) = 0 := by
    rw [(k2.2 x xm xk).1]
    exact ((ch _ p3 (fun q => by
      unfold SBK at q
      rcases q with q | q | q | q | q | q
      · rw [q] at p4; omega
      · rw [q] at p4; omega
      · rw [q, l4] at p2; rw [← p2] at xk; omega
      · rw [q, elx, r1] at p1; omega
      · omega
      · omega)).2.1 0).trans z5
  rw [← (k2.2 x xm xk).2.2] at w4
  have nS : ∀ l : Nat, Q.kd l = 30 → Q.ek l = 12 → ¬ SBK x (Q.be x) lr lx Q l := fun l k e q => by
    unfold SBK at q
    rcases q with q | q | q | q | q | q
    · rw [q] at k; omega
    · rw [q] at k; omega
    · rw [q] at e; omega
    · rw [q, elx] at e; omega
    · omega
    · omega
  have nA : ∀ l : Nat, Q.ek l = 12 → ∀ z : Nat, z ∈ M → Q.kd z = 31 → Q.ow z = l → ¬ SBK x (Q.be x) lr lx Q z := fun l e z m k w q => by
    unfold SBK at q
    rcases q with q | q | q | q | q | q
    · rw [q] at k; omega
    · rw [q] at k; omega
    · rw [q] at k; omega
    · rw [q, elx] at k; omega
    · rcases q.2 with h | h
      · rw [w] at h; rw [h] at e; omega
      · rw [w, elx] at h; rw [h] at e; omega
    · omega
  have la2 := ch.lst G1.owa am.1 am.2 (nS la am.2 ae) (nA la ae)
  have lb2 := ch.lst G1.owa bm.1 bm.2 (nS lb bm.2 be9) (nA lb be9)
  have lk := (G.gla la ca1 ca2).1
  rw [ca3] at lk
  have lz0 := lk.2.2.1.1
  have old : ∀ i : Int, 0 ≤ i → i < P.lz la → Q2.el la i = P.el la i ∧ Q2.el lb i = P.el lb i ∧ SM9 (P.el la i) P Q2 ∧ SM9 (P.be (P.el la i)) P Q2 ∧ SM9 (P.bp (P.el la i)) P Q2 ∧ Q2.br (P.el la i) = P.br (P.el la i) ∧ SM9 (P.br (P.el la i)) P Q2 := fun i i0 i1 => by
    obtain ⟨_, ym, yk⟩ := lk.2.2.2.2 i i0 i1
    have ey := (b.2 i i0 i1).1
    have el1 := (la2.2.1 i i0 (by omega)).trans (ea i i0 i1)
    have el2 := (lb2.2.1 i i0 (by omega)).trans (eb i i0 (by omega))
    have eqi : Q.el lb i = P.el la i := (eb i i0 (by omega)).trans ey.symm
    have dd := d1 i md i0 (by omega) (by omega)
    rw [eqi, ← xb] at dd
    refine ⟨el1, el2, ?_⟩
    generalize P.el la i = y at ym yk dd ⊢
    obtain ⟨ym1, yk1⟩ := k1.mem ym yk (by decide)
    obtain ⟨kp, kr, ke⟩ := k1.2 y ym yk
    obtain ⟨eb1, eb2, eb3⟩ := (G.gb ym yk).1
    obtain ⟨⟨a1, a2, a3, a4⟩, a5, a6, a7, a8⟩ := G.owc y ym yk
    obtain ⟨⟨q1, q2, q3, q4⟩, q5, q6, q7, q8⟩ := G1.owc y ym1 yk1
    rw [kr] at q1 q2 q3 q4
    rw [kp] at q5 q6 q7 q8
    rw [ke] at dd
    obtain ⟨nx, ne⟩ := dd
    obtain ⟨be1, be2⟩ := k1.mem eb1 eb2 (by decide)
    have be3 : Q.ek (P.be y) = 1 := (k1.ek eb1 eb2 (by decide)).trans eb3
    have t1 : ∀ z : Nat, z ∈ L → P.kd z ≠ 31 → ¬ (z = la ∨ z = lb ∨ z = Q.bp x ∨ z = Q.br x) → SM9 z P Q := fun z m k h => (c1 z m (fun q => by
      rcases q with q | q
      · exact h q
      · exact k q.1)).2
    have s1 : SM9 y P Q := t1 y ym (by omega) (fun h => by
      rcases h with h | h | h | h
      · rw [h] at yk; omega
      · rw [h] at yk; omega
      · rw [h] at yk1; omega
      · rw [h] at yk1; omega)
    have s2 : SM9 (P.be y) P Q := t1 _ eb1 (by omega) (fun h => by
      rcases h with h | h | h | h
      · rw [h] at eb2; omega
      · rw [h] at eb2; omega
      · rw [h] at be2; omega
      · rw [h] at be2; omega)
    have s3 : SM9 (P.bp y) P Q := t1 _ a7 (by omega) (fun h => by
      rcases h with h | h | h | h
      · rw [h, ca4] at a6; rw [← a6] at yk; omega
      · rw [h, cb4] at a6; rw [← a6] at yk; omega
      · rw [h, p2] at q6; exact nx q6.symm
      · rw [h, r1] at q5; omega)
    have s4 : SM9 (P.br y) P Q := t1 _ a3 (by omega) (fun h => by
      rcases h with h | h | h | h
      · rw [h, ca4] at a2; rw [← a2] at yk; omega
      · rw [h, cb4] at a2; rw [← a2] at yk; omega
      · rw [h, p1] at q1; omega
      · rw [h, r2] at q2; exact nx q2.symm)
    have u1 : SM9 y Q Q2 := (ch y ym1 (fun q => by
      unfold SBK at q
      rcases q with q | q | q | q | q | q
      · exact nx q
      · rw [q] at yk1; omega
      · rw [q] at yk1; omega
      · rw [q, elx] at yk1; omega
      · omega
      · omega)).2
    have u2 : SM9 (P.be y) Q Q2 := (ch _ be1 (fun q => by
      unfold SBK at q
      rcases q with q | q | q | q | q | q
      · rw [q] at be2; omega
      · exact ne q
      · rw [q] at be2; omega
      · rw [q, elx] at be2; omega
      · omega
      · exact q.2 be3)).2
    have u3 : SM9 (P.bp y) Q Q2 := (ch _ q7 (fun q => by
      unfold SBK at q
      rcases q with q | q | q | q | q | q
      · rw [q] at q8; omega
      · rw [q] at q8; omega
      · rw [q, l4] at q6; rw [← q6] at yk1; omega
      · rw [q, elx, r1] at q5; omega
      · omega
      · omega)).2
    have u4 : SM9 (P.br y) Q Q2 := (ch _ q3 (fun q => by
      unfold SBK at q
      rcases q with q | q | q | q | q | q
      · rw [q] at q4; omega
      · rw [q] at q4; omega
      · rw [q, l4] at q2; rw [← q2] at yk1; omega
      · rw [q, elx, r2] at q2; exact nx q2.symm
      · omega
      · omega)).2
    exact ⟨s1.trans u1, s2.trans u2, s3.trans u3, (u1.2.1 2).trans kr, s4.trans u4⟩
  have xi : Q2.el la (P.lz la) = x := (la2.2.1 _ (by omega) (by omega)).trans xa.symm
  have xj : Q2.el lb (P.lz la) = x := by rw [lb2.2.1 _ (by omega) (by omega), ← mz]; exact xb.symm
  refine ⟨⟨d1.blk G1 ⟨bm.1, bm.2, be9, bo⟩ k2 lb2.2.1 (Or.inl lb2.1), fun i i0 i1 => ?_⟩, ⟨la2.1.trans z1, lb2.1, ?_⟩, la2.2.2, lb2.2.2⟩
  · by_cases h : i < P.lz la
    · exact b.old (fun j j0 j1 => ⟨(old j j0 j1).1, (old j j0 j1).2.1, (old j j0 j1).2.2.1, (old j j0 j1).2.2.2.1, (old j j0 j1).2.2.2.2.1⟩) nn gg i0 h
    · have e : i = P.lz la := by have := la2.1; omega
      rw [e, xi, xj]; exact ⟨rfl, w1, w2, w3, w4.1, w4.2⟩
  · unfold PO.tot
    have e : (Q2.lz la).toNat = (P.lz la).toNat + 1 := by have := la2.1; omega
    have en : (((P.lz la).toNat : Nat) : Int) = P.lz la := by omega
    rw [e]
    show sumI (fun i => Q2.lz (Q2.2.1 2 (Q2.el la i))) (P.lz la).toNat + Q2.lz (Q2.2.1 2 (Q2.el la (((P.lz la).toNat : Nat) : Int))) = _
    rw [en, xi, sumI_eq (g := fun i => P.lz (P.2.1 2 (P.el la i))) (fun i i0 i1 => by
      have o := old i i0 (by omega)
      show Q2.lz (Q2.br (Q2.el la i)) = P.lz (P.br (P.el la i))
      rw [o.1, o.2.2.2.2.2.1]; exact o.2.2.2.2.2.2.1 0)]
    rfl
theorem EXT9.totG (u : EXT9 L P L' P') (G : GLF L P cO cI cZ ed) (ca : la ∈ L ∧ P.kd la = 30 ∧ P.ek la = 12 ∧ P.ow la = la) : P'.tot 2 la = P.tot 2 la := by
  have lk := (G.gla la ca.1 ca.2.1).1
  rw [ca.2.2.1] at lk
  unfold PO.tot
  rw [show P'.lz la = P.lz la from (u la ca.1).2.1 0]
  refine sumI_eq (fun i i0 i1 => ?_)
  obtain ⟨_, ym, yk⟩ := lk.2.2.2.2 i i0 (by omega)
  show P'.lz (P'.br (P'.el la i)) = P.lz (P.br (P.el la i))
  rw [u.el G.owa ca.1 ca.2.1 i0 (by omega), show P'.br (P.el la i) = P.br (P.el la i) from (u _ ym).2.2.1 2]
  exact (u _ (G.owc _ ym yk).1.2.2.1).2.1 0
theorem DST.keg (h : DST P lb) (g : GLF L P cO cI cZ ed) (c : lb ∈ L ∧ P.kd lb = 30 ∧ P.ek lb = 12 ∧ P.ow lb = lb) (k : KEG E L P L' P') (n : lb ∉ E) : DST P' lb := by
  have q := ((k.1 lb c.1 (by have := c.2.1; omega)).2.2.2.1 c.2.1 c.2.2.2).2 n
  exact h.blk g c k q.2 (Or.inl q.1)
theorem KEG.slz (k : KEG E L P L' P') (m : y ∈ L) (d : P.kd y = 30) (o : P.ow y = y) (n : y ∉ E) : P'.lz y = P.lz y := (((k.1 y m (by omega)).2.2.2.1 d o).2 n).1
end BLK5
