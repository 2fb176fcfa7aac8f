/-! equal values, while they are looked for -/
/-- operands of PHIs are as they were -/
def PHU (L : List Nat) (P Q : PO) : Prop := ∀ z : Nat, z ∈ L → P.kd z = 15 → Q.ia (P.pr z) = P.ia (P.pr z) ∧ Q.ia (P.pu z) = P.ia (P.pu z)
/-- gone is just what has been replaced -/
def GNS (P Q : PO) (la : Nat) (rp : Int → Int) : Prop := (∀ b k : Int, 0 ≤ b → b < P.lz la → 0 ≤ k → k < P.lz (P.bp (P.el la b)) → Q.pg (P.el (P.bp (P.el la b)) k) ≠ 0 → rp (P.pt (P.el (P.bp (P.el la b)) k)) ≠ 0) ∧ (∀ b k : Int, 0 ≤ b → b < P.lz la → 0 ≤ k → k < P.lz (P.br (P.el la b)) → Q.rg (P.el (P.br (P.el la b)) k) ≠ 0 → rSets (P.ro (P.el (P.br (P.el la b)) k)) ≠ 0 → rp (P.rt (P.el (P.br (P.el la b)) k)) ≠ 0) ∧ ∀ v : Int, 0 ≤ v → v ≤ 1001 → rp v ≠ 0 → (∃ b k : Int, 0 ≤ b ∧ b < P.lz la ∧ 0 ≤ k ∧ k < P.lz (P.bp (P.el la b)) ∧ P.pt (P.el (P.bp (P.el la b)) k) = v ∧ Q.pg (P.el (P.bp (P.el la b)) k) ≠ 0) ∨ ∃ b k : Int, 0 ≤ b ∧ b < P.lz la ∧ 0 ≤ k ∧ k < P.lz (P.br (P.el la b)) ∧ rSets (P.ro (P.el (P.br (P.el la b)) k)) ≠ 0 ∧ P.rt (P.el (P.br (P.el la b)) k) = v ∧ Q.rg (P.el (P.br (P.el la b)) k) ≠ 0
/-- nothing that is still to come is gone: blocks behind the d-th of the order, of that one PHIs from j and rows from k on -/
def UVG (P Q : PO) (la : Nat) (ord : Int → Int) (o d j k : Int) : Prop := ∀ e : Int, 0 ≤ e → e < o → (d < e → (∀ m : Int, 0 ≤ m → m < P.lz (P.bp (P.el la (ord e))) → Q.pg (P.el (P.bp (P.el la (ord e))) m) = 0) ∧ ∀ m : Int, 0 ≤ m → m < P.lz (P.br (P.el la (ord e))) → Q.rg (P.el (P.br (P.el la (ord e))) m) = 0) ∧ (e = d → (∀ m : Int, 0 ≤ m → j ≤ m → m < P.lz (P.bp (P.el la (ord e))) → Q.pg (P.el (P.bp (P.el la (ord e))) m) = 0) ∧ ∀ m : Int, 0 ≤ m → k ≤ m → m < P.lz (P.br (P.el la (ord e))) → Q.rg (P.el (P.br (P.el la (ord e))) m) = 0)
def EQJ (L : List Nat) (P Q : PO) (la : Nat) (rp br bb : Int → Int) : Prop := STQ L P Q ∧ OPR9 L P Q rp br bb ∧ RPS P la rp br bb ∧ PHU L P Q ∧ GNS P Q la rp
/-- why a row may be replaced by v -/
def RWY (P : PO) (la : Nat) (rp br bb : Int → Int) (b k v : Int) : Prop := (rUsA (P.ro (P.el (P.br (P.el la b)) k)) (P.rA (P.el (P.br (P.el la b)) k)) ≠ 0 ∧ CHQ rp br bb (P.ra (P.el (P.br (P.el la b)) k)) v) ∨ ∃ d i : Int, (0 ≤ d ∧ d < P.lz la ∧ 0 ≤ i ∧ i < P.lz (P.br (P.el la d))) ∧ rSets (P.ro (P.el (P.br (P.el la d)) i)) ≠ 0 ∧ P.rt (P.el (P.br (P.el la d)) i) = v ∧ ((d = b ∧ i < k) ∨ (DOM P la d b ∧ d ≠ b))
section EQI9
variable {L : List Nat} {P Q Q' : PO} {cO cI cZ : ClassId} {ed x y la : Nat} {rp br bb ord : Int → Int} {b d g j k o v : Int}
theorem GRW9.upi {t : Int} (h : rp t = 0) (g v : Int) : GRW9 rp br bb (zup rp t 1) (zup br t g) (zup bb t v) := fun u a => by
  have ne : u ≠ t := fun e => a (by rw [e]; exact h)
  rw [zup_ne _ _ ne, zup_ne _ _ ne, zup_ne _ _ ne]
  exact ⟨a, rfl, rfl⟩
theorem OPR9.mono {rp' br' bb' : Int → Int} (o : OPR9 L P Q rp br bb) (g : GRW9 rp br bb rp' br' bb') : OPR9 L P Q rp' br' bb' := ⟨fun z m k => ⟨fun q => ⟨((o.1 z m k).1 q).1, ((o.1 z m k).1 q).2.mono g⟩, fun q => ⟨((o.1 z m k).2 q).1, ((o.1 z m k).2 q).2.mono g⟩⟩, fun z m k i i0 i1 q => ⟨(o.2 z m k i i0 i1 q).1, (o.2 z m k i i0 i1 q).2.mono g⟩⟩
theorem OPR9.trans (o : OPR9 L P Q rp br bb) (s : STQ L P Q) (o2 : OPR9 L Q Q' rp br bb) : OPR9 L P Q' rp br bb := by
  refine ⟨fun z m k => ?_, fun z m k i i0 i1 q => ?_⟩
  · have a := o.1 z m k
    have b := o2.1 z m (by rw [s.kd]; exact k)
    exact ⟨fun q => ⟨(a.1 (b.1 q).1).1, (a.1 (b.1 q).1).2.trans (b.1 q).2⟩, fun q => ⟨(a.2 (b.2 q).1).1, (a.2 (b.2 q).1).2.trans (b.2 q).2⟩⟩
  · have n := (s.2.2.1 z m k).2.1
    have b := o2.2 z m (by rw [s.kd]; exact k) i i0 (by rw [n]; exact i1)
    rw [s.pr, s.pu] at b
    have b1 := b q
    have a := o.2 z m k i i0 i1 b1.1
    exact ⟨a.1, a.2.trans b1.2⟩
/-- a row is resolved -/
theorem EQJ.row (h : EQJ L P Q la rp br bb) (w : RW1 x Q Q') (kx : Q.kd x = 17) (ro : Q'.ro x = Q.ro x) (rt : Q'.rt x = Q.rt x) (rg : Q'.rg x = Q.rg x) (ra : RSA9 Q Q' rp br bb x) (rb : RSB9 Q Q' rp br bb x) (a : ALP L P cO cI cZ ed la) : EQJ L P Q' la rp br bb := by
  obtain ⟨s, o, r, u, g⟩ := h
  have fr : ∀ z : Nat, P.kd z = 17 → Q'.rg z = Q.rg z := fun z _ => by
    by_cases e : z = x
    · rw [e]; exact rg
    · exact w.2 z e 6
  have fp : ∀ z : Nat, P.kd z = 15 → Q'.pg z = Q.pg z := fun z k => w.2 z (fun e => by rw [s.kd, ← e] at kx; omega) 2
  refine ⟨s.trans (w.stq kx ro rt L), o.row w kx s ra rb, r, fun z m k => ?_, fun b k b0 b1 k0 k1 q => ?_, fun b k b0 b1 k0 k1 q => ?_, fun v v0 v1 q => ?_⟩
  · have ia : Q'.2.2.2.1 = Q.2.2.2.1 := by rw [w.1]
    show Q'.2.2.2.1 (P.pr z) = _ ∧ Q'.2.2.2.1 (P.pu z) = _
    rw [ia]; exact u z m k
  · rw [fp _ (a.kphi b0 b1 k0 k1).2] at q; exact g.1 b k b0 b1 k0 k1 q
  · rw [fr _ (a.krow b0 b1 k0 k1).2] at q; exact g.2.1 b k b0 b1 k0 k1 q
  · rcases g.2.2 v v0 v1 q with ⟨b, k, b0, b1, k0, k1, e, f⟩ | ⟨b, k, b0, b1, k0, k1, o, e, f⟩
    · exact Or.inl ⟨b, k, b0, b1, k0, k1, e, by rw [fp _ (a.kphi b0 b1 k0 k1).2]; exact f⟩
    · exact Or.inr ⟨b, k, b0, b1, k0, k1, o, e, by rw [fr _ (a.krow b0 b1 k0 k1).2]; exact f⟩
theorem UVG.flags (h : UVG P Q la ord o d j k) (fr : ∀ z : Nat, P.kd z = 17 → Q'.rg z = Q.rg z) (fp : ∀ z : Nat, P.kd z = 15 → Q'.pg z = Q.pg z) (a : ALP L P cO cI cZ ed la) (og : ∀ e : Int, 0 ≤ e → e < o → 0 ≤ ord e ∧ ord e < P.lz la) : UVG P Q' la ord o d j k := fun e e0 e1 => by
  have r := og e e0 e1
  exact ⟨fun q => ⟨fun m m0 m1 => by rw [fp _ (a.kphi r.1 r.2 m0 m1).2]; exact ((h e e0 e1).1 q).1 m m0 m1, fun m m0 m1 => by rw [fr _ (a.krow r.1 r.2 m0 m1).2]; exact ((h e e0 e1).1 q).2 m m0 m1⟩, fun q => ⟨fun m m0 mj m1 => by rw [fp _ (a.kphi r.1 r.2 m0 m1).2]; exact ((h e e0 e1).2 q).1 m m0 mj m1, fun m m0 mj m1 => by rw [fr _ (a.krow r.1 r.2 m0 m1).2]; exact ((h e e0 e1).2 q).2 m m0 mj m1⟩⟩
theorem EQJ.freshp (h : EQJ L P Q la rp br bb) (sg : SNG P la) (vr : SRG P la) (b0 : 0 ≤ b) (b1 : b < P.lz la) (j0 : 0 ≤ j) (j1 : j < P.lz (P.bp (P.el la b))) (f : Q.pg (P.el (P.bp (P.el la b)) j) = 0) : rp (P.pt (P.el (P.bp (P.el la b)) j)) = 0 := Classical.byContradiction fun q => by
  have r := vr _ (Or.inl ⟨b, j, b0, b1, j0, j1, rfl⟩)
  rcases h.2.2.2.2.2.2 _ r.1 r.2 q with ⟨c, k, c0, c1, k0, k1, e, g⟩ | ⟨c, k, c0, c1, k0, k1, o, e, g⟩
  · have w := sg.1 c b k j c0 c1 b0 b1 k0 k1 j0 j1 e
    rw [w.1, w.2] at g; exact g f
  · exact sg.2.2 b c j k b0 b1 c0 c1 j0 j1 k0 k1 o e.symm
theorem EQJ.freshr (h : EQJ L P Q la rp br bb) (sg : SNG P la) (vr : SRG P la) (b0 : 0 ≤ b) (b1 : b < P.lz la) (j0 : 0 ≤ j) (j1 : j < P.lz (P.br (P.el la b))) (s : rSets (P.ro (P.el (P.br (P.el la b)) j)) ≠ 0) (f : Q.rg (P.el (P.br (P.el la b)) j) = 0) : rp (P.rt (P.el (P.br (P.el la b)) j)) = 0 := Classical.byContradiction fun q => by
  have r := vr _ (Or.inr ⟨b, j, b0, b1, j0, j1, s, rfl⟩)
  rcases h.2.2.2.2.2.2 _ r.1 r.2 q with ⟨c, k, c0, c1, k0, k1, e, g⟩ | ⟨c, k, c0, c1, k0, k1, o, e, g⟩
  · exact sg.2.2 c b k j c0 c1 b0 b1 k0 k1 j0 j1 s e
  · have w := sg.2.1 c b k j c0 c1 b0 b1 k0 k1 j0 j1 o s e
    rw [w.1, w.2] at g; exact g f
theorem STQ.flag {t : Nat} (kx : (Q.kd x = 17 ∧ t = 6) ∨ (Q.kd x = 15 ∧ t = 2)) (w : Int) (L : List Nat) : STQ L Q (Q.rw9 t x w) := by
  have kk : Q.kd x = 17 ∨ Q.kd x = 15 := by rcases kx with k | k; exact Or.inl k.1; exact Or.inr k.1
  have aw : ∀ z : Nat, z ≠ x → ∀ f : Nat, (Q.rw9 t x w).1 f z = Q.1 f z := fun z n f => rw9_away Q w n f
  have sm : ∀ f : Nat, f ≠ t → (Q.rw9 t x w).1 f x = Q.1 f x := fun f n => by
    show (if x = x then (if f = t then w else Q.1 f x) else Q.1 f x) = Q.1 f x
    rw [if_pos rfl, if_neg n]
  refine ⟨⟨rfl, rfl, fun l k => aw l (fun e => by rw [e] at k; omega) 0⟩, fun z _ k => ?_, fun z _ k => ?_, fun z _ k => ?_⟩
  · by_cases e : z = x
    · rw [e] at k ⊢
      have t6 : t = 6 := by rcases kx with q | q; exact q.2; omega
      exact ⟨sm 0 (by omega), sm 1 (by omega)⟩
    · exact ⟨aw z e 0, aw z e 1⟩
  · by_cases e : z = x
    · rw [e] at k ⊢
      have t2 : t = 2 := by rcases kx with q | q; omega; exact q.2
      exact ⟨sm 0 (by omega), sm 1 (by omega), rfl⟩
    · exact ⟨aw z e 0, aw z e 1, rfl⟩
  · have e : z ≠ x := fun e => by rw [e] at k; omega
    exact ⟨aw z e 0, aw z e 1⟩
theorem OPR9.flag {t : Nat} (o : OPR9 L P Q rp br bb) (kx : (Q.kd x = 17 ∧ t = 6) ∨ (Q.kd x = 15 ∧ t = 2)) (s : STQ L P Q) (w : Int) : OPR9 L P (Q.rw9 t x w) rp br bb := by
  refine ⟨fun z m k => ?_, o.2⟩
  have e : ∀ f : Nat, f ≠ 6 → (Q.rw9 t x w).1 f z = Q.1 f z := fun f n => by
    by_cases q : z = x
    · have t6 : t = 6 := by
        rcases kx with r | r
        · exact r.2
        · rw [← q, s.kd] at r; omega
      show (if z = x then (if f = t then w else Q.1 f z) else Q.1 f z) = Q.1 f z
      rw [if_pos q, if_neg (by omega)]
    · exact rw9_away Q w q f
  have f2 : (Q.rw9 t x w).ra z = Q.ra z := e 2 (by decide)
  have f3 : (Q.rw9 t x w).rb z = Q.rb z := e 3 (by decide)
  have f4 : (Q.rw9 t x w).rA z = Q.rA z := e 4 (by decide)
  have f5 : (Q.rw9 t x w).rB z = Q.rB z := e 5 (by decide)
  rw [f2, f3, f4, f5]; exact o.1 z m k
/-- a PHI is replaced -/
theorem EQJ.setp (h : EQJ L P Q la rp br bb) (a : ALP L P cO cI cZ ed la) (b0 : 0 ≤ b) (b1 : b < P.lz la) (j0 : 0 ≤ j) (j1 : j < P.lz (P.bp (P.el la b))) (ex : x = P.el (P.bp (P.el la b)) j) (f : rp (P.pt x) = 0) (q : Q' = Q.rw9 2 x 1) (y9 : g ≠ 0 → (∃ i : Int, 0 ≤ i ∧ i < j ∧ P.pt (P.el (P.bp (P.el la b)) i) = v) ∨ ∀ i : Int, 0 ≤ i → i < P.pn x → P.ia (P.pr x) i ≠ 0 ∧ (P.ia (P.pu x) i = P.pt x ∨ P.ia (P.pu x) i = v)) : EQJ L P Q' la (zup rp (P.pt x) 1) (zup br (P.pt x) g) (zup bb (P.pt x) v) := by
  subst q
  obtain ⟨s, o, r, u, gn⟩ := h
  have kx : P.kd x = 15 := by rw [ex]; exact (a.kphi b0 b1 j0 j1).2
  have kq : (Q.kd x = 17 ∧ 2 = 6) ∨ (Q.kd x = 15 ∧ 2 = 2) := Or.inr ⟨by rw [s.kd]; exact kx, rfl⟩
  have gr := GRW9.upi (rp := rp) (br := br) (bb := bb) f g v
  have fr : ∀ z : Nat, P.kd z = 17 → (Q.rw9 2 x 1).rg z = Q.rg z := fun z k => rw9_away Q 1 (fun e => by rw [e] at k; omega) 6
  have fp : ∀ z : Nat, z ≠ x → (Q.rw9 2 x 1).pg z = Q.pg z := fun z k => rw9_away Q 1 k 2
  have fx : (Q.rw9 2 x 1).pg x = 1 := rw9_same Q 2 x 1
  have up : ∀ w : Int, rp w ≠ 0 → zup rp (P.pt x) 1 w ≠ 0 := fun w q => (gr w q).1
  refine ⟨s.trans (STQ.flag kq 1 L), (o.flag kq s 1).mono gr, fun w w0 w1 e1 e2 => ?_, u, fun c k c0 c1 k0 k1 q => ?_, fun c k c0 c1 k0 k1 q so => ?_, fun w w0 w1 q => ?_⟩
  · by_cases e : w = P.pt x
    · rw [e, zup_eq] at e2
      rw [e]
      rcases y9 e2 with ⟨i, i0, ij, iv⟩ | al
      · exact Or.inr (Or.inr (Or.inl ⟨b, j, i, b0, b1, j0, j1, by rw [ex], i0, ij, by rw [zup_eq]; exact iv⟩))
      · refine Or.inr (Or.inr (Or.inr ⟨b, j, b0, b1, j0, j1, by rw [ex], ?_⟩))
        rw [zup_eq, ← ex]; exact al
    · rw [zup_ne _ _ e] at e1 e2
      exact (r w w0 w1 e1 e2).mono gr (zup_ne _ _ e)
  · by_cases e : P.el (P.bp (P.el la c)) k = x
    · rw [e, zup_eq]; decide
    · rw [fp _ e] at q; exact up _ (gn.1 c k c0 c1 k0 k1 q)
  · rw [fr _ (a.krow c0 c1 k0 k1).2] at q; exact up _ (gn.2.1 c k c0 c1 k0 k1 q so)
  · by_cases e : w = P.pt x
    · exact Or.inl ⟨b, j, b0, b1, j0, j1, by rw [e, ex], by rw [← ex, fx]; decide⟩
    · rw [zup_ne _ _ e] at q
      rcases gn.2.2 w w0 w1 q with ⟨c, k, c0, c1, k0, k1, e3, g3⟩ | ⟨c, k, c0, c1, k0, k1, o3, e3, g3⟩
      · exact Or.inl ⟨c, k, c0, c1, k0, k1, e3, by rw [fp _ (fun e4 => e (by rw [← e3, e4]))]; exact g3⟩
      · exact Or.inr ⟨c, k, c0, c1, k0, k1, o3, e3, by rw [fr _ (a.krow c0 c1 k0 k1).2]; exact g3⟩
/-- a row is replaced -/
theorem EQJ.setr (h : EQJ L P Q la rp br bb) (a : ALP L P cO cI cZ ed la) (b0 : 0 ≤ b) (b1 : b < P.lz la) (j0 : 0 ≤ j) (j1 : j < P.lz (P.br (P.el la b))) (ex : x = P.el (P.br (P.el la b)) j) (so : rSets (P.ro x) ≠ 0) (f : rp (P.rt x) = 0) (q : Q' = Q.rw9 6 x 1) (y9 : g ≠ 0 → RWY P la rp br bb b j v) : EQJ L P Q' la (zup rp (P.rt x) 1) (zup br (P.rt x) g) (zup bb (P.rt x) v) := by
  subst q
  obtain ⟨s, o, r, u, gn⟩ := h
  have kx : P.kd x = 17 := by rw [ex]; exact (a.krow b0 b1 j0 j1).2
  have kq : (Q.kd x = 17 ∧ 6 = 6) ∨ (Q.kd x = 15 ∧ 6 = 2) := Or.inl ⟨by rw [s.kd]; exact kx, rfl⟩
  have gr := GRW9.upi (rp := rp) (br := br) (bb := bb) f g v
  have fp : ∀ z : Nat, P.kd z = 15 → (Q.rw9 6 x 1).pg z = Q.pg z := fun z k => rw9_away Q 1 (fun e => by rw [e] at k; omega) 2
  have fr : ∀ z : Nat, z ≠ x → (Q.rw9 6 x 1).rg z = Q.rg z := fun z k => rw9_away Q 1 k 6
  have fx : (Q.rw9 6 x 1).rg x = 1 := rw9_same Q 6 x 1
  have up : ∀ w : Int, rp w ≠ 0 → zup rp (P.rt x) 1 w ≠ 0 := fun w q => (gr w q).1
  refine ⟨s.trans (STQ.flag kq 1 L), (o.flag kq s 1).mono gr, fun w w0 w1 e1 e2 => ?_, u, fun c k c0 c1 k0 k1 q => ?_, fun c k c0 c1 k0 k1 q so2 => ?_, fun w w0 w1 q => ?_⟩
  · by_cases e : w = P.rt x
    · rw [e, zup_eq] at e2
      rw [e]
      rcases y9 e2 with y | ⟨d, i, y1, y2, y3, y4⟩
      · exact Or.inl ⟨b, j, b0, b1, j0, j1, by rw [← ex]; exact so, by rw [ex], y.1, by rw [zup_eq]; exact y.2.mono gr⟩
      · exact Or.inr (Or.inl ⟨b, j, d, i, b0, b1, j0, j1, by rw [← ex]; exact so, by rw [ex], y1, y2, by rw [zup_eq]; exact y3, y4⟩)
    · rw [zup_ne _ _ e] at e1 e2
      exact (r w w0 w1 e1 e2).mono gr (zup_ne _ _ e)
  · rw [fp _ (a.kphi c0 c1 k0 k1).2] at q; exact up _ (gn.1 c k c0 c1 k0 k1 q)
  · by_cases e : P.el (P.br (P.el la c)) k = x
    · rw [e, zup_eq]; decide
    · rw [fr _ e] at q; exact up _ (gn.2.1 c k c0 c1 k0 k1 q so2)
  · by_cases e : w = P.rt x
    · exact Or.inr ⟨b, j, b0, b1, j0, j1, by rw [← ex]; exact so, by rw [e, ex], by rw [← ex, fx]; decide⟩
    · rw [zup_ne _ _ e] at q
      rcases gn.2.2 w w0 w1 q with ⟨c, k, c0, c1, k0, k1, e3, g3⟩ | ⟨c, k, c0, c1, k0, k1, o3, e3, g3⟩
      · exact Or.inl ⟨c, k, c0, c1, k0, k1, e3, by rw [fp _ (a.kphi c0 c1 k0 k1).2]; exact g3⟩
      · exact Or.inr ⟨c, k, c0, c1, k0, k1, o3, e3, by rw [fr _ (fun e4 => e (by rw [← e3, e4]))]; exact g3⟩
/-- flags: one more is set, of what has been looked at -/
theorem UVG.setp (h : UVG P Q la ord o d j 0) (n : NDR P la) (a : ALP L P cO cI cZ ed la) (og : ∀ e : Int, 0 ≤ e → e < o → 0 ≤ ord e ∧ ord e < P.lz la) (oi : ∀ e f : Int, 0 ≤ e → e < f → f < o → ord e ≠ ord f) (d0 : 0 ≤ d) (d1 : d < o) (j0 : 0 ≤ j) (j1 : j < P.lz (P.bp (P.el la (ord d)))) (ex : x = P.el (P.bp (P.el la (ord d))) j) (q : Q' = Q.rw9 2 x 1) : UVG P Q' la ord o d (j + 1) 0 := by
  subst q
  have r := og d d0 d1
  have kx : P.kd x = 15 := by rw [ex]; exact (a.kphi r.1 r.2 j0 j1).2
  have fr : ∀ z : Nat, P.kd z = 17 → (Q.rw9 2 x 1).rg z = Q.rg z := fun z k => rw9_away Q 1 (fun e => by rw [e] at k; omega) 6
  have fp : ∀ z : Nat, z ≠ x → (Q.rw9 2 x 1).pg z = Q.pg z := fun z k => rw9_away Q 1 k 2
  intro e e0 e1
  have re := og e e0 e1
  refine ⟨fun s => ⟨fun m m0 m1 => ?_, fun m m0 m1 => by rw [fr _ (a.krow re.1 re.2 m0 m1).2]; exact ((h e e0 e1).1 s).2 m m0 m1⟩, fun s => ⟨fun m m0 mj m1 => ?_, fun m m0 mj m1 => by rw [fr _ (a.krow re.1 re.2 m0 m1).2]; exact ((h e e0 e1).2 s).2 m m0 mj m1⟩⟩
  · rw [fp _ (fun w => oi d e d0 s e1 (n.2.1 _ _ _ _ re.1 re.2 r.1 r.2 m0 m1 j0 j1 (w.trans ex)).1.symm)]
    exact ((h e e0 e1).1 s).1 m m0 m1
  · rw [fp _ (fun w => by have := (n.2.1 _ _ _ _ re.1 re.2 r.1 r.2 m0 m1 j0 j1 (w.trans ex)).2; omega)]
    exact ((h e e0 e1).2 s).1 m m0 (by omega) m1
theorem UVG.setr (h : UVG P Q la ord o d j k) (n : NDR P la) (a : ALP L P cO cI cZ ed la) (og : ∀ e : Int, 0 ≤ e → e < o → 0 ≤ ord e ∧ ord e < P.lz la) (oi : ∀ e f : Int, 0 ≤ e → e < f → f < o → ord e ≠ ord f) (d0 : 0 ≤ d) (d1 : d < o) (j0 : 0 ≤ k) (j1 : k < P.lz (P.br (P.el la (ord d)))) (ex : x = P.el (P.br (P.el la (ord d))) k) (q : Q' = Q.rw9 6 x 1) : UVG P Q' la ord o d j (k + 1) := by
  subst q
  have r := og d d0 d1
  have kx : P.kd x = 17 := by rw [ex]; exact (a.krow r.1 r.2 j0 j1).2
  have fp : ∀ z : Nat, P.kd z = 15 → (Q.rw9 6 x 1).pg z = Q.pg z := fun z k => rw9_away Q 1 (fun e => by rw [e] at k; omega) 2
  have fr : ∀ z : Nat, z ≠ x → (Q.rw9 6 x 1).rg z = Q.rg z := fun z k => rw9_away Q 1 k 6
  intro e e0 e1
  have re := og e e0 e1
  refine ⟨fun s => ⟨fun m m0 m1 => by rw [fp _ (a.kphi re.1 re.2 m0 m1).2]; exact ((h e e0 e1).1 s).1 m m0 m1, fun m m0 m1 => ?_⟩, fun s => ⟨fun m m0 mj m1 => by rw [fp _ (a.kphi re.1 re.2 m0 m1).2]; exact ((h e e0 e1).2 s).1 m m0 mj m1, fun m m0 mj m1 => ?_⟩⟩
  · rw [fr _ (fun w => oi d e d0 s e1 (n.1 _ _ _ _ re.1 re.2 r.1 r.2 m0 m1 j0 j1 (w.trans ex)).1.symm)]
    exact ((h e e0 e1).1 s).2 m m0 m1
  · rw [fr _ (fun w => by have := (n.1 _ _ _ _ re.1 re.2 r.1 r.2 m0 m1 j0 j1 (w.trans ex)).2; omega)]
    exact ((h e e0 e1).2 s).2 m m0 (by omega) m1
theorem UVG.skipp (h : UVG P Q la ord o d j 0) : UVG P Q la ord o d (j + 1) 0 := fun e e0 e1 => ⟨(h e e0 e1).1, fun s => ⟨fun m m0 mj m1 => ((h e e0 e1).2 s).1 m m0 (by omega) m1, ((h e e0 e1).2 s).2⟩⟩
theorem UVG.skipr (h : UVG P Q la ord o d j k) : UVG P Q la ord o d j (k + 1) := fun e e0 e1 => ⟨(h e e0 e1).1, fun s => ⟨((h e e0 e1).2 s).1, fun m m0 mj m1 => ((h e e0 e1).2 s).2 m m0 (by omega) m1⟩⟩
theorem UVG.next (h : UVG P Q la ord o d j k) : UVG P Q la ord o (d + 1) 0 0 := fun e e0 e1 => ⟨fun s => (h e e0 e1).1 (by omega), fun s => ⟨fun m m0 _ m1 => ((h e e0 e1).1 (by omega)).1 m m0 m1, fun m m0 _ m1 => ((h e e0 e1).1 (by omega)).2 m m0 m1⟩⟩
theorem GN0.uvg (h : GN0 P la) (og : ∀ e : Int, 0 ≤ e → e < o → 0 ≤ ord e ∧ ord e < P.lz la) : UVG P P la ord o 0 0 0 := fun e e0 e1 => by
  have r := og e e0 e1
  have w := h _ r.1 r.2
  exact ⟨fun _ => w, fun _ => ⟨fun m m0 _ m1 => w.1 m m0 m1, fun m m0 _ m1 => w.2 m m0 m1⟩⟩
theorem EQJ.first (h : GN0 P la) (z : ∀ v : Int, 0 ≤ v → v ≤ 1001 → rp v = 0) : EQJ L P P la rp br bb := ⟨STQ.refl L P, ⟨fun z m k => ⟨fun q => ⟨q, CHQ.refl _ _ _ _⟩, fun q => ⟨q, CHQ.refl _ _ _ _⟩⟩, fun z m k i i0 i1 q => ⟨q, CHQ.refl _ _ _ _⟩⟩, fun v v0 v1 q => absurd (z v v0 v1) q, fun _ _ _ => ⟨rfl, rfl⟩, fun b k b0 b1 k0 k1 q => absurd ((h b b0 b1).1 k k0 k1) q, fun b k b0 b1 k0 k1 q => absurd ((h b b0 b1).2 k k0 k1) q, fun v v0 v1 q => absurd (z v v0 v1) q⟩
end EQI9
