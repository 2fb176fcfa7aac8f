/-! what each change of a function does to its blocks and ways -/
section WYR8
variable {L L' : List Nat} {P Q R : PO} {cO cI cZ : ClassId} {ed la x : Nat} {b c d i j k m n p r y : Int} {gp gr : Nat → Int} {g st nm gn aa s : Int → Int}
/-- things go out of lists (dead, equals) -/
theorem WYR.swg (h : SWG P Q la gp gr) (a : ALP L P cO cI cZ ed la) : WYR P Q la := WYR.same h.2.1.1 (fun b c b0 b1 e => (h.edg a b0 b1).mp e) (fun b b0 b1 o => by
    rw [h.el b0 b1, h.1.be, (h.1.row (a.kend b0 b1).2.1).1] at o
    exact o) (fun b b0 b1 => by
    obtain ⟨m, w⟩ := h.ph b0 b1
    exact w.le (a.inb ⟨b, b0, b1, rfl⟩).2.2.1.2.2.1.1)
theorem WYR.swd (h : SWD P Q la) (a : ALP L P cO cI cZ ed la) : WYR P Q la := by
  obtain ⟨gp, gr, N, w, _⟩ := h
  exact WYR.swg w a
/-- operands are replaced (equals, join) -/
theorem WYR.stq (h : STQ L P Q) (a : ALP L P cO cI cZ ed la) : WYR P Q la := WYR.same (h.lza a) (fun b c b0 b1 e => ((h.edy a).2 b b0 b1 c).mp e) (fun b b0 b1 o => by
    have ke := a.kend b0 b1
    rw [h.el, h.be, (h.2.1 _ ke.1 ke.2.1).1] at o
    exact o) (fun b b0 b1 => Int.le_of_eq (h.lzp a b0 b1))
/-- a row goes to the end of another block (loops) -/
theorem WYR.mvd (h : MVD L P L' Q la c j p x) (a : ALP L P cO cI cZ ed la) : WYR P Q la := by
  have sm : ∀ z : Nat, z ∈ L → P.kd z ≠ 30 → P.kd z ≠ 31 → SM9 z P Q := fun z m k1 k2 => (h.1 z m k1 k2).2
  have bk : ∀ b : Int, 0 ≤ b → b < P.lz la → SM9 (P.el la b) P Q ∧ SM9 (P.be (P.el la b)) P Q := fun b b0 b1 => by
    have ib := a.inb ⟨b, b0, b1, rfl⟩
    have ke := a.kend b0 b1
    exact ⟨sm _ ib.1.1 (by rw [ib.1.2]; decide) (by rw [ib.1.2]; decide), sm _ ke.1 (by rw [ke.2.1]; decide) (by rw [ke.2.1]; decide)⟩
  refine WYR.same h.2.1.1 (fun b c b0 b1 e => ?_) (fun b b0 b1 o => ?_) (fun b b0 b1 => ?_)
  · have k := bk b b0 b1
    unfold EDG at e
    rw [h.2.1.2 b b0 b1, show Q.be (P.el la b) = P.be (P.el la b) from k.1.2.1 3, show Q.ro (P.be (P.el la b)) = P.ro (P.be (P.el la b)) from k.2.1 0, show Q.bf (P.el la b) = P.bf (P.el la b) from k.1.1 0, show Q.bs (P.el la b) = P.bs (P.el la b) from k.1.1 1] at e
    exact e
  · have k := bk b b0 b1
    rw [h.2.1.2 b b0 b1, show Q.be (P.el la b) = P.be (P.el la b) from k.1.2.1 3, show Q.ro (P.be (P.el la b)) = P.ro (P.be (P.el la b)) from k.2.1 0] at o
    exact o
  · have k := bk b b0 b1
    rw [h.2.1.2 b b0 b1, show Q.bp (P.el la b) = P.bp (P.el la b) from k.1.2.1 1, (h.2.2.2.1 b b0 b1).1.1]
    exact Int.le_refl _
/-- registers become others (numbers, colours) -/
theorem WYR.unv (h : UNV P Q (VST P la (P.lz la) 0 0)) (d : DON P Q g (VST P la (P.lz la) 0 0)) (a : ALP L P cO cI cZ ed la) : WYR P Q la := WYR.same (h.1.2.2 la a.lok.2.1) (fun b c b0 b1 e => (EDG.unv h d a b0 b1).mp e) (fun b b0 b1 o => by
    obtain ⟨eb, wb, fb, ub⟩ := h.blk a b0 b1
    have qe := (d _ (VST.aend9 b0 b1)).1 (a.kend b0 b1).2.1
    rw [eb, wb.2.2, qe.1.1] at o
    exact o) (fun b b0 b1 => by
    obtain ⟨eb, wb, fb, ub⟩ := h.blk a b0 b1
    rw [eb, wb.1, ub.1]
    exact Int.le_refl _)
/-- PHIs lose operands -/
theorem WYR.lsr (h : LSR P Q la) (a : ALP L P cO cI cZ ed la) : WYR P Q la := WYR.same (h.1.1.2.2 la a.lok.2.1) (fun b c b0 b1 e => (h.1.edgv a b0 b1).mp e) (fun b b0 b1 o => by
    have ke : P.kd (P.be (P.el la b)) = 17 := (a.kend b0 b1).2.1
    have ne : ∀ f : Nat, Q.1 f (P.be (P.el la b)) = P.1 f (P.be (P.el la b)) := h.1.2.1 _ (fun q => by rw [q.kd a] at ke; omega)
    rw [h.1.el, h.1.be, show Q.ro (P.be (P.el la b)) = P.ro (P.be (P.el la b)) from ne 0] at o
    exact o) (fun b b0 b1 => by
    rw [h.1.el, h.1.bp, h.1.1.2.2 _ (a.inb ⟨b, b0, b1, rfl⟩).2.2.1.2.1]
    exact Int.le_refl _)
/-- an IF whose goals are one is a JUMP -/
theorem WYR.jjm (h : JJM P Q la d) (a : ALP L P cO cI cZ ed la) (nd : NDR P la) (d0 : 0 ≤ d) (d1 : d < P.lz la) : WYR P Q la := WYR.same (h.lz a d0 d1 a.lok.2.1) (fun b c b0 b1 e => (h.edg a nd d0 d1 b0 b1).mp e) (fun b b0 b1 o => by
    rw [h.el, h.be] at o
    by_cases e : b = d
    · rw [e, h.2.1.2] at o
      omega
    · rw [show Q.ro (P.be (P.el la b)) = P.ro (P.be (P.el la b)) from h.end9 nd d0 d1 b0 b1 e 0] at o
      exact o) (fun b b0 b1 => by
    rw [h.el, h.bp, h.lz a d0 d1 (a.inb ⟨b, b0, b1, rfl⟩).2.2.1.2.1]
    exact Int.le_refl _)
/-- what is kept has its ways from before, then the others are dropped -/
theorem WYR.keep (zq : Q.lz la = P.lz la) (e : ∀ b c : Int, 0 ≤ b → b < P.lz la → st b ≠ 0 → EDG Q la b c → EDG P la b c) (o : ∀ b : Int, 0 ≤ b → b < P.lz la → st b ≠ 0 → Q.ro (Q.be (Q.el la b)) = 31 → P.ro (P.be (P.el la b)) = 31) (h : ∀ b : Int, 0 ≤ b → b < P.lz la → st b ≠ 0 → Q.lz (Q.bp (Q.el la b)) ≤ P.lz (P.bp (P.el la b))) (r : DRE Q R la st aa s m) (al : ALP L Q cO cI cZ ed la) (aq : ALP L' R cO cI cZ ed la) (ks : KST Q la st) : WYR P R la := by
  have z := r.1.2.1
  have on : ∀ b : Int, 0 ≤ b → b < m → (b ≤ s b ∧ 0 ≤ s b ∧ s b < P.lz la) ∧ st (s b) ≠ 0 := fun b b0 b1 => by
    have y := r.1.1.2.2.1 b b0 b1
    exact ⟨⟨y.1.1, by omega, by omega⟩, y.2.1⟩
  refine ⟨s, s, fun b b0 b1 => ?_, fun b c b0 bc c1 => ?_, fun b c b0 b1 w => ?_, fun b b0 b1 w => ?_, fun b b0 b1 => ?_⟩
  · rw [z] at b1
    have y := on b b0 b1
    exact ⟨⟨y.1.1, y.1.2.2⟩, y.1.2⟩
  · rw [z] at c1
    have y := r.1.1.2.2.2 b c b0 bc c1
    exact ⟨by omega, by omega⟩
  · have g := EDG.rng aq b0 b1 w
    rw [z] at b1 g
    have y := on b b0 b1
    exact e _ _ y.1.2.1 y.1.2.2 y.2 ((r.edg al ks b0 b1 g.1 g.2).mp w)
  · rw [z] at b1
    have y := on b b0 b1
    have q := r.on b0 b1
    refine o _ y.1.2.1 y.1.2.2 y.2 ?_
    rw [r.ebe b0 b1, r.ro al q.1.1 q.1.2] at w
    exact w
  · rw [z] at b1
    have y := on b b0 b1
    rw [(r.nph b0 b1).1]
    exact h _ y.1.2.1 y.1.2.2 y.2
theorem FLT.le9 {G : Nat → Prop} {e e' : Int → Nat} {n n' : Int} (h : FLT G e n e' n' 0) (n0 : 0 ≤ n) : n' ≤ n := by
  obtain ⟨_, w, _, w2, w3, _⟩ := h
  by_cases z : n' ≤ 0
  · omega
  · exact pigI (f := w) n0 (fun i i0 i1 => ⟨(w3 i i0 i1).1, (w3 i i0 i1).2.1⟩) (fun i j i0 ij j1 => by
      have q := w2 i j i0 ij j1
      omega)
/-- constants: fold, then drop -/
theorem WYR.fdk (h : FDK P Q la st nm gn (P.lz la) j r False (fun _ => False)) (r9 : DRE Q R la gn aa s m) (ap : ALP L P cO cI cZ ed la) (al : ALP L Q cO cI cZ ed la) (aq : ALP L' R cO cI cZ ed la) (ks : KST Q la gn) : WYR P R la := by
  have be9 : ∀ z : Nat, Q.be z = P.be z := fun z => by unfold PO.be; rw [h.1.1]
  have bp9 : ∀ z : Nat, Q.bp z = P.bp z := fun z => by unfold PO.bp; rw [h.1.1]
  have fe : ∀ b : Int, 0 ≤ b → b < P.lz la → gn b ≠ 0 → FED P Q st nm (P.el la b) := fun b b0 b1 q => h.2.2.2.2.2 b b0 b1 q (Or.inl b1)
  refine WYR.keep h.1.2.1 (fun b c b0 b1 q w => ?_) (fun b b0 b1 q w => ?_) (fun b b0 b1 q => ?_) r9 al aq ks
  · have eb := (h.blk b0 b1).1
    have t := w.way
    rw [eb, be9] at t
    rcases fe b b0 b1 q with f | f
    · rw [f.1, f.2.2.2.1, f.2.2.2.2.1] at t
      exact EDG.yaw t.1 t.2
    · have u : Q.bf (P.el la b) = c := by
        rcases t.2 with v | v
        · exact v
        · exact absurd f.2.1 v.1
      rcases f.2.2.2.2.2 with v | v
      · exact EDG.yaw (by rw [f.1]; decide) (Or.inl (v.2.symm.trans u))
      · exact EDG.yaw (by rw [f.1]; decide) (Or.inr ⟨by rw [f.1]; decide, v.2.symm.trans u⟩)
  · rw [(h.blk b0 b1).1, be9] at w
    rcases fe b b0 b1 q with f | f
    · rw [f.1] at w; exact w
    · exact f.1
  · rw [(h.blk b0 b1).1, bp9]
    exact FLT.le9 ((h.2.1 b b0 b1).1 b1 q).1 (ap.inb ⟨b, b0, b1, rfl⟩).2.2.1.2.2.1.1
end WYR8
/-! a way of an IF is split: a new block behind all others, that jumps where the way led -/
def SPW (P Q : PO) (la : Nat) (y b : Int) : Prop := (Q.lz la = P.lz la + 1 ∧ (0 ≤ y ∧ y < P.lz la) ∧ (0 ≤ b ∧ b < P.lz la) ∧ P.ro (P.be (P.el la y)) = 31 ∧ EDG P la y b) ∧ (∀ p c : Int, 0 ≤ p → p < P.lz la → p ≠ y → EDG Q la p c → EDG P la p c) ∧ (∀ c : Int, EDG Q la y c → (EDG P la y c ∧ c ≠ b) ∨ c = P.lz la) ∧ (∀ c : Int, EDG Q la (P.lz la) c → c = b) ∧ (∀ p : Int, 0 ≤ p → p < P.lz la → Q.ro (Q.be (Q.el la p)) = 31 → P.ro (P.be (P.el la p)) = 31) ∧ Q.ro (Q.be (Q.el la (P.lz la))) ≠ 31 ∧ (∀ p : Int, 0 ≤ p → p < P.lz la → Q.lz (Q.bp (Q.el la p)) ≤ P.lz (P.bp (P.el la p))) ∧ Q.lz (Q.bp (Q.el la (P.lz la))) = 0
section SPW9
variable {L L' : List Nat} {P Q : PO} {cO cI cZ : ClassId} {ed la : Nat} {b c d k n p q y : Int}
/-- which block of before leads there -/
def spt (n y p : Int) : Int := if p = n then y else p
theorem SPW.new (h : SPW P Q la y b) (a : ALP L P cO cI cZ ed la) (p0 : 0 ≤ p) (p1 : p < Q.lz la) (e : EDG Q la p (P.lz la)) : p = y := Classical.byContradiction fun ne => by
  have z := h.1
  by_cases w : p = P.lz la
  · rw [w] at e
    have t := h.2.2.2.1 _ e
    omega
  · have t := EDG.rng a p0 (by omega) (h.2.1 p _ p0 (by omega) ne e)
    omega
theorem SPW.back (h : SPW P Q la y b) (p0 : 0 ≤ p) (p1 : p < Q.lz la) (cn : c ≠ P.lz la) (e : EDG Q la p c) : (0 ≤ spt (P.lz la) y p ∧ spt (P.lz la) y p < P.lz la) ∧ EDG P la (spt (P.lz la) y p) c ∧ ¬ (p = y ∧ c = b) ∧ (p = P.lz la → c = b) := by
  have z := h.1
  unfold spt
  by_cases w : p = P.lz la
  · rw [if_pos w]
    rw [w] at e
    have t := h.2.2.2.1 _ e
    exact ⟨z.2.1, by rw [t]; exact z.2.2.2.2, fun v => by omega, fun _ => t⟩
  · rw [if_neg w]
    by_cases v : p = y
    · rw [v] at e ⊢
      rcases h.2.2.1 _ e with t | t
      · exact ⟨z.2.1, t.1, fun u => t.2 u.2, fun u => absurd (v.trans u) w⟩
      · exact absurd t cn
    · exact ⟨⟨p0, by omega⟩, h.2.1 p c p0 (by omega) v e, fun u => v u.1, fun u => absurd u w⟩
theorem SPW.inj (h : SPW P Q la y b) (p0 : 0 ≤ p) (p1 : p < Q.lz la) (q0 : 0 ≤ q) (q1 : q < Q.lz la) (cn : c ≠ P.lz la) (e1 : EDG Q la p c) (e2 : EDG Q la q c) (ne : p ≠ q) : spt (P.lz la) y p ≠ spt (P.lz la) y q := fun w => by
  have u := h.back p0 p1 cn e1
  have v := h.back q0 q1 cn e2
  unfold spt at w
  by_cases x1 : p = P.lz la
  · by_cases x2 : q = P.lz la
    · exact ne (x1.trans x2.symm)
    · rw [if_pos x1, if_neg x2] at w
      exact v.2.2.1 ⟨w.symm, u.2.2.2 x1⟩
  · by_cases x2 : q = P.lz la
    · rw [if_neg x1, if_pos x2] at w
      exact u.2.2.1 ⟨w, v.2.2.2 x2⟩
    · rw [if_neg x1, if_neg x2] at w
      exact ne w
theorem SPW.mpr (h : SPW P Q la y b) (a : ALP L P cO cI cZ ed la) (w : MPR Q la c) : c ≠ P.lz la ∧ MPR P la c := by
  obtain ⟨p, q, ⟨p0, p1⟩, ⟨q0, q1⟩, ne, e1, e2⟩ := w
  have cn : c ≠ P.lz la := fun z => by
    rw [z] at e1 e2
    exact ne ((h.new a p0 p1 e1).trans (h.new a q0 q1 e2).symm)
  exact ⟨cn, _, _, (h.back p0 p1 cn e1).1, (h.back q0 q1 cn e2).1, h.inj p0 p1 q0 q1 cn e1 e2 ne, (h.back p0 p1 cn e1).2.1, (h.back q0 q1 cn e2).2.1⟩
theorem SPW.ifw (h : SPW P Q la y b) (a : ALP L P cO cI cZ ed la) (w : IFW Q la p c) : IFW P la p c ∧ ¬ (p = y ∧ c = b) := by
  obtain ⟨⟨p0, p1⟩, o, e, m⟩ := w
  have z := h.1
  have t := h.mpr a m
  have pn : p ≠ P.lz la := fun v => by rw [v] at o; exact h.2.2.2.2.2.1 o
  have u := h.back p0 p1 t.1 e
  have eu : spt (P.lz la) y p = p := by unfold spt; rw [if_neg pn]
  rw [eu] at u
  exact ⟨⟨u.1, h.2.2.2.2.1 p p0 (by omega) o, u.2.1, t.2⟩, u.2.2.1⟩
theorem TOK.spw (k : TOK P la) (h : SPW P Q la y b) (m : MPR P la b) (a : ALP L P cO cI cZ ed la) : TOK Q la := by
  obtain ⟨e, g, k1, k2, k3, k4, k5⟩ := k
  have z := h.1
  have yb : IFW P la y b := ⟨z.2.1, z.2.2.2.1, z.2.2.2.2, m⟩
  refine ⟨fun c => if c = P.lz la then g y b else e c, g, fun c c0 c1 => ?_, fun p c w => k2 p c (h.ifw a w).1, fun c d c0 cd d1 => ?_, fun p c q d w v u => k4 p c q d (h.ifw a w).1 (h.ifw a v).1 u, fun c p d c0 c1 w => ?_⟩
  · show 0 ≤ (if c = P.lz la then g y b else e c) ∧ (if c = P.lz la then g y b else e c) < 180
    by_cases w : c = P.lz la
    · rw [if_pos w]; exact k2 y b yb
    · rw [if_neg w]; exact k1 c c0 (by omega)
  · show (if c = P.lz la then g y b else e c) ≠ (if d = P.lz la then g y b else e d)
    rw [if_neg (show ¬ c = P.lz la from by omega)]
    by_cases w : d = P.lz la
    · rw [if_pos w]; exact k5 c y b c0 (by omega) yb
    · rw [if_neg w]; exact k3 c d c0 cd (by omega)
  · show (if c = P.lz la then g y b else e c) ≠ g p d
    have v := h.ifw a w
    by_cases u : c = P.lz la
    · rw [if_pos u]
      intro t
      have q := k4 y b p d yb v.1 t
      exact v.2 ⟨q.1.symm, q.2.symm⟩
    · rw [if_neg u]; exact k5 c p d c0 (by omega) v.1
theorem PR60.spw (k : PR60 P la) (h : SPW P Q la y b) (a : ALP L P cO cI cZ ed la) : PR60 Q la := fun c f n c0 c1 w v => by
  have z := h.1
  by_cases cn : c = P.lz la
  · by_cases t : n ≤ 60
    · exact t
    · have w0 := w 0 (by omega) (by omega)
      have w1 := w 1 (by omega) (by omega)
      rw [cn] at w0 w1
      exact absurd ((h.new a w0.1.1 w0.1.2 w0.2).trans (h.new a w1.1.1 w1.1.2 w1.2).symm) (v 0 1 (by omega) (by omega) (by omega))
  · exact k c (fun i => spt (P.lz la) y (f i)) n c0 (by omega) (fun i i0 i1 => by
      have u := w i i0 i1
      have q := h.back u.1.1 u.1.2 cn u.2
      exact ⟨q.1, q.2.1⟩) (fun i j i0 ij j1 => by
      have u := w i i0 (by omega)
      have t := w j (by omega) j1
      exact h.inj u.1.1 u.1.2 t.1.1 t.1.2 cn u.2 t.2 (v i j i0 ij j1))
theorem I60.spw (k : I60 P la) (h : SPW P Q la y b) (a : ALP L P cO cI cZ ed la) : I60 Q la := fun c c0 c1 w => by
  have t := h.mpr a w
  have z := h.1
  exact k c c0 (by omega) t.2
theorem PHM.spw (k : PHM P la n) (n0 : 0 ≤ n) (h : SPW P Q la y b) : PHM Q la n := fun c c0 c1 => by
  have z := h.1
  by_cases w : c = P.lz la
  · rw [w, h.2.2.2.2.2.2.2]; exact n0
  · exact Int.le_trans (h.2.2.2.2.2.2.1 c c0 (by omega)) (k c c0 (by omega))
end SPW9
