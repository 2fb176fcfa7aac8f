/-! LMT while a function is copied into a Code -/
section LMT9K
variable {L L' : List Nat} {P P' Q Q' : PO} {cO cI cZ : ClassId} {ed la lb lr lp x z q b : Nat} {n t i : Int}
theorem cap1851 {l : Nat} (v : LVC (P.cap l)) (v' : LVC (P'.cap l)) (c : P.cap l ≤ 1851) (g : LGW l P P') (z : P.lz l ≤ 1800) : P'.cap l ≤ 1851 := by
  rcases g with e | e | ⟨e, e'⟩
  · omega
  · omega
  · unfold LVC at v v'; omega
/-- a PHI of the Code taken, in the words of the older copy -/
theorem CPQ.cp8 (w : CPQ lp x n t L Q L' Q') (G : GLR L Q cO cI cZ ed) (c3 : CLF L Q lp 15) (nw : NWP x lp L Q L' Q') : CP8 lp x n t L Q L' Q' := by
  have xk : x ∈ L → Q.kd x = 15 := fun m => by rw [← (nw.1 x w.1.1).1 m]; exact w.1.2.1
  have nx : ∀ z : Nat, z ∈ L → Q.kd z ≠ 15 → z ≠ x := fun z m kz q => kz (by rw [q]; exact xk (by rw [← q]; exact m))
  refine ⟨w.1, w.2.1, ⟨w.2.2.1.1, w.2.2.1.2.1⟩, w.2.2.2.1, (w.2.2.2.2.c8).wk (fun z _ q => by rcases q with q | q | q; exact Or.inl q; exact Or.inr (Or.inl q); exact Or.inr (Or.inr (Or.inl q))), fun l m kl nl => ?_⟩
  have s1 := w.2.2.2.2 l m (fun q => by
    rcases q with q | q | q
    · exact nx l m (by omega) q
    · exact nl q
    · omega)
  refine cap_sm9 (s1.2.2.1 7) (s1.2.2.1 1) (fun f => ?_)
  have o := (G.owa l m kl).2 f
  exact (w.2.2.2.2 _ o.1 (fun q => by
    rcases q with q | q | q
    · exact nx _ o.1 (by have := o.2.1; omega) q
    · have t := o.2.1; rw [q, c3.2.1] at t; omega
    · exact nl (by rw [← o.2.2.1]; exact q.2))).2.2.1 1
/-- the function's list made empty -/
theorem LMT.beg (h : LMT L P la lb lr lp) (G' : GLR L P' cO cI cZ ed) (G : GLR L P cO cI cZ ed) (c0 : CLF L P la 12) (c1 : CLF L P lb 12) (c2 : CLF L P lr 17) (c3 : CLF L P lp 15) (e : P'.2.1 = P.2.1) (hl : ∀ l : Nat, l = lb ∨ l = lr ∨ l = lp → P'.lz l = P.lz l ∧ ∀ i : Int, 0 ≤ i → i < P.lz l → P'.el l i = P.el l i) : LMT L P' la lb lr lp := by
  refine LMT.nat h e hl (fun z m kz f => ?_)
  have k30 := (h.1.1.kd G c0 c1 c2 c3 m).2.2.2 kz
  exact ((G'.owa z m (by show P'.2.1 0 z = 30; rw [e]; exact k30)).1 (by show P'.2.1 7 z ≠ 1; rw [e]; exact f)).1
theorem LMT.own1 (h : LMT L P la lb lr lp) (ds : DST P lb) {j k : Int} (j0 : 0 ≤ j) (j1 : j < P.lz lb) (k0 : 0 ≤ k) (k1 : k < P.lz lb) (e : P.el lb j = P.el lb k) : j = k := by
  rcases Int.lt_trichotomy j k with y | y | y
  · exact absurd e (ds j k j0 y k1).1
  · exact y
  · exact absurd e.symm (ds k j k0 y j1).1
/-- a block's ROWS have grown -/
theorem LMT.brI (h : LMT L P la lb lr lp) (ds : DST P lb) (g : GL1 x q L P L' P') (mx : x ∈ L) (kx : P.kd x = 30) (fx : P.fl x = 1 ∨ P.le x ∉ L) (i0 : 0 ≤ i) (i1 : i < P.lz lb) (eb : b = P.el lb i) (ex : P.br b = x) (kb : P.kd b = 12) (cx : 1 ≤ i → P'.cap x ≤ 1851) : LMT L' P' la lb lr lp := by
  have mb := (h.2.1.2.2.2 i i0 i1).1.1
  rw [← eb] at mb
  have ob := h.2.2.1.2.2.1 _ mb (kc12 kb)
  have nl : ∀ l : Nat, l = la ∨ l = lb ∨ l = lr ∨ l = lp → x ≠ l := fun l e q => h.nel mb kb (Or.inl ex.symm) e q.symm
  refine h.gl1 g mx kx fx ⟨nl _ (Or.inr (Or.inl rfl)), nl _ (Or.inr (Or.inr (Or.inl rfl))), nl _ (Or.inr (Or.inr (Or.inr rfl)))⟩ ⟨fun e => absurd e (nl _ (Or.inl rfl)), fun k k0 k1 => ⟨fun e k9 => ?_, fun e => ?_⟩⟩
  · have bk := (h.2.1.2.2.2 k k0 k1).1
    have o := (h.2.2.1.2.2.1 _ bk.1 bk.2).1
    rw [← e, ← ex, ob.1, eb] at o
    have ik := h.own1 ds i0 i1 k0 k1 o
    exact cx (by omega)
  · have bk := (h.2.1.2.2.2 k k0 k1).1
    have o := (h.2.2.1.2.2.1 _ bk.1 bk.2).2.1
    rw [← e, ← ex, ob.1] at o
    rw [← o] at e
    exact absurd (ex.trans e) ob.2.2
/-- a block's PHIs have grown -/
theorem LMT.bpI (h : LMT L P la lb lr lp) (ds : DST P lb) (g : GL1 x q L P L' P') (mx : x ∈ L) (kx : P.kd x = 30) (fx : P.fl x = 1 ∨ P.le x ∉ L) (i0 : 0 ≤ i) (i1 : i < P.lz lb) (eb : b = P.el lb i) (ex : P.bp b = x) (kb : P.kd b = 12) (i60 : i < 60) (cx : P'.cap x ≤ 823) : LMT L' P' la lb lr lp := by
  have mb := (h.2.1.2.2.2 i i0 i1).1.1
  rw [← eb] at mb
  have ob := h.2.2.1.2.2.1 _ mb (kc12 kb)
  have nl : ∀ l : Nat, l = la ∨ l = lb ∨ l = lr ∨ l = lp → x ≠ l := fun l e q => h.nel mb kb (Or.inr ex.symm) e q.symm
  refine h.gl1 g mx kx fx ⟨nl _ (Or.inr (Or.inl rfl)), nl _ (Or.inr (Or.inr (Or.inl rfl))), nl _ (Or.inr (Or.inr (Or.inr rfl)))⟩ ⟨fun e => absurd e (nl _ (Or.inl rfl)), fun k k0 k1 => ⟨fun e k9 => ?_, fun e => ⟨cx, fun k9 => ?_⟩⟩⟩
  · have bk := (h.2.1.2.2.2 k k0 k1).1
    have o := (h.2.2.1.2.2.1 _ bk.1 bk.2).1
    rw [← e, ← ex, ob.2.1] at o
    rw [← o] at e
    exact absurd (e.symm.trans ex.symm) ob.2.2
  · have bk := (h.2.1.2.2.2 k k0 k1).1
    have o := (h.2.2.1.2.2.1 _ bk.1 bk.2).2.1
    rw [← e, ← ex, ob.2.1, eb] at o
    have ik := h.own1 ds i0 i1 k0 k1 o
    omega
theorem LMT.rwk (h : LMT L P la lb lr lp) (w : RW1 x P P') (k : P.kd x = 17 ∨ P.kd x = 12 ∨ P.kd x = 15) : LMT L P' la lb lr lp := h.rw1 w (by
  rcases k with k | k | k
  · rw [kc17 k]; decide
  · rw [kc12 k]; decide
  · rw [kc15 k]; decide)
theorem LMT.cadd (h : LMT L P la lb lr lp) (g : PXC x L P L' P') (mx : x ∈ L) (kx : P.kd x = 15) (p' : PIK L' P' cI cZ x) (ga : P'.an (P'.pp x) = P.an (P.pp x) ∨ (P'.an (P'.pp x) = 2 * P.an (P.pp x) ∧ P.pn x = P.an (P.pp x))) (n9 : P.pn x ≤ 60) : LMT L' P' la lb lr lp := h.pxc g mx kx p'.2.1.1 (by rw [p'.2.1.2.1]; decide) p'.2.1.2.2.2 ((h.2.2.1.2.1 x mx (kc15 kx)).2.2.2.grow ga n9)
/-- behind a copy -/
theorem LBQ.copy (a : ∀ b : Int, 0 ≤ b → b < P.lz la → P.el la b = P.el lb b) (ds : DST P lb) (z : P.lz la ≤ P.lz lb) (i : I60 P la) : LBQ P P la lb := fun b k b0 b1 k0 k1 e => by
  rw [a b b0 b1] at e
  have bk : b = k := by
    rcases Int.lt_trichotomy b k with y | y | y
    · exact absurd e (ds b k b0 y k1).1
    · exact y
    · exact absurd e.symm (ds k b k0 y (by omega)).1
  exact ⟨fun q => by omega, fun q => by rw [← bk] at q; exact i b q b1⟩
/-- what is copied keeps within the limits -/
def SRC9 (S : PO) (ls : Nat) : Prop := (S.lz ls ≤ 180 ∧ S.tot 2 ls ≤ 4164 ∧ S.tot 1 ls ≤ 1936) ∧ ∀ b : Int, 0 ≤ b → b < S.lz ls → (1 ≤ b → S.lz (S.br (S.el ls b)) ≤ 1800) ∧ S.lz (S.bp (S.el ls b)) ≤ 700 ∧ (60 ≤ b → S.lz (S.bp (S.el ls b)) = 0) ∧ ∀ k : Int, 0 ≤ k → k < S.lz (S.bp (S.el ls b)) → S.pn (S.el (S.bp (S.el ls b)) k) ≤ 60
end LMT9K
