/-! LMQ: LMT, and which block of the Code a block of the function is, step by step -/
section LMT9F
variable {L L' Ls Lt Lo E : List Nat} {P P' Q Q' Z Z' Po : PO} {F : Nat → Prop} {cO cI cZ : ClassId} {ed la lb lr lp x q z l : Nat} {n p n' p' s c s' c' t y : Int}
def LMQ (Z : PO) (L : List Nat) (P : PO) (la lb lr lp : Nat) : Prop := LMT L P la lb lr lp ∧ LBQ Z P la lb
theorem LMT.la9 (h : LMT L P la lb lr lp) (g : ∀ z : Nat, z ∈ L → z ≠ x → (P.kc z = 0 → P.ow z ≠ x) → z ∈ L' ∧ (P.kc z = 18 → P'.lz z = P.lz z) ∧ (∀ f : Nat, P'.2.1 f z = P.2.1 f z) ∧ P'.oa z = P.oa z) (hx : x ∈ L → P.kc x = 18 ∨ P.kc x = 20) (nx : l ≠ x) (m : l = la ∨ l = lb ∨ l = lr ∨ l = lp) : P'.lz l = P.lz l ∧ ∀ i : Int, 0 ≤ i → i < P.lz l → P'.el l i = P.el l i := by
  have k := h.2.1.1 l m
  have t := g l k.1 nx (fun e => by omega)
  refine ⟨t.2.1 k.2, fun i i0 i1 => ?_⟩
  have o := h.2.2.1.1 l k.1 k.2
  have f : P.fl l = 1 := by
    by_cases f : P.fl l = 1
    · exact f
    · have := o.2 f; omega
  have r := o.1 f
  have u := g (P.le l) r.1 (fun e => by have q := hx (by rw [← e]; exact r.1); rw [← e] at q; omega) (fun _ => by rw [r.2.2]; exact nx)
  unfold PO.el
  rw [show P'.le l = P.le l from t.2.2.1 1, u.2.2.2]
theorem LMQ.chx {k : Nat} (h : LMQ Z L P la lb lr lp) (hed : ed ∉ L') (c : CHX k L P L' P') : LMQ Z L' P' la lb lr lp := by
  have hed0 : ed ∉ L := fun m => hed (c.1 ed m).1
  have ne : ∀ l : Nat, l ∈ L → l ≠ ed := fun l m e => hed0 (by rw [← e]; exact m)
  have g : ∀ z : Nat, z ∈ L → z ≠ ed → (P.kc z = 0 → P.ow z ≠ ed) → z ∈ L' ∧ (P.kc z = 18 → P'.lz z = P.lz z) ∧ (∀ f : Nat, P'.2.1 f z = P.2.1 f z) ∧ P'.oa z = P.oa z := fun z m _ _ => by
    have t := c.1 z m; exact ⟨t.1, fun _ => t.2.1 0, t.2.2.1, t.2.2.2.1⟩
  have a := h.1.la9 g (fun m => absurd m hed0) (ne _ (h.1.2.1.1 la (Or.inl rfl)).1) (Or.inl rfl)
  have b := h.1.la9 g (fun m => absurd m hed0) (ne _ (h.1.2.1.1 lb (Or.inr (Or.inl rfl))).1) (Or.inr (Or.inl rfl))
  exact ⟨h.1.chx hed0 c, h.2.same a.1 a.2 b⟩
theorem LMQ.edy (h : LMQ Z L P la lb lr lp) (e : EDY Z Z' la) : LMQ Z' L P la lb lr lp := ⟨h.1, h.2.edy e⟩
theorem LMQ.kin {g : Nat → Nat} (h : LMQ Z L P la lb lr lp) (e : pE (P.kin g) = pE P) : LMQ Z L (P.kin g) la lb lr lp := ⟨h.1.kin e, LBQ.kin h.2⟩
theorem LMQ.park (h : LMQ Z L P la lb lr lp) (F : Nat → Prop) : LMQ Z L (P.park F) la lb lr lp := LMQ.kin h (funext (pE_park P F))
theorem LMQ.rw1 (h : LMQ Z L P la lb lr lp) (w : RW1 x P P') (k : P.kc x ≠ 18) : LMQ Z L P' la lb lr lp := by
  have nx : ∀ l : Nat, P.kc l = 18 → l ≠ x := fun l q e => k (by rw [← e]; exact q)
  have r : ∀ l : Nat, l = la ∨ l = lb ∨ l = lr ∨ l = lp → P'.lz l = P.lz l ∧ ∀ i : Int, 0 ≤ i → i < P.lz l → P'.el l i = P.el l i := fun l m => ⟨w.2 l (nx l (h.1.2.1.1 l m).2) 0, fun i _ _ => by unfold PO.el PO.le PO.oa; rw [w.1]⟩
  exact ⟨h.1.rw1 w k, h.2.same (r la (Or.inl rfl)).1 (r la (Or.inl rfl)).2 (r lb (Or.inr (Or.inl rfl)))⟩
theorem LMQ.rw17 (h : LMQ Z L P la lb lr lp) (w : RW1 x P P') (k : P.kd x = 17) : LMQ Z L P' la lb lr lp := h.rw1 w (by rw [kc17 k]; decide)
theorem gl1_sm9 (h : LMT L P la lb lr lp) (g : GL1 x q L P L' P') (mx : x ∈ L) (kx : P.kd x = 30) (fx : P.fl x = 1 ∨ P.le x ∉ L) : ∀ z : Nat, z ∈ L → z ≠ x → (P.kc z = 0 → P.ow z ≠ x) → z ∈ L' ∧ (P.kc z = 18 → P'.lz z = P.lz z) ∧ (∀ f : Nat, P'.2.1 f z = P.2.1 f z) ∧ P'.oa z = P.oa z := fun z m nz ow => by
  have c := (h.2.2.1.1 x mx (kc30 kx))
  have ne : z ≠ P.le x := fun e => by
    rcases fx with fx | fx
    · exact ow (by rw [e]; exact (c.1 fx).2.1) (by rw [e]; exact (c.1 fx).2.2)
    · exact fx (by rw [← e]; exact m)
  have t := g.sm z m nz ne
  exact ⟨g.2.1 z m ne, fun _ => t.1 0, t.2.1, t.2.2.1⟩
theorem LMQ.gl1 (h : LMQ Z L P la lb lr lp) (l' : LMT L' P' la lb lr lp) (g : GL1 x q L P L' P') (mx : x ∈ L) (kx : P.kd x = 30) (fx : P.fl x = 1 ∨ P.le x ∉ L) (n1 : la ≠ x) (n2 : lb ≠ x) : LMQ Z L' P' la lb lr lp := by
  have a := h.1.la9 (gl1_sm9 h.1 g mx kx fx) (fun _ => Or.inl (kc30 kx)) n1 (Or.inl rfl)
  have b := h.1.la9 (gl1_sm9 h.1 g mx kx fx) (fun _ => Or.inl (kc30 kx)) n2 (Or.inr (Or.inl rfl))
  exact ⟨l', h.2.same a.1 a.2 b⟩
theorem LMT.nel (h : LMT L P la lb lr lp) {b : Nat} (mb : b ∈ L) (kb : P.kd b = 12) (ex : x = P.br b ∨ x = P.bp b) (m : l = la ∨ l = lb ∨ l = lr ∨ l = lp) : l ≠ x := fun e => by
  have ob := h.2.2.1.2.2.1 _ mb (kc12 kb)
  have o := h.2.2.1.2.2.2 l m
  have k := (h.2.1.1 l m).2
  have ow : P.ow x = b := by
    rcases ex with ex | ex
    · rw [ex]; exact ob.1
    · rw [ex]; exact ob.2.1
  rw [e, ow] at o
  rw [e, ← o, kc12 kb] at k
  omega
theorem LMQ.br0 (h : LMQ Z L P la lb lr lp) (g : GL1 x q L P L' P') (mx : x ∈ L) (kx : P.kd x = 30) (fx : P.fl x = 1 ∨ P.le x ∉ L) (l0 : 0 < P.lz la) (mb : P.el la 0 ∈ L) (kb : P.kd (P.el la 0) = 12) (ex : x = P.br (P.el la 0)) : LMQ Z L' P' la lb lr lp := h.gl1 (h.1.br0 h.2 g kx fx l0 mb kb ex mx) g mx kx fx (h.1.nel mb kb (Or.inl ex) (Or.inl rfl)) (h.1.nel mb kb (Or.inl ex) (Or.inr (Or.inl rfl)))
theorem LMQ.bpy (h : LMQ Z L P la lb lr lp) (g : GL1 x q L P L' P') (mx : x ∈ L) (kx : P.kd x = 30) (fx : P.fl x = 1 ∨ P.le x ∉ L) (y0 : 0 ≤ y) (y1 : y < P.lz la) (mb : P.el la y ∈ L) (kb : P.kd (P.el la y) = 12) (ex : x = P.bp (P.el la y)) (mp : MPR Z la y) (cx : P'.cap x ≤ 823) : LMQ Z L' P' la lb lr lp := h.gl1 (h.1.bpy h.2 g kx fx y0 y1 mb kb ex mx mp cx) g mx kx fx (h.1.nel mb kb (Or.inr ex) (Or.inl rfl)) (h.1.nel mb kb (Or.inr ex) (Or.inr (Or.inl rfl)))
theorem LMQ.pxc (h : LMQ Z L P la lb lr lp) (g : PXC x L P L' P') (mx : x ∈ L) (kx : P.kd x = 15) (p' : PIK L' P' cI cZ x) (z' : PHL (P'.an (P'.pp x))) : LMQ Z L' P' la lb lr lp := by
  have kcx := kc15 kx
  have sm : ∀ z : Nat, z ∈ L → z ≠ x → (P.kc z = 0 → P.ow z ≠ x) → z ∈ L' ∧ (P.kc z = 18 → P'.lz z = P.lz z) ∧ (∀ f : Nat, P'.2.1 f z = P.2.1 f z) ∧ P'.oa z = P.oa z := fun z m nz ow => by
    have t := g.2.1 z m (fun q => by
      rcases q with q | q
      · exact nz q
      · exact ow (kc_hi9 (by omega)) q.1)
    exact ⟨t.1, fun _ => t.2.1 0, t.2.2.1, t.2.2.2.1⟩
  have ne : ∀ l : Nat, P.kc l = 18 → l ≠ x := fun l k e => by rw [e] at k; omega
  have a := h.1.la9 sm (fun _ => Or.inr kcx) (ne _ (h.1.2.1.1 la (Or.inl rfl)).2) (Or.inl rfl)
  have b := h.1.la9 sm (fun _ => Or.inr kcx) (ne _ (h.1.2.1.1 lb (Or.inr (Or.inl rfl))).2) (Or.inr (Or.inl rfl))
  exact ⟨h.1.pxc g mx kx p'.2.1.1 (by rw [p'.2.1.2.1]; decide) p'.2.1.2.2.2 z', h.2.same a.1 a.2 b⟩
theorem LMQ.row (h : LMQ Z L Q la lb lr lp) (b : ATB L Q cO cI cZ ed la lb lr lp n p s c) (k : KEG [lr] L Q L' Q') (G' : GLR L' Q' cO cI cZ ed) (w : CRH lr x n L Q L' Q') (e : x = Q'.el lr n ∧ (∀ i : Int, 0 ≤ i → i < Q.lz lr → Q'.el lr i = Q.el lr i) ∧ (Q'.lz lr = Q.lz lr ∨ (Q'.lz lr = Q.lz lr + 1 ∧ n = Q.lz lr ∧ x ∉ L))) (nw : NWO x L Q L' Q') (n4 : n < 4164) : LMQ Z L' Q' la lb lr lp := by
  obtain ⟨⟨G, f, v⟩, ⟨c1, c2, c3, ne⟩, _, ⟨d1, d2, n0, _⟩, _⟩ := b
  have c0 := f.1
  have a := k.list9 c0 (fun e => by have t := c0.2.2.1; rw [e, c2.2.2.1] at t; omega)
  have b := k.list9 c1 (fun e => by have t := c1.2.2.1; rw [e, c2.2.2.1] at t; omega)
  exact ⟨h.1.row G G' c0 c1 c2 c3 k w e nw n0 n4, h.2.same a.1 a.2 b⟩
theorem LMQ.phi (h : LMQ Z L Q la lb lr lp) (b : ATB L Q cO cI cZ ed la lb lr lp n p s c) (k : KEG [lp] L Q L' Q') (G' : GLR L' Q' cO cI cZ ed) (v' : LVA L' Q') (w : CPQ lp x p t L Q L' Q') (nw : NWP x lp L Q L' Q') (n4 : p < 1936) : LMQ Z L' Q' la lb lr lp := by
  obtain ⟨⟨G, f, v⟩, ⟨c1, c2, c3, ne⟩, _, ⟨d1, d2, n0, n1, p0, _⟩, _⟩ := b
  have c0 := f.1
  have a := k.list9 c0 (fun e => by have t := c0.2.2.1; rw [e, c3.2.2.1] at t; omega)
  have b := k.list9 c1 (fun e => by have t := c1.2.2.1; rw [e, c3.2.2.1] at t; omega)
  exact ⟨h.1.phi G G' v' c0 c1 c2 c3 k w nw p0 n4, h.2.same a.1 a.2 b⟩
/-- behind named -/
theorem LMQ.keg (h : LMQ Z L P la lb lr lp) (t : ATT L P cO cI cZ ed la lb lr lp n p s c) (a : ALP L P cO cI cZ ed la) (k : KEG [] L P L P') (g : GLR L P' cO cI cZ ed) (e : P'.2.1 = P.2.1) : LMQ Z L P' la lb lr lp := by
  have r := ((k.1 la a.lok.1 (by rw [a.lok.2.1]; decide)).2.2.2.1 a.lok.2.1 t.ow).2 (by simp)
  exact ⟨h.1.keg t k g e, h.2.same r.1 r.2 (t.lists k lb (Or.inl rfl))⟩
/-- behind drop -/
theorem LBQ.drx {st aa : Int → Int} (h : LBQ P P la lb) (d : DRX P Q la st aa) (al : ALP L P cO cI cZ ed la) (kst : KST P la st) (f : FNE Q Q' la) (b9 : Q'.lz lb = P.lz lb ∧ ∀ i : Int, 0 ≤ i → i < P.lz lb → Q'.el lb i = P.el lb i) : LBQ Q' Q' la lb := fun b k b0 b1 k0 k1 e => by
  obtain ⟨sm, m, d⟩ := d.dre al kst
  have zm := d.1.2.1
  rw [f.1, zm] at b1
  rw [b9.1] at k1
  have on := d.on b0 b1
  rw [(f.2 b b0 (by rw [zm]; exact b1)).1, d.2.1 b b0 b1, b9.2 k k0 k1] at e
  have r := h (sm b) k on.1.1 on.1.2 k0 k1 e
  refine ⟨fun z => r.1 (by rw [z]; exact d.1.2.2.2), fun z mp => r.2 z ?_⟩
  obtain ⟨p, q, hp, hq, ne, e1, e2⟩ := MPR.edy f.edy mp
  rw [zm] at hp hq
  have op := d.on hp.1 hp.2
  have oq := d.on hq.1 hq.2
  refine ⟨sm p, sm q, op.1, oq.1, fun ee => ne ?_, (d.edg al kst hp.1 hp.2 b0 b1).mp e1, (d.edg al kst hq.1 hq.2 b0 b1).mp e2⟩
  have t1 := op.2.2
  rw [ee, oq.2.2] at t1
  exact t1.symm
end LMT9F
