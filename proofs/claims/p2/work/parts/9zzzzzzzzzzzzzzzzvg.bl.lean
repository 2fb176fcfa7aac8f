/-! a text read over the whole pool: copies of what is known of GLF -/
/-- what a block that was read leaves as it was -/
def OLB (P Q : PO) (la x : Nat) : Prop := Q.el la (P.lz la) = x ∧ ∀ i : Int, 0 ≤ i → i < P.lz la → Q.el la i = P.el la i ∧ SM9 (P.el la i) P Q ∧ SM9 (P.be (P.el la i)) P Q ∧ SM9 (P.br (P.el la i)) P Q ∧ ∀ j : Int, 0 ≤ j → j < P.lz (P.br (P.el la i)) → Q.el (P.br (P.el la i)) j = P.el (P.br (P.el la i)) j
section BLR00
variable {L L' : List Nat} {P P' : PO} {cO : ClassId} {ed y : Nat} {S : Nat → Prop}
/-- a list that nothing has touched: its own row alone is asked for -/
theorem CHG.lst2 (c : CHG S L P L' P') (o : OWA L P cO ed) (m : y ∈ L) (k : P.kd y = 30) (h : ¬ S y) (g : P.fl y = 1 → P.le y ∈ L → P.kd (P.le y) = 31 → P.ow (P.le y) = y → ¬ S (P.le y)) : P'.lz y = P.lz y ∧ (∀ i : Int, 0 ≤ i → i < P.lz y → P'.el y i = P.el y i) ∧ P'.cap y = P.cap y := by
  have s := (c y m h).2
  have fl : P'.fl y = P.fl y := s.2.1 7
  have le : P'.le y = P.le y := s.2.1 1
  by_cases f : P.fl y = 1
  · obtain ⟨a, b, w, _⟩ := (o y m k).2 f
    have s2 := (c _ a (g f a b w)).2
    have an : P'.an (P.le y) = P.an (P.le y) := s2.2.1 1
    have oa : P'.oa (P.le y) = P.oa (P.le y) := s2.2.2.1
    refine ⟨s.1 0, fun i _ _ => ?_, ?_⟩
    · unfold PO.el; rw [le, oa]
    · unfold PO.cap; rw [fl, le, an]
  · have z := ((o y m k).1 f).1
    refine ⟨s.1 0, fun i i0 i1 => by omega, ?_⟩
    unfold PO.cap; rw [fl, if_neg f, if_neg f]
end BLR00
section BLR01
variable {E E2 L L' M M2 : List Nat} {P P' Q Q2 : PO} {cO cI cZ cB : ClassId} {ed la lb lr lx x e t y : Nat} {S : Nat → Prop} {n : Int}
theorem BLS.extR {g : Int → Int} (b : BLS P la lb g n) (G : GLR L P cO cI cZ ed) (u : EXT9 L P L' P') (ca : la ∈ L ∧ P.kd la = 30 ∧ P.ek la = 12 ∧ P.ow la = la) (cb : lb ∈ L ∧ P.kd lb = 30 ∧ P.ek lb = 12 ∧ P.ow lb = lb) (z : P.lz la ≤ P.lz lb) : BLS P' la lb g n := by
  have lk := (G.gla la ca.1 ca.2.1).1
  rw [ca.2.2.1] at lk
  refine ⟨b.1.blkR G cb (u.kegR (E := []) G) (fun i i0 i1 => u.el G.owa cb.1 cb.2.1 i0 i1) (Or.inl ((u lb cb.1).2.1 0)), fun i i0 i1 => ?_⟩
  have i2 : i < P.lz la := by have e : P'.lz la = P.lz la := (u la ca.1).2.1 0; omega
  refine b.old (fun j j0 j1 => ?_) (Int.le_refl _) (fun _ _ _ => rfl) i0 i2
  obtain ⟨_, ym, yk⟩ := lk.2.2.2.2 j j0 j1
  exact ⟨u.el G.owa ca.1 ca.2.1 j0 j1, u.el G.owa cb.1 cb.2.1 j0 (by omega), (u _ ym).2, (u _ (G.gb ym yk).1.1).2, (u _ (G.owc _ ym yk).2.2.2.1).2⟩
end BLR01
section BLR02
variable {E E2 L L' M M2 : List Nat} {P P' Q Q2 : PO} {cO cI cZ cB : ClassId} {ed la lb lr lx x e t y : Nat} {S : Nat → Prop} {n : Int}
theorem BLS.blkR {g g' : Int → Int} {n' md : Int} (b : BLS P la lb g n) (G : GLR L P cO cI cZ ed) (ca : la ∈ L ∧ P.kd la = 30 ∧ P.ek la = 12 ∧ P.ow la = la) (cb : lb ∈ L ∧ P.kd lb = 30 ∧ P.ek lb = 12 ∧ P.ow lb = lb) (mz : md = P.lz la) (zb : md ≤ P.lz lb)
    (c : CB9 la lb x md L P M Q) (k1 : KEG E L P M Q) (G1 : GLR M Q cO cI cZ ed) (d1 : DST Q lb) (ch : CHG (SBK x (Q.be x) lr lx Q) M Q M2 Q2) (elx : lx = Q.br x) (cr : lr ∈ M ∧ Q.kd lr = 30 ∧ Q.ek lr = 17 ∧ Q.ow lr = lr)
    (k2 : KEG E2 M Q M2 Q2) (nn : n ≤ n') (gg : ∀ j : Int, 0 ≤ j → j < n → g' j = g j) (w2 : GIN g' n' (Q2.bf x)) (w3 : GIN g' n' (Q2.bs x)) (w4 : 30 ≤ Q2.ro (Q.be x) ∧ Q2.ro (Q.be x) ≤ 32) :
    BLS Q2 la lb g' n' ∧ (Q2.lz la = P.lz la + 1 ∧ Q2.lz lb = Q.lz lb ∧ Q2.tot 2 la = P.tot 2 la + Q2.lz (Q2.br x)) ∧ (Q2.cap la = Q.cap la ∧ Q2.cap lb = Q.cap lb) ∧ OLB P Q2 la x := by
  obtain ⟨⟨xm, xk, xb, xa, z5, _⟩, ⟨z1, z2, _⟩, ea, eb, c1⟩ := c
  have am := k1.mem ca.1 ca.2.1 (by decide)
  have bm := k1.mem cb.1 cb.2.1 (by decide)
  have ae : Q.ek la = 12 := (k1.ek ca.1 ca.2.1 (by decide)).trans ca.2.2.1
  have be9 : Q.ek lb = 12 := (k1.ek cb.1 cb.2.1 (by decide)).trans cb.2.2.1
  have bo : Q.ow lb = lb := ((k1.1 lb cb.1 (by have := cb.2.1; omega)).2.2.2.1 cb.2.1 cb.2.2.2).1
  obtain ⟨⟨r1, r2, r3, r4⟩, p1, p2, p3, p4⟩ := G1.owc x xm xk
  obtain ⟨xe1, xe2, xe3⟩ := (G1.gb xm xk).1
  obtain ⟨l1, l2, l3, l4⟩ := cr
  obtain ⟨ca1, ca2, ca3, ca4⟩ := ca
  obtain ⟨cb1, cb2, cb3, cb4⟩ := cb
  have w1 : Q2.lz (Q2.bp x) = 0 := by
    rw [(k2.2 x xm xk).1]
    exact ((ch _ p3 (fun q => by
      unfold SBK at q
      rcases q with q | q | q | q | q | q
      · rw [q] at p4; omega
      · rw [q] at p4; omega
      · rw [q, l4] at p2; rw [← p2] at xk; omega
      · rw [q, elx, r1] at p1; omega
      · omega
      · omega)).2.1 0).trans z5
  rw [← (k2.2 x xm xk).2.2] at w4
  have nS : ∀ l : Nat, Q.kd l = 30 → Q.ek l = 12 → ¬ SBK x (Q.be x) lr lx Q l := fun l k e q => by
    unfold SBK at q
    rcases q with q | q | q | q | q | q
    · rw [q] at k; omega
    · rw [q] at k; omega
    · rw [q] at e; omega
    · rw [q, elx] at e; omega
    · omega
    · omega
  have nA : ∀ l : Nat, Q.ek l = 12 → ∀ z : Nat, z ∈ M → Q.kd z = 31 → Q.ow z = l → ¬ SBK x (Q.be x) lr lx Q z := fun l e z m k w q => by
    unfold SBK at q
    rcases q with q | q | q | q | q | q
    · rw [q] at k; omega
    · rw [q] at k; omega
    · rw [q] at k; omega
    · rw [q, elx] at k; omega
    · rcases q.2 with h | h
      · rw [w] at h; rw [h] at e; omega
      · rw [w, elx] at h; rw [h] at e; omega
    · omega
  have la2 := ch.lst G1.owa am.1 am.2 (nS la am.2 ae) (nA la ae)
  have lb2 := ch.lst G1.owa bm.1 bm.2 (nS lb bm.2 be9) (nA lb be9)
  have lk := (G.gla la ca1 ca2).1
  rw [ca3] at lk
  have lz0 := lk.2.2.1.1
  have old : ∀ i : Int, 0 ≤ i → i < P.lz la → Q2.el la i = P.el la i ∧ Q2.el lb i = P.el lb i ∧ SM9 (P.el la i) P Q2 ∧ SM9 (P.be (P.el la i)) P Q2 ∧ SM9 (P.bp (P.el la i)) P Q2 ∧ Q2.br (P.el la i) = P.br (P.el la i) ∧ SM9 (P.br (P.el la i)) P Q2 ∧ ∀ j : Int, 0 ≤ j → j < P.lz (P.br (P.el la i)) → Q2.el (P.br (P.el la i)) j = P.el (P.br (P.el la i)) j := fun i i0 i1 => by
    obtain ⟨_, ym, yk⟩ := lk.2.2.2.2 i i0 i1
    have ey := (b.2 i i0 i1).1
    have el1 := (la2.2.1 i i0 (by omega)).trans (ea i i0 i1)
    have el2 := (lb2.2.1 i i0 (by omega)).trans (eb i i0 (by omega))
    have eqi : Q.el lb i = P.el la i := (eb i i0 (by omega)).trans ey.symm
    have dd := d1 i md i0 (by omega) (by omega)
    rw [eqi, ← xb] at dd
    refine ⟨el1, el2, ?_⟩
    generalize P.el la i = y at ym yk dd ⊢
    obtain ⟨ym1, yk1⟩ := k1.mem ym yk (by decide)
    obtain ⟨kp, kr, ke⟩ := k1.2 y ym yk
    obtain ⟨eb1, eb2, eb3⟩ := (G.gb ym yk).1
    obtain ⟨⟨a1, a2, a3, a4⟩, a5, a6, a7, a8⟩ := G.owc y ym yk
    obtain ⟨⟨q1, q2, q3, q4⟩, q5, q6, q7, q8⟩ := G1.owc y ym1 yk1
    rw [kr] at q1 q2 q3 q4
    rw [kp] at q5 q6 q7 q8
    rw [ke] at dd
    obtain ⟨nx, ne⟩ := dd
    obtain ⟨be1, be2⟩ := k1.mem eb1 eb2 (by decide)
    have be3 : Q.ek (P.be y) = 1 := (k1.ek eb1 eb2 (by decide)).trans eb3
    have t1 : ∀ z : Nat, z ∈ L → P.kd z ≠ 31 → ¬ (z = la ∨ z = lb ∨ z = Q.bp x ∨ z = Q.br x) → SM9 z P Q := fun z m k h => (c1 z m (fun q => by
      rcases q with q | q
      · exact h q
      · exact k q.1)).2
    have s1 : SM9 y P Q := t1 y ym (by omega) (fun h => by
      rcases h with h | h | h | h
      · rw [h] at yk; omega
      · rw [h] at yk; omega
      · rw [h] at yk1; omega
      · rw [h] at yk1; omega)
    have s2 : SM9 (P.be y) P Q := t1 _ eb1 (by omega) (fun h => by
      rcases h with h | h | h | h
      · rw [h] at eb2; omega
      · rw [h] at eb2; omega
      · rw [h] at be2; omega
      · rw [h] at be2; omega)
    have s3 : SM9 (P.bp y) P Q := t1 _ a7 (by omega) (fun h => by
      rcases h with h | h | h | h
      · rw [h, ca4] at a6; rw [← a6] at yk; omega
      · rw [h, cb4] at a6; rw [← a6] at yk; omega
      · rw [h, p2] at q6; exact nx q6.symm
      · rw [h, r1] at q5; omega)
    have s4 : SM9 (P.br y) P Q := t1 _ a3 (by omega) (fun h => by
      rcases h with h | h | h | h
      · rw [h, ca4] at a2; rw [← a2] at yk; omega
      · rw [h, cb4] at a2; rw [← a2] at yk; omega
      · rw [h, p1] at q1; omega
      · rw [h, r2] at q2; exact nx q2.symm)
    have u1 : SM9 y Q Q2 := (ch y ym1 (fun q => by
      unfold SBK at q
      rcases q with q | q | q | q | q | q
      · exact nx q
      · rw [q] at yk1; omega
      · rw [q] at yk1; omega
      · rw [q, elx] at yk1; omega
      · omega
      · omega)).2
    have u2 : SM9 (P.be y) Q Q2 := (ch _ be1 (fun q => by
      unfold SBK at q
      rcases q with q | q | q | q | q | q
      · rw [q] at be2; omega
      · exact ne q
      · rw [q] at be2; omega
      · rw [q, elx] at be2; omega
      · omega
      · exact q.2 be3)).2
    have u3 : SM9 (P.bp y) Q Q2 := (ch _ q7 (fun q => by
      unfold SBK at q
      rcases q with q | q | q | q | q | q
      · rw [q] at q8; omega
      · rw [q] at q8; omega
      · rw [q, l4] at q6; rw [← q6] at yk1; omega
      · rw [q, elx, r1] at q5; omega
      · omega
      · omega)).2
    have u4 : SM9 (P.br y) Q Q2 := (ch _ q3 (fun q => by
      unfold SBK at q
      rcases q with q | q | q | q | q | q
      · rw [q] at q4; omega
      · rw [q] at q4; omega
      · rw [q, l4] at q2; rw [← q2] at yk1; omega
      · rw [q, elx, r2] at q2; exact nx q2.symm
      · omega
      · omega)).2
    have nT : ¬ (P.br y = la ∨ P.br y = lb ∨ P.br y = Q.bp x ∨ P.br y = Q.br x) := fun h => by
      rcases h with h | h | h | h
      · rw [h, ca4] at a2; rw [← a2] at yk; omega
      · rw [h, cb4] at a2; rw [← a2] at yk; omega
      · rw [h, p1] at q1; omega
      · rw [h, r2] at q2; exact nx q2.symm
    have v1 := c1.lst2 G.owa a3 a4 (fun q => by
      rcases q with q | q
      · exact nT q
      · omega) (fun fz mz kz wz q => by
      have lq : Q.le (P.br y) = P.le (P.br y) := s4.2.1 1
      have fq : Q.fl (P.br y) = 1 := (s4.2.1 7).trans fz
      have kq := ((G1.owa (P.br y) q3 q4).2 fq).2.1
      rw [lq] at kq
      rcases q with q | q
      · rcases q with q | q | q | q
        · rw [q] at kz; omega
        · rw [q] at kz; omega
        · rw [q] at kq; omega
        · rw [q] at kq; omega
      · rw [wz] at q; exact nT q.2)
    have v2 := ch.lst G1.owa q3 q4 (fun q => by
      unfold SBK at q
      rcases q with q | q | q | q | q | q
      · rw [q] at q4; omega
      · rw [q] at q4; omega
      · rw [q, l4] at q2; rw [← q2] at yk1; omega
      · rw [q, elx, r2] at q2; exact nx q2.symm
      · omega
      · omega) (fun z mz kz wz q => by
      unfold SBK at q
      rcases q with q | q | q | q | q | q
      · rw [q] at kz; omega
      · rw [q] at kz; omega
      · rw [q] at kz; omega
      · rw [q, elx] at kz; omega
      · rcases q.2 with h | h
        · rw [wz] at h; rw [h, l4] at q2; rw [← q2] at yk1; omega
        · rw [wz, elx] at h; rw [h, r2] at q2; exact nx q2.symm
      · omega)
    exact ⟨s1.trans u1, s2.trans u2, s3.trans u3, (u1.2.1 2).trans kr, s4.trans u4, fun j j0 j1 => (v2.2.1 j j0 (by rw [v1.1]; exact j1)).trans (v1.2.1 j j0 j1)⟩
  have xi : Q2.el la (P.lz la) = x := (la2.2.1 _ (by omega) (by omega)).trans xa.symm
  have xj : Q2.el lb (P.lz la) = x := by rw [lb2.2.1 _ (by omega) (by omega), ← mz]; exact xb.symm
  refine ⟨⟨d1.blkR G1 ⟨bm.1, bm.2, be9, bo⟩ k2 lb2.2.1 (Or.inl lb2.1), fun i i0 i1 => ?_⟩, ⟨la2.1.trans z1, lb2.1, ?_⟩, ⟨la2.2.2, lb2.2.2⟩, xi, fun i i0 i1 => ⟨(old i i0 i1).1, (old i i0 i1).2.2.1, (old i i0 i1).2.2.2.1, (old i i0 i1).2.2.2.2.2.2.1, (old i i0 i1).2.2.2.2.2.2.2⟩⟩
  · by_cases h : i < P.lz la
    · exact b.old (fun j j0 j1 => ⟨(old j j0 j1).1, (old j j0 j1).2.1, (old j j0 j1).2.2.1, (old j j0 j1).2.2.2.1, (old j j0 j1).2.2.2.2.1⟩) nn gg i0 h
    · have e : i = P.lz la := by have := la2.1; omega
      rw [e, xi, xj]; exact ⟨rfl, w1, w2, w3, w4.1, w4.2⟩
  · unfold PO.tot
    have e : (Q2.lz la).toNat = (P.lz la).toNat + 1 := by have := la2.1; omega
    have en : (((P.lz la).toNat : Nat) : Int) = P.lz la := by omega
    rw [e]
    show sumI (fun i => Q2.lz (Q2.2.1 2 (Q2.el la i))) (P.lz la).toNat + Q2.lz (Q2.2.1 2 (Q2.el la (((P.lz la).toNat : Nat) : Int))) = _
    rw [en, xi, sumI_eq (g := fun i => P.lz (P.2.1 2 (P.el la i))) (fun i i0 i1 => by
      have o := old i i0 (by omega)
      show Q2.lz (Q2.br (Q2.el la i)) = P.lz (P.br (P.el la i))
      rw [o.1, o.2.2.2.2.2.1]; exact o.2.2.2.2.2.2.1.1 0)]
    rfl
end BLR02
section BLR03
variable {P Q : PO} {la lr x : Nat} {n m : Int}
/-- rows of the blocks of a text, one block more -/
theorem BRO.blk (o : BRO P la lr n) (z : Q.lz la = P.lz la + 1) (ol : OLB P Q la x) (rows : ∀ k : Int, 0 ≤ k → k < n → Q.el lr k = P.el lr k) (nn : n ≤ m) (hx : ∀ j : Int, 0 ≤ j → j < Q.lz (Q.br x) → ∃ k : Int, (0 ≤ k ∧ k < m) ∧ Q.el (Q.br x) j = Q.el lr k) (he : OPQ (Q.rA (Q.be x)) (Q.ra (Q.be x))) : BRO Q la lr m := fun b b0 b1 => by
  by_cases h : b < P.lz la
  · obtain ⟨e1, s1, s2, s3, el⟩ := ol.2 b b0 h
    obtain ⟨r, q⟩ := o b b0 h
    have f1 : Q.br (P.el la b) = P.br (P.el la b) := s1.2.1 2
    have f2 : Q.be (P.el la b) = P.be (P.el la b) := s1.2.1 3
    have f3 : Q.lz (P.br (P.el la b)) = P.lz (P.br (P.el la b)) := s3.1 0
    have f4 : Q.rA (P.be (P.el la b)) = P.rA (P.be (P.el la b)) := s2.1 4
    have f5 : Q.ra (P.be (P.el la b)) = P.ra (P.be (P.el la b)) := s2.1 2
    rw [e1, f1, f2, f3, f4, f5]
    refine ⟨fun j j0 j1 => ?_, q⟩
    obtain ⟨k, ⟨k0, k1⟩, e⟩ := r j j0 j1
    exact ⟨k, ⟨k0, by omega⟩, by rw [el j j0 j1, e, rows k k0 k1]⟩
  · have e : b = P.lz la := by omega
    rw [e, ol.1]; exact ⟨hx, he⟩
end BLR03
section BLR04
variable {E L L' : List Nat} {P P' : PO} {cO cI cZ cB : ClassId} {ed la lb lr x e t : Nat} {n m : Int} {S : Nat → Prop}
theorem CB9.txtR (c : CB9 la lb x n L P L' P') (g' : GLR L' P' cO cI cZ ed) (k : KEG E L P L' P') (ka : P.kd la = 30) (kb : P.kd lb = 30) (h : TXT L P cB e t) : TXT L' P' cB e t := by
  obtain ⟨⟨xm, xk, _⟩, _, _, _, ch⟩ := c
  obtain ⟨⟨_, _, _, w2⟩, _, _, _, w1⟩ := g'.owc x xm xk
  refine h.chg ch (fun z m d s => ?_)
  have kz := (k.1 z m (by omega)).2.1
  rcases s with s | s
  · rcases s with s | s | s | s
    · rw [s] at d; omega
    · rw [s] at d; omega
    · rw [← s] at w1; omega
    · rw [← s] at w2; omega
  · omega
theorem RWS9.step2 (h : RWS9 P lr m) (G : GLR L P cO cI cZ ed) (cl : CLF L P lr 17) (n0 : m ≤ P.lz lr) (c : CHG S L P L' P') (hl : ¬ S lr) (ha : P.fl lr = 1 → P.le lr ∈ L → P.kd (P.le lr) = 31 → P.ow (P.le lr) = lr → ¬ S (P.le lr)) (s : ∀ z : Nat, z ∈ L → P.kd z = 17 → P.ek z ≠ 1 → S z → ROK9 P' z) : RWS9 P' lr m :=
  h.chg c (fun k k0 k1 => ⟨(G.inr cl k0 (by omega)).1, (c.lst2 G.owa cl.1 cl.2.1 hl ha).2.1 k k0 (by omega)⟩) (fun k k0 k1 q => s _ (G.inr cl k0 (by omega)).1 (G.inr cl k0 (by omega)).2 ((G.gla lr cl.1 cl.2.1).2.2 cl.2.2.1 k k0 (by omega)) q)
/-- a block was taken -/
theorem RWS9.cb9 (h : RWS9 P lr m) (G : GLR L P cO cI cZ ed) (cl : CLF L P lr 17) (n0 : m ≤ P.lz lr) (ca : CLF L P la 12) (cb : CLF L P lb 12) (c : CB9 la lb x n L P L' P') (k : KEG E L P L' P') (G2 : GLR L' P' cO cI cZ ed) : RWS9 P' lr m := by
  obtain ⟨⟨xm, xk, _⟩, _, _, _, ch⟩ := c
  obtain ⟨⟨_, o2, _, w2⟩, _, o1, _, w1⟩ := G2.owc x xm xk
  have ol : P'.ow lr = lr := ((k.1 lr cl.1 (by have := cl.2.1; omega)).2.2.2.1 cl.2.1 cl.2.2.2).1
  have kl := k.mem cl.1 cl.2.1 (by decide)
  have nl : ¬ (lr = la ∨ lr = lb ∨ lr = P'.bp x ∨ lr = P'.br x) := fun q => by
    rcases q with q | q | q | q
    · have a := cl.2.2.1; have b := ca.2.2.1; rw [q] at a; omega
    · have a := cl.2.2.1; have b := cb.2.2.1; rw [q] at a; omega
    · rw [← q, ol] at o1; rw [o1] at kl; omega
    · rw [← q, ol] at o2; rw [o2] at kl; omega
  have nS : ¬ TS9 (fun z => z = la ∨ z = lb ∨ z = P'.bp x ∨ z = P'.br x) P lr := fun q => by
    rcases q with q | q
    · exact nl q
    · have := cl.2.1; omega
  have sl := (ch lr cl.1 nS).2
  refine h.step2 G cl n0 ch nS (fun f _ kz oz q => ?_) (fun z mz kz ez q => ?_)
  · have fq : P'.fl lr = 1 := (sl.2.1 7).trans f
    have lq : P'.le lr = P.le lr := sl.2.1 1
    have kq := ((G2.owa lr kl.1 kl.2).2 fq).2.1
    rw [lq] at kq
    rcases q with q | q
    · rcases q with q | q | q | q
      · have b := ca.2.1; rw [q] at kz; omega
      · have b := cb.2.1; rw [q] at kz; omega
      · rw [q] at kq; omega
      · rw [q] at kq; omega
    · rw [oz] at q; exact nl q.2
  · have kq := (k.mem mz kz (by decide)).2
    rcases q with q | q
    · rcases q with q | q | q | q
      · have b := ca.2.1; rw [q] at kz; omega
      · have b := cb.2.1; rw [q] at kz; omega
      · rw [q] at kq; omega
      · rw [q] at kq; omega
    · omega
end BLR04
