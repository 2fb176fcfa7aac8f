section NEW30
variable {L L' L2 : List Nat} {P P' P2 : PO} {cO cI cZ : ClassId} {ed la x q : Nat}
theorem EXT9.trans (h : EXT9 L P L' P') (k : EXT9 L' P' L2 P2) : EXT9 L P L2 P2 := fun z m => ⟨(k z (h z m).1).1, (h z m).2.trans (k z (h z m).1).2⟩
theorem EXT9.refl (L : List Nat) (P : PO) : EXT9 L P L P := fun z m => ⟨m, SM9.refl z P⟩
theorem cls_eqI {D : va_G} {cl : List vw_C} {tys : List (ClassId × FieldType)} {s : State} {a b : ClassId} (hK : va_K D cl tys s) (t0 t1 : Nat) (h0 : tys[t0]? = some (a, .int)) (h1 : tys[t1]? = some (b, .int)) : a = b := by
  have k := (hK.2 t0 _ h0).2
  have j := (hK.2 t1 _ h1).2
  exact Option.some.inj (k.symm.trans j)
theorem cls_eqZ {D : va_G} {cl : List vw_C} {tys : List (ClassId × FieldType)} {s : State} {a b : ClassId} (hK : va_K D cl tys s) (t0 t1 : Nat) (h0 : tys[t0]? = some (a, .boolean)) (h1 : tys[t1]? = some (b, .boolean)) : a = b := by
  have k := (hK.2 t0 _ h0).2
  have j := (hK.2 t1 _ h1).2
  exact Option.some.inj (k.symm.trans j)
/-- a new row of numbers, of the PHI y -/
def PO.mnum (P : PO) (q k y : Nat) (c : ClassId) (n : Nat) (a : Int → Int) : PO := P.at9 q k (fun _ => 0) (fun f => if f = 1 then n else y) (fun _ => none) a c
def ARF9 (L : List Nat) (P : PO) (q k y : Nat) (c : ClassId) (n : Nat) : Prop := q ∈ L ∧ P.kd q = k ∧ P.ac q = c ∧ P.ow q = y ∧ P.an q = n
theorem EXT9.arf {k y n : Nat} {c : ClassId} (e : EXT9 L P L' P') (h : ARF9 L P q k y c n) : ARF9 L' P' q k y c n := by
  obtain ⟨a, b, d, f, g⟩ := h
  obtain ⟨m, s⟩ := e q a
  exact ⟨m, (s.2.1 0).trans b, s.2.2.2.2.trans d, (s.2.1 9).trans f, (s.2.1 1).trans g⟩
theorem pE_40 {P : PO} {x : Nat} (h : 40 ≤ P.kd x) : pE P x = numE (P.ac x) (P.an x) (P.ia x) := by
  unfold pE
  rw [if_neg (by omega), if_neg (by omega), if_neg (by omega), if_neg (by omega), if_neg (by omega), if_neg (by omega), pK_num (by omega)]
theorem pE_mnum (P : PO) (q k y : Nat) (c : ClassId) (n : Nat) (a : Int → Int) (h : 40 ≤ k) : va_up (pE P) q (numE c n a) = pE (P.mnum q k y c n a) := by
  have e := pE_at9 P q k (fun _ => 0) (fun f => if f = 1 then n else y) (fun _ => none) a c
  rw [pE_40 (by rw [at9_kd]; exact h)] at e
  have d : numE ((P.mnum q k y c n a).ac q) ((P.mnum q k y c n a).an q) ((P.mnum q k y c n a).ia q) = numE c n a := by simp [PO.mnum, PO.at9, PO.ac, PO.an, PO.ia]
  rw [← d]; exact e
theorem numE_0 (c : ClassId) (n : Nat) : numE c n (fun _ => 0) = .inl (c, n, .inl (fun _ => 0)) := rfl
theorem mnum_arf (L : List Nat) (P : PO) (q k y : Nat) (c : ClassId) (n : Nat) (a : Int → Int) : ARF9 (q :: L) (P.mnum q k y c n a) q k y c n ∧ (P.mnum q k y c n a).ia q = a := by
  refine ⟨⟨List.mem_cons_self, ?_, ?_, ?_, ?_⟩, ?_⟩ <;> simp [PO.mnum, PO.at9, PO.kd, PO.ac, PO.ow, PO.an, PO.ia]
/-- all that has come are rows of numbers -/
def NUM9 (L L' : List Nat) (P' : PO) : Prop := ∀ z : Nat, z ∈ L' → z ∉ L → 40 ≤ P'.kd z
theorem NUM9.one {k y n : Nat} {c : ClassId} {a : Int → Int} (h : 40 ≤ k) : NUM9 L (q :: L) (P.mnum q k y c n a) := fun z m n0 => by
  rcases List.mem_cons.mp m with e | e
  · rw [e, (mnum_arf L P q k y c n a).1.2.1]; exact h
  · exact absurd e n0
theorem NUM9.trans (h : NUM9 L L' P') (k : NUM9 L' L2 P2) (e : EXT9 L' P' L2 P2) : NUM9 L L2 P2 := fun z m n => by
  by_cases q : z ∈ L'
  · rw [show P2.kd z = P'.kd z from (e z q).2.2.1 0]; exact h z q n
  · exact k z m q
theorem NUM9.new (h : NUM9 L L' P') : ∀ z : Nat, z ∈ L' → z ∉ L → NEW1 L' P' cO cI cZ ed z := fun z m n => by
  have k := h z m n
  exact ⟨fun e => by omega, fun e => by omega, fun e => by omega, fun e => by omega⟩
/-- a new PHI -/
def PO.mphi (P : PO) (x p u r : Nat) : PO := P.at9 x 15 (fun _ => 0) (fun k => if k = 1 then p else if k = 2 then u else if k = 3 then r else 0) (fun _ => none) (fun _ => 0) (P.ac x)
theorem pE_mphi (P : PO) (x p u r : Nat) : va_up (pE P) x (.inr (20, [.int 0, .int 0, .ref p, .ref u, .ref r, .int 0])) = pE (P.mphi x p u r) := by
  have h := pE_at9 P x 15 (fun _ => 0) (fun k => if k = 1 then p else if k = 2 then u else if k = 3 then r else 0) (fun _ => none) (fun _ => 0) (P.ac x)
  rw [pE_phi (at9_kd _ _ _ _ _ _ _ _)] at h
  have q : phiE ((P.mphi x p u r).pt x) ((P.mphi x p u r).pn x) ((P.mphi x p u r).pp x) ((P.mphi x p u r).pu x) ((P.mphi x p u r).pr x) ((P.mphi x p u r).pg x) = .inr (20, [.int 0, .int 0, .ref p, .ref u, .ref r, .int 0]) := by
    simp [PO.mphi, PO.at9, PO.pt, PO.pn, PO.pp, PO.pu, PO.pr, PO.pg, phiE]; decide
  rw [← q]; exact h
theorem mphi_at (P : PO) (x p u r : Nat) : (P.mphi x p u r).kd x = 15 ∧ (P.mphi x p u r).pp x = p ∧ (P.mphi x p u r).pu x = u ∧ (P.mphi x p u r).pr x = r ∧ (P.mphi x p u r).pn x = 0 ∧ (P.mphi x p u r).pt x = 0 ∧ (P.mphi x p u r).pg x = 0 := by
  simp [PO.mphi, PO.at9, PO.kd, PO.pp, PO.pu, PO.pr, PO.pn, PO.pt, PO.pg]
theorem mphi_pik {p u r : Nat} (n : x ∉ L) (a : ARF9 L P p 40 x cI 4) (b : ARF9 L P u 41 x cI 4) (c : ARF9 L P r 42 x cZ 4) : PIK (x :: L) (P.mphi x p u r) cI cZ x := by
  obtain ⟨k, e1, e2, e3, e4, e5, e6⟩ := mphi_at P x p u r
  have ex : EXT9 L P (x :: L) (P.mphi x p u r) := EXT9.one n
  obtain ⟨a1, a2, a3, a4, a5⟩ := ex.arf a
  obtain ⟨b1, b2, b3, b4, b5⟩ := ex.arf b
  obtain ⟨c1, c2, c3, c4, c5⟩ := ex.arf c
  refine ⟨⟨List.mem_cons_self, k⟩, ?_, ?_, ?_, ?_, ?_, fun i i0 i1 => ?_⟩
  · rw [e1]; exact ⟨a1, a2, a3, a4⟩
  · rw [e2]; exact ⟨b1, b2, b3, b4⟩
  · rw [e3]; exact ⟨c1, c2, c3, c4⟩
  · rw [e1, e2, e3, e4, a5, b5, c5]; omega
  · omega
  · omega
theorem mphi_new {p u r : Nat} (n : x ∉ L) (a : ARF9 L P p 40 x cI 4) (b : ARF9 L P u 41 x cI 4) (c : ARF9 L P r 42 x cZ 4) : NEW1 (x :: L) (P.mphi x p u r) cO cI cZ ed x := by
  have k := (mphi_at P x p u r).1
  exact ⟨fun e => by omega, fun _ => mphi_pik n a b c, fun e => by omega, fun e => by omega⟩
/-- a new list, of the block y, holding kind k -/
def PO.mlist (P : PO) (x k y e : Nat) : PO := P.at9 x 30 (fun _ => 0) (fun f => if f = 1 then e else if f = 7 then 0 else if f = 8 then k else y) (fun _ => none) (fun _ => 0) (P.ac x)
theorem pE_mlist (P : PO) (x k y e : Nat) : va_up (pE P) x (.inr (18, [.int 0, .ref e, .int 0])) = pE (P.mlist x k y e) := by
  have h := pE_at9 P x 30 (fun _ => 0) (fun f => if f = 1 then e else if f = 7 then 0 else if f = 8 then k else y) (fun _ => none) (fun _ => 0) (P.ac x)
  rw [pE_list (at9_kd _ _ _ _ _ _ _ _)] at h
  have q : listE ((P.mlist x k y e).lm x) ((P.mlist x k y e).le x) ((P.mlist x k y e).lz x) = .inr (18, [.int 0, .ref e, .int 0]) := by
    simp [PO.mlist, PO.at9, PO.lm, PO.le, PO.lz, listE]; decide
  rw [← q]; exact h
def LSF9 (L : List Nat) (P : PO) (x k y e : Nat) : Prop := x ∈ L ∧ P.kd x = 30 ∧ P.ek x = k ∧ P.ow x = y ∧ P.fl x = 0 ∧ P.lz x = 0 ∧ P.le x = e
theorem EXT9.lsf {k y e : Nat} (h : EXT9 L P L' P') (f : LSF9 L P q k y e) : LSF9 L' P' q k y e := by
  obtain ⟨a, b, c, d, g, i, j⟩ := f
  obtain ⟨m, s⟩ := h q a
  exact ⟨m, (s.2.1 0).trans b, (s.2.1 8).trans c, (s.2.1 9).trans d, (s.2.1 7).trans g, (s.1 0).trans i, (s.2.1 1).trans j⟩
theorem mlist_lsf (L : List Nat) (P : PO) (x k y e : Nat) : LSF9 (x :: L) (P.mlist x k y e) x k y e := by
  refine ⟨List.mem_cons_self, ?_, ?_, ?_, ?_, ?_, ?_⟩ <;> simp [PO.mlist, PO.at9, PO.kd, PO.ek, PO.ow, PO.fl, PO.lz, PO.le]
theorem LSF9.new {k y : Nat} (h : LSF9 L P x k y ed) (kk : k = 12 ∨ k = 15 ∨ k = 17) : NEW1 L P cO cI cZ ed x := by
  obtain ⟨a, b, c, d, g, i, j⟩ := h
  refine ⟨fun e => by omega, fun e => by omega, fun _ => ⟨⟨fun _ => ⟨i, j⟩, fun f => by omega⟩, ⟨a, b, by omega, Or.inl i, fun z z0 z1 => by omega⟩, by rw [c]; exact kk, fun _ z z0 z1 => by omega⟩, fun e => by omega⟩
def RWF9 (L : List Nat) (P : PO) (x e : Nat) : Prop := x ∈ L ∧ P.kd x = 17 ∧ P.ek x = e ∧ ROK9 P x ∧ P.ro x = 0
theorem EXT9.rwf {e : Nat} (h : EXT9 L P L' P') (f : RWF9 L P q e) : RWF9 L' P' q e := by
  obtain ⟨a, b, c, d, g⟩ := f
  obtain ⟨m, s⟩ := h q a
  exact ⟨m, (s.2.1 0).trans b, (s.2.1 8).trans c, s.rok d, (s.1 0).trans g⟩
theorem mrow_rwf (L : List Nat) (P : PO) (x e : Nat) : RWF9 (x :: L) (P.mrow x e) x e := by
  obtain ⟨a, b, c, d, f, g, h, i, j⟩ := mrow_at P x e
  exact ⟨List.mem_cons_self, a, b, ROK9.of (by omega) (by omega) (by omega) (by omega) (by omega) (by omega) (by omega) (rUA9 (by omega)) (rUB9 (by omega)), c⟩
theorem RWF9.new {e : Nat} (h : RWF9 L P x e) : NEW1 L P cO cI cZ ed x := by
  obtain ⟨a, b, c, d, g⟩ := h
  exact ⟨fun _ => ⟨d, fun _ => by omega⟩, fun k => by omega, fun k => by omega, fun k => by omega⟩
/-- all that has come is what may come -/
def NWS (L L' : List Nat) (P' : PO) (cO cI cZ : ClassId) (ed : Nat) : Prop := ∀ z : Nat, z ∈ L' → z ∉ L → NEW1 L' P' cO cI cZ ed z
theorem EXT9.new1 {z : Nat} (e : EXT9 L P L' P') (m : z ∈ L) (o : P.kd z = 30 → P.fl z ≠ 1) (n : NEW1 L P cO cI cZ ed z) (b : P.kd z ≠ 12) : NEW1 L' P' cO cI cZ ed z := by
  obtain ⟨m', s⟩ := e z m
  have kd : P'.kd z = P.kd z := s.2.1 0
  refine ⟨fun k => ?_, fun k => ?_, fun k => ?_, fun k => absurd (kd.symm.trans k) b⟩
  · rw [kd] at k
    obtain ⟨a, c⟩ := n.1 k
    have ek : P'.ek z = P.ek z := s.2.1 8
    have ro : P'.ro z = P.ro z := s.1 0
    exact ⟨s.rok a, by rw [ek, ro]; exact c⟩
  · rw [kd] at k; exact e.pik (n.2.1 k)
  · rw [kd] at k
    obtain ⟨a, c1, c2, c3⟩ := n.2.2.1 k
    have ek : P'.ek z = P.ek z := s.2.1 8
    have lz : P'.lz z = P.lz z := s.1 0
    have fl : P'.fl z = P.fl z := s.2.1 7
    have le : P'.le z = P.le z := s.2.1 1
    have f0 := o k
    have z0 := (a.1 f0).1
    refine ⟨⟨fun _ => by rw [lz, le]; exact a.1 f0, fun f => absurd (fl.symm.trans f) f0⟩, by rw [ek]; exact e.lok c1, by rw [ek]; exact c2, fun _ i i0 i1 => by omega⟩
/-- a new block -/
def PO.mblock (P : PO) (x p r e : Nat) : PO := P.at9 x 12 (fun _ => 0) (fun k => if k = 1 then p else if k = 2 then r else if k = 3 then e else 0) (fun _ => none) (fun _ => 0) (P.ac x)
theorem pE_mblock (P : PO) (x p r e : Nat) : va_up (pE P) x (.inr (19, [.ref p, .ref r, .ref e, .int 0, .int 0])) = pE (P.mblock x p r e) := by
  have h := pE_at9 P x 12 (fun _ => 0) (fun k => if k = 1 then p else if k = 2 then r else if k = 3 then e else 0) (fun _ => none) (fun _ => 0) (P.ac x)
  rw [pE_block (at9_kd _ _ _ _ _ _ _ _)] at h
  have q : blockE ((P.mblock x p r e).bp x) ((P.mblock x p r e).br x) ((P.mblock x p r e).be x) ((P.mblock x p r e).bf x) ((P.mblock x p r e).bs x) = .inr (19, [.ref p, .ref r, .ref e, .int 0, .int 0]) := by
    simp [PO.mblock, PO.at9, PO.bp, PO.br, PO.be, PO.bf, PO.bs, blockE]; decide
  rw [← q]; exact h
theorem mblock_at (P : PO) (x p r e : Nat) : (P.mblock x p r e).kd x = 12 ∧ (P.mblock x p r e).bp x = p ∧ (P.mblock x p r e).br x = r ∧ (P.mblock x p r e).be x = e ∧ (P.mblock x p r e).bf x = 0 ∧ (P.mblock x p r e).bs x = 0 := by
  simp [PO.mblock, PO.at9, PO.kd, PO.bp, PO.br, PO.be, PO.bf, PO.bs]
theorem mblock_new {p r e : Nat} (n : x ∉ L) (a : LSF9 L P p 15 x ed) (b : LSF9 L P r 17 x ed) (c : RWF9 L P e 1) : NEW1 (x :: L) (P.mblock x p r e) cO cI cZ ed x := by
  obtain ⟨k, e1, e2, e3, e4, e5⟩ := mblock_at P x p r e
  have ex : EXT9 L P (x :: L) (P.mblock x p r e) := EXT9.one n
  obtain ⟨a1, a2, a3, a4, a5⟩ := ex.lsf a
  obtain ⟨b1, b2, b3, b4, b5⟩ := ex.lsf b
  obtain ⟨c1, c2, c3, c4⟩ := ex.rwf c
  refine ⟨fun q => by omega, fun q => by omega, fun q => by omega, fun _ => ⟨?_, ?_, ?_⟩⟩
  · unfold OWC1; rw [e1, e2]; exact ⟨⟨b3, b4, b1, b2⟩, a3, a4, a1, a2⟩
  · rw [e3]; exact ⟨c1, c2, c3⟩
  · omega
end NEW30
