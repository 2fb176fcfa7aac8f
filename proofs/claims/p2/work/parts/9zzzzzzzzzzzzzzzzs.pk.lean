/-! parked: what no function has in hand bears another kind, its cell is the same; so every walk over a function takes the whole pool and leaves what is parked as it is (KEP, KEG) -/
def pkk (k : Nat) : Nat := if k = 12 then 2 else if k = 15 then 5 else if k = 17 then 7 else if k = 30 then 3 else if k = 31 then 1 else if k = 40 then 4 else if k = 41 then 6 else if k = 42 then 8 else k
def K89 (k : Nat) : Prop := k = 12 ∨ k = 15 ∨ k = 17 ∨ k = 30 ∨ k = 31 ∨ k = 40 ∨ k = 41 ∨ k = 42
theorem pkk_cases (k : Nat) : (k = 12 ∧ pkk k = 2) ∨ (k = 15 ∧ pkk k = 5) ∨ (k = 17 ∧ pkk k = 7) ∨ (k = 30 ∧ pkk k = 3) ∨ (k = 31 ∧ pkk k = 1) ∨ (k = 40 ∧ pkk k = 4) ∨ (k = 41 ∧ pkk k = 6) ∨ (k = 42 ∧ pkk k = 8) ∨ (¬ K89 k ∧ pkk k = k) := by
  unfold pkk K89
  by_cases h1 : k = 12
  · rw [if_pos h1]; omega
  rw [if_neg h1]
  by_cases h2 : k = 15
  · rw [if_pos h2]; omega
  rw [if_neg h2]
  by_cases h3 : k = 17
  · rw [if_pos h3]; omega
  rw [if_neg h3]
  by_cases h4 : k = 30
  · rw [if_pos h4]; omega
  rw [if_neg h4]
  by_cases h5 : k = 31
  · rw [if_pos h5]; omega
  rw [if_neg h5]
  by_cases h6 : k = 40
  · rw [if_pos h6]; omega
  rw [if_neg h6]
  by_cases h7 : k = 41
  · rw [if_pos h7]; omega
  rw [if_neg h7]
  by_cases h8 : k = 42
  · rw [if_pos h8]; omega
  rw [if_neg h8]; omega
theorem pkk_not (k : Nat) : ¬ K89 (pkk k) := by
  have h := pkk_cases k
  unfold K89 at *
  omega
theorem pkk_pkd {k : Nat} (h : K89 k) : PKD (pkk k) := by
  have c := pkk_cases k
  unfold K89 PKD at *
  omega
theorem pkk_obk {k : Nat} : OBK k ↔ OBK (pkk k) := by
  have c := pkk_cases k
  unfold K89 OBK at *
  omega
/-- the kinds set anew -/
def PO.kin (P : PO) (g : Nat → Nat) : PO := (P.1, fun f z => if f = 0 then g z else P.2.1 f z, P.2.2)
theorem kin_kd (P : PO) (g : Nat → Nat) (z : Nat) : (P.kin g).kd z = g z := rfl
theorem pE_parkl {P : PO} {x : Nat} (h : P.kd x = 3) : pE P x = listE (P.lm x) (P.le x) (P.lz x) := by unfold pE; rw [if_neg (by omega), if_neg (by omega), if_neg (by omega), if_neg (by omega), if_neg (by omega), if_neg (by omega)]; unfold pK; rw [if_neg (by omega), if_neg (by omega), if_neg (by omega), if_pos h]
theorem pE_parko {P : PO} {x : Nat} (h : P.kd x = 1) : pE P x = objE (P.ac x) (P.an x) (P.oa x) := by unfold pE; rw [if_neg (by omega), if_neg (by omega), if_neg (by omega), if_neg (by omega), if_neg (by omega), if_neg (by omega)]; unfold pK; rw [if_neg (by omega), if_neg (by omega), if_neg (by omega), if_neg (by omega), if_pos h]
theorem pE_parkn {P : PO} {x : Nat} (h : P.kd x = 4 ∨ P.kd x = 6 ∨ P.kd x = 8) : pE P x = numE (P.ac x) (P.an x) (P.ia x) := by unfold pE; rw [if_neg (by omega), if_neg (by omega), if_neg (by omega), if_neg (by omega), if_neg (by omega), if_neg (by omega)]; unfold pK; rw [if_neg (by omega), if_neg (by omega), if_neg (by omega), if_neg (by omega), if_neg (by omega)]
theorem pE_kpk {P Q : PO} {z : Nat} (e1 : Q.1 = P.1) (e2 : ∀ f : Nat, f ≠ 0 → Q.2.1 f z = P.2.1 f z) (e3 : Q.2.2 = P.2.2) (h : Q.kd z = pkk (P.kd z)) : pE Q z = pE P z := by
  have f1 : Q.2.1 1 z = P.2.1 1 z := e2 1 (by decide)
  have f2 : Q.2.1 2 z = P.2.1 2 z := e2 2 (by decide)
  have f3 : Q.2.1 3 z = P.2.1 3 z := e2 3 (by decide)
  rcases pkk_cases (P.kd z) with ⟨a, b⟩ | ⟨a, b⟩ | ⟨a, b⟩ | ⟨a, b⟩ | ⟨a, b⟩ | ⟨a, b⟩ | ⟨a, b⟩ | ⟨a, b⟩ | ⟨a, b⟩
  · rw [pE_block a, pE_parkb (h.trans b)]; unfold PO.bp PO.br PO.be PO.bf PO.bs; rw [e1, f1, f2, f3]
  · rw [pE_phi a, pE_parkp (h.trans b)]; unfold PO.pt PO.pn PO.pp PO.pu PO.pr PO.pg; rw [e1, f1, f2, f3]
  · rw [pE_row a, pE_parkr (h.trans b)]; unfold PO.ro PO.rt PO.ra PO.rb PO.rA PO.rB PO.rg; rw [e1]
  · rw [pE_list a, pE_parkl (h.trans b)]; unfold PO.lm PO.le PO.lz; rw [e1, f1]
  · rw [pE_obj a, pE_parko (h.trans b)]; unfold PO.ac PO.an PO.oa; rw [e3, f1]
  · rw [pE_40 (P := P) (x := z) (by omega), pE_parkn (Or.inl (h.trans b))]; unfold PO.ac PO.an PO.ia; rw [e3, f1]
  · rw [pE_40 (P := P) (x := z) (by omega), pE_parkn (Or.inr (Or.inl (h.trans b)))]; unfold PO.ac PO.an PO.ia; rw [e3, f1]
  · rw [pE_40 (P := P) (x := z) (by omega), pE_parkn (Or.inr (Or.inr (h.trans b)))]; unfold PO.ac PO.an PO.ia; rw [e3, f1]
  · have k : Q.kd z = P.kd z := h.trans b
    unfold pE pK
    rw [k]
    unfold PO.bp PO.br PO.be PO.bf PO.bs PO.pt PO.pn PO.pp PO.pu PO.pr PO.pg PO.ro PO.rt PO.ra PO.rb PO.rA PO.rB PO.rg PO.lm PO.le PO.lz PO.ac PO.an PO.oa PO.ia
    rw [e1, e3, f1, f2, f3]
section PARK9
variable {L L' E : List Nat} {P P' : PO} {F : Nat → Prop} {cO cI cZ : ClassId} {ed x z : Nat}
/-- everything parked but F -/
noncomputable def PO.park (P : PO) (F : Nat → Prop) : PO := P.kin (fun z => @ite Nat (F z) (Classical.propDecidable _) (P.kd z) (pkk (P.kd z)))
/-- F holds with an object what hangs on it, and with what hangs on an object that object -/
def FCL (L : List Nat) (P : PO) (F : Nat → Prop) : Prop := (∀ x : Nat, x ∈ L → F x → P.kd x = 30 → (P.fl x = 1 → F (P.le x)) ∧ ∀ i : Int, 0 ≤ i → i < P.lz x → F (P.el x i)) ∧ (∀ x : Nat, x ∈ L → F x → P.kd x = 12 → F (P.be x) ∧ F (P.br x) ∧ F (P.bp x)) ∧ (∀ x : Nat, x ∈ L → F x → P.kd x = 15 → F (P.pp x) ∧ F (P.pu x) ∧ F (P.pr x)) ∧ (∀ x : Nat, x ∈ L → F x → 31 ≤ P.kd x → K89 (P.kd x) → F (P.ow x)) ∧ ∀ x : Nat, x ∈ L → F x → P.kd x = 30 → P.ow x = x ∨ F (P.ow x)
theorem park_in (h : F z) : (P.park F).kd z = P.kd z := by show @ite Nat (F z) (Classical.propDecidable _) (P.kd z) (pkk (P.kd z)) = _; rw [if_pos h]
theorem park_out (h : ¬ F z) : (P.park F).kd z = pkk (P.kd z) := by show @ite Nat (F z) (Classical.propDecidable _) (P.kd z) (pkk (P.kd z)) = _; rw [if_neg h]
theorem park_k {k : Nat} (h : (P.park F).kd z = k) (q : K89 k) : F z ∧ P.kd z = k := by
  by_cases f : F z
  · rw [park_in f] at h; exact ⟨f, h⟩
  · rw [park_out f] at h; rw [← h] at q; exact absurd q (pkk_not _)
theorem park_obk (h : OBK (P.kd z)) : OBK ((P.park F).kd z) := by
  by_cases f : F z
  · rw [park_in f]; exact h
  · rw [park_out f]; exact pkk_obk.mp h
theorem pE_park (P : PO) (F : Nat → Prop) (z : Nat) : pE (P.park F) z = pE P z := by
  by_cases f : F z
  · have k : (P.park F).kd z = P.kd z := park_in f
    unfold pE pK
    rw [k]
    rfl
  · exact pE_kpk rfl (fun f n => by show (if f = 0 then _ else P.2.1 f z) = _; rw [if_neg n]) rfl (park_out f)
theorem pl_park (L : List Nat) (P : PO) (F : Nat → Prop) : va_pl L (pE (P.park F)) = va_pl L (pE P) := by
  rw [show pE (P.park F) = pE P from funext (pE_park P F)]
theorem GLR.park (h : GLR L P cO cI cZ ed) (c : FCL L P F) (hr : ∀ z : Nat, z ∈ L → F z → P.kd z = 17 → ROK9 P z) (hp : ∀ z : Nat, z ∈ L → F z → P.kd z = 15 → PIK L P cI cZ z) : GLF L (P.park F) cO cI cZ ed := by
  obtain ⟨⟨g1, g2, g3⟩, _, _, ho, hc⟩ := h
  refine ⟨⟨fun x m k => ?_, fun x m k => ?_, fun x m k k1 => ?_⟩, fun x m k => ?_, fun x m k => ?_, fun x m k => ?_, fun x m k => ?_⟩
  · obtain ⟨fx, kx⟩ := park_k k (by unfold K89; omega)
    obtain ⟨⟨a1, a2, a3, a4, a5⟩, b, d⟩ := g1 x m kx
    have cx := c.1 x m fx kx
    refine ⟨⟨m, k, a3, ?_, fun i i0 i1 => ?_⟩, b, d⟩
    · by_cases z0 : P.lz x = 0
      · exact Or.inl z0
      · rcases a4 with a4 | ⟨l1, l2, l3⟩
        · exact Or.inl a4
        · exact Or.inr ⟨l1, (park_in (cx.1 (ho.fl1 m kx z0))).trans l2, l3⟩
    · obtain ⟨e1, e2, e3⟩ := a5 i i0 i1
      exact ⟨e1, e2, (park_in (cx.2 i i0 i1)).trans e3⟩
  · obtain ⟨fx, kx⟩ := park_k k (by unfold K89; omega)
    obtain ⟨⟨b1, b2, b3⟩, b4⟩ := g2 x m kx
    exact ⟨⟨b1, (park_in (c.2.1 x m fx kx).1).trans b2, b3⟩, b4⟩
  · exact g3 x m (park_k k (by unfold K89; omega)).2 k1
  · obtain ⟨fx, kx⟩ := park_k k (by unfold K89; omega)
    exact hr x m fx kx
  · obtain ⟨fx, kx⟩ := park_k k (by unfold K89; omega)
    obtain ⟨a, ⟨b1, b2, b3⟩, ⟨c1, c2, c3⟩, ⟨d1, d2, d3⟩, e⟩ := hp x m fx kx
    obtain ⟨f1, f2, f3⟩ := c.2.2.1 x m fx kx
    exact ⟨⟨m, k⟩, ⟨b1, (park_in f1).trans b2, b3⟩, ⟨c1, (park_in f2).trans c2, c3⟩, ⟨d1, (park_in f3).trans d2, d3⟩, e⟩
  · obtain ⟨fx, kx⟩ := park_k k (by unfold K89; omega)
    obtain ⟨h1, h2⟩ := ho x m kx
    refine ⟨h1, fun f => ?_⟩
    obtain ⟨a, b, d, e, r⟩ := h2 f
    exact ⟨a, (park_in ((c.1 x m fx kx).1 f)).trans b, d, fun j y q => ⟨(e j y q).1, park_obk (e j y q).2⟩, r⟩
  · obtain ⟨fx, kx⟩ := park_k k (by unfold K89; omega)
    obtain ⟨⟨c1, c2, c3, c4⟩, c5, c6, c7, c8⟩ := hc x m kx
    obtain ⟨f1, f2, f3⟩ := c.2.1 x m fx kx
    exact ⟨⟨c1, c2, c3, (park_in f2).trans c4⟩, c5, c6, c7, (park_in f3).trans c8⟩
/-- what was parked bears its own kind again -/
noncomputable def PO.unp (Q P : PO) (L : List Nat) (F : Nat → Prop) : PO := Q.kin (fun z => @ite Nat (z ∈ L ∧ ¬ F z) (Classical.propDecidable _) (P.kd z) (Q.kd z))
theorem unp_in (h : z ∈ L ∧ ¬ F z) : (P'.unp P L F).kd z = P.kd z := by show @ite Nat (z ∈ L ∧ ¬ F z) (Classical.propDecidable _) (P.kd z) (P'.kd z) = _; rw [if_pos h]
theorem unp_out (h : ¬ (z ∈ L ∧ ¬ F z)) : (P'.unp P L F).kd z = P'.kd z := by show @ite Nat (z ∈ L ∧ ¬ F z) (Classical.propDecidable _) (P.kd z) (P'.kd z) = _; rw [if_neg h]
/-- of what a function had in hand, and of what was parked, all is there, of the same kind -/
theorem KEG.unp (k : KEG E L (P.park F) L' P') (m : z ∈ L) (n : P.kd z ≠ 31 ∨ ¬ F z) : z ∈ L' ∧ (P'.unp P L F).kd z = P.kd z ∧ P'.ek z = P.ek z := by
  by_cases f : F z
  · have e := park_in (P := P) f
    have q := k.1 z m (by rw [e]; exact n.resolve_right (fun g => g f))
    exact ⟨q.1, (unp_out (fun w => w.2 f)).trans (q.2.1.trans e), q.2.2.1⟩
  · have e := park_out (P := P) f
    have q := k.1 z m (fun w => pkk_not (P.kd z) (by rw [← e, w]; unfold K89; omega))
    exact ⟨q.1, unp_in ⟨m, f⟩, q.2.2.1⟩
theorem KEG.unpd (k : KEG E L (P.park F) L' P') (m : z ∈ L) (f : ¬ F z) (kz : K89 (P.kd z)) : SMA z (P.park F) P' := by
  have e := park_out (P := P) f
  exact (k.1 z m (fun w => pkk_not (P.kd z) (by rw [← e, w]; unfold K89; omega))).2.2.2.2 (by rw [e]; exact pkk_pkd kz)
theorem KEG.unpk {j : Nat} (k : KEG E L (P.park F) L' P') (e : P'.kd z = j) (kj : K89 j) : ¬ (z ∈ L ∧ ¬ F z) := fun w => by
  have q := park_out (P := P) w.2
  have r := (k.1 z w.1 (fun v => pkk_not (P.kd z) (by rw [← q, v]; unfold K89; omega))).2.1
  rw [e, q] at r
  rw [r] at kj
  exact pkk_not _ kj
theorem pE_unp (k : KEG E L (P.park F) L' P') (z : Nat) : pE (P'.unp P L F) z = pE P' z := by
  by_cases w : z ∈ L ∧ ¬ F z
  · have q := park_out (P := P) w.2
    have r := (k.1 z w.1 (fun v => pkk_not (P.kd z) (by rw [← q, v]; unfold K89; omega))).2.1
    exact (pE_kpk (P := P'.unp P L F) (Q := P') rfl (fun f n => by show P'.2.1 f z = (if f = 0 then _ else P'.2.1 f z); rw [if_neg n]) rfl (by rw [unp_in w, r, q])).symm
  · have e : (P'.unp P L F).kd z = P'.kd z := unp_out w
    unfold pE pK
    rw [e]
    rfl
theorem pl_unp (k : KEG E L (P.park F) L' P') (M : List Nat) : va_pl M (pE (P'.unp P L F)) = va_pl M (pE P') := by
  rw [show pE (P'.unp P L F) = pE P' from funext (pE_unp k)]
theorem GLR.unpark (h : GLR L P cO cI cZ ed) (c : FCL L P F) (k : KEG E L (P.park F) L' P') (g : GLF L' P' cO cI cZ ed) : GLR L' (P'.unp P L F) cO cI cZ ed := by
  obtain ⟨⟨h1, h2, h3⟩, hr, hp, ho, hc⟩ := h
  obtain ⟨⟨g1, g2, g3⟩, gr, gp, go, gc⟩ := g
  have lez : ∀ y : Nat, y ∈ L → ¬ F y → P.kd y = 30 → P.fl y = 1 → ¬ F (P.le y) := fun y m f e l w => by
    obtain ⟨a, b, d, _⟩ := (ho y m e).2 l
    have q := c.2.2.2.1 _ a w (by omega) (by rw [b]; unfold K89; omega)
    rw [d] at q; exact f q
  refine ⟨⟨fun y m e => ?_, fun y m e => ?_, fun y m e e1 => ?_⟩, fun y m e => ?_, fun y m e => ?_, fun y m e => ?_, fun y m e => ?_⟩
  all_goals by_cases w : y ∈ L ∧ ¬ F y
  all_goals first | rw [unp_in w] at e | rw [unp_out w] at e
  · obtain ⟨⟨a1, a2, a3, a4, a5⟩, b, d⟩ := h1 y w.1 e
    obtain ⟨s1, s2, s3, s4⟩ := k.unpd w.1 w.2 (by rw [e]; unfold K89; omega)
    have ek : (P'.unp P L F).ek y = P.ek y := s2 8
    have lz : (P'.unp P L F).lz y = P.lz y := s1 0
    have le : (P'.unp P L F).le y = P.le y := s2 1
    have la : P.lz y ≠ 0 → (P.le y ∈ L' ∧ (P'.unp P L F).kd (P.le y) = 31) ∧ SMA (P.le y) (P.park F) P' := fun z0 => by
      have fl := ho.fl1 w.1 e z0
      obtain ⟨q1, q2, _⟩ := (ho y w.1 e).2 fl
      have nf := lez y w.1 w.2 e fl
      have u := k.unp q1 (Or.inr nf)
      exact ⟨⟨u.1, u.2.1.trans q2⟩, k.unpd q1 nf (by rw [q2]; unfold K89; omega)⟩
    have el : ∀ i : Int, 0 ≤ i → i < P.lz y → (P'.unp P L F).el y i = P.el y i := fun i i0 i1 => by
      have q := (la (by omega)).2.2.2.1
      show ((P'.oa (P'.le y)) i.toNat).getD 0 = _
      rw [show P'.le y = P.le y from s2 1, q]; rfl
    refine ⟨⟨m, (unp_in w).trans e, by rw [lz]; exact a3, ?_, fun i i0 i1 => ?_⟩, by rw [ek]; exact b, fun e17 i i0 i1 => ?_⟩
    · rw [lz, le]
      by_cases z0 : P.lz y = 0
      · exact Or.inl z0
      · rcases a4 with a4 | ⟨l1, l2, l3, l4⟩
        · exact Or.inl a4
        · obtain ⟨u1, u2⟩ := la z0
          have an : (P'.unp P L F).an (P.le y) = P.an (P.le y) := u2.2.1 1
          have ac : (P'.unp P L F).ac (P.le y) = P.ac (P.le y) := u2.2.2.2
          exact Or.inr ⟨u1.1, u1.2, by rw [ac]; exact l3, by rw [an]; exact l4⟩
    · rw [lz] at i1
      obtain ⟨e1, e2, e3⟩ := a5 i i0 i1
      rw [el i i0 i1, le, ek]
      have q := (la (by omega)).2.2.2.1
      have u := k.unp e2 (Or.inl (by rw [e3]; omega))
      exact ⟨by show P'.oa (P.le y) _ = _; rw [q]; exact e1, u.1, u.2.1.trans e3⟩
    · rw [lz] at i1; rw [ek] at e17
      obtain ⟨e1, e2, e3⟩ := a5 i i0 i1
      rw [el i i0 i1]
      have u := k.unp e2 (Or.inl (by rw [e3]; omega))
      show P'.ek _ ≠ 1
      rw [u.2.2]; exact d e17 i i0 i1
  · obtain ⟨⟨a1, a2, a3, a4, a5⟩, b, d⟩ := g1 y m e
    refine ⟨⟨m, (unp_out w).trans e, a3, ?_, fun i i0 i1 => ?_⟩, b, d⟩
    · rcases a4 with a4 | ⟨l1, l2, l3⟩
      · exact Or.inl a4
      · exact Or.inr ⟨l1, (unp_out (k.unpk l2 (by unfold K89; omega))).trans l2, l3⟩
    · obtain ⟨e1, e2, e3⟩ := a5 i i0 i1
      exact ⟨e1, e2, (unp_out (k.unpk e3 (by unfold K89; omega))).trans e3⟩
  · obtain ⟨⟨b1, b2, b3⟩, b4⟩ := h2 y w.1 e
    obtain ⟨s1, s2, s3, s4⟩ := k.unpd w.1 w.2 (by rw [e]; unfold K89; omega)
    have be : (P'.unp P L F).be y = P.be y := s2 3
    have bf : (P'.unp P L F).bf y = P.bf y := s1 0
    have bs : (P'.unp P L F).bs y = P.bs y := s1 1
    have u := k.unp b1 (Or.inl (by omega))
    refine ⟨?_, by rw [bf, bs]; exact b4⟩
    rw [be]
    exact ⟨u.1, u.2.1.trans b2, u.2.2.trans b3⟩
  · obtain ⟨⟨b1, b2, b3⟩, b4⟩ := g2 y m e
    exact ⟨⟨b1, (unp_out (k.unpk b2 (by unfold K89; omega))).trans b2, b3⟩, b4⟩
  · obtain ⟨s1, s2, s3, s4⟩ := k.unpd w.1 w.2 (by rw [e]; unfold K89; omega)
    have ro : (P'.unp P L F).ro y = P.ro y := s1 0
    have ek : (P'.unp P L F).ek y = P.ek y := s2 8
    rw [ek] at e1
    rw [ro]; exact h3 y w.1 e e1
  · exact g3 y m e e1
  · obtain ⟨s1, s2, s3, s4⟩ := k.unpd w.1 w.2 (by rw [e]; unfold K89; omega)
    have q := hr y w.1 e
    have ek8 : (P'.unp P L F).2.1 8 y = P.2.1 8 y := s2 8
    unfold ROKR PO.ro PO.rt PO.ra PO.rb PO.rA PO.rB PO.rg PO.ek at *
    show _ ∧ _
    simp only [show (P'.unp P L F).1 = P'.1 from rfl, s1, ek8]; exact q
  · exact (gr y m e).r
  · obtain ⟨a, ⟨b1, b2, b3, b4⟩, ⟨c1, c2, c3, c4⟩, ⟨d1, d2, d3, d4⟩, p5, p6, p7⟩ := hp y w.1 e
    obtain ⟨s1, s2, s3, s4⟩ := k.unpd w.1 w.2 (by rw [e]; unfold K89; omega)
    have nf : ∀ z : Nat, z ∈ L → P.ow z = y → (P.kd z = 40 ∨ P.kd z = 41 ∨ P.kd z = 42) → ¬ F z := fun z mz oz kz fz => w.2 (by rw [← oz]; exact c.2.2.2.1 z mz fz (by omega) (by unfold K89; omega))
    have n1 := nf _ b1 b4 (by omega)
    have n2 := nf _ c1 c4 (by omega)
    have n3 := nf _ d1 d4 (by omega)
    have t1 := k.unpd b1 n1 (by rw [b2]; unfold K89; omega)
    have t2 := k.unpd c1 n2 (by rw [c2]; unfold K89; omega)
    have t3 := k.unpd d1 n3 (by rw [d2]; unfold K89; omega)
    have u1 := k.unp b1 (Or.inr n1)
    have u2 := k.unp c1 (Or.inr n2)
    have u3 := k.unp d1 (Or.inr n3)
    have pp : (P'.unp P L F).pp y = P.pp y := s2 1
    have pu : (P'.unp P L F).pu y = P.pu y := s2 2
    have pr : (P'.unp P L F).pr y = P.pr y := s2 3
    have pn : (P'.unp P L F).pn y = P.pn y := s1 1
    have pt : (P'.unp P L F).pt y = P.pt y := s1 0
    have pg : (P'.unp P L F).pg y = P.pg y := s1 2
    have a1 : (P'.unp P L F).an (P.pp y) = P.an (P.pp y) := t1.2.1 1
    have a2 : (P'.unp P L F).an (P.pu y) = P.an (P.pu y) := t2.2.1 1
    have a3 : (P'.unp P L F).an (P.pr y) = P.an (P.pr y) := t3.2.1 1
    refine ⟨⟨m, (unp_in w).trans e⟩, ?_, ?_, ?_, ?_, ?_, fun _ _ _ => trivial⟩
    · rw [pp]; exact ⟨u1.1, u1.2.1.trans b2, t1.2.2.2.trans b3, (t1.2.1 9).trans b4⟩
    · rw [pu]; exact ⟨u2.1, u2.2.1.trans c2, t2.2.2.2.trans c3, (t2.2.1 9).trans c4⟩
    · rw [pr]; exact ⟨u3.1, u3.2.1.trans d2, t3.2.2.2.trans d3, (t3.2.1 9).trans d4⟩
    · rw [pp, pu, pr, a1, a2, a3, pn]; exact p5
    · rw [pt, pg]; exact p6
  · obtain ⟨a, ⟨b1, b2, b3⟩, ⟨c1, c2, c3⟩, ⟨d1, d2, d3⟩, p5, p6, p7⟩ := (gp y m e).r
    exact ⟨⟨m, (unp_out w).trans e⟩, ⟨b1, (unp_out (k.unpk b2 (by unfold K89; omega))).trans b2, b3⟩, ⟨c1, (unp_out (k.unpk c2 (by unfold K89; omega))).trans c2, c3⟩, ⟨d1, (unp_out (k.unpk d2 (by unfold K89; omega))).trans d2, d3⟩, p5, p6, p7⟩
  · obtain ⟨q1, q2⟩ := ho y w.1 e
    obtain ⟨s1, s2, s3, s4⟩ := k.unpd w.1 w.2 (by rw [e]; unfold K89; omega)
    have lz : (P'.unp P L F).lz y = P.lz y := s1 0
    have le : (P'.unp P L F).le y = P.le y := s2 1
    have fl : (P'.unp P L F).fl y = P.fl y := s2 7
    rw [lz, le, fl]
    refine ⟨q1, fun f => ?_⟩
    obtain ⟨a, b, d, e4, e5, e6, e7, e8⟩ := q2 f
    have nf := lez y w.1 w.2 e f
    have u := k.unp a (Or.inr nf)
    obtain ⟨t1, t2, t3, t4⟩ := k.unpd a nf (by rw [b]; unfold K89; omega)
    have an : (P'.unp P L F).an (P.le y) = P.an (P.le y) := t2 1
    refine ⟨u.1, u.2.1.trans b, (t2 9).trans d, fun j x q => ?_, by rw [an]; exact e5, by rw [an]; exact e6, t4.trans e7, by rw [an]; exact e8⟩
    have q' : P.oa (P.le y) j = some x := by
      have q9 : P'.oa (P.le y) j = some x := q
      rw [t3] at q9; exact q9
    obtain ⟨x1, x2⟩ := e4 j x q'
    have v := k.unp x1 (Or.inl (by unfold OBK at x2; omega))
    exact ⟨v.1, by rw [v.2.1]; exact x2⟩
  · obtain ⟨q1, q2⟩ := go y m e
    refine ⟨q1, fun f => ?_⟩
    obtain ⟨a, b, d, e4, e5⟩ := q2 f
    refine ⟨a, (unp_out (k.unpk b (by unfold K89; omega))).trans b, d, fun j x q => ?_, e5⟩
    obtain ⟨x1, x2⟩ := e4 j x q
    refine ⟨x1, ?_⟩
    by_cases v : x ∈ L ∧ ¬ F x
    · rw [unp_in v]
      have qk := park_out (P := P) v.2
      have r := (k.1 x v.1 (fun u => pkk_not (P.kd x) (by rw [← qk, u]; unfold K89; omega))).2.1
      rw [r, qk] at x2
      exact pkk_obk.mpr x2
    · rw [unp_out v]; exact x2
  · obtain ⟨⟨c1, c2, c3, c4⟩, c5, c6, c7, c8⟩ := hc y w.1 e
    obtain ⟨s1, s2, s3, s4⟩ := k.unpd w.1 w.2 (by rw [e]; unfold K89; omega)
    have nb : ∀ l : Nat, l ∈ L → P.kd l = 30 → P.ow l = y → ¬ F l := fun l ml kl ol fl => by
      rcases c.2.2.2.2 l ml fl kl with q | q
      · have : l = y := q.symm.trans ol
        rw [this] at kl; omega
      · rw [ol] at q; exact w.2 q
    have n1 := nb _ c3 c4 c2
    have n2 := nb _ c7 c8 c6
    have t1 := k.unpd c3 n1 (by rw [c4]; unfold K89; omega)
    have t2 := k.unpd c7 n2 (by rw [c8]; unfold K89; omega)
    have u1 := k.unp c3 (Or.inr n1)
    have u2 := k.unp c7 (Or.inr n2)
    have br : (P'.unp P L F).br y = P.br y := s2 2
    have bp : (P'.unp P L F).bp y = P.bp y := s2 1
    rw [br, bp]
    exact ⟨⟨(t1.2.1 8).trans c1, (t1.2.1 9).trans c2, u1.1, u1.2.1.trans c4⟩, (t2.2.1 8).trans c5, (t2.2.1 9).trans c6, u2.1, u2.2.1.trans c8⟩
  · obtain ⟨⟨c1, c2, c3, c4⟩, c5, c6, c7, c8⟩ := gc y m e
    exact ⟨⟨c1, c2, c3, (unp_out (k.unpk c4 (by unfold K89; omega))).trans c4⟩, c5, c6, c7, (unp_out (k.unpk c8 (by unfold K89; omega))).trans c8⟩
end PARK9
