/-! fold: what has been looked at -/
def VFD (P : PO) (la : Nat) (i j r : Int) (e : Prop) (z : Nat) : Prop := (∃ b k : Int, 0 ≤ b ∧ b < P.lz la ∧ 0 ≤ k ∧ k < P.lz (P.bp (P.el la b)) ∧ z = P.el (P.bp (P.el la b)) k ∧ (b < i ∨ (b = i ∧ j ≤ k))) ∨ (∃ b k : Int, 0 ≤ b ∧ b < P.lz la ∧ 0 ≤ k ∧ k < P.lz (P.br (P.el la b)) ∧ z = P.el (P.br (P.el la b)) k ∧ (b < i ∨ (b = i ∧ r ≤ k))) ∨ ∃ b : Int, 0 ≤ b ∧ b < P.lz la ∧ (z = P.be (P.el la b) ∨ z = P.el la b) ∧ (b < i ∨ (b = i ∧ e))
/-- of PHI x the first k operands that are told are numbers -/
def FPK (P Q : PO) (st nm : Int → Int) (x : Nat) (k : Int) : Prop := (Q.pn x = P.pn x ∧ Q.pt x = P.pt x ∧ Q.pg x = P.pg x) ∧ ∀ i : Int, 0 ≤ i → i < P.pn x → Q.ia (P.pp x) i = P.ia (P.pp x) i ∧ ((i < k ∧ P.ia (P.pr x) i ≠ 0 ∧ st (P.ia (P.pu x) i) = 1 ∧ Q.ia (P.pr x) i = 0 ∧ Q.ia (P.pu x) i = nm (P.ia (P.pu x) i)) ∨ (¬ (i < k ∧ P.ia (P.pr x) i ≠ 0 ∧ st (P.ia (P.pu x) i) = 1) ∧ Q.ia (P.pr x) i = P.ia (P.pr x) i ∧ Q.ia (P.pu x) i = P.ia (P.pu x) i))
/-- a block's end: what is told stands as a number; an IF on a number is a JUMP -/
def FED (P Q : PO) (st nm : Int → Int) (y : Nat) : Prop := (Q.ro (P.be y) = P.ro (P.be y) ∧ KNA P Q st nm (P.be y) ∧ KNB P Q st nm (P.be y) ∧ Q.bf y = P.bf y ∧ Q.bs y = P.bs y ∧ (P.ro (P.be y) = 31 → Q.rA (P.be y) ≠ 0)) ∨ (P.ro (P.be y) = 31 ∧ Q.ro (P.be y) = 30 ∧ KNA P Q st nm (P.be y) ∧ Q.rA (P.be y) = 0 ∧ Q.bs y = Q.bf y ∧ ((Q.ra (P.be y) ≠ 0 ∧ Q.bf y = P.bf y) ∨ (Q.ra (P.be y) = 0 ∧ Q.bf y = P.bs y)))
def GPT (P : PO) (st : Int → Int) (z : Nat) : Prop := st (P.pt z) = 1
def GRT (P : PO) (st : Int → Int) (z : Nat) : Prop := rSets (P.ro z) ≠ 0 ∧ st (P.rt z) = 1
def FLS9 (G : Nat → Prop) (P Q : PO) (l : Nat) (j : Int) : Prop := FLT G (P.el l) (P.lz l) (Q.el l) (Q.lz l) j
/-- i blocks are done, of the next the PHIs from j on, the rows from r on, the end (e); H: what is being changed -/
def FDK (P Q : PO) (la : Nat) (st nm gn : Int → Int) (i j r : Int) (e : Prop) (H : Nat → Prop) : Prop := (Q.2.1 = P.2.1 ∧ UNT P Q la) ∧ (∀ b : Int, 0 ≤ b → b < P.lz la → (b < i → gn b ≠ 0 → FLS9 (GPT P st) P Q (P.bp (P.el la b)) 0 ∧ FLS9 (GRT P st) P Q (P.br (P.el la b)) 0) ∧ (b = i → FLS9 (GPT P st) P Q (P.bp (P.el la b)) j ∧ FLS9 (GRT P st) P Q (P.br (P.el la b)) r) ∧ (i < b → UNT P Q (P.bp (P.el la b)) ∧ UNT P Q (P.br (P.el la b)))) ∧ ((∀ z : Nat, P.kd z ≠ 30 → ¬ (VFD P la i j r e z ∨ H z) → ∀ f : Nat, Q.1 f z = P.1 f z) ∧ ∀ y : Nat, ¬ (VFD P la i j r e (P.ow y) ∨ H (P.ow y)) → Q.ia y = P.ia y) ∧ (∀ b k : Int, 0 ≤ b → b < P.lz la → gn b ≠ 0 → 0 ≤ k → k < P.lz (P.bp (P.el la b)) → (b < i ∨ (b = i ∧ j ≤ k)) → ¬ GPT P st (P.el (P.bp (P.el la b)) k) → FPK P Q st nm (P.el (P.bp (P.el la b)) k) (P.pn (P.el (P.bp (P.el la b)) k))) ∧ (∀ b k : Int, 0 ≤ b → b < P.lz la → gn b ≠ 0 → 0 ≤ k → k < P.lz (P.br (P.el la b)) → (b < i ∨ (b = i ∧ r ≤ k)) → ¬ GRT P st (P.el (P.br (P.el la b)) k) → KNR P Q st nm (P.el (P.br (P.el la b)) k)) ∧ ∀ b : Int, 0 ≤ b → b < P.lz la → gn b ≠ 0 → (b < i ∨ (b = i ∧ e)) → FED P Q st nm (P.el la b)
section FDK9
variable {L : List Nat} {P Q Q' : PO} {cO cI cZ : ClassId} {ed x y z l la : Nat} {st nm gn : Int → Int} {e e' : Prop} {H H' : Nat → Prop} {G : Nat → Prop} {b c i j k r v : Int}
theorem UNT.fls (h : UNT P Q l) : FLS9 G P Q l (P.lz l) := (FLT.first _ _ _).congr h.1 h.2
theorem FLS9.away (h : FLS9 G P Q l j) (k : UNT Q Q' l) : FLS9 G P Q' l j := FLT.congr h k.1 k.2
theorem PH1.unt (w : PH1 x Q Q') (n : l ≠ x) : UNT Q Q' l := ⟨w.2.1 l n 0, fun k _ _ => by unfold PO.el PO.oa PO.le; rw [w.1.1, w.1.2.1]⟩
theorem FDK.first (P : PO) (la : Nat) (st nm gn : Int → Int) : FDK P P la st nm gn 0 (P.lz (P.bp (P.el la 0))) (P.lz (P.br (P.el la 0))) False (fun _ => False) := ⟨⟨rfl, UNT.refl _ _⟩, fun b b0 b1 => ⟨fun q => by omega, fun q => by rw [q]; exact ⟨(UNT.refl _ _).fls, (UNT.refl _ _).fls⟩, fun _ => ⟨UNT.refl _ _, UNT.refl _ _⟩⟩, ⟨fun _ _ _ _ => rfl, fun _ _ => rfl⟩, fun b k b0 b1 _ k0 k1 q => by
  rcases q with q | q
  · omega
  · rw [q.1] at k1; omega, fun b k b0 b1 _ k0 k1 q => by
  rcases q with q | q
  · omega
  · rw [q.1] at k1; omega, fun b b0 b1 _ q => by
  rcases q with q | q
  · omega
  · exact q.2.elim⟩
theorem FDK.hole (h : FDK P Q la st nm gn i j r e H) (s : ∀ z : Nat, H z → H' z) : FDK P Q la st nm gn i j r e H' := ⟨h.1, h.2.1, ⟨fun z k n => h.2.2.1.1 z k (fun q => n (q.imp id (s z))), fun y n => h.2.2.1.2 y (fun q => n (q.imp id (s _)))⟩, h.2.2.2⟩
theorem FDK.bp (h : FDK P Q la st nm gn i j r e H) (y : Nat) : Q.bp y = P.bp y := by unfold PO.bp; rw [h.1.1]
theorem FDK.br (h : FDK P Q la st nm gn i j r e H) (y : Nat) : Q.br y = P.br y := by unfold PO.br; rw [h.1.1]
theorem FDK.be (h : FDK P Q la st nm gn i j r e H) (y : Nat) : Q.be y = P.be y := by unfold PO.be; rw [h.1.1]
theorem FDK.pp (h : FDK P Q la st nm gn i j r e H) (y : Nat) : Q.pp y = P.pp y := by unfold PO.pp; rw [h.1.1]
theorem FDK.pu (h : FDK P Q la st nm gn i j r e H) (y : Nat) : Q.pu y = P.pu y := by unfold PO.pu; rw [h.1.1]
theorem FDK.pr (h : FDK P Q la st nm gn i j r e H) (y : Nat) : Q.pr y = P.pr y := by unfold PO.pr; rw [h.1.1]
theorem FDK.ow (h : FDK P Q la st nm gn i j r e H) (y : Nat) : Q.ow y = P.ow y := by unfold PO.ow; rw [h.1.1]
theorem FDK.kd (h : FDK P Q la st nm gn i j r e H) (y : Nat) : Q.kd y = P.kd y := by unfold PO.kd; rw [h.1.1]
theorem FDK.blk (h : FDK P Q la st nm gn i j r e H) (b0 : 0 ≤ b) (b1 : b < P.lz la) : Q.el la b = P.el la b ∧ b < Q.lz la := ⟨h.1.2.2 b b0 b1, by rw [h.1.2.1]; exact b1⟩
/-- what is not yet looked at is as it was -/
theorem VFD.nphi (n : NDR P la) (al : ALP L P cO cI cZ ed la) (i0 : 0 ≤ i) (i1 : i < P.lz la) (j0 : 0 ≤ j) (j1 : j < P.lz (P.bp (P.el la i))) (jj : j < c) : ¬ VFD P la i c r e (P.el (P.bp (P.el la i)) j) := fun q => by
  have kx := (al.kphi i0 i1 j0 j1).2
  rcases q with ⟨b, k, b0, b1, k0, k1, e, q⟩ | ⟨b, k, b0, b1, k0, k1, e, q⟩ | ⟨b, b0, b1, e, q⟩
  · have t := n.2.1 i b j k i0 i1 b0 b1 j0 j1 k0 k1 e; omega
  · have t := (al.krow b0 b1 k0 k1).2; rw [← e] at t; omega
  · rcases e with e | e
    · have t := (al.kend b0 b1).2.1; rw [← e] at t; omega
    · have t := (al.inb ⟨b, b0, b1, rfl⟩).1.2; rw [← e] at t; omega
theorem VFD.nrow (n : NDR P la) (al : ALP L P cO cI cZ ed la) (i0 : 0 ≤ i) (i1 : i < P.lz la) (j0 : 0 ≤ j) (j1 : j < P.lz (P.br (P.el la i))) (jj : j < c) : ¬ VFD P la i k c e (P.el (P.br (P.el la i)) j) := fun q => by
  have kx := al.krow i0 i1 j0 j1
  rcases q with ⟨b, k, b0, b1, k0, k1, e, q⟩ | ⟨b, k, b0, b1, k0, k1, e, q⟩ | ⟨b, b0, b1, e, q⟩
  · have t := (al.kphi b0 b1 k0 k1).2; rw [← e] at t; omega
  · have t := n.1 i b j k i0 i1 b0 b1 j0 j1 k0 k1 e; omega
  · rcases e with e | e
    · have t := (al.kend b0 b1).2.2
      rw [← e] at t
      have oc := al.2.1.2.2.1 _ (al.inb ⟨i, i0, i1, rfl⟩).1.1 (al.inb ⟨i, i0, i1, rfl⟩).1.2
      exact (al.2.2.2.1 _ oc.1.2.2.1 oc.1.2.2.2).2.2 oc.1.1 j j0 j1 t
    · have t := (al.inb ⟨b, b0, b1, rfl⟩).1.2; rw [← e] at t; omega
theorem VFD.nend (n : NDR P la) (al : ALP L P cO cI cZ ed la) (i0 : 0 ≤ i) (i1 : i < P.lz la) : ¬ VFD P la i j r False (P.be (P.el la i)) := fun q => by
  have kx := al.kend i0 i1
  rcases q with ⟨b, k, b0, b1, k0, k1, e, q⟩ | ⟨b, k, b0, b1, k0, k1, e, q⟩ | ⟨b, b0, b1, e, q⟩
  · have t := (al.kphi b0 b1 k0 k1).2; rw [← e] at t; omega
  · have oc := al.2.1.2.2.1 _ (al.inb ⟨b, b0, b1, rfl⟩).1.1 (al.inb ⟨b, b0, b1, rfl⟩).1.2
    exact (al.2.2.2.1 _ oc.1.2.2.1 oc.1.2.2.2).2.2 oc.1.1 k k0 k1 (by rw [← e]; exact kx.2.2)
  · rcases e with e | e
    · have t := n.2.2 i b i0 i1 b0 b1 e
      rcases q with q | q
      · omega
      · exact q.2
    · have t := (al.inb ⟨b, b0, b1, rfl⟩).1.2; rw [← e] at t; omega
theorem VFD.nblk (al : ALP L P cO cI cZ ed la) (i0 : 0 ≤ i) (i1 : i < P.lz la) : ¬ VFD P la i j r False (P.el la i) := fun q => by
  have kx := (al.inb ⟨i, i0, i1, rfl⟩).1.2
  rcases q with ⟨b, k, b0, b1, k0, k1, e, q⟩ | ⟨b, k, b0, b1, k0, k1, e, q⟩ | ⟨b, b0, b1, e, q⟩
  · have t := (al.kphi b0 b1 k0 k1).2; rw [← e] at t; omega
  · have t := (al.krow b0 b1 k0 k1).2; rw [← e] at t; omega
  · rcases e with e | e
    · have t := (al.kend b0 b1).2.1; rw [← e] at t; omega
    · rcases q with q | q
      · exact al.2.1.2.2.2 b i b0 q i1 e.symm
      · exact q.2
theorem FPK.same (h : FPK P Q st nm x k) (e0 : ∀ f : Nat, Q'.1 f x = Q.1 f x) (e1 : Q'.ia (P.pp x) = Q.ia (P.pp x)) (e2 : Q'.ia (P.pu x) = Q.ia (P.pu x)) (e3 : Q'.ia (P.pr x) = Q.ia (P.pr x)) : FPK P Q' st nm x k := by
  refine ⟨⟨(e0 1).trans h.1.1, (e0 0).trans h.1.2.1, (e0 2).trans h.1.2.2⟩, fun i i0 i1 => ?_⟩
  rw [e1, e2, e3]; exact h.2 i i0 i1
theorem KNR.same (h : KNR P Q st nm x) (e0 : ∀ f : Nat, Q'.1 f x = Q.1 f x) : KNR P Q' st nm x := by
  have a : Q'.ro x = Q.ro x := e0 _
  have b : Q'.rt x = Q.rt x := e0 _
  have c : Q'.rg x = Q.rg x := e0 _
  have d1 : Q'.rA x = Q.rA x := e0 _
  have d2 : Q'.rB x = Q.rB x := e0 _
  have d3 : Q'.ra x = Q.ra x := e0 _
  have d4 : Q'.rb x = Q.rb x := e0 _
  unfold KNR KNA KNB
  rw [a, b, c, d1, d2, d3, d4]; exact h
theorem FED.same (h : FED P Q st nm y) (e0 : ∀ f : Nat, Q'.1 f (P.be y) = Q.1 f (P.be y)) (e1 : ∀ f : Nat, Q'.1 f y = Q.1 f y) : FED P Q' st nm y := by
  have a : Q'.ro (P.be y) = Q.ro (P.be y) := e0 _
  have d1 : Q'.rA (P.be y) = Q.rA (P.be y) := e0 _
  have d2 : Q'.rB (P.be y) = Q.rB (P.be y) := e0 _
  have d3 : Q'.ra (P.be y) = Q.ra (P.be y) := e0 _
  have d4 : Q'.rb (P.be y) = Q.rb (P.be y) := e0 _
  have f1 : Q'.bf y = Q.bf y := e1 _
  have f2 : Q'.bs y = Q.bs y := e1 _
  unfold FED KNA KNB
  rw [a, d1, d2, d3, d4, f1, f2]; exact h
/-- something that is being changed has changed -/
theorem FDK.step (h : FDK P Q la st nm gn i j r e H) (w : PH1 x Q Q') (al : ALP L P cO cI cZ ed la) (hx : H x) (kx : P.kd x ≠ 30) (nx : ¬ VFD P la i j r e x) : FDK P Q' la st nm gn i j r e H := by
  have un : ∀ l : Nat, P.kd l = 30 → UNT Q Q' l := fun l k => w.unt (fun q => kx (by rw [← q]; exact k))
  have num : ∀ z : Nat, VFD P la i j r e z → ∀ f : Nat, Q'.1 f z = Q.1 f z := fun z q f => w.2.1 z (fun t => nx (by rw [← t]; exact q)) f
  have ia : ∀ a : Nat, VFD P la i j r e (P.ow a) → Q'.ia a = Q.ia a := fun a q => w.2.2 a (fun t => nx (by rw [h.ow] at t; rw [← t]; exact q))
  refine ⟨⟨w.1.1.trans h.1.1, h.1.2.trans (un la al.lok.2.1)⟩, fun b b0 b1 => ?_, ⟨fun z k n f => ?_, fun y n => ?_⟩, fun b k b0 b1 g k0 k1 q ng => ?_, fun b k b0 b1 g k0 k1 q ng => ?_, fun b b0 b1 g q => ?_⟩
  · have ib := al.inb ⟨b, b0, b1, rfl⟩
    have u1 := un _ ib.2.2.1.2.1
    have u2 := un _ ib.2.1.2.1
    have t := h.2.1 b b0 b1
    exact ⟨fun q g => ⟨(t.1 q g).1.away u1, (t.1 q g).2.away u2⟩, fun q => ⟨(t.2.1 q).1.away u1, (t.2.1 q).2.away u2⟩, fun q => ⟨(t.2.2 q).1.trans u1, (t.2.2 q).2.trans u2⟩⟩
  · exact (w.2.1 z (fun t => n (Or.inr (by rw [t]; exact hx))) f).trans (h.2.2.1.1 z k n f)
  · exact (w.2.2 y (fun t => n (Or.inr (by rw [h.ow] at t; rw [t]; exact hx)))).trans (h.2.2.1.2 y n)
  · have vz : VFD P la i j r e (P.el (P.bp (P.el la b)) k) := Or.inl ⟨b, k, b0, b1, k0, k1, rfl, q⟩
    have kp := al.kphi b0 b1 k0 k1
    have pz := al.pik kp.1 kp.2
    exact (h.2.2.2.1 b k b0 b1 g k0 k1 q ng).same (num _ vz) (ia _ (by rw [pz.2.1.2.2.2]; exact vz)) (ia _ (by rw [pz.2.2.1.2.2.2]; exact vz)) (ia _ (by rw [pz.2.2.2.1.2.2.2]; exact vz))
  · exact (h.2.2.2.2.1 b k b0 b1 g k0 k1 q ng).same (num _ (Or.inr (Or.inl ⟨b, k, b0, b1, k0, k1, rfl, q⟩)))
  · exact (h.2.2.2.2.2 b b0 b1 g q).same (num _ (Or.inr (Or.inr ⟨b, b0, b1, Or.inl rfl, q⟩))) (num _ (Or.inr (Or.inr ⟨b, b0, b1, Or.inr rfl, q⟩)))
theorem VFD.p1 (h : VFD P la i j r e z) : VFD P la i (j - 1) r e z := by
  rcases h with ⟨b, k, b0, b1, k0, k1, e, q⟩ | h
  · exact Or.inl ⟨b, k, b0, b1, k0, k1, e, by omega⟩
  · exact Or.inr h
theorem VFD.r1 (h : VFD P la i j r e z) : VFD P la i j (r - 1) e z := by
  rcases h with h | ⟨b, k, b0, b1, k0, k1, e, q⟩ | h
  · exact Or.inl h
  · exact Or.inr (Or.inl ⟨b, k, b0, b1, k0, k1, e, by omega⟩)
  · exact Or.inr (Or.inr h)
/-- PHI j of the block is done, it stays -/
theorem FDK.closep (h : FDK P Q la st nm gn i (j + 1) r e (fun z => z = x)) (i0 : 0 ≤ i) (i1 : i < P.lz la) (j0 : 0 ≤ j) (j1 : j < P.lz (P.bp (P.el la i))) (ex : x = P.el (P.bp (P.el la i)) j) (ng : ¬ GPT P st x) (f : FPK P Q st nm x (P.pn x)) : FDK P Q la st nm gn i j r e (fun _ => False) := by
  have vx : VFD P la i j r e x := Or.inl ⟨i, j, i0, i1, j0, j1, ex, by omega⟩
  have vm : ∀ z : Nat, VFD P la i (j + 1) r e z → VFD P la i j r e z := fun z q => by
    have t := q.p1
    rw [show j + 1 - 1 = j from by omega] at t; exact t
  refine ⟨h.1, fun b b0 b1 => ?_, ⟨fun z k n => h.2.2.1.1 z k (fun q => n ?_), fun y n => h.2.2.1.2 y (fun q => n ?_)⟩, fun b k b0 b1 g k0 k1 q g2 => ?_, h.2.2.2.2⟩
  · have t := h.2.1 b b0 b1
    refine ⟨t.1, fun q => ⟨?_, (t.2.1 q).2⟩, t.2.2⟩
    have fl := (t.2.1 q).1
    refine FLT.keep fl j0 ?_
    rw [(FLT.at fl j0).1, q, ← ex]; exact ng
  · rcases q with q | q
    · exact Or.inl (vm z q)
    · exact Or.inl (by rw [q]; exact vx)
  · rcases q with q | q
    · exact Or.inl (vm _ q)
    · exact Or.inl (by rw [q]; exact vx)
  · by_cases s : b = i ∧ k = j
    · rw [s.1, s.2, ← ex]; exact f
    · exact h.2.2.2.1 b k b0 b1 g k0 k1 (by omega) g2
theorem FDK.closer (h : FDK P Q la st nm gn i j (r + 1) e (fun z => z = x)) (i0 : 0 ≤ i) (i1 : i < P.lz la) (r0 : 0 ≤ r) (r1 : r < P.lz (P.br (P.el la i))) (ex : x = P.el (P.br (P.el la i)) r) (ng : ¬ GRT P st x) (f : KNR P Q st nm x) : FDK P Q la st nm gn i j r e (fun _ => False) := by
  have vx : VFD P la i j r e x := Or.inr (Or.inl ⟨i, r, i0, i1, r0, r1, ex, by omega⟩)
  have vm : ∀ z : Nat, VFD P la i j (r + 1) e z → VFD P la i j r e z := fun z q => by
    have t := q.r1
    rw [show r + 1 - 1 = r from by omega] at t; exact t
  refine ⟨h.1, fun b b0 b1 => ?_, ⟨fun z k n => h.2.2.1.1 z k (fun q => n ?_), fun y n => h.2.2.1.2 y (fun q => n ?_)⟩, h.2.2.2.1, fun b k b0 b1 g k0 k1 q g2 => ?_, h.2.2.2.2.2⟩
  · have t := h.2.1 b b0 b1
    refine ⟨t.1, fun q => ⟨(t.2.1 q).1, ?_⟩, t.2.2⟩
    have fl := (t.2.1 q).2
    refine FLT.keep fl r0 ?_
    rw [(FLT.at fl r0).1, q, ← ex]; exact ng
  · rcases q with q | q
    · exact Or.inl (vm z q)
    · exact Or.inl (by rw [q]; exact vx)
  · rcases q with q | q
    · exact Or.inl (vm _ q)
    · exact Or.inl (by rw [q]; exact vx)
  · by_cases s : b = i ∧ k = r
    · rw [s.1, s.2, ← ex]; exact f
    · exact h.2.2.2.2.1 b k b0 b1 g k0 k1 (by omega) g2
theorem FDK.closee (h : FDK P Q la st nm gn i 0 0 False (fun z => z = P.be (P.el la i) ∨ z = P.el la i)) (i0 : 0 ≤ i) (i1 : i < P.lz la) (f : FED P Q st nm (P.el la i)) : FDK P Q la st nm gn (i + 1) (P.lz (P.bp (P.el la (i + 1)))) (P.lz (P.br (P.el la (i + 1)))) False (fun _ => False) := by
  have vm : ∀ z : Nat, (VFD P la i 0 0 False z ∨ (z = P.be (P.el la i) ∨ z = P.el la i)) → VFD P la (i + 1) (P.lz (P.bp (P.el la (i + 1)))) (P.lz (P.br (P.el la (i + 1)))) False z := fun z q => by
    rcases q with (⟨b, k, b0, b1, k0, k1, e, q⟩ | ⟨b, k, b0, b1, k0, k1, e, q⟩ | ⟨b, b0, b1, e, q⟩) | q
    · exact Or.inl ⟨b, k, b0, b1, k0, k1, e, by omega⟩
    · exact Or.inr (Or.inl ⟨b, k, b0, b1, k0, k1, e, by omega⟩)
    · refine Or.inr (Or.inr ⟨b, b0, b1, e, Or.inl ?_⟩)
      rcases q with q | q
      · omega
      · exact q.2.elim
    · exact Or.inr (Or.inr ⟨i, i0, i1, q, Or.inl (by omega)⟩)
  refine ⟨h.1, fun b b0 b1 => ?_, ⟨fun z k n => h.2.2.1.1 z k (fun q => n (Or.inl (vm z q))), fun y n => h.2.2.1.2 y (fun q => n (Or.inl (vm _ q)))⟩, fun b k b0 b1 g k0 k1 q g2 => ?_, fun b k b0 b1 g k0 k1 q g2 => ?_, fun b b0 b1 g q => ?_⟩
  · have t := h.2.1 b b0 b1
    refine ⟨fun q g => ?_, fun q => ?_, fun q => t.2.2 (by omega)⟩
    · by_cases s : b = i
      · exact t.2.1 s
      · exact t.1 (by omega) g
    · have u := t.2.2 (by omega)
      rw [← q]; exact ⟨u.1.fls, u.2.fls⟩
  · refine h.2.2.2.1 b k b0 b1 g k0 k1 ?_ g2
    rcases q with q | q
    · omega
    · rw [q.1] at k1; omega
  · refine h.2.2.2.2.1 b k b0 b1 g k0 k1 ?_ g2
    rcases q with q | q
    · omega
    · rw [q.1] at k1; omega
  · by_cases s : b = i
    · rw [s]; exact f
    · refine h.2.2.2.2.2 b b0 b1 g ?_
      rcases q with q | q
      · exact Or.inl (by omega)
      · exact q.2.elim
/-- a block that is not come to -/
theorem FDK.skip (h : FDK P Q la st nm gn i (P.lz (P.bp (P.el la i))) (P.lz (P.br (P.el la i))) False (fun _ => False)) (g0 : gn i = 0) : FDK P Q la st nm gn (i + 1) (P.lz (P.bp (P.el la (i + 1)))) (P.lz (P.br (P.el la (i + 1)))) False (fun _ => False) := by
  have vm : ∀ z : Nat, (VFD P la i (P.lz (P.bp (P.el la i))) (P.lz (P.br (P.el la i))) False z ∨ False) → VFD P la (i + 1) (P.lz (P.bp (P.el la (i + 1)))) (P.lz (P.br (P.el la (i + 1)))) False z := fun z q => by
    rcases q with (⟨b, k, b0, b1, k0, k1, e, q⟩ | ⟨b, k, b0, b1, k0, k1, e, q⟩ | ⟨b, b0, b1, e, q⟩) | q
    · exact Or.inl ⟨b, k, b0, b1, k0, k1, e, by omega⟩
    · exact Or.inr (Or.inl ⟨b, k, b0, b1, k0, k1, e, by omega⟩)
    · refine Or.inr (Or.inr ⟨b, b0, b1, e, Or.inl ?_⟩)
      rcases q with q | q
      · omega
      · exact q.2.elim
    · exact q.elim
  refine ⟨h.1, fun b b0 b1 => ?_, ⟨fun z k n => h.2.2.1.1 z k (fun q => n (Or.inl (vm z q))), fun y n => h.2.2.1.2 y (fun q => n (Or.inl (vm _ q)))⟩, fun b k b0 b1 g k0 k1 q g2 => ?_, fun b k b0 b1 g k0 k1 q g2 => ?_, fun b b0 b1 g q => ?_⟩
  · have t := h.2.1 b b0 b1
    refine ⟨fun q g => t.1 (by
      rcases Int.lt_or_le b i with s | s
      · exact s
      · exact absurd (by rw [show b = i from by omega]; exact g0) g) g, fun q => ?_, fun q => t.2.2 (by omega)⟩
    have u := t.2.2 (by omega)
    rw [← q]; exact ⟨u.1.fls, u.2.fls⟩
  · have ne : b ≠ i := fun s => g (by rw [s]; exact g0)
    refine h.2.2.2.1 b k b0 b1 g k0 k1 ?_ g2
    rcases q with q | q
    · omega
    · rw [q.1] at k1; omega
  · have ne : b ≠ i := fun s => g (by rw [s]; exact g0)
    refine h.2.2.2.2.1 b k b0 b1 g k0 k1 ?_ g2
    rcases q with q | q
    · omega
    · rw [q.1] at k1; omega
  · have ne : b ≠ i := fun s => g (by rw [s]; exact g0)
    refine h.2.2.2.2.2 b b0 b1 g ?_
    rcases q with q | q
    · exact Or.inl (by omega)
    · exact q.2.elim
end FDK9
