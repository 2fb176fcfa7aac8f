/-- one number of an object set anew -/
def PO.rw9 (P : PO) (f x : Nat) (v : Int) : PO := (fun g y => if y = x then (if g = f then v else P.1 g y) else P.1 g y, P.2)
theorem pE_rw9 (P : PO) (f x : Nat) (v : Int) : va_up (pE P) x (pE (P.rw9 f x v) x) = pE (P.rw9 f x v) := by
  funext y
  by_cases e : y = x
  · rw [e, va_up_self]
  · rw [va_up_ne _ _ e]
    simp only [pE, pK, PO.kd, PO.ro, PO.rt, PO.ra, PO.rb, PO.rA, PO.rB, PO.rg, PO.pt, PO.pn, PO.pg, PO.pp, PO.pu, PO.pr, PO.bf, PO.bs, PO.bp, PO.br, PO.be, PO.lz, PO.lm, PO.le, PO.an, PO.oa, PO.ia, PO.ac, PO.rw9, if_neg e]
    rfl
theorem put17_0 {P : PO} {x : Nat} {v : Int} (h : P.kd x = 17) : va_up (pE P) x (rowE v (P.rt x) (P.ra x) (P.rb x) (P.rA x) (P.rB x) (P.rg x)) = pE (P.rw9 0 x v) := by
  have q := pE_rw9 P 0 x v
  rw [pE_row (show (P.rw9 0 x v).kd x = 17 from h)] at q
  rw [← q]; congr 1
  simp [PO.rw9, PO.ro, PO.rt, PO.ra, PO.rb, PO.rA, PO.rB, PO.rg]
theorem put17_1 {P : PO} {x : Nat} {v : Int} (h : P.kd x = 17) : va_up (pE P) x (rowE (P.ro x) v (P.ra x) (P.rb x) (P.rA x) (P.rB x) (P.rg x)) = pE (P.rw9 1 x v) := by
  have q := pE_rw9 P 1 x v
  rw [pE_row (show (P.rw9 1 x v).kd x = 17 from h)] at q
  rw [← q]; congr 1
  simp [PO.rw9, PO.ro, PO.rt, PO.ra, PO.rb, PO.rA, PO.rB, PO.rg]
theorem put17_2 {P : PO} {x : Nat} {v : Int} (h : P.kd x = 17) : va_up (pE P) x (rowE (P.ro x) (P.rt x) v (P.rb x) (P.rA x) (P.rB x) (P.rg x)) = pE (P.rw9 2 x v) := by
  have q := pE_rw9 P 2 x v
  rw [pE_row (show (P.rw9 2 x v).kd x = 17 from h)] at q
  rw [← q]; congr 1
  simp [PO.rw9, PO.ro, PO.rt, PO.ra, PO.rb, PO.rA, PO.rB, PO.rg]
theorem put17_3 {P : PO} {x : Nat} {v : Int} (h : P.kd x = 17) : va_up (pE P) x (rowE (P.ro x) (P.rt x) (P.ra x) v (P.rA x) (P.rB x) (P.rg x)) = pE (P.rw9 3 x v) := by
  have q := pE_rw9 P 3 x v
  rw [pE_row (show (P.rw9 3 x v).kd x = 17 from h)] at q
  rw [← q]; congr 1
  simp [PO.rw9, PO.ro, PO.rt, PO.ra, PO.rb, PO.rA, PO.rB, PO.rg]
theorem put17_4 {P : PO} {x : Nat} {v : Int} (h : P.kd x = 17) : va_up (pE P) x (rowE (P.ro x) (P.rt x) (P.ra x) (P.rb x) v (P.rB x) (P.rg x)) = pE (P.rw9 4 x v) := by
  have q := pE_rw9 P 4 x v
  rw [pE_row (show (P.rw9 4 x v).kd x = 17 from h)] at q
  rw [← q]; congr 1
  simp [PO.rw9, PO.ro, PO.rt, PO.ra, PO.rb, PO.rA, PO.rB, PO.rg]
theorem put17_5 {P : PO} {x : Nat} {v : Int} (h : P.kd x = 17) : va_up (pE P) x (rowE (P.ro x) (P.rt x) (P.ra x) (P.rb x) (P.rA x) v (P.rg x)) = pE (P.rw9 5 x v) := by
  have q := pE_rw9 P 5 x v
  rw [pE_row (show (P.rw9 5 x v).kd x = 17 from h)] at q
  rw [← q]; congr 1
  simp [PO.rw9, PO.ro, PO.rt, PO.ra, PO.rb, PO.rA, PO.rB, PO.rg]
theorem put17_6 {P : PO} {x : Nat} {v : Int} (h : P.kd x = 17) : va_up (pE P) x (rowE (P.ro x) (P.rt x) (P.ra x) (P.rb x) (P.rA x) (P.rB x) v) = pE (P.rw9 6 x v) := by
  have q := pE_rw9 P 6 x v
  rw [pE_row (show (P.rw9 6 x v).kd x = 17 from h)] at q
  rw [← q]; congr 1
  simp [PO.rw9, PO.ro, PO.rt, PO.ra, PO.rb, PO.rA, PO.rB, PO.rg]
theorem put15_0 {P : PO} {x : Nat} {v : Int} (h : P.kd x = 15) : va_up (pE P) x (phiE v (P.pn x) (P.pp x) (P.pu x) (P.pr x) (P.pg x)) = pE (P.rw9 0 x v) := by
  have q := pE_rw9 P 0 x v
  rw [pE_phi (show (P.rw9 0 x v).kd x = 15 from h)] at q
  rw [← q]; congr 1
  simp [PO.rw9, PO.pt, PO.pn, PO.pg, PO.pp, PO.pu, PO.pr]
theorem put15_1 {P : PO} {x : Nat} {v : Int} (h : P.kd x = 15) : va_up (pE P) x (phiE (P.pt x) v (P.pp x) (P.pu x) (P.pr x) (P.pg x)) = pE (P.rw9 1 x v) := by
  have q := pE_rw9 P 1 x v
  rw [pE_phi (show (P.rw9 1 x v).kd x = 15 from h)] at q
  rw [← q]; congr 1
  simp [PO.rw9, PO.pt, PO.pn, PO.pg, PO.pp, PO.pu, PO.pr]
theorem put15_2 {P : PO} {x : Nat} {v : Int} (h : P.kd x = 15) : va_up (pE P) x (phiE (P.pt x) (P.pn x) (P.pp x) (P.pu x) (P.pr x) v) = pE (P.rw9 2 x v) := by
  have q := pE_rw9 P 2 x v
  rw [pE_phi (show (P.rw9 2 x v).kd x = 15 from h)] at q
  rw [← q]; congr 1
  simp [PO.rw9, PO.pt, PO.pn, PO.pg, PO.pp, PO.pu, PO.pr]
theorem put12_0 {P : PO} {x : Nat} {v : Int} (h : P.kd x = 12) : va_up (pE P) x (blockE (P.bp x) (P.br x) (P.be x) v (P.bs x)) = pE (P.rw9 0 x v) := by
  have q := pE_rw9 P 0 x v
  rw [pE_block (show (P.rw9 0 x v).kd x = 12 from h)] at q
  rw [← q]; congr 1
  simp [PO.rw9, PO.bf, PO.bs, PO.bp, PO.br, PO.be]
theorem put12_1 {P : PO} {x : Nat} {v : Int} (h : P.kd x = 12) : va_up (pE P) x (blockE (P.bp x) (P.br x) (P.be x) (P.bf x) v) = pE (P.rw9 1 x v) := by
  have q := pE_rw9 P 1 x v
  rw [pE_block (show (P.rw9 1 x v).kd x = 12 from h)] at q
  rw [← q]; congr 1
  simp [PO.rw9, PO.bf, PO.bs, PO.bp, PO.br, PO.be]
/-- numbers of one object alone changed -/
def RW1 (x : Nat) (P P' : PO) : Prop := P'.2 = P.2 ∧ ∀ y : Nat, y ≠ x → ∀ f : Nat, P'.1 f y = P.1 f y
theorem RW1.refl (x : Nat) (P : PO) : RW1 x P P := ⟨rfl, fun _ _ _ => rfl⟩
theorem RW1.trans {x : Nat} {P Q R : PO} (h : RW1 x P Q) (k : RW1 x Q R) : RW1 x P R := ⟨k.1.trans h.1, fun y n f => (k.2 y n f).trans (h.2 y n f)⟩
theorem RW1.put (P : PO) (f x : Nat) (v : Int) : RW1 x P (P.rw9 f x v) := ⟨rfl, fun y n g => by show (if y = x then _ else _) = _; rw [if_neg n]⟩
theorem rw9_at (P : PO) (f x : Nat) (v : Int) : (P.rw9 f x v).1 f x = v := by simp [PO.rw9]
theorem rw9_of (P : PO) {f g x : Nat} {v : Int} (n : g ≠ f) : (P.rw9 f x v).1 g x = P.1 g x := by simp [PO.rw9, n]
/-- numbers of rows and PHIs, and contents of rows of numbers, alone changed -/
def RWD (P P' : PO) : Prop := (P'.2.1 = P.2.1 ∧ P'.2.2.1 = P.2.2.1 ∧ P'.2.2.2.2 = P.2.2.2.2) ∧ ∀ x : Nat, P.kd x ≠ 17 → P.kd x ≠ 15 → ∀ f : Nat, P'.1 f x = P.1 f x
theorem RWD.refl (P : PO) : RWD P P := ⟨⟨rfl, rfl, rfl⟩, fun _ _ _ _ => rfl⟩
theorem RWD.kd {P P' : PO} (h : RWD P P') (x : Nat) : P'.kd x = P.kd x := by show P'.2.1 0 x = P.2.1 0 x; rw [h.1.1]
theorem RWD.trans {P Q R : PO} (h : RWD P Q) (k : RWD Q R) : RWD P R := ⟨⟨k.1.1.trans h.1.1, k.1.2.1.trans h.1.2.1, k.1.2.2.trans h.1.2.2⟩, fun x a b f => (k.2 x (by rw [h.kd]; exact a) (by rw [h.kd]; exact b) f).trans (h.2 x a b f)⟩
theorem RW1.rwd {x : Nat} {P P' : PO} (h : RW1 x P P') (k : P.kd x = 17 ∨ P.kd x = 15) : RWD P P' := ⟨⟨by rw [h.1], by rw [h.1], by rw [h.1]⟩, fun y a b f => h.2 y (fun e => by rw [e] at a b; omega) f⟩
theorem RWD.le {P P' : PO} (h : RWD P P') (x : Nat) : P'.le x = P.le x := by show P'.2.1 1 x = P.2.1 1 x; rw [h.1.1]
theorem RWD.an {P P' : PO} (h : RWD P P') (x : Nat) : P'.an x = P.an x := by show P'.2.1 1 x = P.2.1 1 x; rw [h.1.1]
theorem RWD.oa {P P' : PO} (h : RWD P P') (x : Nat) : P'.oa x = P.oa x := by show P'.2.2.1 x = P.2.2.1 x; rw [h.1.2.1]
theorem RWD.ac {P P' : PO} (h : RWD P P') (x : Nat) : P'.ac x = P.ac x := by show P'.2.2.2.2 x = P.2.2.2.2 x; rw [h.1.2.2]
theorem RWD.el {P P' : PO} (h : RWD P P') (x : Nat) (i : Int) : P'.el x i = P.el x i := by unfold PO.el; rw [h.le, h.oa]
theorem RWD.br {P P' : PO} (h : RWD P P') (x : Nat) : P'.br x = P.br x := by show P'.2.1 2 x = P.2.1 2 x; rw [h.1.1]
theorem RWD.bp {P P' : PO} (h : RWD P P') (x : Nat) : P'.bp x = P.bp x := by show P'.2.1 1 x = P.2.1 1 x; rw [h.1.1]
theorem RWD.be {P P' : PO} (h : RWD P P') (x : Nat) : P'.be x = P.be x := by show P'.2.1 3 x = P.2.1 3 x; rw [h.1.1]
theorem RWD.lz {P P' : PO} (h : RWD P P') {x : Nat} (k : P.kd x = 30) : P'.lz x = P.lz x := h.2 x (by omega) (by omega) 0
theorem RWD.bf {P P' : PO} (h : RWD P P') {x : Nat} (k : P.kd x = 12) : P'.bf x = P.bf x := h.2 x (by omega) (by omega) 0
theorem RWD.bs {P P' : PO} (h : RWD P P') {x : Nat} (k : P.kd x = 12) : P'.bs x = P.bs x := h.2 x (by omega) (by omega) 1
theorem RWD.lok {P P' : PO} (h : RWD P P') {L : List Nat} {cO : ClassId} {k x : Nat} (q : LOK L P cO k x) : LOK L P' cO k x := by
  obtain ⟨a, b, c, d, e⟩ := q
  refine ⟨a, (h.kd x).trans b, by rw [h.lz b]; exact c, ?_, fun i i0 i1 => ?_⟩
  · rw [h.lz b, h.le, h.kd, h.ac, h.an]; exact d
  · rw [h.lz b] at i1
    rw [h.le, h.oa, h.el, h.kd]; exact e i i0 i1
theorem RWD.bok {P P' : PO} (h : RWD P P') {L : List Nat} {cO : ClassId} {n : Int} {x : Nat} (q : BOK L P cO n x) : BOK L P' cO n x := by
  obtain ⟨⟨a, a2⟩, b, c, d, e⟩ := q
  refine ⟨⟨a, (h.kd x).trans a2⟩, by rw [h.br]; exact h.lok b, by rw [h.bp]; exact h.lok c, by rw [h.be, h.kd]; exact d, by rw [h.bf a2, h.bs a2]; exact e⟩
theorem RWD.cdk {P P' : PO} (h : RWD P P') {L : List Nat} {cO : ClassId} {la : Nat} (q : CDK L P cO la) (r : ∀ q : Nat, q ∈ L → P'.kd q = 17 → ROK9 P' q) : CDK L P' cO la := by
  obtain ⟨a, b, c, _⟩ := q
  refine ⟨h.lok a, by rw [h.lz a.2.1]; exact b, fun i i0 i1 => ?_, r⟩
  rw [h.lz a.2.1] at i1 ⊢
  rw [h.el]; exact h.bok (c i i0 i1)
theorem RW1.rok {x : Nat} {P P' : PO} (h : RW1 x P P') {q : Nat} (n : q ≠ x) (k : ROK9 P q) : ROK9 P' q := by
  unfold ROK9 PO.ro PO.rt PO.ra PO.rb PO.rA PO.rB PO.rg at *
  simp only [h.2 q n]; exact k
/-- all rows stay in their ranges -/
theorem RW1.all {x : Nat} {P P' : PO} (h : RW1 x P P') {L : List Nat} (k : ∀ q : Nat, q ∈ L → P.kd q = 17 → ROK9 P q) (r : ROK9 P' x) : ∀ q : Nat, q ∈ L → P'.kd q = 17 → ROK9 P' q := fun q m d => by
  by_cases e : q = x
  · rw [e]; exact r
  · exact h.rok e (k q m ((congrArg (fun z : (Nat → Nat → Nat) × (Nat → Nat → Option Nat) × (Nat → Int → Int) × (Nat → ClassId) => z.1 0 q) h.1).symm.trans d))
