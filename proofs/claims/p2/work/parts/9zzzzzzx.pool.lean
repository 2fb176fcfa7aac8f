/-- numbers of one PHI and its own rows alone changed -/
def PH1 (x : Nat) (P P' : PO) : Prop := (P'.2.1 = P.2.1 ∧ P'.2.2.1 = P.2.2.1 ∧ P'.2.2.2.2 = P.2.2.2.2) ∧ (∀ y : Nat, y ≠ x → ∀ f : Nat, P'.1 f y = P.1 f y) ∧ ∀ a : Nat, P.ow a ≠ x → P'.ia a = P.ia a
theorem PH1.refl (x : Nat) (P : PO) : PH1 x P P := ⟨⟨rfl, rfl, rfl⟩, fun _ _ _ => rfl, fun _ _ => rfl⟩
theorem PH1.trans {x : Nat} {P Q R : PO} (h : PH1 x P Q) (k : PH1 x Q R) : PH1 x P R := ⟨⟨k.1.1.trans h.1.1, k.1.2.1.trans h.1.2.1, k.1.2.2.trans h.1.2.2⟩, fun y n f => (k.2.1 y n f).trans (h.2.1 y n f), fun a n => (k.2.2 a (by show Q.2.1 9 a ≠ x; rw [h.1.1]; exact n)).trans (h.2.2 a n)⟩
theorem PH1.put (P : PO) (f x : Nat) (v : Int) : PH1 x P (P.rw9 f x v) := ⟨⟨rfl, rfl, rfl⟩, fun y n g => by show (if y = x then _ else _) = _; rw [if_neg n], fun _ _ => rfl⟩
theorem PH1.num {P : PO} {x a : Nat} {c : Int → Int} (h : P.ow a = x) : PH1 x P (P.ri9 a c) := ⟨⟨rfl, rfl, rfl⟩, fun _ _ _ => rfl, fun b n => ri9_of P c (fun e => n (by rw [e]; exact h))⟩
theorem PH1.rwd {x : Nat} {P P' : PO} (h : PH1 x P P') (k : P.kd x = 15) : RWD P P' := ⟨h.1, fun y a b f => h.2.1 y (fun e => by rw [e] at a b; omega) f⟩
/-- an operand of a PHI: its PRED, the operand, whether it is a register -/
def EF (a b c : Int) : Prop := (0 ≤ a ∧ a ≤ 299) ∧ (-2147483648 ≤ b ∧ b ≤ 2147483647) ∧ (0 ≤ c ∧ c ≤ 1) ∧ (c = 0 ∨ (0 ≤ b ∧ b ≤ 1001))
def PEF (P : PO) (x : Nat) (i : Int) : Prop := EF (P.ia (P.pp x) i) (P.ia (P.pu x) i) (P.ia (P.pr x) i)
theorem PIK.ef {L : List Nat} {P : PO} {cI cZ : ClassId} {x : Nat} (h : PIK L P cI cZ x) {i : Int} (a : 0 ≤ i) (b : i < P.pn x) : PEF P x i := h.2.2.2.2.2.2 i a b
/-- a PHI changed in its numbers and rows alone is still one -/
theorem PIK.of {L : List Nat} {P P' : PO} {cI cZ : ClassId} {x : Nat} (h : PIK L P cI cZ x) (w : PH1 x P P') (n0 : 0 ≤ P'.pn x) (n1 : P'.pn x ≤ P.pn x) (t : 0 ≤ P'.pt x ∧ P'.pt x ≤ 1001 ∧ 0 ≤ P'.pg x ∧ P'.pg x ≤ 1) (e : ∀ i : Int, 0 ≤ i → i < P'.pn x → PEF P' x i) : PIK L P' cI cZ x := by
  obtain ⟨⟨a1, a2⟩, b, c, d, m, _, _⟩ := h
  have k : ∀ y : Nat, P'.kd y = P.kd y := fun y => congrFun (congrFun w.1.1 0) y
  have pp : P'.pp x = P.pp x := congrFun (congrFun w.1.1 1) x
  have pu : P'.pu x = P.pu x := congrFun (congrFun w.1.1 2) x
  have pr : P'.pr x = P.pr x := congrFun (congrFun w.1.1 3) x
  have an : ∀ y : Nat, P'.an y = P.an y := fun y => congrFun (congrFun w.1.1 1) y
  have ow : ∀ y : Nat, P'.ow y = P.ow y := fun y => congrFun (congrFun w.1.1 9) y
  have ac : ∀ y : Nat, P'.ac y = P.ac y := fun y => congrFun w.1.2.2 y
  refine ⟨⟨a1, (k x).trans a2⟩, ?_, ?_, ?_, ?_, t, e⟩
  · rw [pp, k, ac, ow]; exact b
  · rw [pu, k, ac, ow]; exact c
  · rw [pr, k, ac, ow]; exact d
  · rw [pp, pu, pr, an, an, an]; omega
theorem PIK.other {L : List Nat} {P P' : PO} {cI cZ : ClassId} {x y : Nat} (h : PIK L P cI cZ y) (w : PH1 x P P') (n : y ≠ x) : PIK L P' cI cZ y := by
  obtain ⟨⟨a1, a2⟩, b, c, d, m, t, e⟩ := h
  have k : ∀ y : Nat, P'.kd y = P.kd y := fun y => congrFun (congrFun w.1.1 0) y
  have pp : P'.pp y = P.pp y := congrFun (congrFun w.1.1 1) y
  have pu : P'.pu y = P.pu y := congrFun (congrFun w.1.1 2) y
  have pr : P'.pr y = P.pr y := congrFun (congrFun w.1.1 3) y
  have an : ∀ y : Nat, P'.an y = P.an y := fun y => congrFun (congrFun w.1.1 1) y
  have ow : ∀ y : Nat, P'.ow y = P.ow y := fun y => congrFun (congrFun w.1.1 9) y
  have ac : ∀ y : Nat, P'.ac y = P.ac y := fun y => congrFun w.1.2.2 y
  have pn : P'.pn y = P.pn y := w.2.1 y n 1
  have pt : P'.pt y = P.pt y := w.2.1 y n 0
  have pg : P'.pg y = P.pg y := w.2.1 y n 2
  have ib : P'.ia (P.pp y) = P.ia (P.pp y) := w.2.2 _ (by rw [b.2.2.2]; exact n)
  have ic : P'.ia (P.pu y) = P.ia (P.pu y) := w.2.2 _ (by rw [c.2.2.2]; exact n)
  have id : P'.ia (P.pr y) = P.ia (P.pr y) := w.2.2 _ (by rw [d.2.2.2]; exact n)
  refine ⟨⟨a1, (k y).trans a2⟩, ?_, ?_, ?_, ?_, ?_, fun i i0 i1 => ?_⟩
  · rw [pp, k, ac, ow]; exact b
  · rw [pu, k, ac, ow]; exact c
  · rw [pr, k, ac, ow]; exact d
  · rw [pp, pu, pr, an, an, an, pn]; exact m
  · rw [pt, pg]; exact t
  · rw [pn] at i1; rw [pp, pu, pr, ib, ic, id]; exact e i i0 i1
/-- one operand set anew -/
theorem PEF.set {P P' : PO} {x : Nat} {j a b c : Int} (h1 : P'.ia (P'.pp x) = zup (P.ia (P.pp x)) j a) (h2 : P'.ia (P'.pu x) = zup (P.ia (P.pu x)) j b) (h3 : P'.ia (P'.pr x) = zup (P.ia (P.pr x)) j c) (e : EF a b c) {i : Int} (o : i ≠ j → PEF P x i) : PEF P' x i := by
  unfold PEF; rw [h1, h2, h3]; unfold zup
  by_cases q : i = j
  · rw [if_pos q, if_pos q, if_pos q]; exact e
  · rw [if_neg q, if_neg q, if_neg q]; exact o q
theorem EF.upd {f g h : Int → Int} {j k i : Int} (jk : j ≠ k) (e : EF (f k) (g k) (h k)) (o : i ≠ j → EF (f i) (g i) (h i)) : EF (zup f j (f k) i) (zup g j (g k) i) (zup h j (h k) i) := by
  unfold zup
  by_cases q : i = j
  · rw [if_pos q, if_pos q, if_pos q]; exact e
  · rw [if_neg q, if_neg q, if_neg q]; exact o q
/-- a PHI's PREDs are below n -/
def PRB (P : PO) (x : Nat) (n : Int) : Prop := ∀ i : Int, 0 ≤ i → i < P.pn x → P.ia (P.pp x) i < n
/-- PREDs that were below a number still are -/
def PRQ (x : Nat) (P P' : PO) : Prop := ∀ n : Int, PRB P x n → PRB P' x n
theorem PRQ.refl (x : Nat) (P : PO) : PRQ x P P := fun _ h => h
def PQ9 (f g : Int → Int) (m : Int) : Prop := ∀ n : Int, (∀ i : Int, 0 ≤ i → i < m → f i < n) → ∀ i : Int, 0 ≤ i → i < m → g i < n
theorem PQ9.refl (f : Int → Int) (m : Int) : PQ9 f f m := fun _ h => h
theorem PQ9.put {f g h : Int → Int} {m j k : Int} (a : PQ9 f g m) (b : PQ9 f h m) (k0 : 0 ≤ k) (k1 : k < m) : PQ9 f (zup g j (h k)) m := fun n q i i0 i1 => by
  unfold zup
  split
  · exact b n q k k0 k1
  · exact a n q i i0 i1
theorem PQ9.upd {f g : Int → Int} {m j k : Int} (a : PQ9 f g m) (k0 : 0 ≤ k) (k1 : k < m) : PQ9 f (zup g j (g k)) m := a.put a k0 k1
