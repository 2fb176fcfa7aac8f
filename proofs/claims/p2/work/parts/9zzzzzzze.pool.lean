theorem zI_all (v : Int32) : ∃ a : Int, v = zI a := ⟨v.toInt, (Int32.ofInt_toInt v).symm⟩
/-- the contents of a row of objects set anew -/
def PO.ro9 (P : PO) (x : Nat) (f : Nat → Option Nat) : PO := (P.1, P.2.1, fun y => if y = x then f else P.2.2.1 y, P.2.2.2)
theorem ro9_at (P : PO) (x : Nat) (f : Nat → Option Nat) : (P.ro9 x f).oa x = f := by simp [PO.ro9, PO.oa]
theorem ro9_of (P : PO) {x y : Nat} (f : Nat → Option Nat) (n : y ≠ x) : (P.ro9 x f).oa y = P.oa y := by simp [PO.ro9, PO.oa, n]
theorem putobjs {P : PO} {x : Nat} {f : Nat → Option Nat} (h : P.kd x = 31) : va_up (pE P) x (objE (P.ac x) (P.an x) f) = pE (P.ro9 x f) := by
  funext y
  by_cases e : y = x
  · rw [e, va_up_self, pE_obj (show (P.ro9 x f).kd x = 31 from h), ro9_at]
    rfl
  · rw [va_up_ne _ _ e]
    simp only [pE, pK, PO.kd, PO.ro, PO.rt, PO.ra, PO.rb, PO.rA, PO.rB, PO.rg, PO.pt, PO.pn, PO.pg, PO.pp, PO.pu, PO.pr, PO.bf, PO.bs, PO.bp, PO.br, PO.be, PO.lz, PO.lm, PO.le, PO.an, PO.oa, PO.ia, PO.ac, PO.ro9, if_neg e]
    rfl
/-- a list's numbers set anew -/
def PO.ls9 (P : PO) (x : Nat) (m z : Int) : PO := (P.rw9 0 x z).rw9 1 x m
theorem putlist {P : PO} {x : Nat} {m z : Int} (h : P.kd x = 30) : va_up (pE P) x (listE m (P.le x) z) = pE (P.ls9 x m z) := by
  funext y
  by_cases e : y = x
  · rw [e, va_up_self, pE_list (show (P.ls9 x m z).kd x = 30 from h)]
    simp [PO.ls9, PO.rw9, PO.lm, PO.le, PO.lz]
  · rw [va_up_ne _ _ e]
    simp only [pE, pK, PO.kd, PO.ro, PO.rt, PO.ra, PO.rb, PO.rA, PO.rB, PO.rg, PO.pt, PO.pn, PO.pg, PO.pp, PO.pu, PO.pr, PO.bf, PO.bs, PO.bp, PO.br, PO.be, PO.lz, PO.lm, PO.le, PO.an, PO.oa, PO.ia, PO.ac, PO.ls9, PO.rw9, if_neg e]
    rfl
/-- one list and its row of objects alone changed -/
def LS1 (x : Nat) (P P' : PO) : Prop := P'.2.1 = P.2.1 ∧ P'.2.2.2 = P.2.2.2 ∧ (∀ y : Nat, y ≠ x → ∀ f : Nat, P'.1 f y = P.1 f y) ∧ ∀ a : Nat, a ≠ P.le x → P'.oa a = P.oa a
theorem LS1.of (P : PO) (x : Nat) (f : Nat → Option Nat) (m z : Int) : LS1 x P ((P.ro9 (P.le x) f).ls9 x m z) := by
  refine ⟨rfl, rfl, fun y n g => ?_, fun a n => ro9_of P f n⟩
  show (if y = x then _ else (if y = x then _ else _)) = _
  rw [if_neg n, if_neg n]; rfl
theorem ls9_lz (P : PO) (x : Nat) (m z : Int) : (P.ls9 x m z).lz x = z := by simp [PO.ls9, PO.rw9, PO.lz]
theorem LS1.list (P : PO) (x : Nat) (m z : Int) : LS1 x P (P.ls9 x m z) := by
  refine ⟨rfl, rfl, fun y n g => ?_, fun a n => rfl⟩
  show (if y = x then _ else (if y = x then _ else _)) = _
  rw [if_neg n, if_neg n]
theorem ELS.er {L : List Nat} {P : PO} {f : Nat → Option Nat} (h : ELS L P f) {x : Nat} (k : ¬ OBK (P.kd x)) : ELS (L.erase x) P f := fun j y e => by
  obtain ⟨a, b⟩ := h j y e
  exact ⟨mem_er a (fun q => k (by rw [← q]; exact b)), b⟩
theorem nobk30 {P : PO} {x : Nat} (h : P.kd x = 30) : ¬ OBK (P.kd x) := by unfold OBK; omega
theorem nobk31 {P : PO} {x : Nat} (h : P.kd x = 31) : ¬ OBK (P.kd x) := by unfold OBK; omega
theorem obk_er {L : List Nat} {P : PO} {x y : Nat} (m : y ∈ L) (b : OBK (P.kd y)) (k : ¬ OBK (P.kd x)) : y ∈ L.erase x := mem_er m (fun q => k (by rw [← q]; exact b))
theorem ELS.up {L : List Nat} {P P' : PO} {f : Nat → Option Nat} {x y : Nat} (h : ELS ((L.erase x).erase y) P f) (w : P'.2.1 = P.2.1) : ELS L P' f := fun j z e => by
  obtain ⟨a, b⟩ := h j z e
  refine ⟨List.mem_of_mem_erase (List.mem_of_mem_erase a), ?_⟩
  show OBK (P'.2.1 0 z); rw [w]; exact b
