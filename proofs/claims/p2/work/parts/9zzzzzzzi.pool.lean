theorem cls_eq {D : va_G} {cl : List vw_C} {tys : List (ClassId × FieldType)} {s : State} {a b : ClassId} (hK : va_K D cl tys s) (t0 t1 : Nat) (h0 : tys[t0]? = some (a, .object "java/lang/Object")) (h1 : tys[t1]? = some (b, .object "java/lang/Object")) : a = b := by
  obtain ⟨_, _, _, _, _, k⟩ := (hK.2 t0 _ h0).2
  obtain ⟨_, _, _, _, _, j⟩ := (hK.2 t1 _ h1).2
  exact Option.some.inj (k.symm.trans j)
theorem pl_notin {A : Nat → Prop} {X : va_W} {L : List Nat} {f : Nat → va_E} {x : Nat} {e : va_E} (hD : va_D A ((X ++ [(x, e)]) ++ va_pl L f)) : x ∉ L := fun q => by
  have d := (pl_D.mp hD).1
  rw [List.map_append, List.map_append] at d
  have := (List.nodup_append.mp d).2.2 x (List.mem_append_right _ (by simp)) x (by unfold va_pl; simp [q])
  exact this rfl
/-- a new row of objects, of the list x -/
def PO.nr9 (P : PO) (q x : Nat) (c : ClassId) (n : Nat) (f : Nat → Option Nat) : PO := P.at9 q 31 (fun _ => 0) (fun k => if k = 1 then n else x) f (fun _ => 0) c
theorem putnr (P : PO) (q x : Nat) (c : ClassId) (n : Nat) (f : Nat → Option Nat) : va_up (pE P) q (objE c n f) = pE (P.nr9 q x c n f) := by
  have h := pE_at9 P q 31 (fun _ => 0) (fun k => if k = 1 then n else x) f (fun _ => 0) c
  rw [pE_obj (at9_kd _ _ _ _ _ _ _ _)] at h
  have e : objE ((P.nr9 q x c n f).ac q) ((P.nr9 q x c n f).an q) ((P.nr9 q x c n f).oa q) = objE c n f := by simp [PO.nr9, PO.at9, PO.ac, PO.an, PO.oa]
  rw [← e]; exact h
/-- a list with another row -/
def PO.nl9 (P : PO) (x : Nat) (m : Int) (q : Nat) (z : Int) : PO := P.at9 x 30 (fun k => if k = 0 then z else m) (fun k => if k = 1 then q else if k = 7 then 1 else P.2.1 k x) (fun _ => none) (fun _ => 0) (P.ac x)
theorem putnl (P : PO) (x : Nat) (m : Int) (q : Nat) (z : Int) : va_up (pE P) x (listE m q z) = pE (P.nl9 x m q z) := by
  have h := pE_at9 P x 30 (fun k => if k = 0 then z else m) (fun k => if k = 1 then q else if k = 7 then 1 else P.2.1 k x) (fun _ => none) (fun _ => 0) (P.ac x)
  rw [pE_list (at9_kd _ _ _ _ _ _ _ _)] at h
  have e : listE ((P.nl9 x m q z).lm x) ((P.nl9 x m q z).le x) ((P.nl9 x m q z).lz x) = listE m q z := by simp [PO.nl9, PO.at9, PO.lm, PO.le, PO.lz]
  rw [← e]; exact h
/-- the same at an address -/
def SM9 (y : Nat) (P P' : PO) : Prop := (∀ f : Nat, P'.1 f y = P.1 f y) ∧ (∀ f : Nat, P'.2.1 f y = P.2.1 f y) ∧ P'.oa y = P.oa y ∧ P'.ia y = P.ia y ∧ P'.ac y = P.ac y
theorem SM9.at9 {P : PO} {x y k : Nat} {i : Nat → Int} {n : Nat → Nat} {o : Nat → Option Nat} {a : Int → Int} {c : ClassId} (h : y ≠ x) : SM9 y P (P.at9 x k i n o a c) := by
  refine ⟨fun f => ?_, fun f => ?_, ?_, ?_, ?_⟩ <;> simp [PO.at9, PO.oa, PO.ia, PO.ac, h]
theorem SM9.trans {P Q R : PO} {y : Nat} (h : SM9 y P Q) (k : SM9 y Q R) : SM9 y P R := ⟨fun f => (k.1 f).trans (h.1 f), fun f => (k.2.1 f).trans (h.2.1 f), k.2.2.1.trans h.2.2.1, k.2.2.2.1.trans h.2.2.2.1, k.2.2.2.2.trans h.2.2.2.2⟩
/-- a list with its row, which may be a new one, alone changed -/
def GL1 (x q : Nat) (L : List Nat) (P : PO) (L' : List Nat) (P' : PO) : Prop := (x ∈ L' ∧ q ∈ L' ∧ P'.kd x = 30 ∧ P'.le x = q ∧ P'.kd q = 31 ∧ P'.ow q = x ∧ P'.ow x = P.ow x ∧ P'.2.1 8 x = P.2.1 8 x ∧ P'.2.1 7 x = 1) ∧ (∀ y : Nat, y ∈ L → y ≠ P.le x → y ∈ L') ∧ (∀ y : Nat, y ∈ L' → y = x ∨ y = q ∨ y ∈ L) ∧ (∀ y : Nat, y ≠ x → y ≠ q → SM9 y P P') ∧ (q ∈ L → q = P.le x)
theorem GL1.mk {x q : Nat} {L : List Nat} {P : PO} {c : ClassId} {n : Nat} {f : Nat → Option Nat} {m z : Int} (n1 : q ∉ (L.erase x).erase (P.le x)) (n2 : x ∉ q :: (L.erase x).erase (P.le x)) : GL1 x q L P (x :: q :: (L.erase x).erase (P.le x)) ((P.nr9 q x c n f).nl9 x m q z) := by
  have xq : x ≠ q := fun e => n2 (by rw [e]; simp)
  have qx : q ≠ x := fun e => xq e.symm
  refine ⟨⟨by simp, by simp, at9_kd _ _ _ _ _ _ _ _, ?_, ?_, ?_, ?_, ?_, ?_⟩, fun y a b => ?_, fun y a => ?_, fun y a b => (SM9.at9 b).trans (SM9.at9 a), fun a => ?_⟩
  · simp [PO.nl9, PO.at9, PO.le]
  · simp [PO.nl9, PO.nr9, PO.at9, PO.kd, qx]
  · simp [PO.nl9, PO.nr9, PO.at9, PO.ow, qx]
  · simp [PO.nl9, PO.nr9, PO.at9, PO.ow, xq]
  · simp [PO.nl9, PO.nr9, PO.at9, xq]
  · simp [PO.nl9, PO.nr9, PO.at9]
  · by_cases e : y = x
    · rw [e]; simp
    · exact List.mem_cons_of_mem _ (List.mem_cons_of_mem _ (mem_er (mem_er a e) b))
  · rcases List.mem_cons.mp a with e | a
    · exact Or.inl e
    · rcases List.mem_cons.mp a with e | a
      · exact Or.inr (Or.inl e)
      · exact Or.inr (Or.inr (List.mem_of_mem_erase (List.mem_of_mem_erase a)))
  · by_cases e : q = P.le x
    · exact e
    · exact absurd (mem_er (mem_er a qx) e) n1
theorem GL1.sm {x q : Nat} {L : List Nat} {P : PO} {L' : List Nat} {P' : PO} (w : GL1 x q L P L' P') (y : Nat) (m : y ∈ L) (n : y ≠ x) (k : y ≠ P.le x) : SM9 y P P' := w.2.2.2.1 y n (fun e => k (by rw [e] at m ⊢; exact w.2.2.2.2 m))
theorem ELS.grow {x q : Nat} {L L2 : List Nat} {P P' : PO} {f : Nat → Option Nat} (h : ELS L2 P f) (s : ∀ y : Nat, y ∈ L2 → y ∈ L ∧ SM9 y P P') : ELS L P' f := fun j y e => by
  obtain ⟨a, b⟩ := h j y e
  obtain ⟨c, d⟩ := s y a
  refine ⟨c, ?_⟩
  show OBK (P'.2.1 0 y); rw [d.2.1]; exact b
