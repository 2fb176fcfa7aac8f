theorem pE_str {P : PO} {x : Nat} (h : P.kd x = 13) : pE P x = strE (P.le x) := by unfold pE; rw [if_neg (by omega), if_neg (by omega), if_neg (by omega), if_neg (by omega), if_neg (by omega), if_pos h]
/-- a text comes -/
def PO.mstr (P : PO) (x v : Nat) : PO := P.at9 x 13 (fun _ => 0) (fun _ => v) (fun _ => none) (fun _ => 0) (P.ac x)
theorem mstr_le (P : PO) (x v : Nat) : (P.mstr x v).le x = v := by simp [PO.mstr, PO.at9, PO.le]
theorem mstr_kd (P : PO) (x v : Nat) : (P.mstr x v).kd x = 13 := at9_kd _ _ _ _ _ _ _ _
theorem pE_mstr (P : PO) (x v : Nat) : va_up (pE P) x (strE v) = pE (P.mstr x v) := by
  have e := pE_at9 P x 13 (fun _ => 0) (fun _ => v) (fun _ => none) (fun _ => 0) (P.ac x)
  have d := pE_str (mstr_kd P x v)
  rw [mstr_le] at d
  have e2 : va_up (pE P) x (pE (P.mstr x v) x) = pE (P.mstr x v) := e
  rw [d] at e2
  exact e2
section TXT
variable {L L' L2 : List Nat} {P P' P2 : PO} {cB cO cI cZ : ClassId} {x ed : Nat}
/-- a text of the pool, and its bytes -/
def TXS (L : List Nat) (P : PO) (cB : ClassId) (x : Nat) : Prop := x ∈ L ∧ P.kd x = 13 ∧ P.le x ∈ L ∧ P.kd (P.le x) = 46 ∧ P.ac (P.le x) = cB ∧ P.an (P.le x) ≤ 9000 ∧ ∀ j : Int, -128 ≤ P.ia (P.le x) j ∧ P.ia (P.le x) j ≤ 127
theorem TXS.ext (h : TXS L P cB x) (e : EXT9 L P L' P') : TXS L' P' cB x := by
  obtain ⟨a, b, c, d, f, g, h⟩ := h
  have m := e x a
  have m2 := e (P.le x) c
  have l : P'.le x = P.le x := m.2.2.1 1
  have ea : P'.ia (P.le x) = P.ia (P.le x) := m2.2.2.2.2.1
  have en : P'.an (P.le x) = P.an (P.le x) := m2.2.2.1 1
  exact ⟨m.1, (m.2.2.1 0).trans b, by rw [l]; exact m2.1, by rw [l]; exact (m2.2.2.1 0).trans d, by rw [l]; exact m2.2.2.2.2.2.trans f, by rw [l, en]; exact g, fun j => by rw [l, ea]; exact h j⟩
/-- all that has come are texts and rows of numbers -/
def TXN (L L' : List Nat) (P' : PO) : Prop := ∀ z : Nat, z ∈ L' → z ∉ L → P'.kd z = 13 ∨ 40 ≤ P'.kd z
theorem TXN.refl (L : List Nat) (P : PO) : TXN L L P := fun _ m n => absurd m n
theorem TXN.trans (h : TXN L L' P') (e : EXT9 L' P' L2 P2) (k : TXN L' L2 P2) : TXN L L2 P2 := fun z m n => by
  by_cases q : z ∈ L'
  · have s : P2.kd z = P'.kd z := (e z q).2.2.1 0
    rw [s]; exact h z q n
  · exact k z m q
theorem GLF.txt (h : GLF L P cO cI cZ ed) (e : EXT9 L P L' P') (t : TXN L L' P') : GLF L' P' cO cI cZ ed := h.ext e (fun z m n => by
  have q := t z m n
  exact ⟨fun k => by omega, fun k => by omega, fun k => by omega, fun k => by omega⟩)
/-- the text x of the address e (the empty one), or one of the pool -/
def TXT (L : List Nat) (P : PO) (cB : ClassId) (e x : Nat) : Prop := x = e ∨ TXS L P cB x
theorem TXT.ext {e : Nat} (h : TXT L P cB e x) (k : EXT9 L P L' P') : TXT L' P' cB e x := h.imp id (fun q => q.ext k)
/-- a text with its bytes joins the pool -/
theorem txs_new {v n : Nat} {a : Int → Int} (hv : v ∉ L) (hx : x ∉ v :: L) (hn : n ≤ 9000) (ha : ∀ j : Int, -128 ≤ a j ∧ a j ≤ 127) : EXT9 L P (x :: v :: L) ((P.mnum v 46 0 cB n a).mstr x v) ∧ TXN L (x :: v :: L) ((P.mnum v 46 0 cB n a).mstr x v) ∧ TXS (x :: v :: L) ((P.mnum v 46 0 cB n a).mstr x v) cB x := by
  have e1 : EXT9 L P (v :: L) (P.mnum v 46 0 cB n a) := EXT9.one hv
  have e2 : EXT9 (v :: L) (P.mnum v 46 0 cB n a) (x :: v :: L) ((P.mnum v 46 0 cB n a).mstr x v) := EXT9.one hx
  obtain ⟨⟨m1, m2, m3, m4, m5⟩, m6⟩ := mnum_arf L P v 46 0 cB n a
  have sv := e2 v List.mem_cons_self
  have lx := mstr_le (P.mnum v 46 0 cB n a) x v
  have kx := mstr_kd (P.mnum v 46 0 cB n a) x v
  have kv : ((P.mnum v 46 0 cB n a).mstr x v).kd v = 46 := (sv.2.2.1 0).trans m2
  refine ⟨e1.trans e2, fun z m nz => ?_, List.mem_cons_self, kx, ?_, ?_, ?_, ?_, ?_⟩
  · rcases List.mem_cons.mp m with q | q
    · rw [q]; exact Or.inl kx
    · rcases List.mem_cons.mp q with q | q
      · rw [q]; exact Or.inr (by omega)
      · exact absurd q nz
  · rw [lx]; exact sv.1
  · rw [lx]; exact kv
  · rw [lx]; exact sv.2.2.2.2.2.trans m3
  · rw [lx, show ((P.mnum v 46 0 cB n a).mstr x v).an v = n from (sv.2.2.1 1).trans m5]; exact hn
  · intro j
    rw [lx, show ((P.mnum v 46 0 cB n a).mstr x v).ia v = a from sv.2.2.2.2.1.trans m6]; exact ha j
end TXT
theorem pl_ix {X : va_W} {L : List Nat} {E : Nat → va_E} {x : Nat} (h : x ∈ L) : ∃ k : Nat, X.length ≤ k ∧ (X ++ va_pl L E)[k]? = some (x, E x) := by
  obtain ⟨i, hi⟩ := List.mem_iff_getElem?.mp h
  refine ⟨X.length + i, by omega, ?_⟩
  rw [List.getElem?_append_right (by omega), show X.length + i - X.length = i by omega]
  unfold va_pl
  rw [List.getElem?_map, hi]
  rfl
/-- a text of the pool, for a callee whose world has it not -/
theorem vs_ofP {D : va_G} {cl : List vw_C} {tys : List (ClassId × FieldType)} {X wc : va_W} {L : List Nat} {P : PO} {H H' : Heap} {A0 A' : Nat → Prop} {U : State} {x ti : Nat} {cB : ClassId} {a' v' n' : Nat} {f' : Nat → Int32}
    (hs : vs_S a' v' n' f' A' U H') (hK : va_K D cl tys U) (hP : va_P D cl (X ++ va_pl L (pE P)) H) (hD : va_D A0 (X ++ va_pl L (pE P))) (hcl : cl[22]? = some (RJ0, TJ0, 4)) (t : TXS L P cB x) (ht : tys[ti]? = some (cB, .byte)) (isC : List Nat) (hC : isC.map (fun i => (X ++ va_pl L (pE P))[i]?) = wc.map some) (hlt : ∀ i ∈ isC, i < X.length) :
    vs_S x (P.le x) (P.an (P.le x)) (fun j : Nat => zI (P.ia (P.le x) (j : Int))) (va_A wc H.size) U H := by
  obtain ⟨a, b, c, d, f, g, h⟩ := t
  obtain ⟨k0, l0, q0⟩ := pl_ix (X := X) (E := pE P) a
  obtain ⟨k1, l1, q1⟩ := pl_ix (X := X) (E := pE P) c
  have q0' := q0
  have q1' := q1
  rw [pE_str b] at q0'
  rw [pE_40 (by omega), f] at q1'
  exact vs_ofW k0 k1 hs hK hP hcl q0' q1' ht (va_outC hP hD isC hC k0 q0 (fun m => by have := hlt k0 m; omega)) (va_outC hP hD isC hC k1 q1 (fun m => by have := hlt k1 m; omega))
theorem str_recv {D : va_G} {cl : List vw_C} {tys : List (ClassId × FieldType)} {X : va_W} {L : List Nat} {P : PO} {H : Heap} {U : State} {x : Nat} {cB : ClassId} (hK : va_K D cl tys U) (hP : va_P D cl (X ++ va_pl L (pE P)) H) (hcl : cl[22]? = some (RJ0, TJ0, 4)) (t : TXS L P cB x) : ∃ cell : Cell, H[x]? = some cell ∧ cell.vm.isStatics = false ∧ U.vm.findClass "java/lang/String" = some cell.cls := by
  obtain ⟨k0, l0, q0⟩ := pl_ix (X := X) (E := pE P) t.1
  rw [pE_str t.2.1] at q0
  obtain ⟨r, hr, cell, c1, c2, c3, -⟩ := hP k0 _ q0
  obtain ⟨-, K2⟩ := hK.1 22 _ hcl
  exact ⟨cell, c1, by rw [c3]; rfl, by rw [c2]; exact K2.1⟩
