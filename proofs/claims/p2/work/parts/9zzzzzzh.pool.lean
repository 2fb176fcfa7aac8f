/-- the i-th of a list -/
def PO.el (P : PO) (x : Nat) (i : Int) : Nat := (P.oa (P.le x) i.toNat).getD 0
/-- a list in the pool whose objects are of kind k -/
def LOK (L : List Nat) (P : PO) (cO : ClassId) (k x : Nat) : Prop := x ∈ L ∧ P.kd x = 30 ∧ (0 ≤ P.lz x ∧ P.lz x ≤ 40000) ∧ (P.lz x = 0 ∨ (P.le x ∈ L ∧ P.kd (P.le x) = 31 ∧ P.ac (P.le x) = cO ∧ P.lz x ≤ P.an (P.le x) ∧ (P.an (P.le x) : Int) ≤ 100000)) ∧ ∀ i : Int, 0 ≤ i → i < P.lz x → P.oa (P.le x) i.toNat = some (P.el x i) ∧ P.el x i ∈ L ∧ P.kd (P.el x i) = k
theorem LOK.row {L : List Nat} {P : PO} {cO : ClassId} {k x : Nat} (h : LOK L P cO k x) {i : Int} (i0 : 0 ≤ i) (i1 : i < P.lz x) : P.le x ∈ L ∧ P.kd (P.le x) = 31 ∧ P.ac (P.le x) = cO ∧ P.lz x ≤ P.an (P.le x) ∧ (P.an (P.le x) : Int) ≤ 100000 := by
  rcases h.2.2.2.1 with e | e
  · omega
  · exact e
section RECV9
variable {D : va_G} {tys : List (ClassId × FieldType)} {s : State} {X : va_W} {L : List Nat} {P : PO} {H : Heap} {x : Nat}
theorem recv_30 (hK : va_K D vwQ tys s) (hP : va_P D vwQ (X ++ va_pl L (pE P)) H) (hx : x ∈ L) (k : P.kd x = 30) : ∃ cell : Cell, H[x]? = some cell ∧ cell.vm.isStatics = false ∧ s.vm.findClass "java/util/ArrayList" = some cell.cls := by
  obtain ⟨q0, h⟩ := va_pl_get (X := X) (f := pE P) hx
  rw [pE_list k] at h
  exact va_recv hK hP (q := (RJx4a65c, TJx4a65c, 3)) (ci := 18) rfl h
theorem recv_17 (hK : va_K D vwQ tys s) (hP : va_P D vwQ (X ++ va_pl L (pE P)) H) (hx : x ∈ L) (k : P.kd x = 17) : ∃ cell : Cell, H[x]? = some cell ∧ cell.vm.isStatics = false ∧ s.vm.findClass "SsaForgeModel$Row" = some cell.cls := by
  obtain ⟨q0, h⟩ := va_pl_get (X := X) (f := pE P) hx
  rw [pE_row k] at h
  exact va_recv hK hP (q := (RX17, TX17, 7)) (ci := 21) rfl h
theorem recv_15 (hK : va_K D vwQ tys s) (hP : va_P D vwQ (X ++ va_pl L (pE P)) H) (hx : x ∈ L) (k : P.kd x = 15) : ∃ cell : Cell, H[x]? = some cell ∧ cell.vm.isStatics = false ∧ s.vm.findClass "SsaForgeModel$Phi" = some cell.cls := by
  obtain ⟨q0, h⟩ := va_pl_get (X := X) (f := pE P) hx
  rw [pE_phi k] at h
  exact va_recv hK hP (q := (RX15, TX15, 6)) (ci := 20) rfl h
theorem recv_12 (hK : va_K D vwQ tys s) (hP : va_P D vwQ (X ++ va_pl L (pE P)) H) (hx : x ∈ L) (k : P.kd x = 12) : ∃ cell : Cell, H[x]? = some cell ∧ cell.vm.isStatics = false ∧ s.vm.findClass "SsaForgeModel$Block" = some cell.cls := by
  obtain ⟨q0, h⟩ := va_pl_get (X := X) (f := pE P) hx
  rw [pE_block k] at h
  exact va_recv hK hP (q := (RX12, TX12, 5)) (ci := 19) rfl h
end RECV9
