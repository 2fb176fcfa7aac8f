/-- an array of objects is of that class -/
theorem arr_cls {D : va_G} {cl : List vw_C} {tys : List (ClassId × FieldType)} {s : State} {ws : va_W} {H : Heap} {a n : Nat} {cA : ClassId} {f : Nat → Option Nat} (hK : va_K D cl tys s) (hP : va_P D cl ws H) (q0 t0 : Nat) (ha : ws[q0]? = some (a, .inl (cA, n, .inr (.inr (.inr (.inr f)))))) (ht : tys[t0]? = some (cA, .object "java/lang/Object")) : ∃ cell : Cell, H[a]? = some cell ∧ cell.vm.isStatics = false ∧ s.vm.findClass "[Ljava/lang/Object;" = some cell.cls := by
  obtain ⟨kA, comp, k1, k2, k3, k4⟩ := (hK.2 t0 _ ht).2
  exact ⟨_, hP q0 _ ha, rfl, k4⟩
theorem els_empty (L : List Nat) (P : PO) : ELS L P (fun _ => none) := fun j y e => by cases e
theorem cpy_head {f g : Nat → Option Nat} {j : Nat} {z : Int} (h : (j : Int) < z) : va_cpy f g (0 : Int).toNat (0 : Int).toNat z.toNat j = f j := by
  unfold va_cpy
  rw [if_pos (by omega)]
  congr 1; omega
