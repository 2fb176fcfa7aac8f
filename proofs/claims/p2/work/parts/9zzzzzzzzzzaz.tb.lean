theorem cls_eqZZ {D : va_G} {cl : List vw_C} {tys : List (ClassId × FieldType)} {s : State} {a b : ClassId} (hK : va_K D cl tys s) (t0 t1 : Nat) (h0 : tys[t0]? = some (a, .array .boolean)) (h1 : tys[t1]? = some (b, .array .boolean)) : a = b := by
  have k := (hK.2 t0 _ h0).2
  have j := (hK.2 t1 _ h1).2
  exact Option.some.inj (k.symm.trans j)
/-- a measure that goes down, said without cases of toNat -/
theorem mea_lt {a b : Int} {n : Nat} (h : a.toNat < n + 1) (k : b < a) (p : 0 < a) : b.toNat < n := by omega
