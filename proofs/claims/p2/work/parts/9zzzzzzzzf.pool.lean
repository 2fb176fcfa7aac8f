theorem pE_n43 {P : PO} {x : Nat} (h : P.kd x = 43) : pE P x = numE (P.ac x) (P.an x) (P.ia x) := by unfold pE; rw [if_neg (by omega), if_neg (by omega), if_neg (by omega), if_neg (by omega), if_neg (by omega), if_neg (by omega), pK_num (by omega)]
theorem pE_n44 {P : PO} {x : Nat} (h : P.kd x = 44) : pE P x = numE (P.ac x) (P.an x) (P.ia x) := by unfold pE; rw [if_neg (by omega), if_neg (by omega), if_neg (by omega), if_neg (by omega), if_neg (by omega), if_neg (by omega), pK_num (by omega)]
theorem pE_n45 {P : PO} {x : Nat} (h : P.kd x = 45) : pE P x = numE (P.ac x) (P.an x) (P.ia x) := by unfold pE; rw [if_neg (by omega), if_neg (by omega), if_neg (by omega), if_neg (by omega), if_neg (by omega), if_neg (by omega), pK_num (by omega)]
/-- a table: a row of rows of numbers of the pool -/
def TBK (L : List Nat) (P : PO) (k : Nat) (c : ClassId) (f : Nat → Option Nat) (n len lo hi : Int) : Prop := ∀ j : Int, 0 ≤ j → j < n → ∃ y : Nat, f j.toNat = some y ∧ (y ∈ L ∧ P.kd y = k ∧ P.ac y = c) ∧ (len ≤ P.an y ∧ (P.an y : Int) ≤ 2000) ∧ ∀ i : Int, lo ≤ P.ia y i ∧ P.ia y i ≤ hi
section ALDR
variable {p : Program} {l : Launch} {e : Env} {R : Room} {s : State} {m : MethodId} {args : Array Value} {below : List Frame} {meth : Method} {c : Code} {H : Heap} {locs : List Loc} {cells slots : Nat} {Q : State → Prop}
variable {cc : ByteArray} {pc : Nat} {ls : Array Slot} {rest : List Value} {a : Nat} {D : va_G} {cl : List vw_C} {tys : List (ClassId × FieldType)} {ws : va_W}
/-- a row taken from a table -/
theorem va_aldr (hexec : p.tables.exec = Jvm.exec) (hb : c.code = cc) (hK : va_K D cl tys s) (hP : va_P D cl ws H) (q0 t0 : Nat) {cA : ClassId} {t : FieldType} {n : Nat} {f : Nat → Option Nat} (ha : ws[q0]? = some (a, .inl (cA, n, .inr (.inr (.inr (.inr f)))))) (ht : tys[t0]? = some (cA, .array t)) {i : Int32} (hin : vp_in i n) (hdg : decode cc pc = .ok (.aaload, 1))
    (kk : W p l e R s m args below meth c H locs cells slots Q (F0 m (pc + 1) ls (va_rf (f i.toNatClampNeg) :: rest))) : W p l e R s m args below meth c H locs cells slots Q (F0 m pc ls (.int i :: .ref a :: rest)) := by
  have hlt : i.toNatClampNeg < n := Nat.not_le.mp fun q => hin (Or.inr q)
  exact W.aald (v := va_rf (f i.toNatClampNeg)) (ty := .array t) hexec hb (hP q0 _ ha) ((hK.2 t0 _ ht).1 n (fun j => va_rf (f j))) rfl (fun q => by cases q) (by show ¬ (i < 0 ∨ (arrV _ _ _).slots.size ≤ _); rw [arrV_size]; exact hin) (by show (arrV _ _ _).slots[_]? = _; rw [arrV_read _ _ hlt]) rfl rfl hdg kk
end ALDR
