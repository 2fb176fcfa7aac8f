def RJ6 : String := "java/lang/Integer"
abbrev cJ7_copyOf_9075b : ByteArray := prog_47_method_121_code
def yJ7_copyOf_9075b : MethodName := ⟨RJ7, "copyOf", "([BI)[B"⟩
abbrev cJ7_copyOfRange_39247 : ByteArray := prog_47_method_132_code
def yJ7_copyOfRange_39247 : MethodName := ⟨RJ7, "copyOfRange", "([BII)[B"⟩
abbrev cJ7_copyOfRangeByte_39247 : ByteArray := prog_47_method_133_code
def yJ7_copyOfRangeByte_39247 : MethodName := ⟨RJ7, "copyOfRangeByte", "([BII)[B"⟩
abbrev cJ7_checkLength_df160 : ByteArray := prog_47_method_131_code
def yJ7_checkLength_df160 : MethodName := ⟨RJ7, "checkLength", "(II)V"⟩
abbrev cJ6_stringSize_0f7a4 : ByteArray := prog_32_method_13_code
def yJ6_stringSize_0f7a4 : MethodName := ⟨RJ6, "stringSize", "(I)I"⟩
abbrev cJ6_getChars_ba4f3 : ByteArray := prog_32_method_12_code
def yJ6_getChars_ba4f3 : MethodName := ⟨RJ6, "getChars", "(II[B)I"⟩
abbrev cJ1_canEncode_fc78d : ByteArray := prog_40_method_3_code
def yJ1_canEncode_fc78d : MethodName := ⟨RJ1, "canEncode", "(C)Z"⟩
abbrev cJ1_canEncode_9a6ad : ByteArray := prog_40_method_4_code
def yJ1_canEncode_9a6ad : MethodName := ⟨RJ1, "canEncode", "(I)Z"⟩
abbrev cJ0_getBytes_840e7 : ByteArray := prog_37_method_147_code
def yJ0_getBytes_840e7 : MethodName := ⟨RJ0, "getBytes", "([BIB)V"⟩
abbrev cJ0_init_81219 : ByteArray := prog_37_method_53_code
def yJ0_init_81219 : MethodName := ⟨RJ0, "<init>", "(Ljava/lang/StringBuilder;)V"⟩
abbrev cJ0_init_db425 : ByteArray := prog_37_method_150_code
def yJ0_init_db425 : MethodName := ⟨RJ0, "<init>", "(Ljava/lang/AbstractStringBuilder;Ljava/lang/Void;)V"⟩
abbrev cJ0_equals_9ea2d : ByteArray := prog_37_method_66_code
def yJ0_equals_9ea2d : MethodName := ⟨RJ0, "equals", "(Ljava/lang/Object;)Z"⟩
abbrev cJ1_equals_b5fdf : ByteArray := prog_40_method_13_code
def yJ1_equals_b5fdf : MethodName := ⟨RJ1, "equals", "([B[B)Z"⟩
abbrev cJ0_indexOf_2f485 : ByteArray := prog_37_method_84_code
def yJ0_indexOf_2f485 : MethodName := ⟨RJ0, "indexOf", "(Ljava/lang/String;)I"⟩
abbrev cJ1_indexOf_b82b6 : ByteArray := prog_40_method_24_code
def yJ1_indexOf_b82b6 : MethodName := ⟨RJ1, "indexOf", "([B[B)I"⟩
abbrev cJ1_indexOf_5af95 : ByteArray := prog_40_method_25_code
def yJ1_indexOf_5af95 : MethodName := ⟨RJ1, "indexOf", "([BI[BII)I"⟩
abbrev cJ0_indexOf_0f7a4 : ByteArray := prog_37_method_79_code
def yJ0_indexOf_0f7a4 : MethodName := ⟨RJ0, "indexOf", "(I)I"⟩
abbrev cJ0_indexOf_7cf53 : ByteArray := prog_37_method_80_code
def yJ0_indexOf_7cf53 : MethodName := ⟨RJ0, "indexOf", "(II)I"⟩
abbrev cJ1_indexOf_4cfef : ByteArray := prog_40_method_22_code
def yJ1_indexOf_4cfef : MethodName := ⟨RJ1, "indexOf", "([BIII)I"⟩
abbrev cJ1_indexOfChar_4cfef : ByteArray := prog_40_method_23_code
def yJ1_indexOfChar_4cfef : MethodName := ⟨RJ1, "indexOfChar", "([BIII)I"⟩
/-- bytes of a row, as counted numbers -/
theorem fit_rng {x : Int32} (h : fits .byte (.int x) = true) : -128 ≤ x.toInt ∧ x.toInt ≤ 127 := by
  simp only [fits, Bool.and_eq_true, decide_eq_true_eq] at h
  have h1 := Int32.le_iff_toInt_le.mp h.1
  have h2 := Int32.le_iff_toInt_le.mp h.2
  exact ⟨h1, h2⟩
theorem rng_fit {z : Int} (h0 : -128 ≤ z) (h1 : z ≤ 127) : fits .byte (.int (zI z)) = true := by
  have e := zI_toInt (z := z) (by omega) (by omega)
  simp only [fits, Bool.and_eq_true, decide_eq_true_eq]
  refine ⟨Int32.le_iff_toInt_le.mpr ?_, Int32.le_iff_toInt_le.mpr ?_⟩
  · rw [e]; exact h0
  · rw [e]; exact h1
theorem byt_az (g : Nat → Int32) (h : sb_Fit g) : ∃ a : Int → Int, g = (fun j : Nat => zI (a (j : Int))) ∧ ∀ j : Int, -128 ≤ a j ∧ a j ≤ 127 := by
  refine ⟨fun j => (g j.toNat).toInt, funext (fun j => ?_), fun j => fit_rng (h j.toNat)⟩
  show g j = zI ((g ((j : Int).toNat)).toInt)
  rw [Int.toNat_natCast]
  exact (Int32.ofInt_toInt _).symm
theorem az_fit {a : Int → Int} (h : ∀ j : Int, -128 ≤ a j ∧ a j ≤ 127) : sb_Fit (fun j : Nat => zI (a (j : Int))) := fun j => rng_fit (h j).1 (h j).2
theorem fitL {l : List Int32} (h : ∀ x ∈ l, fits .byte (.int x) = true) (j : Nat) : fits .byte (.int (l.getD j 0)) = true := by
  rw [List.getD_eq_getElem?_getD]
  cases e : l[j]? with
  | none => rfl
  | some v => exact h v (List.mem_of_getElem? e)
theorem nar_byte (x : Int32) : ∃ e : Int, vp_nar .byte x = zI e ∧ (-128 ≤ e ∧ e ≤ 127) := by
  refine ⟨x.toInt8.toInt32.toInt, (Int32.ofInt_toInt _).symm, ?_⟩
  rw [Int8.toInt_toInt32]
  have h1 := Int8.le_toInt x.toInt8
  have h2 := Int8.toInt_lt x.toInt8
  omega
theorem zI_i2b {e : Int} (h0 : -128 ≤ e) (h1 : e ≤ 127) : (zI e).toInt8.toInt32 = zI e := by
  have k : ∀ k : Fin 256, (zI ((k.val : Int) - 128)).toInt8.toInt32 = zI ((k.val : Int) - 128) := by decide +kernel
  have := k ⟨(e + 128).toNat, by omega⟩
  rw [show (((⟨(e + 128).toNat, by omega⟩ : Fin 256).val : Nat) : Int) - 128 = e by show (((e + 128).toNat : Nat) : Int) - 128 = e; omega] at this
  exact this
theorem zI_narB {e : Int} (h0 : -128 ≤ e) (h1 : e ≤ 127) : vp_nar .byte (zI e) = zI e := zI_i2b h0 h1
/-- a String that stands in the world, for a callee whose world has it not -/
theorem vs_ofW {D : va_G} {cl : List vw_C} {tys : List (ClassId × FieldType)} {ws : va_W} {H H' : Heap} {A A' : Nat → Prop} {U : State} {a v n t : Nat} (k0 k1 : Nat) {cB : ClassId} {f : Nat → Int32} {h z : Value} {a' v' n' : Nat} {f' : Nat → Int32}
    (hs : vs_S a' v' n' f' A' U H') (hK : va_K D cl tys U) (hP : va_P D cl ws H) (hcl : cl[22]? = some (RJ0, TJ0, 4)) (h0 : ws[k0]? = some (a, .inr (22, [.ref v, .int 0, h, z]))) (h1 : ws[k1]? = some (v, .inl (cB, n, .inl f))) (ht : tys[t]? = some (cB, .byte)) (na : ¬ A a) (nv : ¬ A v) : vs_S a v n f A U H := by
  obtain ⟨r, hr, cell, c1, c2, c3, c4⟩ := hP k0 _ h0
  have hr' : some r = some (RJ0, TJ0, 4) := hr.symm.trans hcl
  cases hr'
  obtain ⟨K1, K2⟩ := hK.1 22 _ hcl
  refine ⟨⟨cell, c1, by rw [c3]; rfl, by rw [c2]; exact K2.1, na⟩, ?_, ?_, ?_⟩
  · obtain ⟨cf, kf, fi, fd, q1, q2⟩ := K1 1 (by decide)
    obtain ⟨cf', k', i', f', cell', e1, e2, -⟩ := hs.2.1
    have q3 : U.fieldFound? "java/lang/String" "coder" "B" = some (cf, kf, fi, fd) := q1
    cases q3.symm.trans e1
    exact ⟨cf, kf, fi, fd, cell, q3, e2, c1, (by rw [c3]; exact (fun e => by cases e)), (by rw [q2]; exact c4 1 (by decide)), na⟩
  · obtain ⟨cf, kf, fi, fd, q1, q2⟩ := K1 0 (by decide)
    obtain ⟨cf', k', i', f', cell', e1, e2, -⟩ := hs.2.2.1
    have q3 : U.fieldFound? "java/lang/String" "value" "[B" = some (cf, kf, fi, fd) := q1
    cases q3.symm.trans e1
    exact ⟨cf, kf, fi, fd, cell, q3, e2, c1, (by rw [c3]; exact (fun e => by cases e)), (by rw [q2]; exact c4 0 (by decide)), na⟩
  · have hc : H[v]? = some (arrV cB n (fun j => .int (f j))) := hP k1 _ h1
    refine ⟨arrV cB n (fun j => .int (f j)), hc, (hK.2 t _ ht).1 n _, (fun e => by cases e), (by rw [arrV_size]; exact Nat.le_refl _), (by rw [arrV_size]), fun j hj => arrV_read _ _ hj, nv⟩
/-- decimal digits: x has at most k of them -/
def DGT (x k : Int) : Prop := 0 ≤ x ∧ 1 ≤ k ∧ x < 10 ^ k.toNat
def P10 (k : Int) : Int := 10 ^ k.toNat
theorem P10_1 : P10 1 = 10 := rfl
theorem P10_10 : P10 10 = 10000000000 := rfl
theorem P10_s {k : Int} (h : 0 ≤ k) : P10 (k + 1) = 10 * P10 k := by
  unfold P10
  rw [show (k + 1).toNat = k.toNat + 1 by omega, Int.pow_succ, Int.mul_comm]
theorem P10_pos (k : Int) : 1 ≤ P10 k := by
  unfold P10
  have : (0 : Int) < 10 ^ k.toNat := Int.pow_pos (by decide)
  omega
theorem P10_le {k : Int} (h : k ≤ 9) : P10 k ≤ 1000000000 := by
  unfold P10
  have : (10 : Int) ^ k.toNat ≤ 10 ^ 9 := by
    have h2 := Nat.pow_le_pow_right (n := 10) (by decide) (show k.toNat ≤ 9 by omega)
    exact_mod_cast h2
  exact this
theorem DGT.of {x k : Int} (h0 : 0 ≤ x) (h1 : 1 ≤ k) (h2 : x < P10 k) : DGT x k := ⟨h0, h1, h2⟩
theorem DGT.three {x k : Int} (h : DGT x k) (hx : 100 ≤ x) : 3 ≤ k := by
  obtain ⟨a, b, c⟩ := h
  rcases Int.lt_or_le k 3 with q | q
  · have : k = 1 ∨ k = 2 := by omega
    rcases this with e | e <;> rw [e] at c <;> (have d : x < 100 := Int.lt_of_lt_of_le c (by decide)) <;> omega
  · exact q
theorem DGT.two {x k : Int} (h : DGT x k) (hx : 10 ≤ x) : 2 ≤ k := by
  obtain ⟨a, b, c⟩ := h
  rcases Int.lt_or_le k 2 with q | q
  · obtain rfl : k = 1 := by omega
    have d : x < 10 := c
    omega
  · exact q
theorem DGT.step {x k : Int} (h : DGT x k) (hx : 100 ≤ x) : DGT (x / 100) (k - 2) := by
  have t := h.three hx
  obtain ⟨a, b, c⟩ := h
  refine ⟨by omega, by omega, ?_⟩
  have e : (10 : Int) ^ k.toNat = 100 * 10 ^ (k - 2).toNat := by
    rw [show k.toNat = (k - 2).toNat + 2 by omega, Int.pow_add, Int.mul_comm]; rfl
  rw [e] at c
  omega
/-- division of a number that is at most 0 -/
theorem zI_ndiv {a : Int} (k : Nat) {y : Int32} (h0 : -2147483648 ≤ a) (h1 : a ≤ 0) (hy : y.toInt = (k : Int)) (hk : 1 < k) : zI a / y = zI (-(-a / (k : Int))) := by
  have hk0 : (0 : Int) ≤ -a / (k : Int) := Int.ediv_nonneg (by omega) (by omega)
  have hk1 : -a / (k : Int) ≤ -a := Int.ediv_le_self _ (by omega)
  apply Int32.toInt_inj.mp
  rw [Int32.toInt_div_of_ne_right _ _ (fun e => by rw [e] at hy; have : (-1 : Int) = (k : Int) := hy; omega), zI_toInt (by omega) (by omega), hy]
  have e : a.tdiv (k : Int) = -(-a / (k : Int)) := by
    have e2 := Int.neg_tdiv (-a) (k : Int)
    rw [Int.neg_neg] at e2
    rw [e2, Int.tdiv_eq_ediv_of_nonneg (by omega)]
  rw [e, zI_toInt ?_ (by omega)]
  have hk2 : -a / (k : Int) ≤ 1073741824 := by
    have : -a / (k : Int) * 2 ≤ -a := by
      have h2 : -a / (k : Int) * 2 ≤ -a / (k : Int) * (k : Int) := Int.mul_le_mul_of_nonneg_left (by omega) hk0
      have h3 := Int.ediv_mul_le (-a) (show (k : Int) ≠ 0 by omega)
      omega
    omega
  omega
theorem zI_neg (a : Int) : -(zI a) = zI (-a) := by
  apply Int32.toInt_inj.mp
  unfold zI
  rw [Int32.ofInt_neg]
/-- a number's sign takes one letter; what it is without its sign -/
def rSg (x : Int) : Int := if x < 0 then 1 else 0
def rAb (x : Int) : Int := if x < 0 then -x else x
theorem rSg_spec (x : Int) : (x < 0 ∧ rSg x = 1 ∧ rAb x = -x) ∨ (0 ≤ x ∧ rSg x = 0 ∧ rAb x = x) := by
  unfold rSg rAb
  rcases Int.lt_or_le x 0 with h | h
  · exact Or.inl ⟨h, by rw [if_pos h], by rw [if_pos h]⟩
  · exact Or.inr ⟨h, by rw [if_neg (by omega)], by rw [if_neg (by omega)]⟩
theorem DGT.wk {x k k2 : Int} (h : DGT x k) (hk : k ≤ k2) : DGT x k2 := by
  obtain ⟨a, b, c⟩ := h
  refine ⟨a, by omega, Int.lt_of_lt_of_le c ?_⟩
  have h2 := Nat.pow_le_pow_right (n := 10) (by decide) (show k.toNat ≤ k2.toNat by omega)
  exact_mod_cast h2
theorem cls_eqB {D : va_G} {cl : List vw_C} {tys : List (ClassId × FieldType)} {s : State} {a b : ClassId} (hK : va_K D cl tys s) (t0 t1 : Nat) (h0 : tys[t0]? = some (a, .byte)) (h1 : tys[t1]? = some (b, .byte)) : a = b := by
  have x := (hK.2 t0 _ h0).2
  have y := (hK.2 t1 _ h1).2
  exact Option.some.inj (x.symm.trans y)
/-- a letter of a text that stands outside -/
def chF (f : Nat → Int32) (i : Int) : Int := (f i.toNat).toInt
theorem chF_z (f : Nat → Int32) {e : Int} (h0 : 0 ≤ e) (h1 : e < 2147483648) : f (zI e).toNatClampNeg = zI (chF f e) := by
  rw [zI_cl h0 h1]
  exact (Int32.ofInt_toInt _).symm
/-- its letters are of ASCII -/
def ASC (f : Nat → Int32) : Prop := ∀ j : Nat, 0 ≤ (f j).toInt ∧ (f j).toInt ≤ 127
theorem ASC.ch {f : Nat → Int32} (h : ASC f) (i : Int) : 0 ≤ chF f i ∧ chF f i ≤ 127 := h _
theorem ascL {l : List Int32} (h : ∀ x ∈ l, 0 ≤ x.toInt ∧ x.toInt ≤ 127) : ASC (fun j : Nat => l.getD j 0) := fun j => by
  show 0 ≤ (l.getD j 0).toInt ∧ (l.getD j 0).toInt ≤ 127
  rw [List.getD_eq_getElem?_getD]
  cases e : l[j]? with
  | none => exact ⟨by decide, by decide⟩
  | some v => exact h v (List.mem_of_getElem? e)
theorem zI_and255 {e : Int} (h0 : 0 ≤ e) (h1 : e ≤ 127) : zI e &&& 255 = zI e := by
  have k : ∀ k : Fin 128, zI (k.val : Int) &&& 255 = zI (k.val : Int) := by decide +kernel
  have := k ⟨e.toNat, by omega⟩
  rw [show (((⟨e.toNat, by omega⟩ : Fin 128).val : Nat) : Int) = e by show ((e.toNat : Nat) : Int) = e; omega] at this
  exact this
/-- the signs, and how many spaces stand before a place among them -/
def opsF : Nat → Int32 := fun j : Nat => ([32, 43, 32, 45, 32, 42, 32, 47, 32, 37, 32, 38, 32, 124, 32, 94, 32, 60, 60, 32, 62, 62, 32, 60, 32, 60, 61, 32, 61, 61, 32, 33, 61, 32] : List Int32).getD j 0
def spN : Nat → Int
  | 0 => 0
  | n + 1 => spN n + if opsF n = 32 then 1 else 0
def SPF (e : Int) : Int := spN e.toNat
theorem ops_sp {e : Int} (h0 : 0 ≤ e) (h1 : e < 34) : (chF opsF e = 32 ∧ SPF (e + 1) = SPF e + 1) ∨ (chF opsF e ≠ 32 ∧ SPF (e + 1) = SPF e) := by
  have k : ∀ k : Fin 34, (chF opsF (k.val : Int) = 32 ∧ SPF ((k.val : Int) + 1) = SPF (k.val : Int) + 1) ∨ (chF opsF (k.val : Int) ≠ 32 ∧ SPF ((k.val : Int) + 1) = SPF (k.val : Int)) := by decide +kernel
  have := k ⟨e.toNat, by omega⟩
  rw [show (((⟨e.toNat, by omega⟩ : Fin 34).val : Nat) : Int) = e by show ((e.toNat : Nat) : Int) = e; omega] at this
  exact this
theorem ops_le {e : Int} (h0 : 0 ≤ e) (h1 : e ≤ 34) (h : SPF e ≤ 14) : e ≤ 33 := by
  rcases Int.lt_or_le e 34 with q | q
  · omega
  · obtain rfl : e = 34 := by omega
    have : ¬ SPF 34 ≤ 14 := by decide +kernel
    exact absurd h this
theorem ops_0 : SPF 0 = 0 := rfl
theorem ops_rng {e : Int} (h0 : 0 ≤ e) (h1 : e ≤ 34) : 0 ≤ SPF e ∧ SPF e ≤ 15 := by
  have k : ∀ k : Fin 35, 0 ≤ SPF (k.val : Int) ∧ SPF (k.val : Int) ≤ 15 := by decide +kernel
  have := k ⟨e.toNat, by omega⟩
  rw [show (((⟨e.toNat, by omega⟩ : Fin 35).val : Nat) : Int) = e by show ((e.toNat : Nat) : Int) = e; omega] at this
  exact this
section LDW
variable {p : Program} {l : Launch} {e : Env} {R : Room} {s : State} {m : MethodId} {args : Array Value} {below : List Frame} {meth : Method} {c : Code} {H : Heap} {locs : List Loc} {cells slots : Nat} {Q : State → Prop}
variable {cc : ByteArray} {pc : Nat} {ls : Array Slot} {rest : List Value}
/-- a text's constant, by the wide instruction -/
theorem va_ldcwS (hexec : p.tables.exec = Jvm.exec) (hb : c.code = cc) {own tx : String} {index q : Nat} (hown : s.vm.findClass own = some m.cls) (hZ : vk_R own index tx q s) (hdg : decode cc pc = .ok (.ldc_w index, 3))
    (k : W p l e R s m args below meth c H locs cells slots Q (F0 m (pc + 3) ls (.ref q :: rest))) : W p l e R s m args below meth c H locs cells slots Q (F0 m pc ls rest) := by
  intro T hT X
  obtain ⟨t, a1, b1⟩ := k T hT X
  refine ⟨t, ?_, b1⟩
  obtain ⟨kc, cf, i, a', hk, hcf, hcp, -, hr, hev'⟩ := Cond.stringRef_spec hown hZ.1
  cases hZ.2.symm.trans hev'
  obtain ⟨k', hk', he⟩ := X.warmed.alike.2.2 _ _ hk
  have hr' : k'.resolved[index]? = some (some (.string q)) := by
    rcases X.warmed.entry hk hk' index with h | ⟨h, -⟩
    · rw [h]; exact hr
    · rw [hr] at h; cases h
  have hd' : decode c.code (F0 m pc ls rest).pc = .ok (.ldc_w index, 3) := by rw [hb]; exact hdg
  jvm_step X.here [hexec, hd', ldc_w.wp_string (s := T) (f := F0 m pc ls rest) X.here.top hk' (by rw [he]; exact hcf) hcp hr']
  exact a1
end LDW
theorem chF_rng (f : Nat → Int32) (e : Int) : -2147483648 ≤ chF f e ∧ chF f e ≤ 2147483647 := by
  have := xI_rng (f e.toNat)
  unfold chF
  omega
theorem chF_az (a : Int → Int) {e : Int} (h0 : 0 ≤ e) (h : -2147483648 ≤ a e ∧ a e ≤ 2147483647) : chF (fun j : Nat => zI (a (j : Int))) e = a e := by
  unfold chF
  show (zI (a ((e.toNat : Nat) : Int))).toInt = a e
  rw [Int.toNat_of_nonneg h0, zI_toInt (by omega) (by omega)]
/-- a cell of the world that isn't handed to a callee is none of what it may change -/
theorem va_outC {D : va_G} {cl : List vw_C} {A0 : Nat → Prop} {ws wc : va_W} {H : Heap} (hP : va_P D cl ws H) (hD : va_D A0 ws) (isC : List Nat) (hC : isC.map (fun i => ws[i]?) = wc.map some) (k : Nat) {a : Nat} {e : va_E} (hk : ws[k]? = some (a, e)) (hn : k ∉ isC) : ¬ va_A wc H.size a := by
  intro h
  rcases h with ⟨j, e', hj⟩ | h
  · have h1 : (isC.map (fun i => ws[i]?))[j]? = some (some (a, e')) := by rw [hC, List.getElem?_map, hj]; rfl
    rw [List.getElem?_map] at h1
    obtain ⟨i, hi, hw⟩ := Option.map_eq_some_iff.mp h1
    have := hD.1 i k _ _ hw hk rfl
    exact hn (this ▸ List.mem_of_getElem? hi)
  · have hat := hP k _ hk
    have : a < H.size := by
      cases e with
      | inl q => exact (Array.getElem?_eq_some_iff.mp hat).1
      | inr o => obtain ⟨r, -, cell, c1, -⟩ := hat; exact (Array.getElem?_eq_some_iff.mp c1).1
    omega
theorem cpy_pre {f : Nat → Int32} {a nf : Int → Int} {sp dp n : Nat} (e : va_cpy f (fun j : Nat => zI (a (j : Int))) sp dp n = fun j : Nat => zI (nf (j : Int))) (ra : ∀ j : Int, -128 ≤ a j ∧ a j ≤ 127) (rf : ∀ j : Int, -128 ≤ nf j ∧ nf j ≤ 127) {j : Int} (j0 : 0 ≤ j) (j1 : j < (dp : Int)) : nf j = a j := by
  have h := congrFun e j.toNat
  simp only [va_cpy] at h
  rw [if_neg (by omega)] at h
  have h2 := congrArg Int32.toInt h
  rw [zI_toInt (by have := ra ((j.toNat : Nat) : Int); omega) (by have := ra ((j.toNat : Nat) : Int); omega), zI_toInt (by have := rf ((j.toNat : Nat) : Int); omega) (by have := rf ((j.toNat : Nat) : Int); omega), Int.toNat_of_nonneg j0] at h2
  exact h2.symm
theorem cpy_at {f : Nat → Int32} {a nf : Int → Int} {sp dp n : Nat} (e : va_cpy f (fun j : Nat => zI (a (j : Int))) sp dp n = fun j : Nat => zI (nf (j : Int))) (rf : ∀ j : Int, -128 ≤ nf j ∧ nf j ≤ 127) (hn : 0 < n) : nf ((dp : Nat) : Int) = chF f ((sp : Nat) : Int) := by
  have h := congrFun e dp
  simp only [va_cpy] at h
  rw [if_pos (by omega), Nat.sub_self, Nat.add_zero] at h
  have h2 := congrArg Int32.toInt h
  rw [zI_toInt (by have := rf ((dp : Nat) : Int); omega) (by have := rf ((dp : Nat) : Int); omega)] at h2
  exact h2.symm
