def zI (z : Int) : Int32 := Int32.ofInt z
def lI (z : Int) : Int64 := Int64.ofInt z
theorem zI_toInt {z : Int} (h1 : -2147483648 ≤ z) (h2 : z < 2147483648) : (zI z).toInt = z := Int32.toInt_ofInt_of_le h1 h2
theorem zI_add (a b : Int) : zI a + zI b = zI (a + b) := (Int32.ofInt_add a b).symm
theorem zI_sub (a b : Int) : zI a - zI b = zI (a - b) := (Int32.ofInt_sub a b).symm
theorem zI_mul (a b : Int) : zI a * zI b = zI (a * b) := (Int32.ofInt_mul a b).symm
theorem zI_le {a b : Int} (h1 : -2147483648 ≤ a) (h2 : a < 2147483648) (h3 : -2147483648 ≤ b) (h4 : b < 2147483648) : zI a ≤ zI b ↔ a ≤ b := by
  rw [Int32.le_iff_toInt_le, zI_toInt h1 h2, zI_toInt h3 h4]
theorem zI_lt {a b : Int} (h1 : -2147483648 ≤ a) (h2 : a < 2147483648) (h3 : -2147483648 ≤ b) (h4 : b < 2147483648) : zI a < zI b ↔ a < b := by
  rw [Int32.lt_iff_toInt_lt, zI_toInt h1 h2, zI_toInt h3 h4]
theorem zI_eq {a b : Int} (h1 : -2147483648 ≤ a) (h2 : a < 2147483648) (h3 : -2147483648 ≤ b) (h4 : b < 2147483648) : zI a = zI b ↔ a = b := by
  rw [← Int32.toInt_inj, zI_toInt h1 h2, zI_toInt h3 h4]
theorem zI_in {a : Int} {n : Nat} (h0 : 0 ≤ a) (h1 : a < n) (hn : n < 2 ^ 31) : vp_in (zI a) n := by
  rw [vp_in_iff, zI_toInt (by omega) (by omega)]
  exact ⟨h0, h1⟩
theorem zI_cl {a : Int} (h0 : 0 ≤ a) (h1 : a < 2147483648) : (zI a).toNatClampNeg = a.toNat := by
  show (zI a).toInt.toNat = a.toNat
  rw [zI_toInt (by omega) h1]
theorem zI_ld (a : Int → Int) {e : Int} (h0 : 0 ≤ e) (h1 : e < 2147483648) : (fun j : Nat => zI (a (j : Int))) (zI e).toNatClampNeg = zI (a e) := by
  show zI (a (((zI e).toNatClampNeg : Nat) : Int)) = zI (a e)
  rw [zI_cl h0 h1, Int.toNat_of_nonneg h0]
def zup (a : Int → Int) (k v : Int) : Int → Int := fun j => if j = k then v else a j
theorem zup_rng {a : Int → Int} {lo hi k v : Int} (h : ∀ j : Int, lo ≤ a j ∧ a j ≤ hi) (h1 : lo ≤ v) (h2 : v ≤ hi) : ∀ j : Int, lo ≤ zup a k v j ∧ zup a k v j ≤ hi := by
  intro j
  unfold zup
  split
  · exact ⟨h1, h2⟩
  · exact h j
theorem zI_st (a : Int → Int) {e v : Int} (h0 : 0 ≤ e) (h1 : e < 2147483648) : upd (fun j : Nat => zI (a (j : Int))) (zI e).toNatClampNeg (zI v) = (fun j : Nat => zI (zup a e v (j : Int))) := by
  funext j
  rw [zI_cl h0 h1]
  unfold upd zup
  by_cases h : j = e.toNat
  · have h' : (j : Int) = e := by omega
    rw [if_pos h, if_pos h']
  · have h' : ¬ (j : Int) = e := by omega
    rw [if_neg h, if_neg h']
theorem zup_P {P : Int → Prop} {a : Int → Int} {k v : Int} (h : ∀ j : Int, P (a j)) (hv : P v) : ∀ j : Int, P (zup a k v j) := by
  intro j
  unfold zup
  split
  · exact hv
  · exact h j
theorem lI_toInt {z : Int} (h1 : -9223372036854775808 ≤ z) (h2 : z < 9223372036854775808) : (lI z).toInt = z := Int64.toInt_ofInt_of_le h1 h2
theorem lI_add (a b : Int) : lI a + lI b = lI (a + b) := (Int64.ofInt_add a b).symm
theorem lI_sub (a b : Int) : lI a - lI b = lI (a - b) := (Int64.ofInt_sub a b).symm
theorem lI_ld (a : Int → Int) {e : Int} (h0 : 0 ≤ e) (h1 : e < 2147483648) : (fun j : Nat => lI (a (j : Int))) (zI e).toNatClampNeg = lI (a e) := by
  show lI (a (((zI e).toNatClampNeg : Nat) : Int)) = lI (a e)
  rw [zI_cl h0 h1, Int.toNat_of_nonneg h0]
theorem lI_st (a : Int → Int) {e v : Int} (h0 : 0 ≤ e) (h1 : e < 2147483648) : vp_updL (fun j : Nat => lI (a (j : Int))) (zI e).toNatClampNeg (lI v) = (fun j : Nat => lI (zup a e v (j : Int))) := by
  funext j
  rw [zI_cl h0 h1]
  unfold vp_updL zup
  by_cases h : j = e.toNat
  · have h' : (j : Int) = e := by omega
    rw [if_pos h, if_pos h']
  · have h' : ¬ (j : Int) = e := by omega
    rw [if_neg h, if_neg h']
theorem zI_l {a : Int} (h1 : -2147483648 ≤ a) (h2 : a < 2147483648) : (zI a).toInt64 = lI a := by
  apply Int64.toInt_inj.mp
  rw [Int32.toInt_toInt64, zI_toInt h1 h2, lI_toInt (by omega) (by omega)]
theorem xI_rng (x : Int32) : -2147483648 ≤ x.toInt ∧ x.toInt < 2147483648 := ⟨Int32.le_toInt x, Int32.toInt_lt x⟩
theorem xI_l (x : Int32) : x.toInt64 = lI x.toInt := by
  apply Int64.toInt_inj.mp
  have h := xI_rng x
  rw [Int32.toInt_toInt64, lI_toInt (by omega) (by omega)]
theorem lI_i (a : Int) : (lI a).toInt32 = zI a := Int64.toInt32_ofInt
theorem zI_shr {a : Int} {k : Nat} (h0 : 0 ≤ a) (h1 : a < 2147483648) (hk : k < 31) : zI a >>> (Int32.ofNat k &&& 31) = zI (a / 2 ^ k) := by
  obtain ⟨n, rfl⟩ := Int.eq_ofNat_of_zero_le h0
  have e1 : zI (n : Int) = nI n := (Int32.ofInt_eq_ofNat (n := n)).trans rfl
  rw [e1, pk_shrN (k := k) (by omega) _ (by revert hk; revert k; decide)]
  exact ((Int32.ofInt_eq_ofNat (n := n / 2 ^ k)).symm.trans (by simp [zI]))
theorem lc_lt {a b : Int} (h1 : -9223372036854775808 ≤ a) (h2 : a < 9223372036854775808) (h3 : -9223372036854775808 ≤ b) (h4 : b < 9223372036854775808) : lg_cmp (lI a) (lI b) < 0 ↔ a < b := by
  unfold lg_cmp
  simp only [gt_iff_lt, Int64.lt_iff_toInt_lt, ← Int64.toInt_inj, lI_toInt h1 h2, lI_toInt h3 h4]
  by_cases h : b < a
  · rw [if_pos h]; exact ⟨fun q => absurd q (by decide), fun q => by omega⟩
  · rw [if_neg h]
    by_cases h' : a = b
    · rw [if_pos h']; exact ⟨fun q => absurd q (by decide), fun q => by omega⟩
    · rw [if_neg h']; exact ⟨fun _ => by omega, fun _ => by decide⟩
theorem lc_eq {a b : Int} (h1 : -9223372036854775808 ≤ a) (h2 : a < 9223372036854775808) (h3 : -9223372036854775808 ≤ b) (h4 : b < 9223372036854775808) : lg_cmp (lI a) (lI b) = 0 ↔ a = b := by
  unfold lg_cmp
  simp only [gt_iff_lt, Int64.lt_iff_toInt_lt, ← Int64.toInt_inj, lI_toInt h1 h2, lI_toInt h3 h4]
  by_cases h : b < a
  · rw [if_pos h]; exact ⟨fun q => absurd q (by decide), fun q => by omega⟩
  · rw [if_neg h]
    by_cases h' : a = b
    · rw [if_pos h']; exact ⟨fun _ => h', fun _ => rfl⟩
    · rw [if_neg h']; exact ⟨fun q => absurd q (by decide), fun q => absurd q h'⟩
theorem lc_gt {a b : Int} (h1 : -9223372036854775808 ≤ a) (h2 : a < 9223372036854775808) (h3 : -9223372036854775808 ≤ b) (h4 : b < 9223372036854775808) : 0 < lg_cmp (lI a) (lI b) ↔ b < a := by
  unfold lg_cmp
  simp only [gt_iff_lt, Int64.lt_iff_toInt_lt, ← Int64.toInt_inj, lI_toInt h1 h2, lI_toInt h3 h4]
  by_cases h : b < a
  · rw [if_pos h]; exact ⟨fun _ => h, fun _ => by decide⟩
  · rw [if_neg h]
    by_cases h' : a = b
    · rw [if_pos h']; exact ⟨fun q => absurd q (by decide), fun q => by omega⟩
    · rw [if_neg h']; exact ⟨fun q => absurd q (by decide), fun q => by omega⟩
theorem i32_nlt {x y : Int32} : ¬ x < y ↔ y ≤ x := by rw [Int32.lt_iff_toInt_lt, Int32.le_iff_toInt_le]; omega
theorem lc_ge {a b : Int} (h1 : -9223372036854775808 ≤ a) (h2 : a < 9223372036854775808) (h3 : -9223372036854775808 ≤ b) (h4 : b < 9223372036854775808) : 0 ≤ lg_cmp (lI a) (lI b) ↔ b ≤ a := by
  rw [← i32_nlt, lc_lt h1 h2 h3 h4]; omega
theorem lc_le {a b : Int} (h1 : -9223372036854775808 ≤ a) (h2 : a < 9223372036854775808) (h3 : -9223372036854775808 ≤ b) (h4 : b < 9223372036854775808) : lg_cmp (lI a) (lI b) ≤ 0 ↔ a ≤ b := by
  rw [← i32_nlt, lc_gt h1 h2 h3 h4]; omega
theorem zI_dec (a k : Int) : zI a + Int32.ofInt (-k) = zI (a - k) := zI_add a (-k)
theorem zW_cap {p : Program} {l : Launch} {e : Env} {R : Room} {s : State} {m : MethodId} {args : Array Value} {below : List Frame} {meth : Method} {c : Code} {H : Heap} {locs : List Loc} {cells slots : Nat} {Q0 : State → Prop} {g : JFrame} (h : ∀ Q : State → Prop, Q = Q0 → W p l e R s m args below meth c H locs cells slots Q g) : W p l e R s m args below meth c H locs cells slots Q0 g := h Q0 rfl
theorem zI_bool {a : Int} (h0 : 0 ≤ a) (h1 : a ≤ 1) : narrow .boolean (.int (zI a)) = .int (zI a) := by
  rcases (show a = 0 ∨ a = 1 by omega) with rfl | rfl <;> decide
def isR (x : Int) : Int := if x < 4294967296 then 0 else if x < 1099511627776 then 1 else 0
theorem isR_spec (x : Int) : (isR x = 1 ∧ 4294967296 ≤ x ∧ x < 1099511627776) ∨ (isR x = 0 ∧ (x < 4294967296 ∨ 1099511627776 ≤ x)) := by
  unfold isR; repeat' split
  all_goals omega
def isN (x : Int) : Int := if x < 4294967296 then 1 else 0
theorem isN_spec (x : Int) : (isN x = 1 ∧ x < 4294967296) ∨ (isN x = 0 ∧ 4294967296 ≤ x) := by
  unfold isN; split
  all_goals omega
theorem zI_nn {a : Int} (h0 : 0 ≤ a) (h1 : a < 2147483648) : ¬ zI a < 0 := by
  rw [Int32.lt_iff_toInt_lt, zI_toInt (by omega) h1]
  exact Int.not_lt.mpr h0
theorem zI_sum {a b : Int} {n : Nat} (h0 : 0 ≤ a) (h1 : a < 2147483648) (h2 : 0 ≤ b) (h3 : b < 2147483648) (h4 : a + b ≤ n) : (zI a).toNatClampNeg + (zI b).toNatClampNeg ≤ n := by
  rw [zI_cl h0 h1, zI_cl h2 h3]; omega
theorem zI_max {a b : Int} {z9 : Int32} (h1 : -2147483648 ≤ a) (h2 : a < 2147483648) (h3 : -2147483648 ≤ b) (h4 : b < 2147483648) (ez : z9 = if zI a < zI b then zI b else zI a) : ∃ z : Int, z9 = zI z ∧ (a ≤ z ∧ b ≤ z ∧ (z = a ∨ z = b)) := by
  by_cases h : zI a < zI b
  · rw [if_pos h] at ez
    exact ⟨b, ez, by have := (zI_lt h1 h2 h3 h4).mp h; omega⟩
  · rw [if_neg h] at ez
    have h9 : ¬ a < b := fun q => h ((zI_lt h1 h2 h3 h4).mpr q)
    exact ⟨a, ez, by omega⟩
theorem zI_min {a b : Int} {z9 : Int32} (h1 : -2147483648 ≤ a) (h2 : a < 2147483648) (h3 : -2147483648 ≤ b) (h4 : b < 2147483648) (ez : z9 = if zI b < zI a then zI b else zI a) : ∃ z : Int, z9 = zI z ∧ (z ≤ a ∧ z ≤ b ∧ (z = a ∨ z = b)) := by
  by_cases h : zI b < zI a
  · rw [if_pos h] at ez
    exact ⟨b, ez, by have := (zI_lt h3 h4 h1 h2).mp h; omega⟩
  · rw [if_neg h] at ez
    have h9 : ¬ b < a := fun q => h ((zI_lt h3 h4 h1 h2).mpr q)
    exact ⟨a, ez, by omega⟩
theorem cpy_zI {P : Int → Prop} {f : Int → Int} (g : Int → Int) (hf : ∀ j : Int, P (f j)) (hg : ∀ j : Int, P (g j)) {sp dp n : Nat} : ∃ a : Int → Int, va_cpy (fun j : Nat => zI (f (j : Int))) (fun j : Nat => zI (g (j : Int))) sp dp n = (fun j : Nat => zI (a (j : Int))) ∧ ∀ j : Int, P (a j) := by
  refine ⟨fun j => if dp ≤ j.toNat ∧ j.toNat < dp + n then f ((sp + (j.toNat - dp) : Nat) : Int) else g j, ?_, ?_⟩
  · funext j
    unfold va_cpy
    show _ = zI (if dp ≤ ((j : Int)).toNat ∧ ((j : Int)).toNat < dp + n then _ else _)
    rw [Int.toNat_natCast]
    split <;> rfl
  · intro j
    show P (if _ then _ else _)
    split
    · exact hf _
    · exact hg _
theorem cpy_lI {P : Int → Prop} {f : Int → Int} (g : Int → Int) (hf : ∀ j : Int, P (f j)) (hg : ∀ j : Int, P (g j)) {sp dp n : Nat} : ∃ a : Int → Int, va_cpy (fun j : Nat => lI (f (j : Int))) (fun j : Nat => lI (g (j : Int))) sp dp n = (fun j : Nat => lI (a (j : Int))) ∧ ∀ j : Int, P (a j) := by
  refine ⟨fun j => if dp ≤ j.toNat ∧ j.toNat < dp + n then f ((sp + (j.toNat - dp) : Nat) : Int) else g j, ?_, ?_⟩
  · funext j
    unfold va_cpy
    show _ = lI (if dp ≤ ((j : Int)).toNat ∧ ((j : Int)).toNat < dp + n then _ else _)
    rw [Int.toNat_natCast]
    split <;> rfl
  · intro j
    show P (if _ then _ else _)
    split
    · exact hf _
    · exact hg _
theorem mulb {a b : Int} (h0 : 0 ≤ a) (h1 : 0 ≤ b) (h2 : b ≤ 16) : 0 ≤ a * b ∧ a * b ≤ 16 * a := by
  constructor
  · exact Int.mul_nonneg h0 h1
  · rw [Int.mul_comm 16 a]
    exact Int.mul_le_mul_of_nonneg_left h2 h0
theorem zI_and (k : Nat) {x m z9 : Int32} (hm : m.toBitVec.toNat = 2 ^ k - 1) (hk : k ≤ 30) (ez : z9 = x &&& m) : ∃ z : Int, z9 = zI z ∧ (0 ≤ z ∧ z < 2 ^ k) := by
  obtain ⟨j, hj, e⟩ := pk_andE x k hm
  refine ⟨(j : Int), ?_, by omega, by exact_mod_cast hj⟩
  rw [ez, e]
  exact ((Int32.ofInt_eq_ofNat (n := j)).trans rfl).symm
