def zI (z : Int) : Int32 := Int32.ofInt z
def lI (z : Int) : Int64 := Int64.ofInt z
theorem zI_toInt {z : Int} (h1 : -2147483648 ≤ z) (h2 : z < 2147483648) : (zI z).toInt = z := Int32.toInt_ofInt_of_le h1 h2
theorem zI_add (a b : Int) : zI a + zI b = zI (a + b) := (Int32.ofInt_add a b).symm
theorem zI_sub (a b : Int) : zI a - zI b = zI (a - b) := (Int32.ofInt_sub a b).symm
theorem zI_mul (a b : Int) : zI a * zI b = zI (a * b) := (Int32.ofInt_mul a b).symm
theorem zI_le {a b : Int} (h1 : -2147483648 ≤ a) (h2 : a < 2147483648) (h3 : -2147483648 ≤ b) (h4 : b < 2147483648) : zI a ≤ zI b ↔ a ≤ b := by
  rw [Int32.le_iff_toInt_le, zI_toInt h1 h2, zI_toInt h3 h4]
theorem zI_lt {a b : Int} (h1 : -2147483648 ≤ a) (h2 : a < 2147483648) (h3 : -2147483648 ≤ b) (h4 : b < 2147483648) : zI a < zI b ↔ a < b := by
  rw [Int32.lt_iff_toInt_lt, zI_toInt h1 h2, zI_toInt h3 h4]
theorem zI_eq {a b : Int} (h1 : -2147483648 ≤ a) (h2 : a < 2147483648) (h3 : -2147483648 ≤ b) (h4 : b < 2147483648) : zI a = zI b ↔ a = b := by
  rw [← Int32.toInt_inj, zI_toInt h1 h2, zI_toInt h3 h4]
theorem zI_in {a : Int} {n : Nat} (h0 : 0 ≤ a) (h1 : a < n) (hn : n < 2 ^ 31) : vp_in (zI a) n := by
  rw [vp_in_iff, zI_toInt (by omega) (by omega)]
  exact ⟨h0, h1⟩
theorem zI_cl {a : Int} (h0 : 0 ≤ a) (h1 : a < 2147483648) : (zI a).toNatClampNeg = a.toNat := by
  show (zI a).toInt.toNat = a.toNat
  rw [zI_toInt (by omega) h1]
theorem zI_ld (a : Int → Int) {e : Int} (h0 : 0 ≤ e) (h1 : e < 2147483648) : (fun j : Nat => zI (a (j : Int))) (zI e).toNatClampNeg = zI (a e) := by
  show zI (a (((zI e).toNatClampNeg : Nat) : Int)) = zI (a e)
  rw [zI_cl h0 h1, Int.toNat_of_nonneg h0]
def zup (a : Int → Int) (k v : Int) : Int → Int := fun j => if j = k then v else a j
theorem zup_rng {a : Int → Int} {lo hi k v : Int} (h : ∀ j : Int, lo ≤ a j ∧ a j ≤ hi) (h1 : lo ≤ v) (h2 : v ≤ hi) : ∀ j : Int, lo ≤ zup a k v j ∧ zup a k v j ≤ hi := by
  intro j
  unfold zup
  split
  · exact ⟨h1, h2⟩
  · exact h j
theorem zI_st (a : Int → Int) {e v : Int} (h0 : 0 ≤ e) (h1 : e < 2147483648) : upd (fun j : Nat => zI (a (j : Int))) (zI e).toNatClampNeg (zI v) = (fun j : Nat => zI (zup a e v (j : Int))) := by
  funext j
  rw [zI_cl h0 h1]
  unfold upd zup
  by_cases h : j = e.toNat
  · have h' : (j : Int) = e := by omega
    rw [if_pos h, if_pos h']
  · have h' : ¬ (j : Int) = e := by omega
    rw [if_neg h, if_neg h']
theorem zI_dec (a k : Int) : zI a + Int32.ofInt (-k) = zI (a - k) := zI_add a (-k)
theorem zW_cap {p : Program} {l : Launch} {e : Env} {R : Room} {s : State} {m : MethodId} {args : Array Value} {below : List Frame} {meth : Method} {c : Code} {H : Heap} {locs : List Loc} {cells slots : Nat} {Q0 : State → Prop} {g : JFrame} (h : ∀ Q : State → Prop, Q = Q0 → W p l e R s m args below meth c H locs cells slots Q g) : W p l e R s m args below meth c H locs cells slots Q0 g := h Q0 rfl
