/-- how many of the k lowest bits are 1 -/
def pcN : Nat → Nat → Nat
  | 0, _ => 0
  | k + 1, n => n % 2 + pcN k (n / 2)
theorem pcN_add (a k n : Nat) : pcN (a + k) n = pcN a n + pcN k (n / 2 ^ a) := by
  induction a generalizing n with
  | zero => rw [Nat.zero_add, Nat.pow_zero, Nat.div_one]; show _ = 0 + _; omega
  | succ a ih =>
    rw [show a + 1 + k = (a + k) + 1 by omega]
    show n % 2 + pcN (a + k) (n / 2) = n % 2 + pcN a (n / 2) + _
    rw [ih, Nat.div_div_eq_div_mul, show 2 * 2 ^ a = 2 ^ (a + 1) by rw [Nat.pow_succ]; omega]
    omega
theorem pcN_mod (a n : Nat) : pcN a n = pcN a (n % 2 ^ a) := by
  induction a generalizing n with
  | zero => rfl
  | succ a ih =>
    show n % 2 + pcN a (n / 2) = n % 2 ^ (a + 1) % 2 + pcN a (n % 2 ^ (a + 1) / 2)
    rw [ih (n / 2), ih (n % 2 ^ (a + 1) / 2)]
    have e1 : n % 2 ^ (a + 1) % 2 = n % 2 := by
      rw [Nat.pow_succ, Nat.mul_comm]; exact Nat.mod_mul_right_mod n 2 (2 ^ a)
    have e2 : n % 2 ^ (a + 1) / 2 = n / 2 % 2 ^ a := by
      rw [Nat.pow_succ, Nat.mul_comm]; exact Nat.mod_mul_right_div_self n 2 (2 ^ a)
    rw [e1, e2, Nat.mod_mod]
def T1 (b : Nat) : Nat := b - ((b / 2) &&& 0x55)
def T2 (b : Nat) : Nat := (b &&& 0x33) + ((b / 4) &&& 0x33)
def T3 (b : Nat) : Nat := (b + b / 16) &&& 15
theorem t1_and : ∀ b < 256, ∀ t < 2, ((b / 2 + 128 * t) &&& 0x55) = ((b / 2) &&& 0x55) := by decide +kernel
theorem t1_le : ∀ b < 256, ((b / 2) &&& 0x55) ≤ b ∧ T1 b < 256 := by decide +kernel
theorem t2_and : ∀ b < 256, ∀ t < 4, ((b / 4 + 64 * t) &&& 0x33) = ((b / 4) &&& 0x33) := by decide +kernel
theorem t2_le : ∀ b < 256, T2 (T1 b) ≤ 0x44 ∧ T2 (T1 b) % 16 ≤ 4 ∧ ((T1 b) &&& 0x33) + (((T1 b) / 4) &&& 0x33) < 256 := by decide +kernel
theorem t3_and : ∀ b < 69, ∀ t < 5, ((b + b / 16 + 16 * t) &&& 15) = T3 b := by decide +kernel
theorem t3_eq : ∀ b < 256, T3 (T2 (T1 b)) = pcN 8 b ∧ pcN 8 b ≤ 8 := by decide +kernel
/-- eight bytes -/
def H8 (a0 a1 a2 a3 a4 a5 a6 a7 : Nat) : Nat := a0 + 256 * (a1 + 256 * (a2 + 256 * (a3 + 256 * (a4 + 256 * (a5 + 256 * (a6 + 256 * a7))))))
theorem and_step (b x c y : Nat) (hb : b < 256) (hc : c < 256) : (b + 256 * x) &&& (c + 256 * y) = (b &&& c) + 256 * (x &&& y) := by
  have q := Nat.div_add_mod ((b + 256 * x) &&& (c + 256 * y)) (2 ^ 8)
  rw [Nat.and_mod_two_pow, Nat.and_div_two_pow] at q
  rw [show (b + 256 * x) / 2 ^ 8 = x by omega, show (c + 256 * y) / 2 ^ 8 = y by omega, show (b + 256 * x) % 2 ^ 8 = b by omega, show (c + 256 * y) % 2 ^ 8 = c by omega] at q
  omega
theorem and8 {m a0 a1 a2 a3 a4 a5 a6 a7 : Nat} (m0 : m < 256) (h0 : a0 < 256) (h1 : a1 < 256) (h2 : a2 < 256) (h3 : a3 < 256) (h4 : a4 < 256) (h5 : a5 < 256) (h6 : a6 < 256) (h7 : a7 < 256) : H8 a0 a1 a2 a3 a4 a5 a6 a7 &&& H8 m m m m m m m m = H8 (a0 &&& m) (a1 &&& m) (a2 &&& m) (a3 &&& m) (a4 &&& m) (a5 &&& m) (a6 &&& m) (a7 &&& m) := by
  unfold H8
  rw [and_step _ _ _ _ h0 m0, and_step _ _ _ _ h1 m0, and_step _ _ _ _ h2 m0, and_step _ _ _ _ h3 m0, and_step _ _ _ _ h4 m0, and_step _ _ _ _ h5 m0, and_step _ _ _ _ h6 m0]
theorem half_step (b x : Nat) : (b + 256 * x) / 2 = (b / 2 + 128 * (x % 2)) + 256 * (x / 2) := by omega
theorem par_step (b x : Nat) : (b + 256 * x) % 2 = b % 2 := by omega
theorem quar_step (b x : Nat) : (b + 256 * x) / 4 = (b / 4 + 64 * (x % 4)) + 256 * (x / 4) := by omega
theorem par4_step (b x : Nat) : (b + 256 * x) % 4 = b % 4 := by omega
theorem six_step (b x : Nat) : (b + 256 * x) + (b + 256 * x) / 16 = (b + b / 16 + 16 * (x % 16)) + 256 * (x + x / 16) := by omega
theorem par16_step (b x : Nat) : (b + 256 * x) % 16 = b % 16 := by omega
theorem half8 (b0 b1 b2 b3 b4 b5 b6 b7 : Nat) : H8 b0 b1 b2 b3 b4 b5 b6 b7 / 2 = H8 (b0 / 2 + 128 * (b1 % 2)) (b1 / 2 + 128 * (b2 % 2)) (b2 / 2 + 128 * (b3 % 2)) (b3 / 2 + 128 * (b4 % 2)) (b4 / 2 + 128 * (b5 % 2)) (b5 / 2 + 128 * (b6 % 2)) (b6 / 2 + 128 * (b7 % 2)) (b7 / 2) := by
  unfold H8; simp only [half_step, par_step]
theorem quar8 (b0 b1 b2 b3 b4 b5 b6 b7 : Nat) : H8 b0 b1 b2 b3 b4 b5 b6 b7 / 4 = H8 (b0 / 4 + 64 * (b1 % 4)) (b1 / 4 + 64 * (b2 % 4)) (b2 / 4 + 64 * (b3 % 4)) (b3 / 4 + 64 * (b4 % 4)) (b4 / 4 + 64 * (b5 % 4)) (b5 / 4 + 64 * (b6 % 4)) (b6 / 4 + 64 * (b7 % 4)) (b7 / 4) := by
  unfold H8; simp only [quar_step, par4_step]
theorem six8 (b0 b1 b2 b3 b4 b5 b6 b7 : Nat) : H8 b0 b1 b2 b3 b4 b5 b6 b7 + H8 b0 b1 b2 b3 b4 b5 b6 b7 / 16 = H8 (b0 + b0 / 16 + 16 * (b1 % 16)) (b1 + b1 / 16 + 16 * (b2 % 16)) (b2 + b2 / 16 + 16 * (b3 % 16)) (b3 + b3 / 16 + 16 * (b4 % 16)) (b4 + b4 / 16 + 16 * (b5 % 16)) (b5 + b5 / 16 + 16 * (b6 % 16)) (b6 + b6 / 16 + 16 * (b7 % 16)) (b7 + b7 / 16) := by
  unfold H8; simp only [six_step, par16_step]
theorem sub8 {b0 b1 b2 b3 b4 b5 b6 b7 a0 a1 a2 a3 a4 a5 a6 a7 : Nat} (h0 : a0 ≤ b0) (h1 : a1 ≤ b1) (h2 : a2 ≤ b2) (h3 : a3 ≤ b3) (h4 : a4 ≤ b4) (h5 : a5 ≤ b5) (h6 : a6 ≤ b6) (h7 : a7 ≤ b7) : H8 b0 b1 b2 b3 b4 b5 b6 b7 - H8 a0 a1 a2 a3 a4 a5 a6 a7 = H8 (b0 - a0) (b1 - a1) (b2 - a2) (b3 - a3) (b4 - a4) (b5 - a5) (b6 - a6) (b7 - a7) ∧ H8 a0 a1 a2 a3 a4 a5 a6 a7 ≤ H8 b0 b1 b2 b3 b4 b5 b6 b7 := by
  unfold H8; omega
theorem add8 (b0 b1 b2 b3 b4 b5 b6 b7 a0 a1 a2 a3 a4 a5 a6 a7 : Nat) : H8 b0 b1 b2 b3 b4 b5 b6 b7 + H8 a0 a1 a2 a3 a4 a5 a6 a7 = H8 (b0 + a0) (b1 + a1) (b2 + a2) (b3 + a3) (b4 + a4) (b5 + a5) (b6 + a6) (b7 + a7) := by
  unfold H8; omega
theorem fold8 {e0 e1 e2 e3 e4 e5 e6 e7 : Nat} (h0 : e0 ≤ 8) (h1 : e1 ≤ 8) (h2 : e2 ≤ 8) (h3 : e3 ≤ 8) (h4 : e4 ≤ 8) (h5 : e5 ≤ 8) (h6 : e6 ≤ 8) (h7 : e7 ≤ 8) : let w := H8 e0 e1 e2 e3 e4 e5 e6 e7; let d := w + w / 256; let e := d + d / 65536; (e + e / 4294967296) % 128 = e0 + e1 + e2 + e3 + e4 + e5 + e6 + e7 ∧ e + e / 4294967296 < 18446744073709551616 ∧ w < 1157442765409226769 := by
  intro w d e
  have hw : w = H8 e0 e1 e2 e3 e4 e5 e6 e7 := rfl
  have hd : d = H8 (e0 + e1) (e1 + e2) (e2 + e3) (e3 + e4) (e4 + e5) (e5 + e6) (e6 + e7) e7 := by
    have q : w / 256 = H8 e1 e2 e3 e4 e5 e6 e7 0 := by rw [hw]; unfold H8; omega
    show w + w / 256 = _
    rw [q, hw, add8]; simp only [Nat.add_zero]
  have he : e = H8 (e0 + e1 + (e2 + e3)) (e1 + e2 + (e3 + e4)) (e2 + e3 + (e4 + e5)) (e3 + e4 + (e5 + e6)) (e4 + e5 + (e6 + e7)) (e5 + e6 + e7) (e6 + e7) e7 := by
    have q : d / 65536 = H8 (e2 + e3) (e3 + e4) (e4 + e5) (e5 + e6) (e6 + e7) e7 0 0 := by rw [hd]; unfold H8; omega
    show d + d / 65536 = _
    rw [q, hd, add8]; simp only [Nat.add_zero]
  have q : e / 4294967296 = H8 (e4 + e5 + (e6 + e7)) (e5 + e6 + e7) (e6 + e7) e7 0 0 0 0 := by rw [he]; unfold H8; omega
  rw [q, he, add8, hw]
  unfold H8
  refine ⟨by omega, by omega, by omega⟩
def bcZ (y : Nat) : Nat := (y &&& 3689348814741910323) + ((y / 4) &&& 3689348814741910323)
def bcW (z : Nat) : Nat := (z + z / 16) &&& 1085102592571150095
def bcD (w : Nat) : Nat := w + w / 256
def bcE (d : Nat) : Nat := d + d / 65536
def bcN (n : Nat) : Nat := (bcE (bcD (bcW (bcZ (n - ((n / 2) &&& 6148914691236517205))))) + bcE (bcD (bcW (bcZ (n - ((n / 2) &&& 6148914691236517205))))) / 4294967296) % 128
theorem bcN_eq (n : Nat) (hn : n < 18446744073709551616) : bcN n = pcN 64 n ∧ ((n / 2) &&& 6148914691236517205) ≤ n := by
  obtain ⟨b0, hb0⟩ : ∃ b, b = n % 256 := ⟨_, rfl⟩
  obtain ⟨b1, hb1⟩ : ∃ b, b = n / 256 % 256 := ⟨_, rfl⟩
  obtain ⟨b2, hb2⟩ : ∃ b, b = n / 256 / 256 % 256 := ⟨_, rfl⟩
  obtain ⟨b3, hb3⟩ : ∃ b, b = n / 256 / 256 / 256 % 256 := ⟨_, rfl⟩
  obtain ⟨b4, hb4⟩ : ∃ b, b = n / 256 / 256 / 256 / 256 % 256 := ⟨_, rfl⟩
  obtain ⟨b5, hb5⟩ : ∃ b, b = n / 256 / 256 / 256 / 256 / 256 % 256 := ⟨_, rfl⟩
  obtain ⟨b6, hb6⟩ : ∃ b, b = n / 256 / 256 / 256 / 256 / 256 / 256 % 256 := ⟨_, rfl⟩
  obtain ⟨b7, hb7⟩ : ∃ b, b = n / 256 / 256 / 256 / 256 / 256 / 256 / 256 := ⟨_, rfl⟩
  have r0 : b0 < 256 := by omega
  have r1 : b1 < 256 := by omega
  have r2 : b2 < 256 := by omega
  have r3 : b3 < 256 := by omega
  have r4 : b4 < 256 := by omega
  have r5 : b5 < 256 := by omega
  have r6 : b6 < 256 := by omega
  have r7 : b7 < 256 := by omega
  have en : n = H8 b0 b1 b2 b3 b4 b5 b6 b7 := by unfold H8; omega
  have pc : pcN 64 n = pcN 8 b0 + pcN 8 b1 + pcN 8 b2 + pcN 8 b3 + pcN 8 b4 + pcN 8 b5 + pcN 8 b6 + pcN 8 b7 := by
    have st : ∀ k x, pcN (8 + k) x = pcN 8 (x % 256) + pcN k (x / 256) := by
      intro k x
      rw [pcN_add 8 k x, pcN_mod 8 x]
    rw [st 56 n, st 48, st 40, st 32, st 24, st 16, st 8, ← hb0, ← hb1, ← hb2, ← hb3, ← hb4, ← hb5, ← hb6, pcN_mod 8 (n / 256 / 256 / 256 / 256 / 256 / 256 / 256), ← hb7, show b7 % 2 ^ 8 = b7 by omega]
    omega
  clear hb0 hb1 hb2 hb3 hb4 hb5 hb6 hb7
  have l0 := t1_le b0 r0
  have l1 := t1_le b1 r1
  have l2 := t1_le b2 r2
  have l3 := t1_le b3 r3
  have l4 := t1_le b4 r4
  have l5 := t1_le b5 r5
  have l6 := t1_le b6 r6
  have l7 := t1_le b7 r7
  have M1 : (6148914691236517205 : Nat) = H8 0x55 0x55 0x55 0x55 0x55 0x55 0x55 0x55 := by decide
  have M2 : (3689348814741910323 : Nat) = H8 0x33 0x33 0x33 0x33 0x33 0x33 0x33 0x33 := by decide
  have M3 : (1085102592571150095 : Nat) = H8 15 15 15 15 15 15 15 15 := by decide
  have A : (n / 2) &&& 6148914691236517205 = H8 ((b0 / 2) &&& 0x55) ((b1 / 2) &&& 0x55) ((b2 / 2) &&& 0x55) ((b3 / 2) &&& 0x55) ((b4 / 2) &&& 0x55) ((b5 / 2) &&& 0x55) ((b6 / 2) &&& 0x55) ((b7 / 2) &&& 0x55) := by
    rw [M1, en, half8, and8 (by omega) (by omega) (by omega) (by omega) (by omega) (by omega) (by omega) (by omega) (by omega)]
    rw [t1_and b0 r0 _ (by omega), t1_and b1 r1 _ (by omega), t1_and b2 r2 _ (by omega), t1_and b3 r3 _ (by omega), t1_and b4 r4 _ (by omega), t1_and b5 r5 _ (by omega), t1_and b6 r6 _ (by omega)]
  have sb := sub8 l0.1 l1.1 l2.1 l3.1 l4.1 l5.1 l6.1 l7.1
  refine ⟨?_, by rw [A, en]; exact sb.2⟩
  have y : n - ((n / 2) &&& 6148914691236517205) = H8 (T1 b0) (T1 b1) (T1 b2) (T1 b3) (T1 b4) (T1 b5) (T1 b6) (T1 b7) := by
    rw [A, en]; exact sb.1
  have P1 := and8 (m := 0x33) (by omega) l0.2 l1.2 l2.2 l3.2 l4.2 l5.2 l6.2 l7.2
  have P2 : H8 (T1 b0) (T1 b1) (T1 b2) (T1 b3) (T1 b4) (T1 b5) (T1 b6) (T1 b7) / 4 &&& H8 0x33 0x33 0x33 0x33 0x33 0x33 0x33 0x33 = H8 ((T1 b0 / 4) &&& 0x33) ((T1 b1 / 4) &&& 0x33) ((T1 b2 / 4) &&& 0x33) ((T1 b3 / 4) &&& 0x33) ((T1 b4 / 4) &&& 0x33) ((T1 b5 / 4) &&& 0x33) ((T1 b6 / 4) &&& 0x33) ((T1 b7 / 4) &&& 0x33) := by
    rw [quar8, and8 (by omega) (by omega) (by omega) (by omega) (by omega) (by omega) (by omega) (by omega) (by omega)]
    rw [t2_and _ l0.2 _ (by omega), t2_and _ l1.2 _ (by omega), t2_and _ l2.2 _ (by omega), t2_and _ l3.2 _ (by omega), t2_and _ l4.2 _ (by omega), t2_and _ l5.2 _ (by omega), t2_and _ l6.2 _ (by omega)]
  have m2 : ∀ b, b < 256 → T2 (T1 b) ≤ 68 ∧ T2 (T1 b) % 16 ≤ 4 := fun b h => ⟨(t2_le b h).1, (t2_le b h).2.1⟩
  have k0 := m2 b0 r0
  have k1 := m2 b1 r1
  have k2 := m2 b2 r2
  have k3 := m2 b3 r3
  have k4 := m2 b4 r4
  have k5 := m2 b5 r5
  have k6 := m2 b6 r6
  have k7 := m2 b7 r7
  have q0 := t3_eq b0 r0
  have q1 := t3_eq b1 r1
  have q2 := t3_eq b2 r2
  have q3 := t3_eq b3 r3
  have q4 := t3_eq b4 r4
  have q5 := t3_eq b5 r5
  have q6 := t3_eq b6 r6
  have q7 := t3_eq b7 r7
  have F := fold8 q0.2 q1.2 q2.2 q3.2 q4.2 q5.2 q6.2 q7.2
  have S1 : bcZ (n - ((n / 2) &&& 6148914691236517205)) = H8 (T2 (T1 b0)) (T2 (T1 b1)) (T2 (T1 b2)) (T2 (T1 b3)) (T2 (T1 b4)) (T2 (T1 b5)) (T2 (T1 b6)) (T2 (T1 b7)) := by
    unfold bcZ
    rw [y, M2, P1, P2, add8]; rfl
  have S2 : bcW (bcZ (n - ((n / 2) &&& 6148914691236517205))) = H8 (pcN 8 b0) (pcN 8 b1) (pcN 8 b2) (pcN 8 b3) (pcN 8 b4) (pcN 8 b5) (pcN 8 b6) (pcN 8 b7) := by
    rw [S1]
    unfold bcW
    rw [M3, six8, and8 (by omega) (by omega) (by omega) (by omega) (by omega) (by omega) (by omega) (by omega) (by omega)]
    have z7 : (T2 (T1 b7) + T2 (T1 b7) / 16 &&& 15) = T3 (T2 (T1 b7)) := rfl
    rw [t3_and _ (by omega) _ (by omega), t3_and _ (by omega) _ (by omega), t3_and _ (by omega) _ (by omega), t3_and _ (by omega) _ (by omega), t3_and _ (by omega) _ (by omega), t3_and _ (by omega) _ (by omega), t3_and _ (by omega) _ (by omega), z7]
    rw [q0.1, q1.1, q2.1, q3.1, q4.1, q5.1, q6.1, q7.1]
  unfold bcN
  rw [S2, pc]
  exact F.1
/-- a long's bits, as a whole number -/
def uN (x : Int64) : Nat := x.toUInt64.toNat
theorem uN_lt (x : Int64) : uN x < 18446744073709551616 := x.toUInt64.toNat_lt
theorem uN_and (x y : Int64) : uN (x &&& y) = uN x &&& uN y := by
  unfold uN
  rw [Int64.toUInt64_and, UInt64.toNat_and]
theorem uN_add (x y : Int64) : uN (x + y) = (uN x + uN y) % 18446744073709551616 := by
  unfold uN
  rw [Int64.toUInt64_add, UInt64.toNat_add]
theorem uN_sub {x y : Int64} (h : uN y ≤ uN x) : uN (x - y) = uN x - uN y := by
  have h1 := uN_lt x
  unfold uN at *
  rw [Int64.toUInt64_sub, UInt64.toNat_sub]
  omega
theorem uN_shr (x : Int64) {s : UInt64} (k : Nat) (hs : s.toNat % 64 = k) : uN (x.toUInt64 >>> s).toInt64 = uN x / 2 ^ k := by
  unfold uN
  show (x.toUInt64 >>> s).toNat = _
  rw [UInt64.toNat_shiftRight, hs, Nat.shiftRight_eq_div_pow]
theorem uN_i (x : Int64) : (x.toInt32 &&& 127) = zI ((uN x % 128 : Nat) : Int) := by
  apply Int32.toBitVec_inj.mp
  apply BitVec.eq_of_toNat_eq
  have e1 : (x.toInt32 &&& 127).toBitVec.toNat = uN x % 128 := by
    rw [Int32.toBitVec_and, BitVec.toNat_and]
    have e2 : (127 : Int32).toBitVec.toNat = 2 ^ 7 - 1 := by decide
    rw [e2, Nat.and_two_pow_sub_one_eq_mod]
    have e3 : x.toInt32.toBitVec.toNat = uN x % 4294967296 := by
      show (x.toInt32.toBitVec).toNat = x.toUInt64.toNat % 4294967296
      rw [Int64.toBitVec_toInt32, BitVec.signExtend_eq_setWidth_of_le _ (by omega), BitVec.toNat_setWidth]
      rfl
    rw [e3]; omega
  have e4 : (zI ((uN x % 128 : Nat) : Int)).toBitVec.toNat = uN x % 128 := by
    unfold zI
    rw [Int32.toBitVec_ofInt, BitVec.toNat_ofInt]
    omega
  rw [e1, e4]
def bcs (x : Int64) (k : Int32) : Int64 := (x.toUInt64 >>> (k.toInt64.toUInt64 &&& Int64.toUInt64 63)).toInt64
theorem bc64 {x a3 b4 c3 d2 e2 f2 : Int64} (h1 : a3 = x - (bcs x 1 &&& lI 6148914691236517205)) (h2 : b4 = (a3 &&& lI 3689348814741910323) + (bcs a3 2 &&& lI 3689348814741910323)) (h3 : c3 = (b4 + bcs b4 4) &&& lI 1085102592571150095) (h4 : d2 = c3 + bcs c3 8) (h5 : e2 = d2 + bcs d2 16) (h6 : f2 = e2 + bcs e2 32) : f2.toInt32 &&& 127 = zI ((pcN 64 (uN x) : Nat) : Int) := by
  have M1 : uN (lI 6148914691236517205) = 6148914691236517205 := by decide
  have M2 : uN (lI 3689348814741910323) = 3689348814741910323 := by decide
  have M3 : uN (lI 1085102592571150095) = 1085102592571150095 := by decide
  have s1 : ∀ y, uN (bcs y 1) = uN y / 2 := fun y => uN_shr y 1 (by decide)
  have s2 : ∀ y, uN (bcs y 2) = uN y / 4 := fun y => uN_shr y 2 (by decide)
  have s4 : ∀ y, uN (bcs y 4) = uN y / 16 := fun y => uN_shr y 4 (by decide)
  have s8 : ∀ y, uN (bcs y 8) = uN y / 256 := fun y => uN_shr y 8 (by decide)
  have s16 : ∀ y, uN (bcs y 16) = uN y / 65536 := fun y => uN_shr y 16 (by decide)
  have s32 : ∀ y, uN (bcs y 32) = uN y / 4294967296 := fun y => uN_shr y 32 (by decide)
  have B := bcN_eq (uN x) (uN_lt x)
  have ea : uN a3 = uN x - (uN x / 2 &&& 6148914691236517205) := by
    rw [h1, uN_sub (by rw [uN_and, s1, M1]; exact B.2), uN_and, s1, M1]
  have le1 : ∀ y m : Nat, y &&& m ≤ m := fun y m => Nat.and_le_right
  have eb : uN b4 = bcZ (uN a3) := by
    rw [h2, uN_add, uN_and, uN_and, s2, M2]
    unfold bcZ
    have := le1 (uN a3) 3689348814741910323
    have := le1 (uN a3 / 4) 3689348814741910323
    omega
  have zb : bcZ (uN a3) ≤ 7378697629483820646 := by
    unfold bcZ
    have := le1 (uN a3) 3689348814741910323
    have := le1 (uN a3 / 4) 3689348814741910323
    omega
  have ec : uN c3 = bcW (uN b4) := by
    rw [h3, uN_and, uN_add, s4, M3]
    unfold bcW
    rw [Nat.mod_eq_of_lt (by omega)]
  have wb : uN c3 ≤ 1085102592571150095 := by rw [ec]; exact le1 _ _
  have ed : uN d2 = bcD (uN c3) := by
    rw [h4, uN_add, s8]
    unfold bcD
    omega
  have db : bcD (uN c3) ≤ 1100000000000000000 := by unfold bcD; omega
  have ee : uN e2 = bcE (uN d2) := by
    rw [h5, uN_add, s16]
    unfold bcE
    omega
  have eb2 : bcE (uN d2) ≤ 1200000000000000000 := by unfold bcE; omega
  have ef : uN f2 = uN e2 + uN e2 / 4294967296 := by
    rw [h6, uN_add, s32]
    omega
  rw [uN_i, ← B.1]
  congr 1
  congr 1
  unfold bcN
  rw [ef, ee, ed, ec, eb, ea]
/-- taking the lowest bit away -/
theorem pcN_le (k n : Nat) : pcN k n ≤ k := by
  induction k generalizing n with
  | zero => exact Nat.le_refl _
  | succ k ih => show n % 2 + pcN k (n / 2) ≤ k + 1; have := ih (n / 2); omega
theorem pcN_pred (k n : Nat) (h0 : 0 < n) (h1 : n < 2 ^ k) : pcN k (n &&& (n - 1)) + 1 = pcN k n ∧ pcN k ((n &&& (2 ^ k - n)) - 1) + 1 ≤ k := by
  induction k generalizing n with
  | zero => omega
  | succ k ih =>
    have half : ∀ a b : Nat, (a &&& b) / 2 = (a / 2) &&& (b / 2) := fun a b => by have := @Nat.and_div_two_pow a b 1; simpa using this
    have par : ∀ a b : Nat, (a &&& b) % 2 = (a % 2) &&& (b % 2) := fun a b => by have := @Nat.and_mod_two_pow a b 1; simpa using this
    have p2 : 2 ^ (k + 1) = 2 * 2 ^ k := by rw [Nat.pow_succ]; omega
    rcases Nat.mod_two_eq_zero_or_one n with e | e
    · have ih := ih (n / 2) (by omega) (by omega)
      constructor
      · show (n &&& (n - 1)) % 2 + pcN k ((n &&& (n - 1)) / 2) + 1 = n % 2 + pcN k (n / 2)
        rw [half, par, e, show (n - 1) / 2 = n / 2 - 1 by omega, Nat.zero_and]
        have := ih.1
        omega
      · have q : (n &&& (2 ^ (k + 1) - n)) / 2 = (n / 2) &&& (2 ^ k - n / 2) := by
          rw [half, show (2 ^ (k + 1) - n) / 2 = 2 ^ k - n / 2 by omega]
        have r : (n &&& (2 ^ (k + 1) - n)) % 2 = 0 := by rw [par, e, Nat.zero_and]
        generalize hm : n &&& (2 ^ (k + 1) - n) = m at q r
        show (m - 1) % 2 + pcN k ((m - 1) / 2) + 1 ≤ k + 1
        rcases Nat.eq_zero_or_pos m with z | z
        · rw [z]
          have : pcN k ((0 - 1) / 2) = 0 := by
            clear ih
            induction k with
            | zero => rfl
            | succ k ihk =>
              show 0 % 2 + pcN k (0 / 2) = 0
              have : ∀ j, pcN j 0 = 0 := by
                intro j; induction j with
                | zero => rfl
                | succ j ihj => show 0 % 2 + pcN j (0 / 2) = 0; rw [show 0 / 2 = 0 by omega, ihj]
              rw [show 0 / 2 = 0 by omega, this]
          omega
        · rw [show (m - 1) / 2 = m / 2 - 1 by omega, q]
          have := ih.2
          omega
    · constructor
      · show (n &&& (n - 1)) % 2 + pcN k ((n &&& (n - 1)) / 2) + 1 = n % 2 + pcN k (n / 2)
        rw [half, par, e, show (n - 1) / 2 = n / 2 by omega, show (n - 1) % 2 = 0 by omega, Nat.and_zero, Nat.and_self]
        omega
      · have q : n &&& (2 ^ (k + 1) - n) = 1 := by
          have h2 := half n (2 ^ (k + 1) - n)
          have p3 := par n (2 ^ (k + 1) - n)
          rw [e, show (2 ^ (k + 1) - n) % 2 = 1 by omega] at p3
          have z : (n / 2) &&& ((2 ^ (k + 1) - n) / 2) = 0 := by
            rw [show (2 ^ (k + 1) - n) / 2 = 2 ^ k - (n / 2 + 1) by omega]
            apply Nat.eq_of_testBit_eq
            intro i
            rw [Nat.testBit_and, Nat.zero_testBit]
            rcases Nat.lt_or_ge i k with w | w
            · rw [Nat.testBit_two_pow_sub_succ (by omega)]
              simp [w]
            · rw [Nat.testBit_lt_two_pow (x := n / 2) (by
                have : 2 ^ k ≤ 2 ^ i := Nat.pow_le_pow_right (by omega) w
                omega)]
              simp
          rw [z] at h2
          have : (1 : Nat) &&& 1 = 1 := by decide
          omega
        rw [q]
        have : ∀ j, pcN j 0 = 0 := by
          intro j; induction j with
          | zero => rfl
          | succ j ihj => show 0 % 2 + pcN j (0 / 2) = 0; rw [show 0 / 2 = 0 by omega, ihj]
        rw [show 1 - 1 = 0 by omega, this]; omega
theorem low_pos (k n : Nat) (h0 : 0 < n) (h1 : n < 2 ^ k) : 0 < n &&& (2 ^ k - n) := by
  induction k generalizing n with
  | zero => omega
  | succ k ih =>
    have half : ∀ a b : Nat, (a &&& b) / 2 = (a / 2) &&& (b / 2) := fun a b => by have := @Nat.and_div_two_pow a b 1; simpa using this
    have par : ∀ a b : Nat, (a &&& b) % 2 = (a % 2) &&& (b % 2) := fun a b => by have := @Nat.and_mod_two_pow a b 1; simpa using this
    have p2 : 2 ^ (k + 1) = 2 * 2 ^ k := by rw [Nat.pow_succ]; omega
    rcases Nat.mod_two_eq_zero_or_one n with e | e
    · have h := ih (n / 2) (by omega) (by omega)
      have q := half n (2 ^ (k + 1) - n)
      rw [show (2 ^ (k + 1) - n) / 2 = 2 ^ k - n / 2 by omega] at q
      omega
    · have p3 := par n (2 ^ (k + 1) - n)
      rw [e, show (2 ^ (k + 1) - n) % 2 = 1 by omega] at p3
      have : (1 : Nat) &&& 1 = 1 := by decide
      omega
theorem uN_zero {x : Int64} (h : ¬ x = 0) : 0 < uN x := by
  rcases Nat.eq_zero_or_pos (uN x) with e | e
  · exfalso; apply h
    apply Int64.toBitVec_inj.mp
    apply BitVec.eq_of_toNat_eq
    exact e
  · exact e
theorem uN_neg {x : Int64} (h : ¬ x = 0) : uN (-x) = 18446744073709551616 - uN x := by
  have h1 := uN_lt x
  have h2 := uN_zero h
  unfold uN at *
  rw [Int64.toUInt64_neg, UInt64.toNat_neg]
  have : UInt64.size = 18446744073709551616 := rfl
  rw [this]
  omega
/-- the lowest bit's number -/
theorem low_le {x : Int64} (h : ¬ x = 0) : pcN 64 (uN ((x &&& -x) - lI 1)) ≤ 63 := by
  have h0 := uN_zero h
  have h1 := uN_lt x
  have p := low_pos 64 (uN x) h0 h1
  have e : uN (x &&& -x) = uN x &&& (2 ^ 64 - uN x) := by rw [uN_and, uN_neg h]
  have o : uN (lI 1) = 1 := by decide
  have q := (pcN_pred 64 (uN x) h0 h1).2
  rw [uN_sub (by rw [o, e]; exact p), o, e]
  omega
theorem rest_pc {x : Int64} (h : ¬ x = 0) : pcN 64 (uN (x &&& (x - lI 1))) + 1 = pcN 64 (uN x) := by
  have h0 := uN_zero h
  have o : uN (lI 1) = 1 := by decide
  rw [uN_and, uN_sub (by rw [o]; exact h0), o]
  exact (pcN_pred 64 (uN x) h0 (uN_lt x)).1
/-- the bits of n words from a place on -/
def pcS (f : Nat → Int64) (a : Int) : Nat → Int
  | 0 => 0
  | n + 1 => pcS f a n + ((pcN 64 (uN (f (a + n).toNat)) : Nat) : Int)
theorem pcS_rng (f : Nat → Int64) (a : Int) (n : Nat) : 0 ≤ pcS f a n ∧ pcS f a n ≤ 64 * n := by
  induction n with
  | zero => exact ⟨Int.le_refl _, Int.le_refl _⟩
  | succ n ih =>
    have := pcN_le 64 (uN (f (a + n).toNat))
    show 0 ≤ pcS f a n + _ ∧ pcS f a n + _ ≤ _
    omega
def pcI (x : Int64) : Int := ((pcN 64 (uN x) : Nat) : Int)
theorem pcI_rng (x : Int64) : 0 ≤ pcI x ∧ pcI x ≤ 64 := by
  unfold pcI
  have := pcN_le 64 (uN x)
  omega
theorem pcS_step {f : Nat → Int64} {a i : Int} {x : Int64} (h : x = f (zI (a + i)).toNatClampNeg) (i0 : 0 ≤ i) (a0 : 0 ≤ a + i) (a1 : a + i < 2147483648) : pcS f a (i + 1).toNat = pcS f a i.toNat + pcI x := by
  rw [show (i + 1).toNat = i.toNat + 1 by omega, h, zI_cl a0 a1]
  show pcS f a i.toNat + ((pcN 64 (uN (f (a + (i.toNat : Int)).toNat)) : Nat) : Int) = _
  rw [show a + (i.toNat : Int) = a + i by omega]
  rfl
theorem lg_ne {x : Int64} (h : ¬ lg_cmp x (lI 0) = 0) : ¬ x = 0 := fun e => h (by rw [e]; decide)
theorem lg_eq0 {x : Int64} (h : lg_cmp x (lI 0) = 0) : x = 0 := by
  unfold lg_cmp at h
  by_cases h1 : x > lI 0
  · rw [if_pos h1] at h; exact absurd h (by decide)
  · rw [if_neg h1] at h
    by_cases h2 : x = lI 0
    · rw [h2]; decide
    · rw [if_neg h2] at h; exact absurd h (by decide)
theorem pcI_rest {x y z : Int64} (h : ¬ x = 0) (e1 : y = x - lI 1) (e2 : z = x &&& y) : pcI z + 1 = pcI x := by
  rw [e2, e1]
  have := rest_pc h
  unfold pcI
  omega
theorem pcI_low {x y z u : Int64} (h : ¬ x = 0) (e1 : y = -x) (e2 : z = x &&& y) (e3 : u = z - lI 1) : 0 ≤ pcI u ∧ pcI u ≤ 63 := by
  rw [e3, e2, e1]
  have := low_le h
  unfold pcI
  omega
theorem pcI_0 {x : Int64} (h : x = 0) : pcI x = 0 := by rw [h]; decide
