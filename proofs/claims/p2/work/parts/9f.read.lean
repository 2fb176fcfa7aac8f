theorem xI_ex (x : Int32) : ∃ w : Int, x = zI w ∧ (-2147483648 ≤ w ∧ w ≤ 2147483647) := ⟨x.toInt, (Int32.ofInt_toInt x).symm, by have := xI_rng x; omega⟩
theorem lI_mul (a b : Int) : lI a * lI b = lI (a * b) := (Int64.ofInt_mul a b).symm
theorem lI_neg (a : Int) : - lI a = lI (-a) := (Int64.ofInt_neg a).symm
theorem lI_lt {a b : Int} (h1 : -9223372036854775808 ≤ a) (h2 : a < 9223372036854775808) (h3 : -9223372036854775808 ≤ b) (h4 : b < 9223372036854775808) : lI a < lI b ↔ a < b := by
  rw [Int64.lt_iff_toInt_lt, lI_toInt h1 h2, lI_toInt h3 h4]
theorem lI_min {a b : Int} {z9 : Int64} (h1 : -9223372036854775808 ≤ a) (h2 : a < 9223372036854775808) (h3 : -9223372036854775808 ≤ b) (h4 : b < 9223372036854775808) (ez : z9 = if lI b < lI a then lI b else lI a) : ∃ z : Int, z9 = lI z ∧ (z ≤ a ∧ z ≤ b ∧ (z = a ∨ z = b)) := by
  by_cases h : b < a
  · rw [if_pos ((lI_lt h3 h4 h1 h2).mpr h)] at ez; exact ⟨b, ez, by omega⟩
  · rw [if_neg (fun q => h ((lI_lt h3 h4 h1 h2).mp q))] at ez; exact ⟨a, ez, by omega⟩
/-- the byte of the text at a place, -1 behind its end -/
def btF (f : Nat → Int32) (n i : Int) : Int := if i < n then (f i.toNat &&& 255).toInt else -1
theorem btF_rng (f : Nat → Int32) (n i : Int) : -1 ≤ btF f n i ∧ btF f n i ≤ 255 := by
  unfold btF; split
  · obtain ⟨z, e, h⟩ := zI_and 8 (x := f i.toNat) (m := 255) (by decide) (by decide) rfl
    rw [e, zI_toInt (by omega) (by omega)]; omega
  · omega
theorem btF_in {f : Nat → Int32} {n i : Int} {x y : Int32} (h0 : 0 ≤ i) (h1 : i < 2147483648) (h : i < n) (ex : x = f (zI i).toNatClampNeg) (ey : y = x &&& 255) : y = zI (btF f n i) := by
  unfold btF; rw [if_pos h, ey, ex, zI_cl h0 h1]; exact (Int32.ofInt_toInt _).symm
theorem btF_out {f : Nat → Int32} {n i : Int} (h : ¬ i < n) : btF f n i = -1 := by unfold btF; rw [if_neg h]
def dgF (f : Nat → Int32) (n i : Int) : Int := if 48 ≤ btF f n i ∧ btF f n i ≤ 57 then 1 else 0
theorem dgF_spec (f : Nat → Int32) (n i : Int) : (dgF f n i = 1 ∧ 48 ≤ btF f n i ∧ btF f n i ≤ 57) ∨ (dgF f n i = 0 ∧ (btF f n i < 48 ∨ 57 < btF f n i)) := by
  unfold dgF; split
  · rename_i h; exact Or.inl ⟨rfl, h⟩
  · rename_i h; exact Or.inr ⟨rfl, by omega⟩
/-- what a sign's kind says of its value -/
def RKV (k v : Int) : Prop := (k = 2 → 0 ≤ v ∧ v < 200) ∧ (k = 4 → 0 ≤ v ∧ v < 60) ∧ (k = 12 → 3 ≤ v ∧ v ≤ 16)
/-- a text that has broken no rule so far: what is kept of it -/
def RDI (bp st bc fg B R : Int) (rs fs ek g1 g2 op tg lb gp : Int → Int) : Prop := bp < 0 → BLD B R rs fs ek g1 g2 60 ∧ HUI op tg R ∧ (0 ≤ bc ∧ bc ≤ 60) ∧ (st = 0 → bc = B ∧ rs B = R) ∧ (¬ st = 0 → bc = B + 1) ∧ (∀ x : Int, 0 ≤ x → x < 60 → lb x = 1 → x < bc) ∧ (∀ x : Int, 0 ≤ x → x < B → ¬ ek x = 2 → 0 ≤ gp (g1 x) ∧ 0 ≤ gp (g2 x)) ∧ (st = 11 → 0 ≤ gp fg)
theorem RDI.off {bp st bc fg B R : Int} {rs fs ek g1 g2 op tg lb gp : Int → Int} (h : 0 ≤ bp) : RDI bp st bc fg B R rs fs ek g1 g2 op tg lb gp := fun q => by omega
theorem RDI.init {fg : Int} {rs fs ek g1 g2 op tg lb gp : Int → Int} (a : rs 0 = 0) (b : fs 0 = 0) (c : ∀ x : Int, 0 ≤ x → x < 60 → lb x = 0) : RDI (-1) 0 0 fg 0 0 rs fs ek g1 g2 op tg lb gp :=
  fun _ => ⟨BLD.init a b, HUI.zero _ _, by omega, fun _ => ⟨rfl, a⟩, fun q => absurd rfl q, fun x h1 h2 h3 => by rw [c x h1 h2] at h3; omega, fun x h1 h2 => by omega, fun q => by omega⟩
theorem RDI.label {bp st bc fg B R bp' v : Int} {rs fs ek g1 g2 op tg lb gp : Int → Int} (h : RDI bp st bc fg B R rs fs ek g1 g2 op tg lb gp) (s : st = 0) (v0 : 0 ≤ v) (v1 : v < 60) (e : bp' < 0 → bp < 0 ∧ v = bc) : RDI bp' 1 (bc + 1) fg B R rs fs ek g1 g2 op tg (zup lb v 1) gp := by
  intro q
  obtain ⟨q1, q2⟩ := e q
  obtain ⟨h1, h2, h3, h4, h5, h6, h7, h8⟩ := h q1
  refine ⟨h1, h2, by omega, fun z => by omega, fun _ => by have := h4 s; omega, fun x a b c => ?_, h7, fun z => by omega⟩
  by_cases w : x = v
  · omega
  · rw [zup_ne _ _ w] at c; have := h6 x a b c; omega
theorem RDI.go {bp st bc fg B R bp' st' fg' R' : Int} {rs fs ek g1 g2 op tg op' tg' lb gp : Int → Int} (h : RDI bp st bc fg B R rs fs ek g1 g2 op tg lb gp) (e : bp' < 0 → bp < 0 ∧ HUI op' tg' R' ∧ R ≤ R') (s : ¬ st = 0) (s' : ¬ st' = 0 ∧ ¬ st' = 11) : RDI bp' st' bc fg' B R' rs fs ek g1 g2 op' tg' lb gp := by
  intro q
  obtain ⟨q1, q2, q3⟩ := e q
  obtain ⟨h1, h2, h3, h4, h5, h6, h7, h8⟩ := h q1
  exact ⟨h1.rows q3, q2, h3, fun z => absurd z s'.1, fun _ => h5 s, h6, h7, fun z => absurd z s'.2⟩
theorem RDI.hui {bp st bc fg B R : Int} {rs fs ek g1 g2 op tg lb gp : Int → Int} (h : RDI bp st bc fg B R rs fs ek g1 g2 op tg lb gp) (q : bp < 0) : HUI op tg R := (h q).2.1
/-- places of goals only come -/
def GPU (gp gp' : Int → Int) : Prop := ∀ x : Int, 0 ≤ gp x → 0 ≤ gp' x
theorem GPU.refl (gp : Int → Int) : GPU gp gp := fun _ h => h
theorem GPU.set (gp : Int → Int) {v p : Int} (h : 0 ≤ p) : GPU gp (zup gp v p) := fun x q => by unfold zup; split; exact h; exact q
theorem RDI.first {bp st bc fg B R v : Int} {rs fs ek g1 g2 op tg lb gp gp' : Int → Int} (h : RDI bp st bc fg B R rs fs ek g1 g2 op tg lb gp) (s : ¬ st = 0) (g : GPU gp gp') (v0 : 0 ≤ gp' v) : RDI bp 11 bc v B R rs fs ek g1 g2 op tg lb gp' := by
  intro q
  obtain ⟨h1, h2, h3, h4, h5, h6, h7, h8⟩ := h q
  exact ⟨h1, h2, h3, fun z => by omega, fun _ => h5 s, h6, fun x a b c => ⟨g _ (h7 x a b c).1, g _ (h7 x a b c).2⟩, fun _ => v0⟩
theorem RDI.fin {bp st bc fg fg' B R B' k u v : Int} {rs fs ek g1 g2 op tg lb gp gp' rs' fs' ek' g1' g2' : Int → Int} (h : RDI bp st bc fg B R rs fs ek g1 g2 op tg lb gp) (s : ¬ st = 0) (g : GPU gp gp') (kc : k = 2 ∨ (0 ≤ gp' u ∧ 0 ≤ gp' v)) (e : bp < 0 → BLD B' R rs' fs' ek' g1' g2' 60 ∧ B' = B + 1 ∧ rs' B' = R ∧ ek' = zup ek B k ∧ g1' = zup g1 B u ∧ g2' = zup g2 B v) : RDI bp 0 bc fg' B' R rs' fs' ek' g1' g2' op tg lb gp' := by
  intro q
  obtain ⟨h1, h2, h3, h4, h5, h6, h7, h8⟩ := h q
  obtain ⟨e1, e2, e3, e4, e5, e6⟩ := e q
  have b := h5 s
  refine ⟨e1, h2, h3, fun _ => ⟨by omega, e3⟩, fun z => absurd rfl z, h6, fun x a c d => ?_, fun z => by omega⟩
  rw [e4] at d
  rw [e5, e6]
  by_cases w : x = B
  · rw [w, zup_eq] at d
    rw [w, zup_eq, zup_eq]
    rcases kc with y | y
    · exact absurd y d
    · exact y
  · rw [zup_ne _ _ w] at d
    rw [zup_ne _ _ w, zup_ne _ _ w]
    have := h7 x a (by omega) d
    exact ⟨g _ this.1, g _ this.2⟩
