theorem zup_eq (a : Int → Int) (k v : Int) : zup a k v k = v := by unfold zup; rw [if_pos rfl]
theorem zup_ne (a : Int → Int) {k j : Int} (v : Int) (h : ¬ j = k) : zup a k v j = a j := by unfold zup; rw [if_neg h]
def sg (f : Int → Int) : Nat → Int
  | 0 => 0
  | n + 1 => sg f n + f n
theorem sg_off (f : Int → Int) {k v : Int} (n : Nat) (h : k < 0 ∨ n ≤ k) : sg (zup f k v) n = sg f n := by
  induction n with
  | zero => rfl
  | succ n ih =>
    show sg (zup f k v) n + zup f k v n = sg f n + f n
    rw [ih (by omega), zup_ne f v (by omega)]
theorem sg_up (f : Int → Int) {k : Int} (v : Int) (n : Nat) (h0 : 0 ≤ k) (h1 : k < n) : sg (zup f k v) n = sg f n + (v - f k) := by
  induction n with
  | zero => omega
  | succ n ih =>
    show sg (zup f k v) n + zup f k v n = sg f n + f n + (v - f k)
    by_cases hk : (n : Int) = k
    · rw [sg_off f n (Or.inr (by omega)), hk, zup_eq]; omega
    · rw [ih (by omega), zup_ne f v hk]; omega
theorem sg_map (F : Int → Int) (a : Int → Int) (k v : Int) : (fun j => F (zup a k v j)) = zup (fun j => F (a j)) k (F v) := by
  funext j
  unfold zup
  by_cases h : j = k
  · rw [if_pos h, if_pos h]
  · rw [if_neg h, if_neg h]
theorem sg_le {f g : Int → Int} (n : Nat) (h : ∀ j : Int, 0 ≤ j → j < n → f j ≤ g j) : sg f n ≤ sg g n := by
  induction n with
  | zero => exact Int.le_refl _
  | succ n ih =>
    show sg f n + f n ≤ sg g n + g n
    have h1 := ih (fun j a b => h j a (by omega))
    have h2 := h n (by omega) (by omega)
    omega
theorem sg_congr {f g : Int → Int} (n : Nat) (h : ∀ j : Int, 0 ≤ j → j < n → f j = g j) : sg f n = sg g n := by
  have h1 := sg_le (f := f) (g := g) n (fun j a b => Int.le_of_eq (h j a b))
  have h2 := sg_le (f := g) (g := f) n (fun j a b => Int.le_of_eq (h j a b).symm)
  omega
theorem sg_const (c : Int) (n : Nat) : sg (fun _ => c) n = c * n := by
  induction n with
  | zero => simp [sg]
  | succ n ih =>
    show sg (fun _ => c) n + c = _
    rw [ih]
    have : ((n + 1 : Nat) : Int) = (n : Int) + 1 := by omega
    rw [this, Int.mul_add]; omega
def negF (x : Int) : Int := if x < 0 then 1 else 0
def posF (x : Int) : Int := if x < 0 then 0 else x
theorem negF_rng (x : Int) : 0 ≤ negF x ∧ negF x ≤ 1 := by unfold negF; split <;> omega
/-- one of p's goals is b -/
def ED (ek g1 g2 : Int → Int) (p b : Int) : Prop := ∃ i : Int, 0 ≤ i ∧ i < gcF ek g1 g2 p ∧ glF g1 g2 p i = b
abbrev WI (ek g1 g2 : Int → Int) (B : Int) (ng st po bp : Int → Int) (d rd n : Int) : Prop := (0 ≤ d) ∧ (0 ≤ rd) ∧ (d + rd + sg (fun j => negF (ng j)) B.toNat = B) ∧ (n = sg (fun j => posF (ng j)) B.toNat + rd) ∧ (∀ b : Int, 0 ≤ b → b < B → ng b ≤ gcF ek g1 g2 b) ∧ (∀ j : Int, 0 ≤ j → j < d → 0 ≤ st j ∧ st j < B ∧ 0 ≤ ng (st j) ∧ po (st j) < 0) ∧ (∀ i j : Int, 0 ≤ i → i < j → j < d → ¬ st i = st j) ∧ (0 < d → st 0 = 0) ∧ (d = 0 → 0 < rd ∧ bp (rd - 1) = 0) ∧ (∀ b : Int, 0 ≤ b → b < B → 0 ≤ po b → po b < rd ∧ bp (po b) = b ∧ gcF ek g1 g2 b ≤ ng b) ∧ (∀ i : Int, 0 ≤ i → i < rd → 0 ≤ bp i ∧ bp i < B ∧ po (bp i) = i) ∧ (∀ b : Int, 0 ≤ b → b < B → 0 ≤ ng b → 0 ≤ po b ∨ ∃ j : Int, 0 ≤ j ∧ j < d ∧ st j = b) ∧ (∀ j : Int, 1 ≤ j → j < d → ED ek g1 g2 (st (j - 1)) (st j)) ∧ (∀ b : Int, 0 < b → b < B → 0 ≤ po b → ∃ p : Int, 0 ≤ p ∧ p < B ∧ ED ek g1 g2 p b ∧ (po b < po p ∨ (po p < 0 ∧ 0 ≤ ng p))) ∧ (∀ b i : Int, 0 ≤ b → b < B → 0 ≤ i → i < ng b → 0 ≤ ng (glF g1 g2 b i))
theorem WI.d0 {ek g1 g2 : Int → Int} {B : Int} {ng st po bp : Int → Int} {d rd n : Int} (h : WI ek g1 g2 B ng st po bp d rd n) : 0 ≤ d := h.1
theorem WI.r0 {ek g1 g2 : Int → Int} {B : Int} {ng st po bp : Int → Int} {d rd n : Int} (h : WI ek g1 g2 B ng st po bp d rd n) : 0 ≤ rd := h.2.1
theorem WI.cnt {ek g1 g2 : Int → Int} {B : Int} {ng st po bp : Int → Int} {d rd n : Int} (h : WI ek g1 g2 B ng st po bp d rd n) : d + rd + sg (fun j => negF (ng j)) B.toNat = B := h.2.2.1
theorem WI.rounds {ek g1 g2 : Int → Int} {B : Int} {ng st po bp : Int → Int} {d rd n : Int} (h : WI ek g1 g2 B ng st po bp d rd n) : n = sg (fun j => posF (ng j)) B.toNat + rd := h.2.2.2.1
theorem WI.ngle {ek g1 g2 : Int → Int} {B : Int} {ng st po bp : Int → Int} {d rd n : Int} (h : WI ek g1 g2 B ng st po bp d rd n) : ∀ b : Int, 0 ≤ b → b < B → ng b ≤ gcF ek g1 g2 b := h.2.2.2.2.1
theorem WI.stk {ek g1 g2 : Int → Int} {B : Int} {ng st po bp : Int → Int} {d rd n : Int} (h : WI ek g1 g2 B ng st po bp d rd n) : ∀ j : Int, 0 ≤ j → j < d → 0 ≤ st j ∧ st j < B ∧ 0 ≤ ng (st j) ∧ po (st j) < 0 := h.2.2.2.2.2.1
theorem WI.inj {ek g1 g2 : Int → Int} {B : Int} {ng st po bp : Int → Int} {d rd n : Int} (h : WI ek g1 g2 B ng st po bp d rd n) : ∀ i j : Int, 0 ≤ i → i < j → j < d → ¬ st i = st j := h.2.2.2.2.2.2.1
theorem WI.root {ek g1 g2 : Int → Int} {B : Int} {ng st po bp : Int → Int} {d rd n : Int} (h : WI ek g1 g2 B ng st po bp d rd n) : 0 < d → st 0 = 0 := h.2.2.2.2.2.2.2.1
theorem WI.fin {ek g1 g2 : Int → Int} {B : Int} {ng st po bp : Int → Int} {d rd n : Int} (h : WI ek g1 g2 B ng st po bp d rd n) : d = 0 → 0 < rd ∧ bp (rd - 1) = 0 := h.2.2.2.2.2.2.2.2.1
theorem WI.pop {ek g1 g2 : Int → Int} {B : Int} {ng st po bp : Int → Int} {d rd n : Int} (h : WI ek g1 g2 B ng st po bp d rd n) : ∀ b : Int, 0 ≤ b → b < B → 0 ≤ po b → po b < rd ∧ bp (po b) = b ∧ gcF ek g1 g2 b ≤ ng b := h.2.2.2.2.2.2.2.2.2.1
theorem WI.byp {ek g1 g2 : Int → Int} {B : Int} {ng st po bp : Int → Int} {d rd n : Int} (h : WI ek g1 g2 B ng st po bp d rd n) : ∀ i : Int, 0 ≤ i → i < rd → 0 ≤ bp i ∧ bp i < B ∧ po (bp i) = i := h.2.2.2.2.2.2.2.2.2.2.1
theorem WI.vis {ek g1 g2 : Int → Int} {B : Int} {ng st po bp : Int → Int} {d rd n : Int} (h : WI ek g1 g2 B ng st po bp d rd n) : ∀ b : Int, 0 ≤ b → b < B → 0 ≤ ng b → 0 ≤ po b ∨ ∃ j : Int, 0 ≤ j ∧ j < d ∧ st j = b := h.2.2.2.2.2.2.2.2.2.2.2.1
theorem WI.edg {ek g1 g2 : Int → Int} {B : Int} {ng st po bp : Int → Int} {d rd n : Int} (h : WI ek g1 g2 B ng st po bp d rd n) : ∀ j : Int, 1 ≤ j → j < d → ED ek g1 g2 (st (j - 1)) (st j) := h.2.2.2.2.2.2.2.2.2.2.2.2.1
theorem WI.par {ek g1 g2 : Int → Int} {B : Int} {ng st po bp : Int → Int} {d rd n : Int} (h : WI ek g1 g2 B ng st po bp d rd n) : ∀ b : Int, 0 < b → b < B → 0 ≤ po b → ∃ p : Int, 0 ≤ p ∧ p < B ∧ ED ek g1 g2 p b ∧ (po b < po p ∨ (po p < 0 ∧ 0 ≤ ng p)) := h.2.2.2.2.2.2.2.2.2.2.2.2.2.1
theorem WI.clo {ek g1 g2 : Int → Int} {B : Int} {ng st po bp : Int → Int} {d rd n : Int} (h : WI ek g1 g2 B ng st po bp d rd n) : ∀ b i : Int, 0 ≤ b → b < B → 0 ≤ i → i < ng b → 0 ≤ ng (glF g1 g2 b i) := h.2.2.2.2.2.2.2.2.2.2.2.2.2.2
theorem sg_nonneg {f : Int → Int} (n : Nat) (h : ∀ j : Int, 0 ≤ f j) : 0 ≤ sg f n := by
  have := sg_le (f := fun _ => 0) (g := f) n (fun j _ _ => h j)
  rw [sg_const] at this; omega
theorem sg_ge1 {f : Int → Int} (n : Nat) (h : ∀ j : Int, 0 ≤ f j) {k : Int} (h0 : 0 ≤ k) (h1 : k < n) (hk : 1 ≤ f k) : 1 ≤ sg f n := by
  have e : sg (zup f k 0) n = sg f n + (0 - f k) := sg_up f 0 n h0 h1
  have h2 : 0 ≤ sg (zup f k 0) n := sg_nonneg n (fun j => by unfold zup; split; omega; exact h j)
  omega
theorem WI.init {ek g1 g2 ng st po bp : Int → Int} {B : Int} (hB : 1 ≤ B) (h1 : ∀ b : Int, 0 ≤ b → b < B → ng b = -1) (h2 : ∀ b : Int, 0 ≤ b → b < B → po b = -1) : WI ek g1 g2 B (zup ng 0 0) (zup st 0 0) po bp 1 0 0 := by
  have e1 : sg (fun j => negF (zup ng 0 0 j)) B.toNat = B - 1 := by
    rw [sg_map negF, sg_up _ _ _ (by omega) (by omega), sg_congr (g := fun _ => 1) B.toNat (fun j a b => by show negF (ng j) = 1; rw [h1 j a (by omega)]; decide), sg_const, h1 0 (by omega) (by omega)]
    have : negF 0 = 0 := by decide
    have h3 : negF (-1) = 1 := by decide
    omega
  have e2 : sg (fun j => posF (zup ng 0 0 j)) B.toNat = 0 := by
    rw [sg_map posF, sg_up _ _ _ (by omega) (by omega), sg_congr (g := fun _ => 0) B.toNat (fun j a b => by show posF (ng j) = 0; rw [h1 j a (by omega)]; decide), sg_const, h1 0 (by omega) (by omega)]
    have : posF 0 = 0 := by decide
    have h3 : posF (-1) = 0 := by decide
    omega
  have z : ∀ b : Int, 0 ≤ b → b < B → zup ng 0 0 b ≤ 0 := by
    intro b a c; unfold zup; split; omega; rw [h1 b a c]; omega
  refine ⟨by omega, by omega, by omega, by omega, fun b a c => ?_, fun j a c => ?_, fun i j a c q => by omega, fun _ => zup_eq _ _ _, fun q => by omega, fun b a c q => ?_, fun i a c => by omega, fun b a c q => ?_, fun j a c => by omega, fun b a c q => ?_, fun b i a c q r => ?_⟩
  · have := z b a c; have := gcF_rng ek g1 g2 b; omega
  · have : j = 0 := by omega
    subst this
    rw [zup_eq, zup_eq, h2 0 (by omega) (by omega)]; omega
  · rw [h2 b a c] at q; omega
  · refine Or.inr ⟨0, by omega, by omega, ?_⟩
    rw [zup_eq]
    by_cases hb : b = 0
    · exact hb.symm
    · rw [zup_ne _ _ hb, h1 b a c] at q; omega
  · rw [h2 b (by omega) c] at q; omega
  · have := z b a c; omega
theorem WI.bounds {ek g1 g2 ng st po bp : Int → Int} {B d rd n : Int} (h : WI ek g1 g2 B ng st po bp d rd n) (hB : 1 ≤ B) : d + rd ≤ B ∧ n ≤ 3 * B := by
  have h1 := h.cnt
  have h2 : 0 ≤ sg (fun j => negF (ng j)) B.toNat := sg_nonneg _ (fun j => (negF_rng _).1)
  have h3 : sg (fun j => posF (ng j)) B.toNat ≤ sg (fun _ => 2) B.toNat := sg_le _ (fun j a b => by
    have q := h.ngle j a (by omega)
    have r := gcF_rng ek g1 g2 j
    show posF (ng j) ≤ 2
    unfold posF; split <;> omega)
  rw [sg_const] at h3
  have h4 := h.rounds
  have := h.d0
  omega
/-- the next goal of the top is looked at: it was seen before -/
theorem WI.skip {ek g1 g2 ng st po bp : Int → Int} {B d rd n b : Int} (h : WI ek g1 g2 B ng st po bp d rd n) (hd : 0 < d) (hb : st (d - 1) = b) (hg : ng b < gcF ek g1 g2 b) (hs : 0 ≤ zup ng b (ng b + 1) (glF g1 g2 b (ng b))) : WI ek g1 g2 B (zup ng b (ng b + 1)) st po bp d rd (n + 1) := by
  obtain ⟨b0, b1, b2, b3⟩ := h.stk (d - 1) (by omega) (by omega)
  rw [hb] at b0 b1 b2 b3
  have up : ∀ j : Int, ng j ≤ zup ng b (ng b + 1) j := by
    intro j; unfold zup; split
    · rename_i q; rw [q]; omega
    · omega
  have up0 : ∀ j : Int, 0 ≤ ng j ↔ 0 ≤ zup ng b (ng b + 1) j := by
    intro j; unfold zup; split
    · rename_i q; rw [q]; omega
    · exact Iff.rfl
  refine ⟨h.d0, h.r0, ?_, ?_, fun c a q => ?_, fun j a q => ?_, h.inj, h.root, h.fin, fun c a q r => ?_, h.byp, fun c a q r => ?_, h.edg, fun c a q r => ?_, fun c i a q r t => ?_⟩
  · rw [sg_map negF, sg_up _ _ _ b0 (by omega)]
    have e1 : negF (ng b + 1) = 0 := by unfold negF; rw [if_neg (by omega)]
    have e2 : negF (ng b) = 0 := by unfold negF; rw [if_neg (by omega)]
    rw [e1, e2]; have := h.cnt; omega
  · rw [sg_map posF, sg_up _ _ _ b0 (by omega)]
    have e1 : posF (ng b + 1) = ng b + 1 := by unfold posF; rw [if_neg (by omega)]
    have e2 : posF (ng b) = ng b := by unfold posF; rw [if_neg (by omega)]
    rw [e1, e2]; have := h.rounds; omega
  · unfold zup; split
    · rename_i e; rw [e]; omega
    · exact h.ngle c a q
  · have := h.stk j a q; have := up (st j); exact ⟨by omega, by omega, by omega, by omega⟩
  · have := h.pop c a q r; have := up c; exact ⟨by omega, this |> fun _ => (h.pop c a q r).2.1, by omega⟩
  · exact h.vis c a q ((up0 c).mpr r)
  · obtain ⟨p, p0, p1, p2, p3⟩ := h.par c a q r
    exact ⟨p, p0, p1, p2, p3.imp id (fun x => ⟨x.1, (up0 p).mp x.2⟩)⟩
  · by_cases e : c = b
    · rw [e, zup_eq] at t
      by_cases e2 : i = ng b
      · rw [e, e2]; exact hs
      · rw [e]; exact (up0 _).mp (h.clo b i b0 b1 r (by omega))
    · rw [zup_ne _ _ e] at t
      exact (up0 _).mp (h.clo c i a q r t)
/-- a block that wasn't seen comes onto the stack -/
theorem WI.push {ek g1 g2 ng st po bp : Int → Int} {B d rd n b g : Int} (h : WI ek g1 g2 B ng st po bp d rd n) (hd : 0 < d) (hb : st (d - 1) = b) (hg : ng b < gcF ek g1 g2 b) (eg : glF g1 g2 b (ng b) = g) (g0 : 0 ≤ g) (g1' : g < B) (hs : zup ng b (ng b + 1) g < 0) : WI ek g1 g2 B (zup (zup ng b (ng b + 1)) g 0) (zup st d g) po bp (d + 1) rd (n + 1) := by
  obtain ⟨b0, b1, b2, b3⟩ := h.stk (d - 1) (by omega) (by omega)
  rw [hb] at b0 b1 b2 b3
  have gb : ¬ g = b := by
    intro e; rw [e, zup_eq] at hs; omega
  have ngg : ng g < 0 := by rw [zup_ne _ _ gb] at hs; exact hs
  have up0 : ∀ j : Int, 0 ≤ ng j → 0 ≤ zup (zup ng b (ng b + 1)) g 0 j := by
    intro j q; unfold zup; split
    · omega
    · split
      · omega
      · exact q
  have upj : ∀ j : Int, ¬ j = g → ng j ≤ zup (zup ng b (ng b + 1)) g 0 j ∧ (0 ≤ zup (zup ng b (ng b + 1)) g 0 j → 0 ≤ ng j) := by
    intro j q; unfold zup; rw [if_neg q]; split
    · rename_i e; rw [e]; exact ⟨by omega, fun _ => b2⟩
    · exact ⟨by omega, id⟩
  have sne : ∀ j : Int, j < d → zup st d g j = st j := fun j q => zup_ne _ _ (by omega)
  have stg : ∀ j : Int, 0 ≤ j → j < d → ¬ st j = g := by
    intro j a q e; have := (h.stk j a q).2.2.1; rw [e] at this; omega
  have pog : po g < 0 := by
    rcases Int.lt_or_le (po g) 0 with q | q
    · exact q
    · have := (h.pop g g0 g1' q).2.2; have := gcF_rng ek g1 g2 g; omega
  refine ⟨by have := h.d0; omega, h.r0, ?_, ?_, fun c a q => ?_, fun j a q => ?_, fun i j a q r => ?_, fun _ => ?_, fun q => by omega, fun c a q r => ?_, h.byp, fun c a q r => ?_, fun j a q => ?_, fun c a q r => ?_, fun c i a q r t => ?_⟩
  · rw [sg_map negF, sg_up _ _ _ g0 (by omega), sg_map negF, sg_up _ _ _ b0 (by omega)]
    have e1 : negF (ng b + 1) = 0 := by unfold negF; rw [if_neg (by omega)]
    have e2 : negF (ng b) = 0 := by unfold negF; rw [if_neg (by omega)]
    have e3 : negF 0 = 0 := by decide
    have e4 : negF (zup ng b (ng b + 1) g) = 1 := by
      rw [zup_ne _ _ gb]; unfold negF; rw [if_pos ngg]
    rw [e4, e1, e2, e3]; have := h.cnt; omega
  · rw [sg_map posF, sg_up _ _ _ g0 (by omega), sg_map posF, sg_up _ _ _ b0 (by omega)]
    have e1 : posF (ng b + 1) = ng b + 1 := by unfold posF; rw [if_neg (by omega)]
    have e2 : posF (ng b) = ng b := by unfold posF; rw [if_neg (by omega)]
    have e3 : posF 0 = 0 := by decide
    have e4 : posF (zup ng b (ng b + 1) g) = 0 := by
      rw [zup_ne _ _ gb]; unfold posF; rw [if_pos ngg]
    rw [e4, e1, e2, e3]; have := h.rounds; omega
  · by_cases e : c = g
    · rw [e, zup_eq]; exact (gcF_rng ek g1 g2 g).1
    · rw [zup_ne _ _ e]; unfold zup; split
      · rename_i e; rw [e]; omega
      · exact h.ngle c a q
  · by_cases e : j = d
    · rw [e, zup_eq, zup_eq]; exact ⟨g0, g1', by omega, pog⟩
    · rw [sne j (by omega)]
      have := h.stk j a (by omega)
      exact ⟨this.1, this.2.1, up0 _ this.2.2.1, this.2.2.2⟩
  · rw [sne i (by omega)]
    by_cases e : j = d
    · rw [e, zup_eq]; exact stg i a (by omega)
    · rw [sne j (by omega)]; exact h.inj i j a q (by omega)
  · rw [sne 0 hd]; exact h.root hd
  · have := h.pop c a q r
    have cg : ¬ c = g := by intro e; rw [e] at r; omega
    exact ⟨this.1, this.2.1, by have := (upj c cg).1; omega⟩
  · by_cases e : c = g
    · exact Or.inr ⟨d, by omega, by omega, by rw [e, zup_eq]⟩
    · rcases h.vis c a q ((upj c e).2 r) with x | ⟨j, j0, j1, j2⟩
      · exact Or.inl x
      · exact Or.inr ⟨j, j0, by omega, by rw [sne j j1]; exact j2⟩
  · by_cases e : j = d
    · rw [e, zup_eq, sne (d - 1) (by omega), hb]
      exact ⟨ng b, b2, hg, eg⟩
    · rw [sne (j - 1) (by omega), sne j (by omega)]
      exact h.edg j a (by omega)
  · obtain ⟨p, p0, p1, p2, p3⟩ := h.par c a q r
    exact ⟨p, p0, p1, p2, p3.imp id (fun x => ⟨x.1, up0 p x.2⟩)⟩
  · by_cases e : c = g
    · rw [e, zup_eq] at t; omega
    · rw [zup_ne _ _ e] at t
      by_cases e1 : c = b
      · rw [e1, zup_eq] at t
        by_cases e2 : i = ng b
        · rw [e1, e2, eg, zup_eq]; omega
        · rw [e1]; exact up0 _ (h.clo b i b0 b1 r (by omega))
      · rw [zup_ne _ _ e1] at t
        exact up0 _ (h.clo c i a q r t)
/-- the top has no goal left: it gets its number -/
theorem WI.popd {ek g1 g2 ng st po bp : Int → Int} {B d rd n b : Int} (h : WI ek g1 g2 B ng st po bp d rd n) (hd : 0 < d) (hb : st (d - 1) = b) (hg : ¬ ng b < gcF ek g1 g2 b) : WI ek g1 g2 B ng st (zup po b rd) (zup bp rd b) (d - 1) (rd + 1) (n + 1) := by
  obtain ⟨b0, b1, b2, b3⟩ := h.stk (d - 1) (by omega) (by omega)
  rw [hb] at b0 b1 b2 b3
  have r0 := h.r0
  have stb : ∀ j : Int, 0 ≤ j → j < d - 1 → ¬ st j = b := by
    intro j a q e; exact h.inj j (d - 1) a q (by omega) (by rw [e, hb])
  refine ⟨by omega, by omega, by have := h.cnt; omega, by have := h.rounds; omega, h.ngle, fun j a q => ?_, fun i j a q r => h.inj i j a q (by omega), fun q => h.root hd, fun q => ?_, fun c a q r => ?_, fun i a q => ?_, fun c a q r => ?_, fun j a q => h.edg j a (by omega), fun c a q r => ?_, h.clo⟩
  · have := h.stk j a (by omega)
    rw [zup_ne _ _ (stb j a q)]
    exact this
  · have e : b = 0 := by rw [← hb, show d - 1 = 0 by omega]; exact h.root hd
    refine ⟨by omega, ?_⟩
    rw [show rd + 1 - 1 = rd by omega, zup_eq]; exact e
  · by_cases e : c = b
    · rw [e, zup_eq, zup_eq]; exact ⟨by omega, rfl, by omega⟩
    · rw [zup_ne _ _ e] at r ⊢
      have := h.pop c a q r
      rw [zup_ne bp _ (by omega)]
      exact ⟨by omega, this.2.1, this.2.2⟩
  · by_cases e : i = rd
    · rw [e, zup_eq, zup_eq]; exact ⟨b0, b1, rfl⟩
    · rw [zup_ne bp _ e]
      have := h.byp i a (by omega)
      have ne : ¬ bp i = b := by intro x; have y := this.2.2; rw [x] at y; omega
      rw [zup_ne po _ ne]; exact this
  · by_cases e : c = b
    · left; rw [e, zup_eq]; exact r0
    · rw [zup_ne _ _ e]
      rcases h.vis c a q r with x | ⟨j, j0, j1, j2⟩
      · exact Or.inl x
      · refine Or.inr ⟨j, j0, ?_, j2⟩
        rcases Int.lt_or_le j (d - 1) with y | y
        · exact y
        · exfalso; apply e; rw [← j2, show j = d - 1 by omega, hb]
  · by_cases e : c = b
    · rw [e, zup_eq]
      have d1 : ¬ d - 1 = 0 := by
        intro x; have := h.root hd; rw [x, this] at hb; omega
      have s1 := h.stk (d - 2) (by omega) (by omega)
      have e1 := h.edg (d - 1) (by omega) (by omega)
      rw [hb, show d - 1 - 1 = d - 2 by omega] at e1
      refine ⟨st (d - 2), s1.1, s1.2.1, e1, Or.inr ⟨?_, s1.2.2.1⟩⟩
      rw [zup_ne _ _ (stb (d - 2) (by omega) (by omega))]; exact s1.2.2.2
    · rw [zup_ne po _ e] at r ⊢
      obtain ⟨p, p0, p1, p2, p3⟩ := h.par c (by omega) q r
      refine ⟨p, p0, p1, p2, ?_⟩
      by_cases e2 : p = b
      · rw [e2, zup_eq]; left; exact (h.pop c (by omega) q r).1
      · rw [zup_ne po _ e2]; exact p3
/-- what the walk tells -/
abbrev FW (ek g1 g2 : Int → Int) (B : Int) (po bp : Int → Int) (rd : Int) : Prop := (1 ≤ rd ∧ rd ≤ B) ∧ (∀ b : Int, 0 ≤ b → b < B → 0 ≤ po b → po b < rd ∧ bp (po b) = b) ∧ (∀ i : Int, 0 ≤ i → i < rd → 0 ≤ bp i ∧ bp i < B ∧ po (bp i) = i) ∧ (bp (rd - 1) = 0) ∧ (∀ b : Int, 0 < b → b < B → 0 ≤ po b → ∃ p : Int, 0 ≤ p ∧ p < B ∧ ED ek g1 g2 p b ∧ po b < po p) ∧ (∀ b i : Int, 0 ≤ b → b < B → 0 ≤ po b → 0 ≤ i → i < gcF ek g1 g2 b → 0 ≤ po (glF g1 g2 b i))
theorem FW.r1 {ek g1 g2 : Int → Int} {B : Int} {po bp : Int → Int} {rd : Int} (h : FW ek g1 g2 B po bp rd) : 1 ≤ rd ∧ rd ≤ B := h.1
theorem FW.pop {ek g1 g2 : Int → Int} {B : Int} {po bp : Int → Int} {rd : Int} (h : FW ek g1 g2 B po bp rd) : ∀ b : Int, 0 ≤ b → b < B → 0 ≤ po b → po b < rd ∧ bp (po b) = b := h.2.1
theorem FW.byp {ek g1 g2 : Int → Int} {B : Int} {po bp : Int → Int} {rd : Int} (h : FW ek g1 g2 B po bp rd) : ∀ i : Int, 0 ≤ i → i < rd → 0 ≤ bp i ∧ bp i < B ∧ po (bp i) = i := h.2.2.1
theorem FW.last {ek g1 g2 : Int → Int} {B : Int} {po bp : Int → Int} {rd : Int} (h : FW ek g1 g2 B po bp rd) : bp (rd - 1) = 0 := h.2.2.2.1
theorem FW.par {ek g1 g2 : Int → Int} {B : Int} {po bp : Int → Int} {rd : Int} (h : FW ek g1 g2 B po bp rd) : ∀ b : Int, 0 < b → b < B → 0 ≤ po b → ∃ p : Int, 0 ≤ p ∧ p < B ∧ ED ek g1 g2 p b ∧ po b < po p := h.2.2.2.2.1
theorem FW.clo {ek g1 g2 : Int → Int} {B : Int} {po bp : Int → Int} {rd : Int} (h : FW ek g1 g2 B po bp rd) : ∀ b i : Int, 0 ≤ b → b < B → 0 ≤ po b → 0 ≤ i → i < gcF ek g1 g2 b → 0 ≤ po (glF g1 g2 b i) := h.2.2.2.2.2
theorem WI.done {ek g1 g2 ng st po bp : Int → Int} {B d rd n : Int} (h : WI ek g1 g2 B ng st po bp d rd n) (hB : 1 ≤ B) (hG : ∀ b : Int, 0 ≤ b → b < B → ¬ ek b = 2 → (0 ≤ g1 b ∧ g1 b < B) ∧ (0 ≤ g2 b ∧ g2 b < B)) (hd : d = 0) : FW ek g1 g2 B po bp rd := by
  have hb := h.bounds hB
  have v : ∀ b : Int, 0 ≤ b → b < B → 0 ≤ ng b → 0 ≤ po b := by
    intro b a c q
    rcases h.vis b a c q with x | ⟨j, j0, j1, _⟩
    · exact x
    · omega
  refine ⟨⟨by have := (h.fin hd).1; omega, by omega⟩, fun b a c q => ⟨(h.pop b a c q).1, (h.pop b a c q).2.1⟩, h.byp, (h.fin hd).2, fun b a c q => ?_, fun b i a c q r t => ?_⟩
  · obtain ⟨p, p0, p1, p2, p3⟩ := h.par b a c q
    refine ⟨p, p0, p1, p2, ?_⟩
    rcases p3 with x | ⟨x, y⟩
    · exact x
    · have := v p p0 p1 y; omega
  · have hp := (h.pop b a c q).2.2
    have hg := gl_lt hG a c r t
    exact v _ hg.1 hg.2 (h.clo b i a c r (by omega))
def ancN (id : Int → Int) (a : Int) : Nat → Int → Prop
  | 0, b => b = a
  | n + 1, b => ¬ b = 0 ∧ 0 ≤ id b ∧ ancN id a n (id b)
def Anc (id : Int → Int) (a b : Int) : Prop := ∃ n : Nat, ancN id a n b
theorem Anc.refl {id : Int → Int} {a : Int} : Anc id a a := ⟨0, rfl⟩
theorem Anc.up {id : Int → Int} {a b : Int} (n : ¬ b = 0) (p : 0 ≤ id b) (q : Anc id a (id b)) : Anc id a b := by
  obtain ⟨k, hk⟩ := q
  exact ⟨k + 1, n, p, hk⟩
theorem Anc.ind {id : Int → Int} {a : Int} {motive : (b : Int) → Anc id a b → Prop} (refl : motive a Anc.refl) (up : ∀ {b : Int} (n : ¬ b = 0) (p : 0 ≤ id b) (q : Anc id a (id b)), motive (id b) q → motive b (Anc.up n p q)) {b : Int} (t : Anc id a b) : motive b t := by
  obtain ⟨k, hk⟩ := t
  induction k generalizing b with
  | zero =>
    have e : b = a := hk
    subst e
    exact refl
  | succ k ih =>
    obtain ⟨h1, h2, h3⟩ := hk
    exact up h1 h2 ⟨k, h3⟩ (ih h3)
theorem Anc.cas {id : Int → Int} {a b : Int} (h : Anc id a b) : b = a ∨ (¬ b = 0 ∧ 0 ≤ id b ∧ Anc id a (id b)) := by
  obtain ⟨k, hk⟩ := h
  cases k with
  | zero => exact Or.inl hk
  | succ k => exact Or.inr ⟨hk.1, hk.2.1, k, hk.2.2⟩
theorem Anc.trans {id : Int → Int} {a b c : Int} (h1 : Anc id a b) (h2 : Anc id b c) : Anc id a c := by
  induction h2 using Anc.ind with
  | refl => exact h1
  | up n p _ ih => exact Anc.up n p ih
/-- the idoms found so far -/
abbrev IDI (B : Int) (ps pr po id : Int → Int) : Prop := (id 0 = 0) ∧ (∀ b : Int, 0 ≤ b → b < B → 0 ≤ id b → id b < B ∧ 0 ≤ id (id b) ∧ 0 ≤ po b ∧ (¬ b = 0 → po b < po (id b))) ∧ (∀ b : Int, 0 < b → b < B → 0 ≤ id b → ∃ k : Int, ps b ≤ k ∧ k < ps (b + 1) ∧ 0 ≤ id (pr k))
theorem IDI.root {B : Int} {ps pr po id : Int → Int} (h : IDI B ps pr po id) : id 0 = 0 := h.1
theorem IDI.val {B : Int} {ps pr po id : Int → Int} (h : IDI B ps pr po id) : ∀ b : Int, 0 ≤ b → b < B → 0 ≤ id b → id b < B ∧ 0 ≤ id (id b) ∧ 0 ≤ po b ∧ (¬ b = 0 → po b < po (id b)) := h.2.1
theorem IDI.prd {B : Int} {ps pr po id : Int → Int} (h : IDI B ps pr po id) : ∀ b : Int, 0 < b → b < B → 0 ≤ id b → ∃ k : Int, ps b ≤ k ∧ k < ps (b + 1) ∧ 0 ≤ id (pr k) := h.2.2
theorem IDI.anc {B : Int} {ps pr po id : Int → Int} (h : IDI B ps pr po id) {a b : Int} (ha : Anc id a b) : 0 ≤ b → b < B → 0 ≤ id b → 0 ≤ a ∧ a < B ∧ 0 ≤ id a ∧ po b ≤ po a := by
  induction ha using Anc.ind with
  | refl => intro x y z; exact ⟨x, y, z, Int.le_refl _⟩
  | up n p _ ih =>
    intro x y z
    have v := h.val _ x y z
    have r := ih p v.1 v.2.1
    have := v.2.2.2 n
    exact ⟨r.1, r.2.1, r.2.2.1, by omega⟩
theorem FW.inj {ek g1 g2 po bp : Int → Int} {B rd : Int} (f : FW ek g1 g2 B po bp rd) {a b : Int} (a0 : 0 ≤ a) (a1 : a < B) (b0 : 0 ≤ b) (b1 : b < B) (pa : 0 ≤ po a) (e : po a = po b) : a = b := by
  have h1 := (f.pop a a0 a1 pa).2
  have h2 := (f.pop b b0 b1 (by omega)).2
  rw [← h1, ← h2, e]
theorem FW.zero {ek g1 g2 po bp : Int → Int} {B rd : Int} (f : FW ek g1 g2 B po bp rd) : po 0 = rd - 1 := by
  have := (f.byp (rd - 1) (by have := f.r1; omega) (by omega)).2.2
  rw [f.last] at this; exact this
/-- both climb to where their roads meet -/
abbrev MI (B : Int) (po id : Int → Int) (p q one two n : Int) : Prop := (0 ≤ one ∧ one < B ∧ 0 ≤ id one) ∧ (0 ≤ two ∧ two < B ∧ 0 ≤ id two) ∧ (Anc id one p) ∧ (Anc id two q) ∧ (∀ c : Int, Anc id c p → Anc id c q → Anc id c one ∧ Anc id c two) ∧ (n ≤ po one + po two)
theorem MI.o0 {B : Int} {po id : Int → Int} {p q one two n : Int} (h : MI B po id p q one two n) : 0 ≤ one ∧ one < B ∧ 0 ≤ id one := h.1
theorem MI.t0 {B : Int} {po id : Int → Int} {p q one two n : Int} (h : MI B po id p q one two n) : 0 ≤ two ∧ two < B ∧ 0 ≤ id two := h.2.1
theorem MI.oa {B : Int} {po id : Int → Int} {p q one two n : Int} (h : MI B po id p q one two n) : Anc id one p := h.2.2.1
theorem MI.ta {B : Int} {po id : Int → Int} {p q one two n : Int} (h : MI B po id p q one two n) : Anc id two q := h.2.2.2.1
theorem MI.nca {B : Int} {po id : Int → Int} {p q one two n : Int} (h : MI B po id p q one two n) : ∀ c : Int, Anc id c p → Anc id c q → Anc id c one ∧ Anc id c two := h.2.2.2.2.1
theorem MI.rounds {B : Int} {po id : Int → Int} {p q one two n : Int} (h : MI B po id p q one two n) : n ≤ po one + po two := h.2.2.2.2.2
theorem MI.start {B : Int} {ps pr po id : Int → Int} (h : IDI B ps pr po id) {p q : Int} (p0 : 0 ≤ p ∧ p < B ∧ 0 ≤ id p) (q0 : 0 ≤ q ∧ q < B ∧ 0 ≤ id q) : MI B po id p q p q 0 := by
  have a := (h.val p p0.1 p0.2.1 p0.2.2).2.2.1
  have b := (h.val q q0.1 q0.2.1 q0.2.2).2.2.1
  exact ⟨p0, q0, Anc.refl, Anc.refl, fun c x y => ⟨x, y⟩, by omega⟩
theorem Anc.inv {id : Int → Int} {c b : Int} (h : Anc id c b) (ne : ¬ c = b) : ¬ b = 0 ∧ 0 ≤ id b ∧ Anc id c (id b) := by
  rcases h.cas with e | h
  · exact absurd e.symm ne
  · exact h
theorem Anc.snoc {id : Int → Int} {a b : Int} (h : Anc id a b) (ne : ¬ a = 0) (p : 0 ≤ id a) : Anc id (id a) b := (Anc.up ne p Anc.refl).trans h
theorem MI.one {ek g1 g2 bp : Int → Int} {B rd : Int} {ps pr po id : Int → Int} (f : FW ek g1 g2 B po bp rd) (h : IDI B ps pr po id) {p q one two n : Int} (i : MI B po id p q one two n) (lt : po one < po two) : MI B po id p q (id one) two (n + 1) := by
  have v := h.val one i.o0.1 i.o0.2.1 i.o0.2.2
  have v2 := h.val two i.t0.1 i.t0.2.1 i.t0.2.2
  have n0 : ¬ one = 0 := by
    intro e; rw [e, f.zero] at lt
    have := (f.pop two i.t0.1 i.t0.2.1 v2.2.2.1).1
    omega
  refine ⟨⟨i.o0.2.2, v.1, v.2.1⟩, i.t0, i.oa.snoc n0 i.o0.2.2, i.ta, fun c x y => ?_, by have := i.rounds; have := v.2.2.2 n0; omega⟩
  have ⟨h1, h2⟩ := i.nca c x y
  have ne : ¬ c = one := by
    intro e; rw [e] at h2
    have := (h.anc h2 i.t0.1 i.t0.2.1 i.t0.2.2).2.2.2
    omega
  exact ⟨(h1.inv ne).2.2, h2⟩
theorem MI.two {ek g1 g2 bp : Int → Int} {B rd : Int} {ps pr po id : Int → Int} (f : FW ek g1 g2 B po bp rd) (h : IDI B ps pr po id) {p q one two n : Int} (i : MI B po id p q one two n) (lt : ¬ po one < po two) (d : ¬ one = two) : MI B po id p q one (id two) (n + 1) := by
  have v := h.val one i.o0.1 i.o0.2.1 i.o0.2.2
  have v2 := h.val two i.t0.1 i.t0.2.1 i.t0.2.2
  have ne' : ¬ po one = po two := fun e => d (f.inj i.o0.1 i.o0.2.1 i.t0.1 i.t0.2.1 v.2.2.1 e)
  have n0 : ¬ two = 0 := by
    intro e; rw [e, f.zero] at lt ne'
    have := (f.pop one i.o0.1 i.o0.2.1 v.2.2.1).1
    omega
  refine ⟨i.o0, ⟨i.t0.2.2, v2.1, v2.2.1⟩, i.oa, i.ta.snoc n0 i.t0.2.2, fun c x y => ?_, by have := i.rounds; have := v2.2.2.2 n0; omega⟩
  have ⟨h1, h2⟩ := i.nca c x y
  have ne : ¬ c = two := by
    intro e; rw [e] at h1
    have := (h.anc h1 i.o0.1 i.o0.2.1 i.o0.2.2).2.2.2
    omega
  exact ⟨h1, (h2.inv ne).2.2⟩
theorem MI.le {ek g1 g2 bp : Int → Int} {B rd : Int} {ps pr po id : Int → Int} (f : FW ek g1 g2 B po bp rd) (h : IDI B ps pr po id) (hB : B ≤ 300) {p q one two n : Int} (i : MI B po id p q one two n) : n ≤ 598 := by
  have v := h.val one i.o0.1 i.o0.2.1 i.o0.2.2
  have v2 := h.val two i.t0.1 i.t0.2.1 i.t0.2.2
  have := (f.pop two i.t0.1 i.t0.2.1 v2.2.2.1).1
  have := (f.pop one i.o0.1 i.o0.2.1 v.2.2.1).1
  have := i.rounds
  have := f.r1
  omega
/-- z is where the roads of p and q meet -/
def MT (B : Int) (id : Int → Int) (p q z : Int) : Prop := (0 ≤ z ∧ z < B ∧ 0 ≤ id z) ∧ Anc id z p ∧ Anc id z q ∧ ∀ c : Int, Anc id c p → Anc id c q → Anc id c z
theorem MI.done {B : Int} {po id : Int → Int} {p q one two n : Int} (i : MI B po id p q one two n) (e : one = two) : MT B id p q one := ⟨i.o0, i.oa, by rw [e]; exact i.ta, fun c x y => (i.nca c x y).1⟩
/-- what the first preds of b (those in places a to k) that have an idom have in common -/
abbrev PM (B : Int) (pr id : Int → Int) (a k z : Int) : Prop := (z < 0 → z = -2 ∧ ∀ i : Int, a ≤ i → i < k → id (pr i) < 0) ∧ (0 ≤ z → (z < B ∧ 0 ≤ id z) ∧ (∀ i : Int, a ≤ i → i < k → 0 ≤ id (pr i) → Anc id z (pr i)) ∧ (∀ c : Int, (∀ i : Int, a ≤ i → i < k → 0 ≤ id (pr i) → Anc id c (pr i)) → Anc id c z) ∧ ∃ i : Int, a ≤ i ∧ i < k ∧ 0 ≤ id (pr i))
theorem PM.none {B : Int} {pr id : Int → Int} {a k z : Int} (h : PM B pr id a k z) : z < 0 → z = -2 ∧ ∀ i : Int, a ≤ i → i < k → id (pr i) < 0 := h.1
theorem PM.some {B : Int} {pr id : Int → Int} {a k z : Int} (h : PM B pr id a k z) : 0 ≤ z → (z < B ∧ 0 ≤ id z) ∧ (∀ i : Int, a ≤ i → i < k → 0 ≤ id (pr i) → Anc id z (pr i)) ∧ (∀ c : Int, (∀ i : Int, a ≤ i → i < k → 0 ≤ id (pr i) → Anc id c (pr i)) → Anc id c z) ∧ ∃ i : Int, a ≤ i ∧ i < k ∧ 0 ≤ id (pr i) := h.2
theorem PM.start (B : Int) (pr id : Int → Int) (a : Int) : PM B pr id a a (-2) := ⟨fun _ => ⟨rfl, fun i x y => by omega⟩, fun q => by omega⟩
theorem PM.skip {B : Int} {pr id : Int → Int} {a k z : Int} (h : PM B pr id a k z) (n : id (pr k) < 0) : PM B pr id a (k + 1) z := by
  refine ⟨fun q => ⟨(h.none q).1, fun i x y => ?_⟩, fun q => ?_⟩
  · by_cases e : i = k
    · rw [e]; exact n
    · exact (h.none q).2 i x (by omega)
  · obtain ⟨s1, s2, s3, s4⟩ := h.some q
    refine ⟨s1, fun i x y w => ?_, fun c w => s3 c (fun i x y w2 => w i x (by omega) w2), ?_⟩
    · by_cases e : i = k
      · rw [e] at w; omega
      · exact s2 i x (by omega) w
    · obtain ⟨i, x, y, w⟩ := s4
      exact ⟨i, x, by omega, w⟩
theorem PM.first {B : Int} {pr id : Int → Int} {a k z : Int} (h : PM B pr id a k z) (ak : a ≤ k) (hz : z < 0) (hp : 0 ≤ pr k ∧ pr k < B) (n : 0 ≤ id (pr k)) : PM B pr id a (k + 1) (pr k) := by
  refine ⟨fun q => by omega, fun q => ⟨⟨hp.2, n⟩, fun i x y w => ?_, fun c w => w k ak (by omega) n, ⟨k, ak, by omega, n⟩⟩⟩
  by_cases e : i = k
  · rw [e]; exact Anc.refl
  · have := (h.none hz).2 i x (by omega); omega
theorem PM.more {B : Int} {pr id : Int → Int} {a k z y : Int} (h : PM B pr id a k z) (ak : a ≤ k) (hz : 0 ≤ z) (n : 0 ≤ id (pr k)) (m : MT B id (pr k) z y) : PM B pr id a (k + 1) y := by
  obtain ⟨s1, s2, s3, s4⟩ := h.some hz
  obtain ⟨m1, m2, m3, m4⟩ := m
  refine ⟨fun q => by omega, fun q => ⟨m1.2, fun i x y w => ?_, fun c w => m4 c (w k ak (by omega) n) (s3 c (fun i x y w2 => w i x (by omega) w2)), ⟨k, ak, by omega, n⟩⟩⟩
  by_cases e : i = k
  · rw [e]; exact m2
  · exact m3.trans (s2 i x (by omega) w)
/-- the lists of preds are those of the ways -/
abbrev PL (ek g1 g2 : Int → Int) (B : Int) (ps pr : Int → Int) : Prop := (∀ b : Int, 0 ≤ b → b < B → 0 ≤ ps b ∧ ps b ≤ ps (b + 1)) ∧ (∀ p i : Int, 0 ≤ p → p < B → 0 ≤ i → i < gcF ek g1 g2 p → ∃ k : Int, ps (glF g1 g2 p i) ≤ k ∧ k < ps (glF g1 g2 p i + 1) ∧ pr k = p) ∧ (∀ b k : Int, 0 ≤ b → b < B → ps b ≤ k → k < ps (b + 1) → (0 ≤ pr k ∧ pr k < B) ∧ ED ek g1 g2 (pr k) b) ∧ (∀ b k : Int, 0 ≤ b → b < B → ps b ≤ k → k + 1 < ps (b + 1) → pr k < pr (k + 1))
theorem PL.mono {ek g1 g2 : Int → Int} {B : Int} {ps pr : Int → Int} (h : PL ek g1 g2 B ps pr) : ∀ b : Int, 0 ≤ b → b < B → 0 ≤ ps b ∧ ps b ≤ ps (b + 1) := h.1
theorem PL.ins {ek g1 g2 : Int → Int} {B : Int} {ps pr : Int → Int} (h : PL ek g1 g2 B ps pr) : ∀ p i : Int, 0 ≤ p → p < B → 0 ≤ i → i < gcF ek g1 g2 p → ∃ k : Int, ps (glF g1 g2 p i) ≤ k ∧ k < ps (glF g1 g2 p i + 1) ∧ pr k = p := h.2.1
theorem PL.out {ek g1 g2 : Int → Int} {B : Int} {ps pr : Int → Int} (h : PL ek g1 g2 B ps pr) : ∀ b k : Int, 0 ≤ b → b < B → ps b ≤ k → k < ps (b + 1) → (0 ≤ pr k ∧ pr k < B) ∧ ED ek g1 g2 (pr k) b := h.2.2.1
theorem PL.inc {ek g1 g2 : Int → Int} {B : Int} {ps pr : Int → Int} (h : PL ek g1 g2 B ps pr) : ∀ b k : Int, 0 ≤ b → b < B → ps b ≤ k → k + 1 < ps (b + 1) → pr k < pr (k + 1) := h.2.2.2
theorem PL.edge {ek g1 g2 : Int → Int} {B : Int} {ps pr : Int → Int} (h : PL ek g1 g2 B ps pr) {p b : Int} (p0 : 0 ≤ p) (p1 : p < B) (e : ED ek g1 g2 p b) : ∃ k : Int, ps b ≤ k ∧ k < ps (b + 1) ∧ pr k = p := by
  obtain ⟨i, i0, i1, rfl⟩ := e
  exact h.ins p i p0 p1 i0 i1
/-- b is come to from block 0 without going through c, with at most k ways that aren't to a lesser number -/
def raS (ek g1 g2 po : Int → Int) (c : Int) : Nat → Nat → Int → Prop
  | 0, _, b => b = 0 ∧ ¬ c = 0
  | n + 1, k, b => ¬ b = c ∧ ∃ p : Int, ED ek g1 g2 p b ∧ ((raS ek g1 g2 po c n k p ∧ po b < po p) ∨ ∃ k' : Nat, k = k' + 1 ∧ raS ek g1 g2 po c n k' p)
def RA (ek g1 g2 po : Int → Int) (c : Int) (k : Nat) (b : Int) : Prop := ∃ n : Nat, raS ek g1 g2 po c n k b
theorem RA.start {ek g1 g2 po : Int → Int} {c : Int} (k : Nat) (n : ¬ c = 0) : RA ek g1 g2 po c k 0 := ⟨0, rfl, n⟩
theorem RA.fwd {ek g1 g2 po : Int → Int} {c : Int} {k : Nat} {p b : Int} (r : RA ek g1 g2 po c k p) (e : ED ek g1 g2 p b) (l : po b < po p) (n : ¬ b = c) : RA ek g1 g2 po c k b := by
  obtain ⟨m, hm⟩ := r
  exact ⟨m + 1, n, p, e, Or.inl ⟨hm, l⟩⟩
theorem RA.back {ek g1 g2 po : Int → Int} {c : Int} {k : Nat} {p b : Int} (r : RA ek g1 g2 po c k p) (e : ED ek g1 g2 p b) (n : ¬ b = c) : RA ek g1 g2 po c (k + 1) b := by
  obtain ⟨m, hm⟩ := r
  exact ⟨m + 1, n, p, e, Or.inr ⟨k, rfl, hm⟩⟩
theorem RA.ind {ek g1 g2 po : Int → Int} {c : Int} {motive : (k : Nat) → (b : Int) → RA ek g1 g2 po c k b → Prop} (start : ∀ (k : Nat) (n : ¬ c = 0), motive k 0 (RA.start k n)) (fwd : ∀ {k : Nat} {p b : Int} (r : RA ek g1 g2 po c k p) (e : ED ek g1 g2 p b) (l : po b < po p) (n : ¬ b = c), motive k p r → motive k b (RA.fwd r e l n)) (back : ∀ {k : Nat} {p b : Int} (r : RA ek g1 g2 po c k p) (e : ED ek g1 g2 p b) (n : ¬ b = c), motive k p r → motive (k + 1) b (RA.back r e n)) {k : Nat} {b : Int} (t : RA ek g1 g2 po c k b) : motive k b t := by
  obtain ⟨m, hm⟩ := t
  induction m generalizing k b with
  | zero =>
    obtain ⟨e, n⟩ := hm
    subst e
    exact start k n
  | succ m ih =>
    obtain ⟨n, p, e, h⟩ := hm
    rcases h with ⟨h, l⟩ | ⟨k', ek', h⟩
    · exact fwd ⟨m, h⟩ e l n (ih h)
    · subst ek'
      exact back ⟨m, h⟩ e n (ih h)
theorem RA.mono1 {ek g1 g2 po : Int → Int} {c b : Int} {k : Nat} (h : RA ek g1 g2 po c k b) : RA ek g1 g2 po c (k + 1) b := by
  induction h using RA.ind with
  | start k n => exact RA.start _ n
  | fwd _ e l n ih => exact RA.fwd ih e l n
  | back _ e n ih => exact RA.back ih e n
theorem RA.mono {ek g1 g2 po : Int → Int} {c b : Int} {k m : Nat} (h : RA ek g1 g2 po c k b) (km : k ≤ m) : RA ek g1 g2 po c m b := by
  induction m with
  | zero => have : k = 0 := by omega
            subst this; exact h
  | succ m ih =>
    by_cases e : k = m + 1
    · subst e; exact h
    · exact (ih (by omega)).mono1
theorem RA.ne {ek g1 g2 po : Int → Int} {c b : Int} {k : Nat} (h : RA ek g1 g2 po c k b) : ¬ b = c := by
  induction h using RA.ind with
  | start _ n => exact fun e => n e.symm
  | fwd _ _ _ n _ => exact n
  | back _ _ n _ => exact n
theorem RA.split {ek g1 g2 po : Int → Int} {a c : Int} {k : Nat} (h : RA ek g1 g2 po a k c) (d : Int) : RA ek g1 g2 po d k c ∨ RA ek g1 g2 po a k d := by
  induction h using RA.ind with
  | start k n =>
    by_cases e : d = 0
    · rw [e]; exact Or.inr (RA.start _ n)
    · exact Or.inl (RA.start _ e)
  | fwd h e l n ih =>
    rename_i k p b
    rcases ih with x | x
    · by_cases q : b = d
      · right; rw [← q]; exact RA.fwd h e l n
      · exact Or.inl (RA.fwd x e l q)
    · exact Or.inr x
  | back h e n ih =>
    rename_i k p b
    rcases ih with x | x
    · by_cases q : b = d
      · right; rw [← q]; exact RA.back h e n
      · exact Or.inl (RA.back x e q)
    · exact Or.inr x.mono1
/-- what the ways are like -/
abbrev GR (ek g1 g2 : Int → Int) (B : Int) : Prop := (∀ p b : Int, 0 ≤ p → p < B → ED ek g1 g2 p b → 0 ≤ b ∧ b < B)
theorem GR.goal {ek g1 g2 : Int → Int} {B : Int} (h : GR ek g1 g2 B) : ∀ p b : Int, 0 ≤ p → p < B → ED ek g1 g2 p b → 0 ≤ b ∧ b < B := h
theorem GR.of {ek g1 g2 : Int → Int} {B : Int} (hG : ∀ b : Int, 0 ≤ b → b < B → ¬ ek b = 2 → (0 ≤ g1 b ∧ g1 b < B) ∧ (0 ≤ g2 b ∧ g2 b < B)) : GR ek g1 g2 B := by
  intro p b p0 p1 e
  obtain ⟨i, i0, i1, rfl⟩ := e
  exact gl_lt hG p0 p1 i0 i1
theorem RA.re {ek g1 g2 po bp : Int → Int} {B rd c b : Int} {k : Nat} (f : FW ek g1 g2 B po bp rd) (g : GR ek g1 g2 B) (h : RA ek g1 g2 po c k b) : (0 ≤ b ∧ b < B) ∧ 0 ≤ po b := by
  have st : ∀ p b : Int, ((0 ≤ p ∧ p < B) ∧ 0 ≤ po p) → ED ek g1 g2 p b → (0 ≤ b ∧ b < B) ∧ 0 ≤ po b := by
    intro p b x e
    refine ⟨g.goal p b x.1.1 x.1.2 e, ?_⟩
    obtain ⟨i, i0, i1, rfl⟩ := e
    exact f.clo p i x.1.1 x.1.2 x.2 i0 i1
  induction h using RA.ind with
  | start k n => have := f.zero; have := f.r1; exact ⟨⟨by omega, by omega⟩, by omega⟩
  | fwd _ e l n ih => exact st _ _ ih e
  | back _ e n ih => exact st _ _ ih e
theorem sg_lt {f g : Int → Int} (n : Nat) (h : ∀ j : Int, 0 ≤ j → j < n → f j ≤ g j) {k : Int} (k0 : 0 ≤ k) (k1 : k < n) (hk : f k < g k) : sg f n < sg g n := by
  have e := sg_up f (g k) n k0 k1
  have h2 : sg (zup f k (g k)) n ≤ sg g n := sg_le n (fun j a b => by
    unfold zup; split
    · rename_i q; rw [q]; omega
    · exact h j a b)
  omega
noncomputable def raN (ek g1 g2 po : Int → Int) (c : Int) (B : Nat) (k : Nat) : Int := sg (fun j => @ite Int (RA ek g1 g2 po c k j) (Classical.propDecidable _) 1 0) B
theorem RA.stable {ek g1 g2 po : Int → Int} {c : Int} {k : Nat} (h : ∀ b : Int, RA ek g1 g2 po c (k + 1) b → RA ek g1 g2 po c k b) (m : Nat) : ∀ b : Int, RA ek g1 g2 po c (k + m) b → RA ek g1 g2 po c k b := by
  induction m with
  | zero => intro b x; exact x
  | succ m ih =>
    have key : ∀ (q : Nat) (b : Int), RA ek g1 g2 po c q b → q = k + (m + 1) → RA ek g1 g2 po c k b := by
      intro q b x
      induction x using RA.ind with
      | start _ n => intro _; exact RA.start _ n
      | fwd _ e l n ih2 => intro w; exact RA.fwd (ih2 w) e l n
      | back y e n z =>
        rename_i k' p' b'
        intro w
        have e9 : k' = k + m := by omega
        rw [e9] at y
        exact h _ (RA.back (ih _ y) e n)
    intro b x; exact key _ b x rfl
theorem RA.bound {ek g1 g2 po bp : Int → Int} {B rd c : Int} (f : FW ek g1 g2 B po bp rd) (g : GR ek g1 g2 B) {k : Nat} {b : Int} (h : RA ek g1 g2 po c k b) : RA ek g1 g2 po c B.toNat b := by
  classical
  by_cases hex : ∃ q : Nat, q ≤ B.toNat ∧ ∀ b : Int, RA ek g1 g2 po c (q + 1) b → RA ek g1 g2 po c q b
  · obtain ⟨q, q1, q2⟩ := hex
    rcases Nat.lt_or_ge k q with x | x
    · exact h.mono (by omega)
    · have := RA.stable q2 (k - q) b (by rw [show q + (k - q) = k by omega]; exact h)
      exact this.mono q1
  · exfalso
    have all : ∀ q : Nat, q ≤ B.toNat → ∃ b : Int, RA ek g1 g2 po c (q + 1) b ∧ ¬ RA ek g1 g2 po c q b := by
      intro q hq
      apply Classical.byContradiction
      intro n
      apply hex
      refine ⟨q, hq, fun b x => Classical.byContradiction fun y => n ⟨b, x, y⟩⟩
    have cnt : ∀ q : Nat, q ≤ B.toNat + 1 → (q : Int) ≤ raN ek g1 g2 po c B.toNat q := by
      intro q
      induction q with
      | zero => intro _; exact sg_nonneg _ (fun j => by split <;> omega)
      | succ q ih =>
        intro hq
        have h1 := ih (by omega)
        obtain ⟨b, b1, b2⟩ := all q (by omega)
        have rb := b1.re f g
        have : raN ek g1 g2 po c B.toNat q < raN ek g1 g2 po c B.toNat (q + 1) := by
          refine sg_lt _ (fun j _ _ => ?_) rb.1.1 (by omega) ?_
          · by_cases y : RA ek g1 g2 po c q j
            · rw [if_pos y, if_pos y.mono1]; omega
            · rw [if_neg y]; split <;> omega
          · rw [if_neg b2, if_pos b1]; omega
        omega
    have h1 := cnt (B.toNat + 1) (by omega)
    have h2 : raN ek g1 g2 po c B.toNat (B.toNat + 1) ≤ sg (fun _ => 1) B.toNat := sg_le _ (fun j _ _ => by split <;> omega)
    rw [sg_const] at h2
    omega
/-- the rounds of findIdoms: round rn, those behind place i are done -/
abbrev FI (ek g1 g2 : Int → Int) (B : Int) (ps pr po bp : Int → Int) (rd : Int) (id : Int → Int) (rn : Nat) (i : Int) : Prop := (IDI B ps pr po id) ∧ (∀ j : Int, 0 ≤ j → i < j → j < rd → 0 ≤ id (bp j)) ∧ (1 ≤ rn → ∀ j : Int, 0 ≤ j → j < rd → 0 ≤ id (bp j)) ∧ (∀ c : Int, 0 < c → c < B → 0 ≤ id c → ∀ (a : Int) (k : Nat), po (id c) < po a → RA ek g1 g2 po a k (id c) → RA ek g1 g2 po a k c) ∧ (∀ c : Int, 0 < c → c < B → 0 ≤ id c → i < po c → ¬ RA ek g1 g2 po (id c) rn c) ∧ (∀ c : Int, 0 < c → c < B → 0 ≤ id c → po c ≤ i → ∀ k : Nat, k + 1 = rn → ¬ RA ek g1 g2 po (id c) k c) ∧ (∀ c : Int, 0 ≤ c → c < B → 0 ≤ id c → ∀ a : Int, (∀ k : Nat, ¬ RA ek g1 g2 po a k c) → Anc id a c)
theorem FI.idi {ek g1 g2 : Int → Int} {B : Int} {ps pr po bp : Int → Int} {rd : Int} {id : Int → Int} {rn : Nat} {i : Int} (h : FI ek g1 g2 B ps pr po bp rd id rn i) : IDI B ps pr po id := h.1
theorem FI.don {ek g1 g2 : Int → Int} {B : Int} {ps pr po bp : Int → Int} {rd : Int} {id : Int → Int} {rn : Nat} {i : Int} (h : FI ek g1 g2 B ps pr po bp rd id rn i) : ∀ j : Int, 0 ≤ j → i < j → j < rd → 0 ≤ id (bp j) := h.2.1
theorem FI.full {ek g1 g2 : Int → Int} {B : Int} {ps pr po bp : Int → Int} {rd : Int} {id : Int → Int} {rn : Nat} {i : Int} (h : FI ek g1 g2 B ps pr po bp rd id rn i) : 1 ≤ rn → ∀ j : Int, 0 ≤ j → j < rd → 0 ≤ id (bp j) := h.2.2.1
theorem FI.lift {ek g1 g2 : Int → Int} {B : Int} {ps pr po bp : Int → Int} {rd : Int} {id : Int → Int} {rn : Nat} {i : Int} (h : FI ek g1 g2 B ps pr po bp rd id rn i) : ∀ c : Int, 0 < c → c < B → 0 ≤ id c → ∀ (a : Int) (k : Nat), po (id c) < po a → RA ek g1 g2 po a k (id c) → RA ek g1 g2 po a k c := h.2.2.2.1
theorem FI.upA {ek g1 g2 : Int → Int} {B : Int} {ps pr po bp : Int → Int} {rd : Int} {id : Int → Int} {rn : Nat} {i : Int} (h : FI ek g1 g2 B ps pr po bp rd id rn i) : ∀ c : Int, 0 < c → c < B → 0 ≤ id c → i < po c → ¬ RA ek g1 g2 po (id c) rn c := h.2.2.2.2.1
theorem FI.upB {ek g1 g2 : Int → Int} {B : Int} {ps pr po bp : Int → Int} {rd : Int} {id : Int → Int} {rn : Nat} {i : Int} (h : FI ek g1 g2 B ps pr po bp rd id rn i) : ∀ c : Int, 0 < c → c < B → 0 ≤ id c → po c ≤ i → ∀ k : Nat, k + 1 = rn → ¬ RA ek g1 g2 po (id c) k c := h.2.2.2.2.2.1
theorem FI.low {ek g1 g2 : Int → Int} {B : Int} {ps pr po bp : Int → Int} {rd : Int} {id : Int → Int} {rn : Nat} {i : Int} (h : FI ek g1 g2 B ps pr po bp rd id rn i) : ∀ c : Int, 0 ≤ c → c < B → 0 ≤ id c → ∀ a : Int, (∀ k : Nat, ¬ RA ek g1 g2 po a k c) → Anc id a c := h.2.2.2.2.2.2
theorem FI.ancUp {ek g1 g2 ps pr po bp id : Int → Int} {B rd i : Int} {rn : Nat} (h : FI ek g1 g2 B ps pr po bp rd id rn i) {a c : Int} (ha : Anc id a c) : 0 ≤ c → c < B → 0 ≤ id c → (i < po c → ¬ RA ek g1 g2 po a rn c) ∧ (po c ≤ i → ∀ k : Nat, k + 1 = rn → ¬ RA ek g1 g2 po a k c) := by
  induction ha using Anc.ind with
  | refl => intro _ _ _; exact ⟨fun _ r => r.ne rfl, fun _ k _ r => r.ne rfl⟩
  | up n p q9 ih =>
    rename_i c
    intro c0 c1 c2
    have v := h.idi.val c c0 c1 c2
    have w := v.2.2.2 n
    have ih := ih p v.1 v.2.1
    constructor
    · intro x r
      rcases r.split (id c) with y | y
      · exact h.upA c (by omega) c1 c2 x y
      · exact ih.1 (by omega) y
    · intro x k e r
      rcases r.split (id c) with y | y
      · exact h.upB c (by omega) c1 c2 x k e y
      · rcases Int.lt_or_le i (po (id c)) with z | z
        · apply ih.1 z; rw [← e]; exact y.mono1
        · exact ih.2 z k e y
theorem FI.ancLift {ek g1 g2 ps pr po bp id : Int → Int} {B rd i : Int} {rn : Nat} (h : FI ek g1 g2 B ps pr po bp rd id rn i) {d c : Int} (ha : Anc id d c) : 0 ≤ c → c < B → 0 ≤ id c → ∀ (a : Int) (k : Nat), po d < po a → RA ek g1 g2 po a k d → RA ek g1 g2 po a k c := by
  induction ha using Anc.ind with
  | refl => intro _ _ _ a k _ r; exact r
  | up n p q ih =>
    rename_i c
    intro c0 c1 c2 a k l r
    have v := h.idi.val c c0 c1 c2
    have w := (h.idi.anc q p v.1 v.2.1).2.2.2
    exact h.lift c (by omega) c1 c2 a k (by omega) (ih p v.1 v.2.1 a k l r)
/-- what is found for the block in place i -/
abbrev FS (ek g1 g2 : Int → Int) (B : Int) (ps pr po bp : Int → Int) (rd : Int) (id : Int → Int) (rn : Nat) (i b z : Int) : Prop := (0 < b ∧ b < B ∧ po b = i) ∧ (0 ≤ z ∧ z < B ∧ 0 ≤ id z ∧ i < po z) ∧ (PM B pr id (ps b) (ps (b + 1)) z) ∧ (¬ RA ek g1 g2 po z rn b) ∧ (∀ (a : Int) (k : Nat), po z < po a → RA ek g1 g2 po a k z → RA ek g1 g2 po a k b) ∧ (∃ k : Int, ps b ≤ k ∧ k < ps (b + 1) ∧ 0 ≤ id (pr k))
theorem FS.b0 {ek g1 g2 : Int → Int} {B : Int} {ps pr po bp : Int → Int} {rd : Int} {id : Int → Int} {rn : Nat} {i b z : Int} (h : FS ek g1 g2 B ps pr po bp rd id rn i b z) : 0 < b ∧ b < B ∧ po b = i := h.1
theorem FS.z0 {ek g1 g2 : Int → Int} {B : Int} {ps pr po bp : Int → Int} {rd : Int} {id : Int → Int} {rn : Nat} {i b z : Int} (h : FS ek g1 g2 B ps pr po bp rd id rn i b z) : 0 ≤ z ∧ z < B ∧ 0 ≤ id z ∧ i < po z := h.2.1
theorem FS.pm {ek g1 g2 : Int → Int} {B : Int} {ps pr po bp : Int → Int} {rd : Int} {id : Int → Int} {rn : Nat} {i b z : Int} (h : FS ek g1 g2 B ps pr po bp rd id rn i b z) : PM B pr id (ps b) (ps (b + 1)) z := h.2.2.1
theorem FS.n1 {ek g1 g2 : Int → Int} {B : Int} {ps pr po bp : Int → Int} {rd : Int} {id : Int → Int} {rn : Nat} {i b z : Int} (h : FS ek g1 g2 B ps pr po bp rd id rn i b z) : ¬ RA ek g1 g2 po z rn b := h.2.2.2.1
theorem FS.lf {ek g1 g2 : Int → Int} {B : Int} {ps pr po bp : Int → Int} {rd : Int} {id : Int → Int} {rn : Nat} {i b z : Int} (h : FS ek g1 g2 B ps pr po bp rd id rn i b z) : ∀ (a : Int) (k : Nat), po z < po a → RA ek g1 g2 po a k z → RA ek g1 g2 po a k b := h.2.2.2.2.1
theorem FS.ex {ek g1 g2 : Int → Int} {B : Int} {ps pr po bp : Int → Int} {rd : Int} {id : Int → Int} {rn : Nat} {i b z : Int} (h : FS ek g1 g2 B ps pr po bp rd id rn i b z) : ∃ k : Int, ps b ≤ k ∧ k < ps (b + 1) ∧ 0 ≤ id (pr k) := h.2.2.2.2.2
theorem FI.found {ek g1 g2 ps pr po bp id : Int → Int} {B rd i z : Int} {rn : Nat} (f : FW ek g1 g2 B po bp rd) (g : GR ek g1 g2 B) (L : PL ek g1 g2 B ps pr) (h : FI ek g1 g2 B ps pr po bp rd id rn i) (i0 : 0 ≤ i) (i1 : i ≤ rd - 2) (m : PM B pr id (ps (bp i)) (ps (bp i + 1)) z) : FS ek g1 g2 B ps pr po bp rd id rn i (bp i) z := by
  obtain ⟨y0, y1, y2⟩ := f.byp i i0 (by omega)
  have b0 : 0 < bp i := by
    rcases Int.lt_or_le 0 (bp i) with x | x
    · exact x
    · have e : bp i = 0 := by omega
      rw [e, f.zero] at y2; omega
  obtain ⟨p, p0, p1, p2, p3⟩ := f.par (bp i) b0 y1 (by omega)
  have pq : 0 ≤ id p := by
    have q := f.pop p p0 p1 (by omega)
    have := h.don (po p) (by omega) (by omega) q.1
    rw [q.2] at this; exact this
  obtain ⟨k, k0, k1, k2⟩ := L.edge p0 p1 p2
  have z0 : 0 ≤ z := by
    rcases Int.lt_or_le z 0 with x | x
    · have := (m.none x).2 k k0 k1; rw [k2] at this; omega
    · exact x
  obtain ⟨s1, s2, s3, s4⟩ := m.some z0
  have az : Anc id z p := by have := s2 k k0 k1 (by rw [k2]; exact pq); rw [k2] at this; exact this
  have pz := (h.idi.anc az p0 p1 pq).2.2.2
  have vp : 0 ≤ po p := by omega
  refine ⟨⟨b0, y1, y2⟩, ⟨z0, s1.1, s1.2, by omega⟩, m, ?_, ?_, s4⟩
  · have key : ∀ (q : Nat) (c : Int), RA ek g1 g2 po z q c → q = rn → c = bp i → False := by
      intro q c r
      induction r using RA.ind with
      | start _ n => intro _ e; omega
      | fwd r e l n ih9 =>
        rename_i k3 p' b9
        intro e1 e2
        rw [e2] at e l
        have rp := r.re f g
        have q2 := f.pop p' rp.1.1 rp.1.2 rp.2
        have i2 : 0 ≤ id p' := by
          have := h.don (po p') rp.2 (by omega) q2.1
          rw [q2.2] at this; exact this
        obtain ⟨k', a0, a1, a2⟩ := L.edge rp.1.1 rp.1.2 e
        have az' := s2 k' a0 a1 (by rw [a2]; exact i2)
        rw [a2] at az'
        have := (h.ancUp az' rp.1.1 rp.1.2 i2).1 (by omega)
        rw [e1] at r
        exact this r
      | back r e n ih9 =>
        rename_i k3 p' b9
        intro e1 e2
        rw [e2] at e
        have rp := r.re f g
        have q2 := f.pop p' rp.1.1 rp.1.2 rp.2
        have i2 : 0 ≤ id p' := by
          have := h.full (by omega) (po p') rp.2 q2.1
          rw [q2.2] at this; exact this
        obtain ⟨k', a0, a1, a2⟩ := L.edge rp.1.1 rp.1.2 e
        have az' := s2 k' a0 a1 (by rw [a2]; exact i2)
        rw [a2] at az'
        have u := h.ancUp az' rp.1.1 rp.1.2 i2
        rcases Int.lt_or_le i (po p') with w | w
        · apply u.1 w; rw [← e1]; exact r.mono1
        · exact u.2 w k3 e1 r
    exact fun r => key _ _ r rfl rfl
  · intro a k3 l r
    have r2 := h.ancLift az p0 p1 pq a k3 l r
    exact RA.fwd r2 p2 p3 (by intro e; rw [← e] at l; omega)
theorem FI.same {ek g1 g2 ps pr po bp id : Int → Int} {B rd i b : Int} {rn : Nat} (f : FW ek g1 g2 B po bp rd) (h : FI ek g1 g2 B ps pr po bp rd id rn i) (s : FS ek g1 g2 B ps pr po bp rd id rn i b (id b)) (i0 : 0 ≤ i) : FI ek g1 g2 B ps pr po bp rd id rn (i - 1) := by
  have e := (f.pop b (by have := s.b0; omega) s.b0.2.1 (by rw [s.b0.2.2]; exact i0)).2
  rw [s.b0.2.2] at e
  refine ⟨h.idi, fun j a c d => ?_, h.full, h.lift, fun c a d x y => ?_, fun c a d x y => h.upB c a d x (by omega), h.low⟩
  · by_cases q : j = i
    · rw [q, e]; exact s.z0.1
    · exact h.don j a (by omega) d
  · by_cases q : po c = i
    · have : c = b := f.inj (by omega) d (by have := s.b0; omega) s.b0.2.1 (by omega) (by rw [q, s.b0.2.2])
      rw [this]; exact s.n1
    · exact h.upA c a d x (by omega)
theorem Anc.keep {id : Int → Int} {b z a x : Int} {B : Int} {ps pr po : Int → Int} (h : IDI B ps pr po id) (ha : Anc id a x) : 0 ≤ x → x < B → 0 ≤ id x → po b < po x → Anc (zup id b z) a x := by
  induction ha using Anc.ind with
  | refl => intro _ _ _ _; exact Anc.refl
  | up n p q9 ih =>
    rename_i x
    intro x0 x1 x2 l
    have v := h.val x x0 x1 x2
    have w := v.2.2.2 n
    have e : zup id b z x = id x := zup_ne _ _ (by intro e; rw [e] at l; omega)
    refine Anc.up n (by rw [e]; exact p) (by rw [e]; exact ih p v.1 v.2.1 (by omega))
theorem FI.step {ek g1 g2 ps pr po bp id : Int → Int} {B rd i b z : Int} {rn : Nat} (f : FW ek g1 g2 B po bp rd) (g : GR ek g1 g2 B) (L : PL ek g1 g2 B ps pr) (h : FI ek g1 g2 B ps pr po bp rd id rn i) (s : FS ek g1 g2 B ps pr po bp rd id rn i b z) (i0 : 0 ≤ i) : FI ek g1 g2 B ps pr po bp rd (zup id b z) rn (i - 1) := by
  have eb := (f.pop b (by have := s.b0; omega) s.b0.2.1 (by rw [s.b0.2.2]; exact i0)).2
  rw [s.b0.2.2] at eb
  obtain ⟨b0, b1, b2⟩ := s.b0
  obtain ⟨z0, z1, z2, z3⟩ := s.z0
  have zb : ¬ z = b := by intro e; rw [e, b2] at z3; omega
  have upn : ∀ c : Int, 0 ≤ id c → 0 ≤ zup id b z c := by
    intro c x; unfold zup; split
    · exact z0
    · exact x
  have I : IDI B ps pr po (zup id b z) := by
    refine ⟨by rw [zup_ne _ _ (by omega)]; exact h.idi.root, fun c c0 c1 c2 => ?_, fun c c0 c1 c2 => ?_⟩
    · by_cases e : c = b
      · rw [e, zup_eq]
        exact ⟨z1, upn z z2, by omega, fun _ => by omega⟩
      · rw [zup_ne _ _ e] at c2 ⊢
        have v := h.idi.val c c0 c1 c2
        exact ⟨v.1, upn _ v.2.1, v.2.2⟩
    · by_cases e : c = b
      · rw [e]
        obtain ⟨k, k0, k1, k2⟩ := s.ex
        exact ⟨k, k0, k1, upn _ k2⟩
      · rw [zup_ne _ _ e] at c2
        obtain ⟨k, k0, k1, k2⟩ := h.idi.prd c c0 c1 c2
        exact ⟨k, k0, k1, upn _ k2⟩
  have LB : ∀ a : Int, (∀ k : Nat, ¬ RA ek g1 g2 po a k b) → Anc (zup id b z) a b := by
    intro a td
    by_cases e : b = a
    · rw [e]; exact Anc.refl
    · have az : Anc id a z := by
        apply (s.pm.some z0).2.2.1
        intro k k0 k1 k2
        have o := L.out b k (by omega) b1 k0 k1
        apply h.low (pr k) o.1.1 o.1.2 k2
        intro q r
        exact td (q + 1) (RA.back r o.2 e)
      exact Anc.up (by omega) (by rw [zup_eq]; exact z0) (by rw [zup_eq]; exact az.keep h.idi z0 z1 z2 (by omega))
  refine ⟨I, fun j a c d => ?_, fun r j a d => upn _ (h.full r j a d), fun c a d x => ?_, fun c a d x y => ?_, fun c a d x y => ?_, fun c a d x a' td => ?_⟩
  · by_cases q : j = i
    · rw [q, eb, zup_eq]; exact z0
    · exact upn _ (h.don j a (by omega) d)
  · by_cases e : c = b
    · rw [e, zup_eq]; exact s.lf
    · rw [zup_ne _ _ e] at x ⊢; exact h.lift c a d x
  · by_cases e : c = b
    · rw [e, zup_eq]; exact s.n1
    · rw [zup_ne _ _ e] at x ⊢
      have : ¬ po c = i := by
        intro q; apply e
        exact f.inj (by omega) d (by omega) b1 (by omega) (by rw [q, b2])
      exact h.upA c a d x (by omega)
  · have e : ¬ c = b := by intro e; rw [e, b2] at y; omega
    rw [zup_ne _ _ e] at x ⊢
    exact h.upB c a d x (by omega)
  · by_cases e : c = b
    · rw [e]; exact LB a' (by rw [← e]; exact td)
    · rw [zup_ne _ _ e] at x
      have o := h.low c a d x a' td
      have key : ∀ c : Int, Anc id a' c → Anc (zup id b z) a' c ∨ (Anc (zup id b z) b c ∧ Anc id b c ∧ Anc id a' b) := by
        intro c hc
        induction hc using Anc.ind with
        | refl => exact Or.inl Anc.refl
        | up n p q ih =>
          rename_i c
          by_cases e : c = b
          · right; rw [e] at n p q ⊢; exact ⟨Anc.refl, Anc.refl, Anc.up n p q⟩
          · have e2 : zup id b z c = id c := zup_ne _ _ e
            rcases ih with y | ⟨y1, y2, y3⟩
            · left; exact Anc.up n (by rw [e2]; exact p) (by rw [e2]; exact y)
            · right; exact ⟨Anc.up n (by rw [e2]; exact p) (by rw [e2]; exact y1), Anc.up n p y2, y3⟩
      rcases key c o with y | ⟨y1, y2, y3⟩
      · exact y
      · by_cases e3 : a' = b
        · rw [e3]; exact y1
        · have ib : 0 ≤ id b := (h.idi.anc y2 a d x).2.2.1
          have inv := y3.inv e3
          have v := h.idi.val b (by omega) b1 ib
          have w := (h.idi.anc inv.2.2 inv.2.1 v.1 v.2.1).2.2.2
          have w2 := v.2.2.2 inv.1
          refine (LB a' (fun k r => ?_)).trans y1
          exact td k (h.ancLift y2 a d x a' k (by omega) r)
theorem FI.next {ek g1 g2 ps pr po bp id : Int → Int} {B rd i : Int} {rn : Nat} (f : FW ek g1 g2 B po bp rd) (h : FI ek g1 g2 B ps pr po bp rd id rn i) (hi : i < 0) : FI ek g1 g2 B ps pr po bp rd id (rn + 1) (rd - 2) := by
  refine ⟨h.idi, fun j a c d => h.don j a (by omega) d, fun _ j a d => h.don j a (by omega) d, h.lift, fun c a d x y => ?_, fun c a d x y k e => ?_, h.low⟩
  · have v := h.idi.val c (by omega) d x
    have q := f.pop c (by omega) d v.2.2.1
    have e : po c = rd - 1 := by omega
    rw [e, f.last] at q
    omega
  · have v := h.idi.val c (by omega) d x
    rw [show k = rn by omega]
    exact h.upA c a d x (by omega)
theorem FI.init {ek g1 g2 ps pr po bp id : Int → Int} {B rd : Int} (f : FW ek g1 g2 B po bp rd) (h0 : ∀ b : Int, 0 ≤ b → b < B → id b = -2) : FI ek g1 g2 B ps pr po bp rd (zup id 0 0) 0 (rd - 2) := by
  have ne : ∀ c : Int, 0 < c → c < B → ¬ 0 ≤ zup id 0 0 c := by
    intro c a b x; rw [zup_ne _ _ (by omega), h0 c (by omega) b] at x; omega
  have z := f.zero
  have r1 := f.r1
  refine ⟨⟨zup_eq _ _ _, fun b a c d => ?_, fun b a c d => absurd d (ne b a c)⟩, fun j a c d => ?_, fun q => by omega, fun c a d x => absurd x (ne c a d), fun c a d x => absurd x (ne c a d), fun c a d x => absurd x (ne c a d), fun c a d x a' td => ?_⟩
  · by_cases e : b = 0
    · rw [e, zup_eq, zup_eq]; exact ⟨by omega, by omega, by omega, fun q => absurd rfl q⟩
    · exact absurd d (ne b (by omega) c)
  · have : j = rd - 1 := by omega
    rw [this, f.last, zup_eq]; omega
  · by_cases e : c = 0
    · rw [e] at td ⊢
      by_cases e2 : a' = 0
      · rw [e2]; exact Anc.refl
      · exact absurd (RA.start 0 e2) (td 0)
    · exact absurd x (ne c (by omega) d)
/-- from some round on nothing changes -/
theorem FI.conv {ek g1 g2 ps pr po bp id : Int → Int} {B rd i b z : Int} {rn : Nat} (f : FW ek g1 g2 B po bp rd) (g : GR ek g1 g2 B) (L : PL ek g1 g2 B ps pr) (h : FI ek g1 g2 B ps pr po bp rd id rn i) (s : FS ek g1 g2 B ps pr po bp rd id rn i b z) (i0 : 0 ≤ i) (i1 : i ≤ rd - 2) (hr : B.toNat + 1 ≤ rn) : z = id b := by
  obtain ⟨b0, b1, b2⟩ := s.b0
  obtain ⟨z0, z1, z2, z3⟩ := s.z0
  have eb := (f.pop b (by omega) b1 (by omega)).2
  rw [b2] at eb
  have ib : 0 ≤ id b := by have := h.full (by omega) i i0 (by omega); rw [eb] at this; exact this
  have td1 : ∀ k : Nat, ¬ RA ek g1 g2 po (id b) k b := by
    intro k r
    have r2 := (r.bound f g).mono (show B.toNat ≤ rn - 1 by omega)
    exact h.upB b b0 b1 ib (by omega) (rn - 1) (by omega) r2
  have td2 : ∀ k : Nat, ¬ RA ek g1 g2 po z k b := by
    intro k r
    exact s.n1 ((r.bound f g).mono (by omega))
  have v := h.idi.val b (by omega) b1 ib
  have w := v.2.2.2 (by omega)
  have a1 : Anc id z (id b) := by
    have := h.low b (by omega) b1 ib z td2
    exact (this.inv (by intro e; rw [e] at z3; omega)).2.2
  have a2 : Anc id (id b) z := by
    apply (s.pm.some z0).2.2.1
    intro k k0 k1 k2
    have o := L.out b k (by omega) b1 k0 k1
    apply h.low (pr k) o.1.1 o.1.2 k2
    intro q r
    exact td1 (q + 1) (RA.back r o.2 (by intro e; rw [← e] at w; omega))
  have l1 := (h.idi.anc a1 ib v.1 v.2.1).2.2.2
  have l2 := (h.idi.anc a2 z0 z1 z2).2.2.2
  have vz := (h.idi.val z z0 z1 z2).2.2.1
  exact f.inj z0 z1 ib v.1 vz (by omega)
/-- nothing has changed in this round behind place i -/
def FX (B : Int) (ps pr bp : Int → Int) (rd : Int) (id : Int → Int) (i : Int) : Prop := ∀ j : Int, 0 ≤ j → i < j → j ≤ rd - 2 → PM B pr id (ps (bp j)) (ps (bp j + 1)) (id (bp j))
theorem FX.same {ek g1 g2 ps pr po bp id : Int → Int} {B rd i : Int} {rn : Nat} (h : FX B ps pr bp rd id i) (s : FS ek g1 g2 B ps pr po bp rd id rn i (bp i) (id (bp i))) : FX B ps pr bp rd id (i - 1) := by
  intro j a c d
  by_cases e : j = i
  · rw [e]; exact s.pm
  · exact h j a (by omega) d
/-- the tree of the idoms, as it is told -/
def DT (ek g1 g2 : Int → Int) (B : Int) (ps pr po bp : Int → Int) (rd : Int) (id' : Int → Int) : Prop := ∃ id : Int → Int, id' = zup id 0 (-1) ∧ IDI B ps pr po id ∧ (∀ j : Int, 0 ≤ j → j < rd → 0 ≤ id (bp j)) ∧ FX B ps pr bp rd id (-1) ∧ ∀ c : Int, 0 ≤ c → c < B → 0 ≤ id c → ∀ a : Int, (∀ k : Nat, ¬ RA ek g1 g2 po a k c) → Anc id a c
theorem cn_at (ek g1 g2 : Int → Int) (j : Int) (n : Nat) : ∀ t : Int, 0 ≤ t → t < cn ek g1 g2 j n → ∃ p i : Int, 0 ≤ p ∧ p < n ∧ 0 ≤ i ∧ i < gcF ek g1 g2 p ∧ glF g1 g2 p i = j ∧ cni ek g1 g2 j p i = t := by
  induction n with
  | zero => intro t a b; have : cn ek g1 g2 j 0 = 0 := rfl; omega
  | succ n ih =>
    intro t a b
    rcases Int.lt_or_le t (cn ek g1 g2 j n) with x | x
    · obtain ⟨p, i, h1, h2, h3⟩ := ih t a x
      exact ⟨p, i, h1, by omega, h3⟩
    · have e : cn ek g1 g2 j (n + 1) = cn ek g1 g2 j n + (if 0 < gcF ek g1 g2 n ∧ g1 n = j then 1 else 0) + (if 1 < gcF ek g1 g2 n ∧ g2 n = j then 1 else 0) := rfl
      have c0 : cni ek g1 g2 j n 0 = cn ek g1 g2 j n := by rw [cni_0]; rfl
      by_cases h1 : 0 < gcF ek g1 g2 n ∧ g1 n = j
      · by_cases h2 : t = cn ek g1 g2 j n
        · exact ⟨n, 0, by omega, by omega, by omega, h1.1, by unfold glF; rw [if_pos rfl]; exact h1.2, by rw [c0, h2]⟩
        · rw [if_pos h1] at e
          by_cases h3 : 1 < gcF ek g1 g2 n ∧ g2 n = j
          · exfalso
            have := h3.1
            unfold gcF at this
            rw [if_neg (by intro q; rw [if_pos q] at this; omega), if_pos (by rw [h1.2, h3.2])] at this
            omega
          · rw [if_neg h3] at e; omega
      · rw [if_neg h1] at e
        by_cases h3 : 1 < gcF ek g1 g2 n ∧ g2 n = j
        · rw [if_pos h3] at e
          refine ⟨n, 1, by omega, by omega, by omega, h3.1, by unfold glF; rw [if_neg (by omega)]; exact h3.2, ?_⟩
          unfold cni
          rw [if_neg (by intro q; exact h1 ⟨by have := h3.1; omega, q.2⟩), if_neg (by omega)]
          have : ((n : Int)).toNat = n := by omega
          rw [this]; omega
        · rw [if_neg h3] at e; omega
/-- the place of a way in the lists of preds -/
def wpos (ek g1 g2 : Int → Int) (B p i : Int) : Int := psF ek g1 g2 B.toNat (glF g1 g2 p i).toNat + cni ek g1 g2 (glF g1 g2 p i) p i
theorem psF_mono (ek g1 g2 : Int → Int) (b : Nat) {m n : Nat} (h : m ≤ n) : psF ek g1 g2 b m ≤ psF ek g1 g2 b n := by
  induction n with
  | zero => have : m = 0 := by omega
            subst this; exact Int.le_refl _
  | succ n ih =>
    by_cases e : m = n + 1
    · subst e; exact Int.le_refl _
    · have h1 := ih (by omega)
      have h2 : psF ek g1 g2 b (n + 1) = psF ek g1 g2 b n + cn ek g1 g2 n b := rfl
      have := cn_nn ek g1 g2 n b
      omega
theorem gl_one {ek g1 g2 : Int → Int} {p i i' : Int} (h0 : 0 ≤ i) (h1 : i < gcF ek g1 g2 p) (h2 : 0 ≤ i') (h3 : i' < gcF ek g1 g2 p) (e : glF g1 g2 p i = glF g1 g2 p i') : i = i' := by
  have r := gcF_rng ek g1 g2 p
  apply Classical.byContradiction
  intro n
  have g2' : 1 < gcF ek g1 g2 p := by omega
  unfold gcF at g2'
  have k2 : ¬ ek p = 2 := by intro q; rw [if_pos q] at g2'; omega
  have k3 : ¬ g1 p = g2 p := by intro q; rw [if_neg k2, if_pos q] at g2'; omega
  unfold glF at e
  rcases (show (i = 0 ∧ i' = 1) ∨ (i = 1 ∧ i' = 0) by omega) with ⟨a, b⟩ | ⟨a, b⟩
  · rw [if_pos a, if_neg (by omega)] at e; exact k3 e
  · rw [if_neg (by omega), if_pos b] at e; exact k3 e.symm
theorem cni_lt {ek g1 g2 : Int → Int} {j p i p' i' : Int} (p0 : 0 ≤ p) (i0 : 0 ≤ i) (i1 : i < gcF ek g1 g2 p) (e : glF g1 g2 p i = j) (j0 : 0 ≤ i') (j1 : i' ≤ gcF ek g1 g2 p') (l : p < p') : cni ek g1 g2 j p i + 1 ≤ cni ek g1 g2 j p' i' := by
  have h1 := (cni_b ek g1 g2 p0 i0 i1).1
  rw [e] at h1
  have h2 := cn_mono ek g1 g2 j (show (p + 1).toNat ≤ p'.toNat by omega)
  have h3 := (cni_le ek g1 g2 j p' (i := i') (by omega) j0 j1).1
  omega
theorem wpos_rng {ek g1 g2 : Int → Int} {B p i : Int} (p0 : 0 ≤ p) (p1 : p < B) (i0 : 0 ≤ i) (i1 : i < gcF ek g1 g2 p) (g0 : 0 ≤ glF g1 g2 p i) : psF ek g1 g2 B.toNat (glF g1 g2 p i).toNat ≤ wpos ek g1 g2 B p i ∧ wpos ek g1 g2 B p i < psF ek g1 g2 B.toNat (glF g1 g2 p i + 1).toNat := by
  have h1 := cni_b ek g1 g2 p0 i0 i1
  have h2 := cn_mono ek g1 g2 (glF g1 g2 p i) (show (p + 1).toNat ≤ B.toNat by omega)
  rw [psF_succ ek g1 g2 B.toNat g0]
  unfold wpos
  omega
theorem wpos_inj {ek g1 g2 : Int → Int} {B p i p' i' : Int} (p0 : 0 ≤ p) (p1 : p < B) (i0 : 0 ≤ i) (i1 : i < gcF ek g1 g2 p) (g0 : 0 ≤ glF g1 g2 p i) (q0 : 0 ≤ p') (q1 : p' < B) (j0 : 0 ≤ i') (j1 : i' < gcF ek g1 g2 p') (h0 : 0 ≤ glF g1 g2 p' i') (e : wpos ek g1 g2 B p i = wpos ek g1 g2 B p' i') : p = p' ∧ i = i' := by
  have r1 := wpos_rng p0 p1 i0 i1 g0
  have r2 := wpos_rng q0 q1 j0 j1 h0
  have eg : glF g1 g2 p i = glF g1 g2 p' i' := by
    rcases Int.lt_trichotomy (glF g1 g2 p i) (glF g1 g2 p' i') with x | x | x
    · have := psF_mono ek g1 g2 B.toNat (show (glF g1 g2 p i + 1).toNat ≤ (glF g1 g2 p' i').toNat by omega); omega
    · exact x
    · have := psF_mono ek g1 g2 B.toNat (show (glF g1 g2 p' i' + 1).toNat ≤ (glF g1 g2 p i).toNat by omega); omega
  unfold wpos at e
  rw [eg] at e
  have ep : p = p' := by
    rcases Int.lt_trichotomy p p' with x | x | x
    · have := cni_lt (j := glF g1 g2 p' i') p0 i0 i1 eg j0 (Int.le_of_lt j1) x; omega
    · exact x
    · have := cni_lt (j := glF g1 g2 p' i') q0 j0 j1 rfl i0 (Int.le_of_lt i1) x; omega
  refine ⟨ep, ?_⟩
  subst ep
  exact gl_one i0 i1 j0 j1 eg
theorem PL.of {ek g1 g2 w uu : Int → Int} {B : Int} (g : GR ek g1 g2 B) (hw : ∀ j : Int, 0 ≤ j → j ≤ B → w j = psF ek g1 g2 B.toNat j.toNat) (hJ : ∀ p i : Int, 0 ≤ p → p < B → 0 ≤ i → i < gcF ek g1 g2 p → uu (wpos ek g1 g2 B p i) = p) : PL ek g1 g2 B w uu := by
  have at_ : ∀ b k : Int, 0 ≤ b → b < B → w b ≤ k → k < w (b + 1) → ∃ p i : Int, 0 ≤ p ∧ p < B ∧ 0 ≤ i ∧ i < gcF ek g1 g2 p ∧ glF g1 g2 p i = b ∧ cni ek g1 g2 b p i = k - w b ∧ uu k = p := by
    intro b k b0 b1 k0 k1
    rw [hw (b + 1) (by omega) (by omega), psF_succ ek g1 g2 B.toNat b0, ← hw b b0 (by omega)] at k1
    obtain ⟨p, i, h1, h2, h3, h4, h5, h6⟩ := cn_at ek g1 g2 b B.toNat (k - w b) (by omega) (by omega)
    refine ⟨p, i, h1, by omega, h3, h4, h5, h6, ?_⟩
    have := hJ p i h1 (by omega) h3 h4
    unfold wpos at this
    rw [h5, ← hw b b0 (by omega), h6, show w b + (k - w b) = k by omega] at this
    exact this
  refine ⟨fun b b0 b1 => ?_, fun p i p0 p1 i0 i1 => ?_, fun b k b0 b1 k0 k1 => ?_, fun b k b0 b1 k0 k1 => ?_⟩
  · rw [hw b b0 (by omega), hw (b + 1) (by omega) (by omega)]
    exact ⟨psF_nn _ _ _ _ _, psF_mono ek g1 g2 B.toNat (by omega)⟩
  · have gg := g.goal p _ p0 p1 ⟨i, i0, i1, rfl⟩
    have r := wpos_rng p0 p1 i0 i1 gg.1
    refine ⟨wpos ek g1 g2 B p i, ?_, ?_, hJ p i p0 p1 i0 i1⟩
    · rw [hw _ gg.1 (by omega)]; exact r.1
    · rw [hw _ (by omega) (by omega)]; exact r.2
  · obtain ⟨p, i, h1, h2, h3, h4, h5, h6, h7⟩ := at_ b k b0 b1 k0 k1
    rw [h7]; exact ⟨⟨h1, h2⟩, i, h3, h4, h5⟩
  · obtain ⟨p, i, h1, h2, h3, h4, h5, h6, h7⟩ := at_ b k b0 b1 k0 (by omega)
    obtain ⟨p', i', q1, q2, q3, q4, q5, q6, q7⟩ := at_ b (k + 1) b0 b1 (by omega) k1
    rw [h7, q7]
    rcases Int.lt_trichotomy p p' with x | x | x
    · exact x
    · exfalso
      subst x
      have := gl_one h3 h4 q3 q4 (by rw [h5, q5])
      subst this
      omega
    · have := cni_lt q1 q3 q4 q5 h3 (Int.le_of_lt h4) x
      omega
/-- what has been put into the lists: all ways in front of b's i-th -/
def PJ (ek g1 g2 : Int → Int) (B : Int) (uu : Int → Int) (b i : Int) : Prop := ∀ p k : Int, 0 ≤ p → p < B → 0 ≤ k → k < gcF ek g1 g2 p → (p < b ∨ (p = b ∧ k < i)) → uu (wpos ek g1 g2 B p k) = p
theorem PJ.init (ek g1 g2 : Int → Int) (B : Int) (uu : Int → Int) : PJ ek g1 g2 B uu 0 0 := by
  intro p k a b c d e; omega
theorem PJ.open_ {ek g1 g2 : Int → Int} {B : Int} {uu : Int → Int} {b : Int} (h : PJ ek g1 g2 B uu b 0) : PJ ek g1 g2 B uu b 0 := h
theorem PJ.close {ek g1 g2 : Int → Int} {B : Int} {uu : Int → Int} {b i : Int} (h : PJ ek g1 g2 B uu b i) (hi : gcF ek g1 g2 b ≤ i) : PJ ek g1 g2 B uu (b + 1) 0 := by
  intro p k a c d e q
  apply h p k a c d e
  by_cases x : p = b
  · right; rw [x] at e; exact ⟨x, by omega⟩
  · left; omega
theorem PJ.step {ek g1 g2 : Int → Int} {B : Int} {uu : Int → Int} {b i : Int} (g : GR ek g1 g2 B) (h : PJ ek g1 g2 B uu b i) (b0 : 0 ≤ b) (b1 : b < B) (i0 : 0 ≤ i) (i1 : i < gcF ek g1 g2 b) : PJ ek g1 g2 B (zup uu (wpos ek g1 g2 B b i) b) b (i + 1) := by
  intro p k a c d e q
  by_cases x : wpos ek g1 g2 B p k = wpos ek g1 g2 B b i
  · have := wpos_inj a c d e (g.goal p _ a c ⟨k, d, e, rfl⟩).1 b0 b1 i0 i1 (g.goal b _ b0 b1 ⟨i, i0, i1, rfl⟩).1 x
    rw [x, zup_eq, this.1]
  · rw [zup_ne _ _ x]
    apply h p k a c d e
    rcases q with q | q
    · exact Or.inl q
    · right
      refine ⟨q.1, ?_⟩
      rcases Int.lt_or_le k i with y | y
      · exact y
      · exfalso; apply x; rw [q.1, show k = i by omega]
theorem PJ.all {ek g1 g2 : Int → Int} {B : Int} {uu : Int → Int} {b : Int} (h : PJ ek g1 g2 B uu b 0) (hb : B ≤ b) : ∀ p i : Int, 0 ≤ p → p < B → 0 ≤ i → i < gcF ek g1 g2 p → uu (wpos ek g1 g2 B p i) = p := by
  intro p i a c d e
  exact h p i a c d e (Or.inl (by omega))
