theorem sg_suc (f : Int → Int) {i : Int} (h : 0 ≤ i) : sg f (i + 1).toNat = sg f i.toNat + f i := by
  rw [show (i + 1).toNat = i.toNat + 1 by omega]
  show sg f i.toNat + f (i.toNat : Int) = _
  rw [show ((i.toNat : Nat) : Int) = i by omega]
theorem sg_split (f : Int → Int) (a n : Nat) : sg f (a + n) = sg f a + sg (fun j => f (a + j)) n := by
  induction n with
  | zero => show sg f a = sg f a + 0; omega
  | succ n ih =>
    show sg f (a + n) + f ((a + n : Nat) : Int) = sg f a + (sg (fun j => f (a + j)) n + f ((a : Int) + (n : Int)))
    rw [ih, show ((a + n : Nat) : Int) = (a : Int) + (n : Int) by omega]
    omega
theorem sg_mono {f : Int → Int} (h : ∀ j : Int, 0 ≤ f j) {m n : Nat} (mn : m ≤ n) : sg f m ≤ sg f n := by
  rw [show n = m + (n - m) by omega, sg_split]
  have := sg_nonneg (f := fun j => f ((m : Int) + j)) (n - m) (fun j => h _)
  omega
def setF (tg : Int → Int) (i : Int) : Int := if 0 ≤ tg i then 1 else 0
theorem setF_rng (tg : Int → Int) (n : Nat) : 0 ≤ sg (setF tg) n ∧ sg (setF tg) n ≤ n := by
  have h1 : 0 ≤ sg (setF tg) n := sg_nonneg n (fun j => by unfold setF; split <;> omega)
  have h2 : sg (setF tg) n ≤ sg (fun _ => 1) n := sg_le n (fun j _ _ => by unfold setF; split <;> omega)
  rw [sg_const] at h2
  omega
/-- how many sites set a register -/
theorem tot_eq {tg pt : Int → Int} {P R : Int} (hP : 0 ≤ P) (hR : 0 ≤ R) (t : ∀ i : Int, 0 ≤ i → i < P → 0 ≤ pt i) : sg (fun j => if 0 ≤ TT tg pt P (j - P) then 1 else 0) (P + R).toNat = P + sg (setF tg) R.toNat := by
  rw [show (P + R).toNat = P.toNat + R.toNat by omega, sg_split]
  have e1 : sg (fun j => if 0 ≤ TT tg pt P (j - P) then 1 else 0) P.toNat = P := by
    rw [sg_congr (g := fun _ => 1) P.toNat (fun j a b => by
      show (if 0 ≤ TT tg pt P (j - P) then (1 : Int) else 0) = 1
      unfold TT
      by_cases q : 0 ≤ j - P
      · omega
      · rw [if_neg q, show j - P + P = j by omega, if_pos (t j a (by omega))]), sg_const]
    omega
  have e2 : sg (fun j => (fun j => if 0 ≤ TT tg pt P (j - P) then (1 : Int) else 0) (((P.toNat : Nat) : Int) + j)) R.toNat = sg (setF tg) R.toNat := by
    apply sg_congr
    intro j a b
    show (if 0 ≤ TT tg pt P (((P.toNat : Nat) : Int) + j - P) then (1 : Int) else 0) = setF tg j
    unfold TT setF
    rw [show ((P.toNat : Nat) : Int) + j - P = j by omega, if_pos a]
  rw [e1, e2]
/-- n places from sp on, copied to dp -/
def cpF (f g : Int → Int) (sp dp n : Int) : Int → Int := fun j => if dp ≤ j ∧ j < dp + n then f (sp + (j - dp)) else g j
theorem cpF_P {P : Int → Prop} {f g : Int → Int} (hf : ∀ j : Int, P (f j)) (hg : ∀ j : Int, P (g j)) (sp dp n : Int) : ∀ j : Int, P (cpF f g sp dp n j) := by
  intro j
  unfold cpF
  split
  · exact hf _
  · exact hg _
theorem cpF_0 (f : Int → Int) {sp dp n : Int} (h : n ≤ 0) : cpF f f sp dp n = f := by
  funext j
  unfold cpF
  rw [if_neg (by omega)]
/-- room in front -/
theorem setF_front {tg tg' : Int → Int} {z R : Int} (hz : 0 ≤ z) (hR : 0 ≤ R) (h : ∀ i : Int, z ≤ i → i < R + z → tg' i = tg (i - z)) : sg (setF tg') (R + z).toNat ≤ z + sg (setF tg) R.toNat := by
  rw [show (R + z).toNat = z.toNat + R.toNat by omega, sg_split]
  have h1 := (setF_rng tg' z.toNat).2
  have e2 : sg (fun j => setF tg' (((z.toNat : Nat) : Int) + j)) R.toNat = sg (setF tg) R.toNat := by
    apply sg_congr
    intro j a b
    show setF tg' (((z.toNat : Nat) : Int) + j) = setF tg j
    unfold setF
    rw [h _ (by omega) (by omega), show ((z.toNat : Nat) : Int) + j - z = j by omega]
  rw [e2]; omega
/-- the PHIs placed so far: all of the blocks below b, and t of block b -/
abbrev AP (B : Int) (hF ps fs pt as : Int → Int) (P C b t : Int) : Prop := (0 ≤ b ∧ 0 ≤ t) ∧ (P = sg hF b.toNat + t) ∧ (C = sg (fun x => hF x * (ps (x + 1) - ps x)) b.toNat + t * (ps (b + 1) - ps b)) ∧ (∀ x : Int, 0 ≤ x → x ≤ b → fs x = sg hF x.toNat) ∧ (∀ i : Int, 0 ≤ i → i < P → 0 ≤ pt i) ∧ (∀ x i : Int, 0 ≤ x → x ≤ b → sg hF x.toNat ≤ i → i < P → (x < b → i < sg hF (x + 1).toNat) → as i + (ps (x + 1) - ps x) ≤ C) ∧ (∀ x i j : Int, 0 ≤ x → x ≤ b → sg hF x.toNat ≤ i → (x < b → i < sg hF (x + 1).toNat) → i < j → j < P → as i + (ps (x + 1) - ps x) ≤ as j)
theorem AP.b0 {B : Int} {hF ps fs pt as : Int → Int} {P C b t : Int} (h : AP B hF ps fs pt as P C b t) : 0 ≤ b ∧ 0 ≤ t := h.1
theorem AP.p {B : Int} {hF ps fs pt as : Int → Int} {P C b t : Int} (h : AP B hF ps fs pt as P C b t) : P = sg hF b.toNat + t := h.2.1
theorem AP.c {B : Int} {hF ps fs pt as : Int → Int} {P C b t : Int} (h : AP B hF ps fs pt as P C b t) : C = sg (fun x => hF x * (ps (x + 1) - ps x)) b.toNat + t * (ps (b + 1) - ps b) := h.2.2.1
theorem AP.fsv {B : Int} {hF ps fs pt as : Int → Int} {P C b t : Int} (h : AP B hF ps fs pt as P C b t) : ∀ x : Int, 0 ≤ x → x ≤ b → fs x = sg hF x.toNat := h.2.2.2.1
theorem AP.tgt {B : Int} {hF ps fs pt as : Int → Int} {P C b t : Int} (h : AP B hF ps fs pt as P C b t) : ∀ i : Int, 0 ≤ i → i < P → 0 ≤ pt i := h.2.2.2.2.1
theorem AP.lay {B : Int} {hF ps fs pt as : Int → Int} {P C b t : Int} (h : AP B hF ps fs pt as P C b t) : ∀ x i : Int, 0 ≤ x → x ≤ b → sg hF x.toNat ≤ i → i < P → (x < b → i < sg hF (x + 1).toNat) → as i + (ps (x + 1) - ps x) ≤ C := h.2.2.2.2.2.1
theorem AP.am {B : Int} {hF ps fs pt as : Int → Int} {P C b t : Int} (h : AP B hF ps fs pt as P C b t) : ∀ x i j : Int, 0 ≤ x → x ≤ b → sg hF x.toNat ≤ i → (x < b → i < sg hF (x + 1).toNat) → i < j → j < P → as i + (ps (x + 1) - ps x) ≤ as j := h.2.2.2.2.2.2
theorem AP.init {B : Int} {hF ps fs pt as : Int → Int} (h : fs 0 = 0) : AP B hF ps fs pt as 0 0 0 0 := by
  refine ⟨by omega, rfl, by show (0 : Int) = 0 + 0 * _; omega, fun x a b => ?_, fun i a b => by omega, fun x i a b c d => ?_, fun x i j a b c d e f => ?_⟩
  · have : x = 0 := by omega
    subst this; exact h
  · have : x = 0 := by omega
    subst this
    have c : (0 : Int) ≤ i := c
    omega
  · have : x = 0 := by omega
    subst this
    have c : (0 : Int) ≤ i := c
    omega
theorem AP.add {B : Int} {hF ps fs pt as : Int → Int} {P C b t r : Int} (hn : ∀ x : Int, 0 ≤ hF x) (h : AP B hF ps fs pt as P C b t) (pn : 0 ≤ ps (b + 1) - ps b) (P0 : 0 ≤ P) (r0 : 0 ≤ r) : AP B hF ps fs (zup pt P r) (zup as P C) (P + 1) (C + (ps (b + 1) - ps b)) b (t + 1) := by
  have b0 := h.b0
  refine ⟨by omega, by have := h.p; omega, ?_, h.fsv, fun i a c => ?_, fun x i a c d e f => ?_, fun x i j a c d e f g => ?_⟩
  · have := h.c
    rw [Int.add_mul]
    omega
  · by_cases q : i = P
    · rw [q, zup_eq]; exact r0
    · rw [zup_ne _ _ q]; exact h.tgt i a (by omega)
  · by_cases q : i = P
    · rw [q, zup_eq]
      have xb : x = b := by
        rcases Int.lt_or_le x b with w | w
        · exfalso
          have m := f w
          have p := h.p
          have l := sg_mono hn (show (x + 1).toNat ≤ b.toNat by omega)
          rw [q] at m
          omega
        · omega
      rw [xb]; omega
    · rw [zup_ne _ _ q]
      have := h.lay x i a c d (by omega) f
      omega
  · rw [zup_ne as _ (by omega)]
    by_cases q : j = P
    · rw [q, zup_eq]; exact h.lay x i a c d (by omega) e
    · rw [zup_ne as _ q]; exact h.am x i j a c d e f (by omega)
/-- block b has all its PHIs -/
theorem AP.close {B : Int} {hF ps fs pt as : Int → Int} {P C b t : Int} (h : AP B hF ps fs pt as P C b t) (ht : t = hF b) : AP B hF ps (zup fs (b + 1) P) pt as P C (b + 1) 0 := by
  have b0 := h.b0
  have e1 := sg_suc hF b0.1
  have e2 := sg_suc (fun x => hF x * (ps (x + 1) - ps x)) b0.1
  have pe : P = sg hF (b + 1).toNat := by rw [e1, ← ht]; exact h.p
  refine ⟨by omega, by omega, ?_, fun x a c => ?_, h.tgt, fun x i a c d e f => ?_, fun x i j a c d e f g => ?_⟩
  · have := h.c
    rw [ht] at this
    show C = sg _ (b + 1).toNat + 0 * _
    rw [e2, this]
    omega
  · by_cases q : x = b + 1
    · rw [q, zup_eq]; exact pe
    · rw [zup_ne _ _ q]; exact h.fsv x a (by omega)
  · by_cases q : x = b + 1
    · rw [q] at d; omega
    · exact h.lay x i a (by omega) d e (fun w => f (by omega))
  · by_cases q : x = b + 1
    · rw [q] at d; omega
    · exact h.am x i j a (by omega) d (fun w => e (by omega)) f g
theorem mul_mono {a b c : Int} (h : a ≤ b) (c0 : 0 ≤ c) : a * c ≤ b * c := Int.mul_le_mul_of_nonneg_right h c0
/-- there is room for one more -/
theorem AP.room {B : Int} {hF ps fs pt as : Int → Int} {P C b t : Int} (hn : ∀ x : Int, 0 ≤ hF x) (h : AP B hF ps fs pt as P C b t) (bB : b < B) (ht : t + 1 ≤ hF b) (pn : ∀ x : Int, 0 ≤ x → x < B → 0 ≤ ps (x + 1) - ps x) : P + 1 ≤ sg hF B.toNat ∧ C + (ps (b + 1) - ps b) ≤ sg (fun x => hF x * (ps (x + 1) - ps x)) B.toNat := by
  have b0 := h.b0
  have e1 := sg_suc hF b0.1
  have e2 := sg_suc (fun x => hF x * (ps (x + 1) - ps x)) b0.1
  have m1 := sg_mono hn (show (b + 1).toNat ≤ B.toNat by omega)
  have p := h.p
  have c := h.c
  have pb := pn b b0.1 bB
  have mm := mul_mono ht pb
  rw [Int.add_mul] at mm
  have m2 : sg (fun x => hF x * (ps (x + 1) - ps x)) (b + 1).toNat ≤ sg (fun x => hF x * (ps (x + 1) - ps x)) B.toNat := by
    rw [show B.toNat = (b + 1).toNat + (B.toNat - (b + 1).toNat) by omega, sg_split]
    have : 0 ≤ sg (fun j => (fun x => hF x * (ps (x + 1) - ps x)) ((((b + 1).toNat : Nat) : Int) + j)) (B.toNat - (b + 1).toNat) := by
      have q := sg_le (f := fun _ => 0) (g := fun j => (fun x => hF x * (ps (x + 1) - ps x)) ((((b + 1).toNat : Nat) : Int) + j)) (B.toNat - (b + 1).toNat) (fun j a d => Int.mul_nonneg (hn _) (pn _ (by omega) (by omega)))
      rw [sg_const] at q
      omega
    exact Int.le_add_of_nonneg_right this
  refine ⟨by omega, ?_⟩
  have e2 : sg (fun x => hF x * (ps (x + 1) - ps x)) (b + 1).toNat = sg (fun x => hF x * (ps (x + 1) - ps x)) b.toNat + hF b * (ps (b + 1) - ps b) := e2
  omega
/-- what the placing tells: starts in order, operands one behind the other and inside -/
theorem AP.done {B : Int} {hF ps fs pt as : Int → Int} {P C b t : Int} (hn : ∀ x : Int, 0 ≤ hF x) (h : AP B hF ps fs pt as P C b t) (hb : b = B) (ht : t = 0) : MS B P fs ∧ (∀ i : Int, 0 ≤ i → i < P → 0 ≤ pt i) ∧ AMF B fs ps as ∧ (∀ x i : Int, 0 ≤ x → x < B → fs x ≤ i → i < fs (x + 1) → as i + (ps (x + 1) - ps x) ≤ C) := by
  have b0 := h.b0
  subst hb
  have pe : P = sg hF b.toNat := by have := h.p; omega
  have f := h.fsv
  have le : ∀ x : Int, 0 ≤ x → x < b → sg hF (x + 1).toNat ≤ P := fun x a c => by rw [pe]; exact sg_mono hn (by omega)
  refine ⟨⟨b0.1, by rw [f 0 (by omega) b0.1]; rfl, fun x a c => ?_, by rw [f b b0.1 (by omega), pe]⟩, h.tgt, fun x y i j x0 x1 y0 y1 a c d e ij => ?_, fun x i x0 x1 a c => ?_⟩
  · rw [f x a (by omega), f (x + 1) (by omega) (by omega)]; exact sg_mono hn (by omega)
  · rw [f x x0 (by omega)] at a
    rw [f (x + 1) (by omega) (by omega)] at c
    rw [f (y + 1) (by omega) (by omega)] at e
    exact h.am x i j x0 (by omega) a (fun _ => c) ij (by have := le y y0 y1; omega)
  · rw [f x x0 (by omega)] at a
    rw [f (x + 1) (by omega) (by omega)] at c
    exact h.lay x i x0 (by omega) a (by have := le x x0 x1; omega) (fun _ => c)
