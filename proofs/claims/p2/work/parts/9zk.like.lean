/-- the rows that stand for others, each of which sets a register -/
def STD (c : Int) (st tg : Int → Int) : Prop := ∀ n : Int, 0 ≤ n → n < c → 0 ≤ tg (st n)
theorem STD.zero (st tg : Int → Int) : STD 0 st tg := fun n a b => by omega
theorem STD.add {c i : Int} {st tg : Int → Int} (h : STD c st tg) (t : 0 ≤ tg i) : STD (c + 1) (zup st c i) tg := fun n a b => by
  unfold zup; split
  · exact t
  · exact h n a (by omega)
theorem STD.less {c d : Int} {st tg : Int → Int} (h : STD c st tg) (l : d ≤ c) : STD d st tg := fun n a b => h n a (by omega)
theorem HUI.gone {o t : Int → Int} {R i : Int} (h : HUI o t R) (u : 0 ≤ t i) : HUI (zup o i (-1)) t R := fun j a b e => by
  by_cases q : j = i
  · rw [q]; exact u
  · rw [zup_ne _ _ q] at e; exact h j a b e
/-- the marks of the path, in order, none above what stands -/
def PMK (d c : Int) (pm : Int → Int) : Prop := ∀ i j : Int, 0 ≤ i → i ≤ j → j < d → pm i ≤ pm j ∧ pm j ≤ c
theorem PMK.zero (c : Int) (pm : Int → Int) : PMK 0 c pm := fun i j a b d => by omega
theorem PMK.pop {d c : Int} {pm : Int → Int} (h : PMK d c pm) : PMK (d - 1) (pm (d - 1)) pm := fun i j a b e =>
  ⟨(h i j a b (by omega)).1, (h j (d - 1) (by omega) (by omega) (by omega)).1⟩
theorem PMK.top {d c : Int} {pm : Int → Int} (h : PMK d c pm) (p : 0 < d) : pm (d - 1) ≤ c := (h (d - 1) (d - 1) (by omega) (by omega) (by omega)).2
theorem PMK.up {d c c' : Int} {pm : Int → Int} (h : PMK d c pm) (l : c ≤ c') : PMK d c' pm := fun i j a b e => by
  have := h i j a b e; omega
theorem PMK.push {d c : Int} {pm : Int → Int} (h : PMK d c pm) : PMK (d + 1) c (zup pm d c) := fun i j a b e => by
  by_cases q : j = d
  · rw [q, zup_eq]
    by_cases w : i = d
    · rw [w, zup_eq]; omega
    · rw [zup_ne _ _ w]; have := h i i a (by omega) (by omega); omega
  · rw [zup_ne _ _ q, zup_ne _ _ (by omega)]; exact h i j a b (by omega)
/-- the rows of the blocks that stand before place n -/
def VW (rs pl : Int → Int) (n B : Int) : Int := sg (fun b => if 0 ≤ pl b ∧ pl b < n then rs (b + 1) - rs b else 0) B.toNat
theorem sg_tel (f : Int → Int) : ∀ n : Nat, sg (fun b => f (b + 1) - f b) n = f n - f 0
  | 0 => by show (0 : Int) = f 0 - f 0; omega
  | n + 1 => by
    have q := sg_tel f n
    show sg (fun b => f (b + 1) - f b) n + (f ((n : Int) + 1) - f n) = f ((n : Int) + 1) - f 0
    rw [q]; omega
theorem VW.zero (rs pl : Int → Int) (B : Int) : VW rs pl 0 B = 0 := by
  unfold VW
  rw [sg_congr (g := fun _ => 0) B.toNat (fun j a b => by show (if 0 ≤ pl j ∧ pl j < 0 then rs (j + 1) - rs j else 0) = 0; split <;> omega), sg_const]
  omega
theorem VW.le {B R : Int} {rs pl : Int → Int} (h : MS B R rs) (n : Int) : VW rs pl n B ≤ R := by
  have b0 := h.b0
  have q : VW rs pl n B ≤ sg (fun b => rs (b + 1) - rs b) B.toNat := sg_le B.toNat (fun j a b => by
    have := h.mo j a (by omega)
    show (if 0 ≤ pl j ∧ pl j < n then rs (j + 1) - rs j else 0) ≤ rs (j + 1) - rs j
    split <;> omega)
  rw [sg_tel, show ((B.toNat : Nat) : Int) = B by omega, h.e, h.z] at q
  omega
theorem VW.step {B rd : Int} {po id pl od : Int → Int} (rs : Int → Int) (o : OD B po id pl od rd) {n : Int} (n0 : 0 ≤ n) (n1 : n < rd) : VW rs pl (n + 1) B = VW rs pl n B + (rs (od n + 1) - rs (od n)) := by
  have q := o.ord n n0 n1
  have e : VW rs pl (n + 1) B = sg (zup (fun b => if 0 ≤ pl b ∧ pl b < n then rs (b + 1) - rs b else 0) (od n) (rs (od n + 1) - rs (od n))) B.toNat := sg_congr B.toNat (fun j a b => by
    by_cases w : j = od n
    · rw [w, zup_eq]
      show (if 0 ≤ pl (od n) ∧ pl (od n) < n + 1 then rs (od n + 1) - rs (od n) else 0) = _
      rw [q.2.2, if_pos (by omega)]
    · rw [zup_ne _ _ w]
      have ne : ¬ pl j = n := fun z => by
        have := (o.plc j a (by omega) (by omega)).2.1
        rw [z] at this; exact w this.symm
      show (if 0 ≤ pl j ∧ pl j < n + 1 then rs (j + 1) - rs j else 0) = (if 0 ≤ pl j ∧ pl j < n then rs (j + 1) - rs j else 0)
      by_cases v : 0 ≤ pl j ∧ pl j < n
      · rw [if_pos v, if_pos (by omega)]
      · rw [if_neg v, if_neg (by omega)])
  rw [e, sg_up _ _ _ q.1 (by omega)]
  show _ + ((rs (od n + 1) - rs (od n)) - (if 0 ≤ pl (od n) ∧ pl (od n) < n then rs (od n + 1) - rs (od n) else 0)) = _
  rw [q.2.2, if_neg (by omega)]
  unfold VW; omega
/-- targets of PHIs, some of them gone, from n on as they were -/
def PTG (n : Int) (p a : Int → Int) : Prop := (∀ i : Int, p i = -1 ∨ p i = a i) ∧ (∀ i : Int, n ≤ i → p i = a i)
theorem PTG.refl (n : Int) (a : Int → Int) : PTG n a a := ⟨fun _ => Or.inr rfl, fun _ _ => rfl⟩
theorem PTG.skip {n : Int} {p a : Int → Int} (h : PTG n p a) : PTG (n + 1) p a := ⟨h.1, fun i b => h.2 i (by omega)⟩
theorem PTG.set {n : Int} {p a : Int → Int} (h : PTG n p a) : PTG (n + 1) (zup p n (-1)) a := ⟨fun i => by
  by_cases q : i = n
  · rw [q, zup_eq]; exact Or.inl rfl
  · rw [zup_ne _ _ q]; exact h.1 i, fun i b => by rw [zup_ne _ _ (by omega)]; exact h.2 i (by omega)⟩
theorem KB.ms2 {kp f rs rs' : Int → Int} {n N B : Int} (k : KP kp f n N) (b : KB f rs rs' n B) (h : MS B N rs) : MS B n rs' := by
  have b0 := h.b0
  have n0 := k.n0
  refine ⟨b0, ?_, fun x x0 x1 => ?_, ?_⟩
  · have q := b 0 (by omega) b0
    by_cases w : rs' 0 = 0
    · exact w
    · have := (q.2 0 (by omega) (by omega)).mp (by omega)
      have := (k.dom 0 (by omega) (by omega)).1
      have := h.z
      omega
  · have q := b x x0 (by omega)
    have r := b (x + 1) (by omega) (by omega)
    have := h.mo x x0 x1
    by_cases w : rs' x ≤ rs' (x + 1)
    · exact w
    · have a1 := (q.2 (rs' (x + 1)) (by omega) (by omega)).mp (by omega)
      have a2 := (r.2 (rs' (x + 1)) (by omega) (by omega)).mpr (by omega)
      omega
  · have q := b B b0 (Int.le_refl _)
    by_cases w : rs' B = n
    · exact w
    · have a1 := (k.dom (rs' B) (by omega) (by omega)).1
      have := h.e
      have a2 := (q.2 (rs' B) (by omega) (by omega)).mpr (by omega)
      omega
theorem CGD.swept {B R P na n m : Int} {rs op o tg ek g1 g2 ps pr fs pt pm as l r o' t' l' r' rs' pt' as' fs' f g : Int → Int} (h : CGD B R P na rs op tg ek g1 g2 ps pr fs pt as) (u : HUI o tg R) {k : Int} (p : PTG k pm pt)
    (s : SWS o tg l r rs pm as fs o' t' l' r' rs' pt' as' fs' f g n R m P B) : CGD B n m na rs' o' t' ek g1 g2 ps pr fs' pt' as' := by
  obtain ⟨h1, h2, h3, h4, h5, h6, h7, h8⟩ := h
  refine ⟨h1, KB.ms2 s.k1 s.b1 h2, KB.ms2 s.k2 s.b2 h3, fun i a b c => ?_, h5, h6, fun i a b => ?_, fun x i a b c d => ?_⟩
  · have q := (s.k1.dom i a b).1
    rw [s.co.1 i a b] at c
    rw [s.ct.1 i a b]
    exact u _ q.1 q.2 c
  · have q := s.k2.dom i a b
    rw [s.cp.1 i a b]
    rcases p.1 (g i) with w | w
    · exact absurd w q.2
    · rw [w]; exact h7 _ q.1.1 q.1.2
  · have q1 := s.b2 x a (by omega)
    have q2 := s.b2 (x + 1) (by omega) (by omega)
    have w := s.k2.dom i (by omega) (by omega)
    rw [s.ca.1 i (by omega) (by omega)]
    have e1 := q1.2 i (by omega) (by omega)
    have e2 := q2.2 i (by omega) (by omega)
    exact h8 x (g i) a b (by omega) (by omega)
