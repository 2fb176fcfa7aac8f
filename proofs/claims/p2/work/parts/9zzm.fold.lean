/-- targets of PHIs and ROWs whose number is known are marked as gone -/
def MKP (kd p a : Int → Int) (lo n : Int) : Prop := ∀ i : Int, p i = a i ∨ (p i = -1 ∧ lo ≤ i ∧ i < n ∧ kd (a i) = 1)
theorem MKP.refl (kd a : Int → Int) (lo n : Int) : MKP kd a a lo n := fun _ => Or.inl rfl
theorem MKP.skip {kd p a : Int → Int} {lo n : Int} (h : MKP kd p a lo n) : MKP kd p a lo (n + 1) := fun i => by
  rcases h i with q | q
  · exact Or.inl q
  · exact Or.inr ⟨q.1, q.2.1, by omega, q.2.2.2⟩
theorem MKP.set {kd p a : Int → Int} {lo n : Int} (h : MKP kd p a lo n) (l : lo ≤ n) (e : kd (p n) = 1) : MKP kd (zup p n (-1)) a lo (n + 1) := fun i => by
  by_cases c : i = n
  · rw [c, zup_eq]
    have : p n = a n := by
      rcases h n with q | q
      · exact q
      · omega
    rw [this] at e
    exact Or.inr ⟨rfl, l, by omega, e⟩
  · rw [zup_ne _ _ c]; exact h.skip i
theorem MKP.trans {kd p q a : Int → Int} {lo mid hi : Int} (h : MKP kd p a lo mid) (g : MKP kd q p mid hi) (lm : lo ≤ mid) (mh : mid ≤ hi) : MKP kd q a lo hi := fun i => by
  rcases g i with w | w
  · rw [w]
    rcases h i with v | v
    · exact Or.inl v
    · exact Or.inr ⟨v.1, v.2.1, by omega, v.2.2.2⟩
  · rcases h i with v | v
    · rw [v] at w; exact Or.inr ⟨w.1, by omega, w.2.2.1, w.2.2.2⟩
    · omega
theorem MKP.grow {kd p a : Int → Int} {lo n m : Int} (h : MKP kd p a lo n) (e : n ≤ m) : MKP kd p a lo m := fun i => by
  rcases h i with q | q
  · exact Or.inl q
  · exact Or.inr ⟨q.1, q.2.1, by omega, q.2.2.2⟩
theorem MKP.ptg {kd p a : Int → Int} {lo n : Int} (h : MKP kd p a lo n) : PTG n p a := ⟨fun i => by
  rcases h i with q | q
  · exact Or.inr q
  · exact Or.inl q.1, fun i e => by
  rcases h i with q | q
  · exact q
  · omega⟩
def MKO (kd o a t : Int → Int) : Prop := ∀ i : Int, o i = a i ∨ (o i = -1 ∧ 0 ≤ t i ∧ kd (t i) = 1)
theorem MKO.refl (kd a t : Int → Int) : MKO kd a a t := fun _ => Or.inl rfl
theorem MKO.set {kd o a t : Int → Int} {n : Int} (h : MKO kd o a t) (l : 0 ≤ t n) (e : kd (t n) = 1) : MKO kd (zup o n (-1)) a t := fun i => by
  by_cases c : i = n
  · rw [c, zup_eq]; exact Or.inr ⟨rfl, l, e⟩
  · rw [zup_ne _ _ c]; exact h i
theorem MKO.trans {kd o q a t : Int → Int} (h : MKO kd o a t) (g : MKO kd q o t) : MKO kd q a t := fun i => by
  rcases g i with w | w
  · rw [w]; exact h i
  · exact Or.inr w
theorem MKO.hui {kd o a t : Int → Int} {R : Int} (h : MKO kd o a t) (u : HUI a t R) : HUI o t R := fun i b c d => by
  rcases h i with q | q
  · rw [q] at d; exact u i b c d
  · exact q.2.1
/-- the end of block b: an IF of a number has become a JUMP -/
def FDJ (ek eu g1 g2 ek' eu' g1' g2' : Int → Int) (b : Int) : Prop := ((ek b = 1 ∧ eu b < 4294967296) ∧ ek' = zup ek b 0 ∧ eu' = zup eu b 1099511627776 ∧ ((eu b = 0 ∧ g1' = zup g1 b (g2 b) ∧ g2' = g2) ∨ (¬ eu b = 0 ∧ g1' = g1 ∧ g2' = zup g2 b (g1 b)))) ∨ (¬ (ek b = 1 ∧ eu b < 4294967296) ∧ ek' = ek ∧ eu' = eu ∧ g1' = g1 ∧ g2' = g2)
def FEP (ek eu g1 g2 ek' eu' g1' g2' : Int → Int) (b : Int) : Prop := ((ek b = 1 ∧ eu b < 4294967296) ∧ ek' b = 0 ∧ eu' b = 1099511627776 ∧ ((eu b = 0 ∧ g1' b = g2 b ∧ g2' b = g2 b) ∨ (¬ eu b = 0 ∧ g1' b = g1 b ∧ g2' b = g1 b))) ∨ (¬ (ek b = 1 ∧ eu b < 4294967296) ∧ ek' b = ek b ∧ eu' b = eu b ∧ g1' b = g1 b ∧ g2' b = g2 b)
/-- the ends of the blocks before d that stay -/
def FEN (gn ek eu g1 g2 ek' eu' g1' g2' : Int → Int) (d : Int) : Prop := ∀ b : Int, (0 ≤ b ∧ b < d ∧ gn b = 1 → FEP ek eu g1 g2 ek' eu' g1' g2' b) ∧ (¬ (0 ≤ b ∧ b < d ∧ gn b = 1) → ek' b = ek b ∧ eu' b = eu b ∧ g1' b = g1 b ∧ g2' b = g2 b)
theorem FEN.init (gn ek eu g1 g2 : Int → Int) : FEN gn ek eu g1 g2 ek eu g1 g2 0 := fun b => ⟨fun h => by omega, fun _ => ⟨rfl, rfl, rfl, rfl⟩⟩
theorem FEN.skip {gn ek eu g1 g2 ek' eu' g1' g2' : Int → Int} {d : Int} (h : FEN gn ek eu g1 g2 ek' eu' g1' g2' d) (n : ¬ gn d = 1) : FEN gn ek eu g1 g2 ek' eu' g1' g2' (d + 1) := fun b => by
  by_cases c : b = d
  · rw [c]; exact ⟨fun q => absurd q.2.2 n, fun _ => (h d).2 (by omega)⟩
  · exact ⟨fun q => (h b).1 ⟨q.1, by omega, q.2.2⟩, fun q => (h b).2 (fun w => q ⟨w.1, by omega, w.2.2⟩)⟩
theorem FEN.set {gn ek eu g1 g2 ek' eu' g1' g2' e2 u2 p2 q2 : Int → Int} {d : Int} (h : FEN gn ek eu g1 g2 ek' eu' g1' g2' d) (f : FDJ ek' eu' g1' g2' e2 u2 p2 q2 d) (n : gn d = 1) (d0 : 0 ≤ d) : FEN gn ek eu g1 g2 e2 u2 p2 q2 (d + 1) := fun b => by
  have o := (h d).2 (by omega)
  by_cases c : b = d
  · rw [c]
    refine ⟨fun _ => ?_, fun q => absurd ⟨d0, by omega, n⟩ q⟩
    unfold FEP
    rcases f with ⟨a1, a2, a3, a4⟩ | ⟨a1, a2, a3, a4, a5⟩
    · rw [o.1, o.2.1] at a1
      refine Or.inl ⟨a1, by rw [a2, zup_eq], by rw [a3, zup_eq], ?_⟩
      rcases a4 with ⟨z, y1, y2⟩ | ⟨z, y1, y2⟩
      · rw [o.2.1] at z; exact Or.inl ⟨z, by rw [y1, zup_eq]; exact o.2.2.2, by rw [y2]; exact o.2.2.2⟩
      · rw [o.2.1] at z; exact Or.inr ⟨z, by rw [y1]; exact o.2.2.1, by rw [y2, zup_eq]; exact o.2.2.1⟩
    · rw [o.1, o.2.1] at a1
      exact Or.inr ⟨a1, by rw [a2]; exact o.1, by rw [a3]; exact o.2.1, by rw [a4]; exact o.2.2.1, by rw [a5]; exact o.2.2.2⟩
  · have same : e2 b = ek' b ∧ u2 b = eu' b ∧ p2 b = g1' b ∧ q2 b = g2' b := by
      rcases f with ⟨a1, a2, a3, a4⟩ | ⟨a1, a2, a3, a4, a5⟩
      · rcases a4 with ⟨z, y1, y2⟩ | ⟨z, y1, y2⟩
        · exact ⟨by rw [a2, zup_ne _ _ c], by rw [a3, zup_ne _ _ c], by rw [y1, zup_ne _ _ c], by rw [y2]⟩
        · exact ⟨by rw [a2, zup_ne _ _ c], by rw [a3, zup_ne _ _ c], by rw [y1], by rw [y2, zup_ne _ _ c]⟩
      · exact ⟨by rw [a2], by rw [a3], by rw [a4], by rw [a5]⟩
    have hb := h b
    unfold FEP at hb ⊢
    rw [same.1, same.2.1, same.2.2.1, same.2.2.2]
    exact ⟨fun q => hb.1 ⟨q.1, by omega, q.2.2⟩, fun q => hb.2 (fun w => q ⟨w.1, by omega, w.2.2⟩)⟩
theorem FEN.sub {gn ek eu g1 g2 ek' eu' g1' g2' : Int → Int} {d : Int} (h : FEN gn ek eu g1 g2 ek' eu' g1' g2' d) (b : Int) (e : ¬ ek' b = 2) : ¬ ek b = 2 ∧ (g1' b = g1 b ∨ g1' b = g2 b) ∧ (g2' b = g1 b ∨ g2' b = g2 b) := by
  by_cases c : 0 ≤ b ∧ b < d ∧ gn b = 1
  · rcases (h b).1 c with ⟨a1, a2, a3, a4⟩ | ⟨a1, a2, a3, a4, a5⟩
    · refine ⟨by omega, ?_, ?_⟩ <;> rcases a4 with ⟨z, y1, y2⟩ | ⟨z, y1, y2⟩
      · exact Or.inr y1
      · exact Or.inl y1
      · exact Or.inr y2
      · exact Or.inl y2
    · rw [a2] at e; exact ⟨e, Or.inl a4, Or.inr a5⟩
  · have q := (h b).2 c
    rw [q.1] at e
    exact ⟨e, Or.inl q.2.2.1, Or.inr q.2.2.2⟩
theorem FEN.hgp {gn ek eu g1 g2 ek' eu' g1' g2' : Int → Int} {B d : Int} (h : FEN gn ek eu g1 g2 ek' eu' g1' g2' d) (g : HGP ek g1 g2 B) : HGP ek' g1' g2' B := fun b b0 b1 e => by
  obtain ⟨ne, p, q⟩ := h.sub b e
  have := g b b0 b1 ne
  rcases p with p | p <;> rcases q with q | q <;> rw [p, q] <;> omega
/-- replaced by numbers alone, an operand is its number -/
theorem rsI_num {kd ii : Int → Int} {x : Int} (n : INS kd ii) (o : ((-2147483648 ≤ x ∧ x ≤ 4294968319) ∨ x = 1099511627776)) : (kdF kd x = 1 → rsI ii 1000 x = nvF ii x) ∧ (¬ kdF kd x = 1 → rsI ii 1000 x = x) := by
  unfold kdF nvF
  by_cases c : 4294967296 ≤ x ∧ x < 1099511627776
  · rw [if_pos c, if_pos c]
    have q := n (x - 4294967296) (by omega) (by omega)
    refine ⟨fun e => ?_, fun e => rsI_no (q.2 e) _⟩
    have w := q.1 e
    show (if _ then _ else _) = _
    rw [if_pos c, if_neg (by omega)]
    exact rsI_stop (by omega) _
  · rw [if_neg c, if_neg c]; exact ⟨fun _ => rsI_stop c _, fun _ => rsI_stop c _⟩
/-- where a block stays, its goals stay -/
theorem fold_closed {ek g1 g2 : Int → Int} {B P R : Int} {rs fs ps pr as op tg pt lf rt eu ar bl sd kd ii gn o1 o2 eu2 ek' eu' g1' g2' : Int → Int} (S : SI ek g1 g2 B P R fs ps pr as tg pt lf rt eu ar bl sd) (K : BLK B P R rs fs bl) (hG : HGP ek g1 g2 B) (B1 : 1 ≤ B) (L : PL ek g1 g2 B ps pr) (z : fs 0 = 0 ∧ fs 1 = 0) (h : GNI B ek g1 g2 gn o1 o2) (n : INS kd ii) (lk : ∀ b : Int, 0 ≤ b → b < B → gn b = 1 → LKD rs fs ek eu g1 g2 ps pr as pt ar op tg lf rt kd ii o1 o2 b)
    (kr : ∀ r : Int, 0 ≤ kd r ∧ kd r ≤ 2) (er : ∀ b : Int, 0 ≤ b → b < B → 0 ≤ ek b ∧ ek b ≤ 2) (ur : ∀ b : Int, ((-2147483648 ≤ eu b ∧ eu b ≤ 4294968319) ∨ eu b = 1099511627776)) (iu : ∀ b : Int, 0 ≤ b → b < B → ek b = 1 → ¬ eu b = 1099511627776) (sb : SBR ii eu eu2 B) (f : FEN gn ek eu2 g1 g2 ek' eu' g1' g2' B) : ∀ x : Int, 0 ≤ x → x < B → gn x = 1 → ¬ ek' x = 2 → gn (g1' x) = 1 ∧ gn (g2' x) = 1 := by
  have ue := untold_end S K hG B1 L z h lk
  intro x x0 x1 gx e
  have le := (lk x x0 x1 gx).2.2
  have u2 : eu2 x = rsI ii 1000 (eu x) := (sb x).1 x0 x1
  have k0 := ue x x0 x1 gx
  have rs := rsI_num n (ur x)
  have k2 : 0 ≤ kdF kd (eu x) ∧ kdF kd (eu x) ≤ 2 := by
    unfold kdF; split
    · exact kr _
    · omega
  have w1 : o1 x = 1 → gn (g1 x) = 1 := fun q => h.2.2.2 x _ x0 x1 (Or.inl ⟨q, rfl⟩)
  have w2 : o2 x = 1 → gn (g2 x) = 1 := fun q => h.2.2.2 x _ x0 x1 (Or.inr ⟨q, rfl⟩)
  rcases (f x).1 ⟨x0, x1, gx⟩ with ⟨a1, a2, a3, a4⟩ | ⟨a1, a2, a3, a4, a5⟩
  · have c := le.2 a1.1
    have kone : kdF kd (eu x) = 1 := by
      by_cases q : kdF kd (eu x) = 1
      · exact q
      · exfalso
        have q2 : kdF kd (eu x) = 2 := by omega
        rw [u2, rs.2 q] at a1
        unfold kdF at q2
        by_cases c : 4294967296 ≤ eu x ∧ eu x < 1099511627776
        · omega
        · rw [if_neg c] at q2; omega
    rw [u2, rs.1 kone] at a4
    rcases a4 with ⟨zz, y1, y2⟩ | ⟨zz, y1, y2⟩
    · rw [y1, y2]; have := w2 ((c.2 kone).1 zz); exact ⟨this, this⟩
    · rw [y1, y2]; have := w1 ((c.2 kone).2 zz); exact ⟨this, this⟩
  · rw [a4, a5]
    rw [a2] at e
    have er := er x x0 x1
    by_cases c0 : ek x = 0
    · have := le.1 c0; exact ⟨w1 this.1, w2 this.2⟩
    · have c1 : ek x = 1 := by omega
      have c := le.2 c1
      by_cases q : kdF kd (eu x) = 2
      · have := c.1 q; exact ⟨w1 this.1, w2 this.2⟩
      · exfalso
        have kone : kdF kd (eu x) = 1 := by omega
        have r := nvF_rng n kone (ur x) (iu x x0 x1 c1)
        apply a1
        rw [u2, rs.1 kone]
        exact ⟨c1, r.2⟩
theorem fold_preds {ek g1 g2 ps pr gn eu2 ek' eu' g1' g2' : Int → Int} {B : Int} (L : PL ek g1 g2 B ps pr) (f : FEN gn ek eu2 g1 g2 ek' eu' g1' g2' B) : ∀ x g : Int, 0 ≤ x → x < B → gn x = 1 → ¬ ek' x = 2 → (g = g1' x ∨ g = g2' x) → ∃ k : Int, ps g ≤ k ∧ k < ps (g + 1) ∧ pr k = x := fun x g x0 x1 _ e w => by
  obtain ⟨ne, p, q⟩ := f.sub x e
  have a := L.edge x0 x1 (ED.one (g2 := g2) ne)
  have b := L.edge x0 x1 (ED.two (g1 := g1) ne)
  rcases w with w | w
  · rcases p with p | p
    · rw [w, p]; exact a
    · rw [w, p]; exact b
  · rcases q with q | q
    · rw [w, q]; exact a
    · rw [w, q]; exact b
theorem AMF.swept {B n R m P : Int} {o t l r rs pt as fs o' t' l' r' rs' pt' as' fs' ps f g : Int → Int} (h : AMF B fs ps as) (s : SWS o t l r rs pt as fs o' t' l' r' rs' pt' as' fs' f g n R m P B) : AMF B fs' ps as' := fun x y i j x0 x1 y0 y1 a b c d e => by
  have q1 := s.b2 x x0 (by omega)
  have q2 := s.b2 (x + 1) (by omega) (by omega)
  have q3 := s.b2 y y0 (by omega)
  have q4 := s.b2 (y + 1) (by omega) (by omega)
  have w := s.k2.dom i (by omega) (by omega)
  have v := s.k2.dom j (by omega) (by omega)
  rw [s.ca.1 i (by omega) (by omega), s.ca.1 j (by omega) (by omega)]
  have e1 := q1.2 i (by omega) (by omega)
  have e2 := q2.2 i (by omega) (by omega)
  have e3 := q3.2 j (by omega) (by omega)
  have e4 := q4.2 j (by omega) (by omega)
  have mo := s.k2.mon i j (by omega) e (by omega)
  exact h x y (g i) (g j) x0 x1 y0 y1 (by omega) (by omega) (by omega) (by omega) mo
/-- ROWs and ENDs as a text makes them -/
def RWF (op lf rt : Int → Int) (R : Int) : Prop := ∀ i : Int, 0 ≤ i → i < R → 0 ≤ op i ∧ (op i = 1 → ¬ isg (lf i) ∧ ¬ isg (rt i)) ∧ (op i = 0 → ¬ lf i = 1099511627776)
theorem rsI_nno {ii : Int → Int} : ∀ (n : Nat) (x : Int), ¬ x = 1099511627776 → ¬ rsI ii n x = 1099511627776
  | 0, _, nx => nx
  | n + 1, x, nx => by
    show ¬ (if _ then _ else _) = _
    split
    · split
      · exact nx
      · rename_i c; exact rsI_nno n _ c
    · exact nx
def ENF (ek eu g1 g2 : Int → Int) (B : Int) : Prop := ∀ b : Int, 0 ≤ b → b < B → (ek b = 0 → g1 b = g2 b) ∧ (ek b = 1 → ¬ eu b = 1099511627776) ∧ (¬ ek b = 2 → 1 ≤ g1 b ∧ 1 ≤ g2 b)
/-- operands of PHIs are numbers or registers -/
def ARF (B : Int) (fs ps pr as ar : Int → Int) : Prop := ∀ q x p : Int, 0 ≤ x → x < B → SLT fs ps pr as q x p → ¬ ar q = 1099511627776
/-- a function in SSA: each register set once, before it is used, every block come to, no PHI in front -/
def SSV (B R P C : Int) (rs op tg lf rt ek eu g1 g2 ps pr fs pt as ar : Int → Int) : Prop := CGD B R P C rs op tg ek g1 g2 ps pr fs pt as ∧ AMF B fs ps as ∧ ENF ek eu g1 g2 B ∧ RWF op lf rt R ∧ ARF B fs ps pr as ar ∧ fs 1 = 0 ∧ (∀ b : Int, 0 ≤ b → b < B → ∃ k : Nat, RA ek g1 g2 (fun _ => 0) (-1) k b) ∧ (∀ s : Int, -P ≤ s → s < R → TT tg pt P s < 1000) ∧ (∃ bl sd : Int → Int, BLK B P R rs fs bl ∧ SI ek g1 g2 B P R fs ps pr as tg pt lf rt eu ar bl sd)
/-- what folding leaves: numbers in place of registers, what sets them swept, IFs of numbers JUMPs -/
def FLD (B R P : Int) (rs op tg lf rt ek eu g1 g2 ps pr fs pt as ar kd ii gn o1 o2 : Int → Int) (n m : Int) (rs' o' t' l' r' ek' eu' g1' g2' fs' pt' as' ar' : Int → Int) : Prop := INS kd ii ∧ GNI B ek g1 g2 gn o1 o2 ∧ (∀ b : Int, 0 ≤ b → b < B → gn b = 1 → LKD rs fs ek eu g1 g2 ps pr as pt ar op tg lf rt kd ii o1 o2 b) ∧ OPV B ek eu kd ii o1 o2 ∧ ∃ pm o l2 r2 u2 f g : Int → Int, MKP kd pm pt 0 P ∧ MKO kd o op tg ∧ SBR ii lf l2 R ∧ SBR ii rt r2 R ∧ SBR ii eu u2 B ∧ SBA B fs ps as ii ar ar' ∧ FEN gn ek u2 g1 g2 ek' eu' g1' g2' B ∧ SWS o tg l2 r2 rs pm as fs o' t' l' r' rs' pt' as' fs' f g n R m P B
theorem FLD.ok {B R P C : Int} {rs op tg lf rt ek eu g1 g2 ps pr fs pt as ar kd ii gn o1 o2 : Int → Int} {n m : Int} {rs' o' t' l' r' ek' eu' g1' g2' fs' pt' as' ar' : Int → Int} (v : SSV B R P C rs op tg lf rt ek eu g1 g2 ps pr fs pt as ar) (h : FLD B R P rs op tg lf rt ek eu g1 g2 ps pr fs pt as ar kd ii gn o1 o2 n m rs' o' t' l' r' ek' eu' g1' g2' fs' pt' as' ar') (kr : ∀ r : Int, 0 ≤ kd r ∧ kd r ≤ 2) (er : ∀ b : Int, 0 ≤ ek b ∧ ek b ≤ 2) (ur : ∀ b : Int, ((-2147483648 ≤ eu b ∧ eu b ≤ 4294968319) ∨ eu b = 1099511627776)) :
    CGD B n m C rs' o' t' ek g1 g2 ps pr fs' pt' as' ∧ AMF B fs' ps as' ∧ HGP ek' g1' g2' B ∧ gn 0 = 1 ∧ (∀ x : Int, 0 ≤ x → x < B → gn x = 1 → ¬ ek' x = 2 → gn (g1' x) = 1 ∧ gn (g2' x) = 1) ∧ (∀ x g : Int, 0 ≤ x → x < B → gn x = 1 → ¬ ek' x = 2 → (g = g1' x ∨ g = g2' x) → ∃ k : Int, ps g ≤ k ∧ k < ps (g + 1) ∧ pr k = x) := by
  obtain ⟨v1, v2, v3, vr, va, v4, v5, v6, bl, sd, v7, v8⟩ := v
  obtain ⟨h1, h2, h3, _, pm, o, l2, r2, u2, f, g, a1, a2, a3, a4, a5, a6, a7, a8⟩ := h
  obtain ⟨c1, c2, c3, c4, c5, c6, c7, c8⟩ := v1
  exact ⟨CGD.swept ⟨c1, c2, c3, c4, c5, c6, c7, c8⟩ (a2.hui c4) a1.ptg a8, v2.swept a8, a7.hgp c5, h2.1, fold_closed v8 v7 c5 c1 c6 ⟨c3.z, v4⟩ h2 h1 h3 kr (fun b _ _ => er b) ur (fun b b0 b1 => (v3 b b0 b1).2.1) a5 a7, fold_preds c6 a7⟩
