/-- taking out what is marked as gone -/
theorem SSV.swept {B R P C n m k : Int} {rs op tg lf rt ek eu g1 g2 ps pr fs pt as ar o pm l2 r2 eu2 ar2 rs' o' t' l' r' pt' as' fs' f g : Int → Int} (v : SSV B R P C rs op tg lf rt ek eu g1 g2 ps pr fs pt as ar) (hp : PTG k pm pt) (ho : ∀ i : Int, 0 ≤ i → i < R → o i = op i ∨ (o i = -1 ∧ 0 ≤ tg i)) (hl : ∀ i : Int, 0 ≤ i → i < R → ¬ isg (lf i) → l2 i = lf i) (hr : ∀ i : Int, 0 ≤ i → i < R → ¬ isg (rt i) → r2 i = rt i) (hn : ∀ i : Int, 0 ≤ i → i < R → ¬ lf i = 1099511627776 → ¬ l2 i = 1099511627776) (he : ∀ b : Int, 0 ≤ b → b < B → ek b = 1 → ¬ eu2 b = 1099511627776) (ha : ARF B fs ps pr as ar2)
    (s : SWS o tg l2 r2 rs pm as fs o' t' l' r' rs' pt' as' fs' f g n R m P B) (si : ∃ bl' sd' : Int → Int, BLK B m n rs' fs' bl' ∧ SI ek g1 g2 B m n fs' ps pr as' t' pt' l' r' eu2 ar2 bl' sd') : SSV B n m C rs' o' t' l' r' ek eu2 g1 g2 ps pr fs' pt' as' ar2 := by
  obtain ⟨v1, v2, v3, vr, va, v4, v5, v6, _⟩ := v
  have c1 := v1.1
  have R0 : 0 ≤ R := by have := v1.2.1.top 0 (by omega) (by omega); have := v1.2.1.z; omega
  have P0 : 0 ≤ P := by have := v1.2.2.1.top 0 (by omega) (by omega); have := v1.2.2.1.z; omega
  have hui : HUI o tg R := fun i a b c => by
    rcases ho i a b with q | q
    · rw [q] at c; exact v1.2.2.2.1 i a b c
    · exact q.2
  refine ⟨CGD.swept v1 hui hp s, v2.swept s, fun b b0 b1 => ⟨(v3 b b0 b1).1, he b b0 b1, (v3 b b0 b1).2.2⟩, fun i i0 i1 => ?_, fun q x p x0 x1 sl => ?_, ?_, v5, fun u u0 u1 => ?_, si⟩
  · have dm := s.k1.dom i i0 i1
    have e := s.co.1 i i0 i1
    rcases ho (f i) dm.1.1 dm.1.2 with q | q
    · have w := vr (f i) dm.1.1 dm.1.2
      rw [e, q, s.cl.1 i i0 i1, s.cr.1 i i0 i1]
      refine ⟨w.1, fun z => ?_, fun z => hn _ dm.1.1 dm.1.2 (w.2.2 z)⟩
      have y := w.2.1 z
      rw [hl _ dm.1.1 dm.1.2 y.1, hr _ dm.1.1 dm.1.2 y.2]; exact y
    · exact absurd q.1 dm.2
  · obtain ⟨i, k, b1, b2, b3, b4, b5, b6⟩ := sl
    have q1 := s.b2 x x0 (by omega)
    have q2 := s.b2 (x + 1) (by omega) (by omega)
    have dm := s.k2.dom i (by omega) (by omega)
    have e1 := q1.2 i (by omega) (by omega)
    have e2 := q2.2 i (by omega) (by omega)
    rw [b5, s.ca.1 i (by omega) (by omega)]
    exact ha _ x p x0 x1 ⟨g i, k, by omega, by omega, b3, b4, rfl, b6⟩
  · have q := s.b2 1 (by omega) c1
    rcases Int.lt_or_le 0 (fs' 1) with w | w
    · have x := (q.2 0 (by omega) (by omega)).mp w
      have dm := s.k2.dom 0 (by omega) (by omega)
      omega
    · omega
  · unfold TT
    by_cases w : 0 ≤ u
    · rw [if_pos w, s.ct.1 u w u1]
      have dm := s.k1.dom u w u1
      have := v6 (f u) (by omega) dm.1.2
      unfold TT at this; rw [if_pos dm.1.1] at this; exact this
    · rw [if_neg w, s.cp.1 (u + m) (by omega) (by omega)]
      have dm := s.k2.dom (u + m) (by omega) (by omega)
      rcases hp.1 (g (u + m)) with q | q
      · exact absurd q dm.2
      · rw [q]
        have := v6 (g (u + m) - P) (by omega) (by omega)
        unfold TT at this; rw [if_neg (by omega), show g (u + m) - P + P = g (u + m) by omega] at this; exact this
/-- DEAD keeps SSA -/
theorem SSV.dropped {B R P C n m : Int} {rs op tg lf rt ek eu g1 g2 ps pr fs pt as ar mk o pm rs' o' t' l' r' pt' as' fs' f g : Int → Int} (v : SSV B R P C rs op tg lf rt ek eu g1 g2 ps pr fs pt as ar) (c : CLO B R rs fs ps op tg lf rt eu pt ar as mk) (dr : DRW op o rt tg mk R) (dp : DRP pt pm mk P) (s : SWS o tg lf rt rs pm as fs o' t' l' r' rs' pt' as' fs' f g n R m P B) : SSV B n m C rs' o' t' l' r' ek eu g1 g2 ps pr fs' pt' as' ar := by
  have v0 := v
  obtain ⟨v1, v2, v3, vr, va, v4, v5, v6, bl, sd, K, S⟩ := v
  have c1 := v1.1
  have R0 : 0 ≤ R := by have := v1.2.1.top 0 (by omega) (by omega); have := v1.2.1.z; omega
  have P0 : 0 ≤ P := by have := v1.2.2.1.top 0 (by omega) (by omega); have := v1.2.2.1.z; omega
  obtain ⟨bl', sd', s1, s2, s3⟩ := dead_SI S K P0 R0 (fun i a b => by have := (vr i a b).1; omega) (fun i a b => (vr i a b).2.1) (fun i a b e => v1.2.2.2.1 i a b e) c dr dp v1.2.2.2.2.2.2.1 s
  have M1 := KB.ms2 s.k1 s.b1 v1.2.1
  have M2 := KB.ms2 s.k2 s.b2 v1.2.2.1
  have bk := BLK.sweep K s v1.2.1 v1.2.2.1 M1.z M2.z s2 s3
  have ptg : PTG P (fun i => if 0 ≤ i then pm i else pt i) pt := ⟨fun i => by
    by_cases w : 0 ≤ i
    · show (if 0 ≤ i then pm i else pt i) = -1 ∨ (if 0 ≤ i then pm i else pt i) = pt i
      rw [if_pos w]
      rcases Int.lt_or_le i P with q | q
      · rcases dp.2 i w q with x | x
        · exact Or.inr x.1
        · exact Or.inl x.1
      · exact Or.inr (dp.1 i q)
    · right; exact if_neg w, fun i e => by
    show (if 0 ≤ i then pm i else pt i) = pt i
    rw [if_pos (by omega)]; exact dp.1 i e⟩
  -- where the targets below 0 are not looked at
  have s' : SWS o tg lf rt rs (fun i => if 0 ≤ i then pm i else pt i) as fs o' t' l' r' rs' pt' as' fs' f g n R m P B := by
    obtain ⟨q1, q2, q3, q4, q5, q6, q7, q8, q9, q10⟩ := s
    refine ⟨q1, q2, q3, q4, q5, q6, ⟨q7.1, fun i a b => ⟨(q7.2.1 i a b).1, ?_⟩, q7.2.2.1, fun k a b e => q7.2.2.2 k a b ?_⟩, q8, ⟨fun i a b => ?_, fun i a => ?_⟩, q10⟩
    · show ¬ (if 0 ≤ g i then pm (g i) else pt (g i)) = -1
      rw [if_pos (q7.2.1 i a b).1.1]; exact (q7.2.1 i a b).2
    · have e' : ¬ (if 0 ≤ k then pm k else pt k) = -1 := e
      rw [if_pos a] at e'; exact e'
    · show pt' i = (if 0 ≤ g i then pm (g i) else pt (g i))
      rw [if_pos (q7.2.1 i a b).1.1]; exact q9.1 i a b
    · show pt' i = (if 0 ≤ i then pm i else pt i)
      rw [if_pos (by omega)]; exact q9.2 i a
  refine SSV.swept v0 ptg (fun i a b => ?_) (fun _ _ _ _ => rfl) (fun _ _ _ _ => rfl) (fun _ _ _ e => e) (fun b b0 b1 => (v3 b b0 b1).2.1) va s' ⟨bl', sd', bk.2.2, s1⟩
  rcases dr.2 i a b with x | x
  · exact Or.inl x.1
  · exact Or.inr ⟨x.1, v1.2.2.2.1 i a b x.2.2⟩
/-- registers renamed, all else as it was -/
def RNE (a w : Int → Int) : Prop := ∀ i : Int, w i = a i ∨ (isg (a i) ∧ 4294967295 ≤ w i ∧ w i ≤ 4294968319)
theorem RNE.refl (a : Int → Int) : RNE a a := fun _ => Or.inl rfl
theorem RNE.trans {a w u : Int → Int} (h : RNE a w) (g : RNE w u) : RNE a u := fun i => by
  rcases g i with q | q
  · rw [q]; exact h i
  · rcases h i with z | z
    · rw [z] at q; exact Or.inr q
    · exact Or.inr ⟨z.1, q.2⟩
theorem RNE.set {a w lt : Int → Int} {k : Int} (h : RNE a w) (r : ∀ j : Int, -1 ≤ lt j ∧ lt j ≤ 1023) : RNE a (zup w k (RNF lt (w k))) := fun i => by
  by_cases c : i = k
  · rw [c, zup_eq]
    unfold RNF
    by_cases d : 4294967296 ≤ w k ∧ w k < 1099511627776
    · rw [if_pos d]
      have := r (w k - 4294967296)
      rcases h k with z | z
      · rw [z] at d; exact Or.inr ⟨d, by omega, by omega⟩
      · exact Or.inr ⟨z.1, by omega, by omega⟩
    · rw [if_neg d]; exact h k
  · rw [zup_ne _ _ c]; exact h i
theorem RNE.rae {fs ps pr as a ar w lt : Int → Int} {x p : Int} (h : RNE a ar) (q : RAE fs ps pr as ar w lt x p) (r : ∀ j : Int, -1 ≤ lt j ∧ lt j ≤ 1023) : RNE a w := fun i => by
  by_cases c : SLT fs ps pr as i x p
  · rw [q.1 i c]
    have := (RNE.set (k := i) h r) i
    rw [zup_eq] at this; exact this
  · rw [q.2 i c]; exact h i
theorem RNE.non {a w : Int → Int} (h : RNE a w) (i : Int) (n : ¬ isg (a i)) : w i = a i := by
  rcases h i with q | q
  · exact q
  · exact absurd q.1 n
theorem sg_inj (T : Int → Int) : ∀ (n : Nat), (∀ i : Int, 0 ≤ i → i < n → 0 ≤ T i → T i < 1000) → (∀ i j : Int, 0 ≤ i → i < j → j < n → 0 ≤ T i → ¬ T i = T j) → ∀ u : Int → Int, (∀ r : Int, 0 ≤ u r ∧ u r ≤ 1) → (∀ i : Int, 0 ≤ i → i < n → 0 ≤ T i → u (T i) = 0) → sg (fun j => if 0 ≤ T j then 1 else 0) n + sg u 1000 ≤ 1000
  | 0, _, _, u, hu, _ => by
    have := sg_le (f := u) (g := fun _ => 1) 1000 (fun j _ _ => (hu j).2)
    rw [sg_const] at this
    show 0 + sg u 1000 ≤ 1000
    omega
  | n + 1, h, d, u, hu, hz => by
    show sg (fun j => if 0 ≤ T j then 1 else 0) n + (if 0 ≤ T (n : Int) then 1 else 0) + sg u 1000 ≤ 1000
    by_cases c : 0 ≤ T (n : Int)
    · rw [if_pos c]
      have r := h n (by omega) (by omega) c
      have z := hz n (by omega) (by omega) c
      have q := sg_inj T n (fun i a b => h i a (by omega)) (fun i j a b c' => d i j a b (by omega)) (zup u (T n) 1) (fun x => by unfold zup; split; omega; exact hu x) (fun i a b e => by
        rw [zup_ne _ _ (d i n a (by omega) (by omega) e)]; exact hz i a (by omega) e)
      rw [sg_up u 1 1000 c (by omega), z] at q
      omega
    · rw [if_neg c]
      have q := sg_inj T n (fun i a b => h i a (by omega)) (fun i j a b c' => d i j a b (by omega)) u hu (fun i a b e => hz i a (by omega) e)
      omega
/-- at most a thousand that set -/
theorem SSV.count {B R P C : Int} {rs op tg lf rt ek eu g1 g2 ps pr fs pt as ar : Int → Int} (v : SSV B R P C rs op tg lf rt ek eu g1 g2 ps pr fs pt as ar) : sg (fun j => if 0 ≤ TT tg pt P (j - P) then 1 else 0) (P + R).toNat ≤ 1000 := by
  obtain ⟨v1, v2, v3, vr, va, v4, v5, v6, bl, sd, K, S⟩ := v
  have c1 := v1.1
  have R0 : 0 ≤ R := by have := v1.2.1.top 0 (by omega) (by omega); have := v1.2.1.z; omega
  have P0 : 0 ≤ P := by have := v1.2.2.1.top 0 (by omega) (by omega); have := v1.2.2.1.z; omega
  have q := sg_inj (fun j => TT tg pt P (j - P)) (P + R).toNat (fun i a b _ => v6 (i - P) (by omega) (by omega)) (fun i j a b c e w => by
    have e' : 0 ≤ TT tg pt P (i - P) := e
    have w' : TT tg pt P (i - P) = TT tg pt P (j - P) := w
    have x := S.num (i - P) (by omega) (by omega) e'
    have y := S.num (j - P) (by omega) (by omega) (by rw [← w']; exact e')
    rw [w', y] at x; omega) (fun _ => 0) (fun _ => by omega) (fun _ _ _ _ => rfl)
  rw [sg_const] at q; omega
/-- NUMBERS keep SSA -/
theorem SSV.renamed {B R P C g rd : Int} {rs op tg lf rt ek eu g1 g2 ps pr fs pt as ar po bp id pl od tg' pt' lf' rt' eu' ar' dn sd db bl : Int → Int} (v : SSV B R P C rs op tg lf rt ek eu g1 g2 ps pr fs pt as ar) (K : BLK B P R rs fs bl) (f : FW ek g1 g2 B po bp rd) (d : DT ek g1 g2 B ps pr po bp rd id) (o : OD B po id pl od rd) (h : RN B P R fs ps pr as bl id pl tg' pt' lf' rt' eu' ar' dn sd db g rd (-1) (-P)) (ht : ∀ i : Int, 0 ≤ i → i < P → 0 ≤ pt' i) (hu : ∀ i : Int, 0 ≤ tg i → 0 ≤ tg' i) (el : RNE lf lf') (er : RNE rt rt') (ee : RNE eu eu') (ea : RNE ar ar') : SSV B R P C rs op tg' lf' rt' ek eu' g1 g2 ps pr fs pt' as ar' := by
  have po0 : ∀ b : Int, 0 ≤ b → b < B → 0 ≤ po b := fun b b0 b1 => by
    obtain ⟨k, r⟩ := v.2.2.2.2.2.2.1 b b0 b1
    exact (r.re0 f (GR.of v.1.2.2.2.2.1)).2
  obtain ⟨v1, v2, v3, vr, va, v4, v5, v6, _⟩ := v
  obtain ⟨c1, c2, c3, c4, c5, c6, c7, c8⟩ := v1
  have P0 : 0 ≤ P := by have := c3.top 0 (by omega) (by omega); have := c3.z; omega
  have blr : ∀ s : Int, -P ≤ s → s < R → 0 ≤ bl s ∧ bl s < B := fun s a b => by
    rcases Int.lt_or_le s 0 with w | w
    · exact (K.pbl s a w).1
    · exact (K.rbl s w b).1
  have S' := SI.of f (GR.of c5) c6 d o P0 po0 blr h
  refine ⟨⟨c1, c2, c3, fun i a b e => hu i (c4 i a b e), c5, c6, ht, c8⟩, v2, fun b b0 b1 => ⟨(v3 b b0 b1).1, fun e => ?_, (v3 b b0 b1).2.2⟩, fun i i0 i1 => ⟨(vr i i0 i1).1, fun e => ?_, fun e => (by have w := (vr i i0 i1).2.2 e; rcases el i with z | z; (rw [z]; exact w); omega)⟩, fun q x p x0 x1 sl => (by have w := va q x p x0 x1 sl; rcases ea q with z | z; (rw [z]; exact w); omega), v4, v5, fun s s0 s1 => ?_, bl, sd, K, S'⟩
  · have := (v3 b b0 b1).2.1 e
    rcases ee b with q | q
    · rw [q]; exact this
    · omega
  · have q := (vr i i0 i1).2.1 e
    rw [el.non i q.1, er.non i q.2]; exact q
  · rcases Int.lt_or_le (TT tg' pt' P s) 0 with w | w
    · omega
    · have br := blr s s0 s1
      have q := o.rch _ br.1 br.2 (po0 _ br.1 br.2)
      have dn1 := (h.dnd s s0 s1).mpr (Or.inl ⟨q, (o.plc _ br.1 br.2 q).1⟩)
      have n := h.st.2.2.1 s s0 s1 dn1 w
      have g1000 : g ≤ 1000 := by
        have a := h.st.2.2.2.2.1
        have b := h.st.2.2.2.2.2
        have c := sg_le (f := fun j => if dn (j - P) = 1 ∧ 0 ≤ TT tg' pt' P (j - P) then 1 else 0) (g := fun j => if 0 ≤ TT tg' pt' P (j - P) then 1 else 0) (P + R).toNat (fun j _ _ => by
          show (if dn (j - P) = 1 ∧ 0 ≤ TT tg' pt' P (j - P) then 1 else 0) ≤ (if 0 ≤ TT tg' pt' P (j - P) then 1 else 0)
          by_cases x : 0 ≤ TT tg' pt' P (j - P)
          · rw [if_pos x]; split <;> omega
          · rw [if_neg x, if_neg (fun z => x z.2)]; omega)
        omega
      omega
