/-- the marks are closed: what ends, SHOWs and divisions use, and what marked ones use -/
abbrev CLO (B R : Int) (rs fs ps o tg lf rt eu pt ar as mk : Int → Int) : Prop := (∀ b : Int, 0 ≤ b → b < B → OPM mk (eu b)) ∧ (∀ i : Int, 0 ≤ i → i < R → (o i = 2 ∨ mfF (o i) (rt i) = 1) → OPM mk (lf i) ∧ OPM mk (rt i)) ∧ (∀ b : Int, 0 ≤ b → b < B → MUB rs fs ps tg lf rt pt ar as mk b)
theorem CLO.fin {B R : Int} {rs fs ps o tg lf rt eu pt ar as mk : Int → Int} (h : CLO B R rs fs ps o tg lf rt eu pt ar as mk) : ∀ b : Int, 0 ≤ b → b < B → OPM mk (eu b) := h.1
theorem CLO.row {B R : Int} {rs fs ps o tg lf rt eu pt ar as mk : Int → Int} (h : CLO B R rs fs ps o tg lf rt eu pt ar as mk) : ∀ i : Int, 0 ≤ i → i < R → (o i = 2 ∨ mfF (o i) (rt i) = 1) → OPM mk (lf i) ∧ OPM mk (rt i) := h.2.1
theorem CLO.blk {B R : Int} {rs fs ps o tg lf rt eu pt ar as mk : Int → Int} (h : CLO B R rs fs ps o tg lf rt eu pt ar as mk) : ∀ b : Int, 0 ≤ b → b < B → MUB rs fs ps tg lf rt pt ar as mk b := h.2.2
theorem dead_SI {ek g1 g2 : Int → Int} {B P R n m : Int} {rs fs ps pr as op tg pt lf rt eu ar bl sd mk o pm o' tg' lf' rt' rs' pt' as' fs' f g : Int → Int} (h : SI ek g1 g2 B P R fs ps pr as tg pt lf rt eu ar bl sd) (k : BLK B P R rs fs bl) (hP : 0 ≤ P) (hR : 0 ≤ R) (hO : ∀ i : Int, 0 ≤ i → i < R → ¬ op i = -1) (hI : ∀ i : Int, 0 ≤ i → i < R → op i = 1 → ¬ isg (lf i) ∧ ¬ isg (rt i)) (hU : ∀ i : Int, 0 ≤ i → i < R → ¬ op i = 2 → 0 ≤ tg i) (c : CLO B R rs fs ps op tg lf rt eu pt ar as mk) (dr : DRW op o rt tg mk R) (dp : DRP pt pm mk P) (hT : ∀ i : Int, 0 ≤ i → i < P → 0 ≤ pt i) (s : SWS o tg lf rt rs pm as fs o' tg' lf' rt' rs' pt' as' fs' f g n R m P B) :
    ∃ bl' sd' : Int → Int, SI ek g1 g2 B m n fs' ps pr as' tg' pt' lf' rt' eu ar bl' sd' ∧ (∀ i : Int, 0 ≤ i → i < n → bl' i = bl (f i)) ∧ (∀ i : Int, 0 ≤ i → i < m → bl' (i - m) = bl (g i - P)) := by
  have hk := h.mark o pm (fun i a b e => by
    rcases dp.2 i a b with x | x
    · exact x.1
    · exact absurd x.1 e)
  -- who is marked stays
  have stay : ∀ (x b i : Int), UOK ek g1 g2 P R (TT tg pt P) sd bl x b i → OPM mk x → STY o pm sd P x := by
    intro x b i u q w
    obtain ⟨⟨u1, u2⟩, _, _⟩ := u w
    have mk1 := q w
    refine ⟨fun s0 => ?_, fun s0 => ?_⟩
    · have e : tg (sd (x - 4294967296)) = x - 4294967296 := by
        unfold TT at u2; rw [if_pos s0] at u2; exact u2
      rcases dr.2 _ s0 u1.2 with y | y
      · rw [y.1]; exact hO _ s0 u1.2
      · exact absurd (by rw [e]; exact mk1) y.2.1
    · have e : pt (sd (x - 4294967296) + P) = x - 4294967296 := by
        unfold TT at u2; rw [if_neg (by omega)] at u2; exact u2
      rcases dp.2 (sd (x - 4294967296) + P) (by omega) (by omega) with y | y
      · rw [y.1]; have := hT _ (show 0 ≤ sd (x - 4294967296) + P by omega) (by omega); omega
      · exact absurd (by rw [e]; exact mk1) y.2
  refine hk.sweep s hP hR (fun i a b e => ?_) (fun b a c' => stay _ _ _ (h.fin b a c') (c.fin b a c')) (fun x i k' a b c1 c2 e k0 k1 => ?_)
  · have r := h.row i a b
    rcases dr.2 i a b with y | y
    · have both : OPM mk (lf i) ∧ OPM mk (rt i) := by
        rcases y.2 with z | z | z | z
        · exact c.row i a b (Or.inl z)
        · have q := hI i a b z
          exact ⟨fun w => absurd w q.1, fun w => absurd w q.2⟩
        · exact c.row i a b (Or.inr z)
        · by_cases t0 : 0 ≤ tg i
          · have rb := k.rbl i a b
            exact (c.blk (bl i) rb.1.1 rb.1.2).1 i rb.2.1 rb.2.2 t0 z
          · have : op i = 2 := by
              apply Classical.byContradiction
              intro q; exact t0 (hU i a b q)
            exact c.row i a b (Or.inl this)
      exact ⟨stay _ _ _ r.1 both.1, stay _ _ _ r.2 both.2⟩
    · exact absurd y.1 e
  · have ip : 0 ≤ i ∧ i < P := by have := k.fm x a b; omega
    rcases dp.2 i ip.1 ip.2 with y | y
    · exact stay _ _ _ (h.arg _ x _ a b ⟨i, k', c1, c2, k0, k1, rfl, rfl⟩) ((c.blk x a b).2 i c1 c2 y.2 k' k0 k1)
    · exact absurd y.1 e
theorem un_le (mk : Int → Int) : 0 ≤ un mk 1024 ∧ un mk 1024 ≤ 1024 := un_rng mk 1024
