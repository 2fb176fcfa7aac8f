/-- f goes through those of the first j that are kept; there are n of them -/
abbrev KP (kp f : Int → Int) (n j : Int) : Prop := (0 ≤ n ∧ n ≤ j) ∧ (∀ i : Int, 0 ≤ i → i < n → (0 ≤ f i ∧ f i < j) ∧ ¬ kp (f i) = -1) ∧ (∀ i i' : Int, 0 ≤ i → i < i' → i' < n → f i < f i') ∧ (∀ k : Int, 0 ≤ k → k < j → ¬ kp k = -1 → ∃ i : Int, 0 ≤ i ∧ i < n ∧ f i = k)
theorem KP.n0 {kp f : Int → Int} {n j : Int} (h : KP kp f n j) : 0 ≤ n ∧ n ≤ j := h.1
theorem KP.dom {kp f : Int → Int} {n j : Int} (h : KP kp f n j) : ∀ i : Int, 0 ≤ i → i < n → (0 ≤ f i ∧ f i < j) ∧ ¬ kp (f i) = -1 := h.2.1
theorem KP.mon {kp f : Int → Int} {n j : Int} (h : KP kp f n j) : ∀ i i' : Int, 0 ≤ i → i < i' → i' < n → f i < f i' := h.2.2.1
theorem KP.ont {kp f : Int → Int} {n j : Int} (h : KP kp f n j) : ∀ k : Int, 0 ≤ k → k < j → ¬ kp k = -1 → ∃ i : Int, 0 ≤ i ∧ i < n ∧ f i = k := h.2.2.2
theorem KP.init (kp f : Int → Int) : KP kp f 0 0 := ⟨by omega, fun i a b => by omega, fun i i' a b c => by omega, fun k a b => by omega⟩
theorem KP.skip {kp f : Int → Int} {n j : Int} (h : KP kp f n j) (e : kp j = -1) : KP kp f n (j + 1) := by
  refine ⟨by have := h.n0; omega, fun i a b => ?_, h.mon, fun k a b c => ?_⟩
  · have := h.dom i a b; exact ⟨by omega, this.2⟩
  · by_cases q : k = j
    · rw [q] at c; exact absurd e c
    · exact h.ont k a (by omega) c
theorem KP.add {kp f : Int → Int} {n j : Int} (h : KP kp f n j) (e : ¬ kp j = -1) : KP kp (zup f n j) (n + 1) (j + 1) := by
  have n0 := h.n0
  refine ⟨by omega, fun i a b => ?_, fun i i' a b c => ?_, fun k a b c => ?_⟩
  · by_cases q : i = n
    · rw [q, zup_eq]; exact ⟨by omega, e⟩
    · rw [zup_ne _ _ q]
      have := h.dom i a (by omega); exact ⟨by omega, this.2⟩
  · rw [zup_ne f _ (by omega)]
    by_cases q : i' = n
    · rw [q, zup_eq]; exact (h.dom i a (by omega)).1.2
    · rw [zup_ne f _ q]; exact h.mon i i' a b (by omega)
  · by_cases q : k = j
    · exact ⟨n, n0.1, by omega, by rw [zup_eq, q]⟩
    · obtain ⟨i, i0, i1, i2⟩ := h.ont k a (by omega) c
      exact ⟨i, i0, by omega, by rw [zup_ne f _ (by omega)]; exact i2⟩
/-- the new starts part the kept as the old starts did -/
def KB (f rs rs' : Int → Int) (n b : Int) : Prop := ∀ x : Int, 0 ≤ x → x ≤ b → (0 ≤ rs' x ∧ rs' x ≤ n) ∧ ∀ i : Int, 0 ≤ i → i < n → (i < rs' x ↔ f i < rs x)
theorem KB.init {f rs rs' : Int → Int} (h : rs' 0 = 0) : KB f rs rs' 0 0 := by
  intro x a b
  have : x = 0 := by omega
  subst this
  exact ⟨by omega, fun i c d => by omega⟩
theorem KB.add {f rs rs' : Int → Int} {n b j : Int} (h : KB f rs rs' n b) (hj : ∀ x : Int, 0 ≤ x → x ≤ b → rs x ≤ j) : KB (zup f n j) rs rs' (n + 1) b := by
  intro x a c
  have q := h x a c
  refine ⟨by omega, fun i d e => ?_⟩
  by_cases w : i = n
  · rw [w, zup_eq]
    have := hj x a c
    omega
  · rw [zup_ne f _ w]; exact q.2 i d (by omega)
theorem KB.next {kp f rs rs' : Int → Int} {n b j : Int} (h : KB f rs rs' n b) (k : KP kp f n j) (hj : j = rs (b + 1)) (b0 : 0 ≤ b) : KB f rs (zup rs' (b + 1) n) n (b + 1) := by
  intro x a c
  by_cases w : x = b + 1
  · rw [w, zup_eq]
    have := k.n0
    refine ⟨by omega, fun i d e => ?_⟩
    have := (k.dom i d e).1.2
    omega
  · rw [zup_ne rs' _ w]; exact h x a (by omega)
/-- an array's kept places have moved down; those from j on are as they were -/
def CPY (o o' f : Int → Int) (n j : Int) : Prop := (∀ i : Int, 0 ≤ i → i < n → o' i = o (f i)) ∧ (∀ i : Int, j ≤ i → o' i = o i)
theorem CPY.init (o f : Int → Int) : CPY o o f 0 0 := ⟨fun i a b => by omega, fun i _ => rfl⟩
theorem CPY.skip {o o' f : Int → Int} {n j : Int} (h : CPY o o' f n j) : CPY o o' f n (j + 1) := ⟨h.1, fun i a => h.2 i (by omega)⟩
theorem CPY.add {o o' f : Int → Int} {n j : Int} (h : CPY o o' f n j) (nj : n ≤ j) : CPY o (zup o' n (o' j)) (zup f n j) (n + 1) (j + 1) := by
  refine ⟨fun i a b => ?_, fun i a => ?_⟩
  · by_cases q : i = n
    · rw [q, zup_eq, zup_eq]; exact h.2 j (by omega)
    · rw [zup_ne o' _ q, zup_ne f _ q]; exact h.1 i a (by omega)
  · rw [zup_ne o' _ (by omega)]; exact h.2 i (by omega)
/-- ROWs and PHIs that are gone are taken out; block b is under way -/
abbrev SWS (o t l r rs pt as fs o' t' l' r' rs' pt' as' fs' f g : Int → Int) (n j m k b : Int) : Prop := (KP o f n j) ∧ (KB f rs rs' n b) ∧ (CPY o o' f n j) ∧ (CPY t t' f n j) ∧ (CPY l l' f n j) ∧ (CPY r r' f n j) ∧ (KP pt g m k) ∧ (KB g fs fs' m b) ∧ (CPY pt pt' g m k) ∧ (CPY as as' g m k) ∧ (∀ x : Int, b < x → rs' x = rs x) ∧ (∀ x : Int, b < x → fs' x = fs x)
theorem SWS.k1 {o t l r rs pt as fs o' t' l' r' rs' pt' as' fs' f g : Int → Int} {n j m k b : Int} (h : SWS o t l r rs pt as fs o' t' l' r' rs' pt' as' fs' f g n j m k b) : KP o f n j := h.1
theorem SWS.b1 {o t l r rs pt as fs o' t' l' r' rs' pt' as' fs' f g : Int → Int} {n j m k b : Int} (h : SWS o t l r rs pt as fs o' t' l' r' rs' pt' as' fs' f g n j m k b) : KB f rs rs' n b := h.2.1
theorem SWS.co {o t l r rs pt as fs o' t' l' r' rs' pt' as' fs' f g : Int → Int} {n j m k b : Int} (h : SWS o t l r rs pt as fs o' t' l' r' rs' pt' as' fs' f g n j m k b) : CPY o o' f n j := h.2.2.1
theorem SWS.ct {o t l r rs pt as fs o' t' l' r' rs' pt' as' fs' f g : Int → Int} {n j m k b : Int} (h : SWS o t l r rs pt as fs o' t' l' r' rs' pt' as' fs' f g n j m k b) : CPY t t' f n j := h.2.2.2.1
theorem SWS.cl {o t l r rs pt as fs o' t' l' r' rs' pt' as' fs' f g : Int → Int} {n j m k b : Int} (h : SWS o t l r rs pt as fs o' t' l' r' rs' pt' as' fs' f g n j m k b) : CPY l l' f n j := h.2.2.2.2.1
theorem SWS.cr {o t l r rs pt as fs o' t' l' r' rs' pt' as' fs' f g : Int → Int} {n j m k b : Int} (h : SWS o t l r rs pt as fs o' t' l' r' rs' pt' as' fs' f g n j m k b) : CPY r r' f n j := h.2.2.2.2.2.1
theorem SWS.k2 {o t l r rs pt as fs o' t' l' r' rs' pt' as' fs' f g : Int → Int} {n j m k b : Int} (h : SWS o t l r rs pt as fs o' t' l' r' rs' pt' as' fs' f g n j m k b) : KP pt g m k := h.2.2.2.2.2.2.1
theorem SWS.b2 {o t l r rs pt as fs o' t' l' r' rs' pt' as' fs' f g : Int → Int} {n j m k b : Int} (h : SWS o t l r rs pt as fs o' t' l' r' rs' pt' as' fs' f g n j m k b) : KB g fs fs' m b := h.2.2.2.2.2.2.2.1
theorem SWS.cp {o t l r rs pt as fs o' t' l' r' rs' pt' as' fs' f g : Int → Int} {n j m k b : Int} (h : SWS o t l r rs pt as fs o' t' l' r' rs' pt' as' fs' f g n j m k b) : CPY pt pt' g m k := h.2.2.2.2.2.2.2.2.1
theorem SWS.ca {o t l r rs pt as fs o' t' l' r' rs' pt' as' fs' f g : Int → Int} {n j m k b : Int} (h : SWS o t l r rs pt as fs o' t' l' r' rs' pt' as' fs' f g n j m k b) : CPY as as' g m k := h.2.2.2.2.2.2.2.2.2.1
theorem SWS.lr {o t l r rs pt as fs o' t' l' r' rs' pt' as' fs' f g : Int → Int} {n j m k b : Int} (h : SWS o t l r rs pt as fs o' t' l' r' rs' pt' as' fs' f g n j m k b) : ∀ x : Int, b < x → rs' x = rs x := h.2.2.2.2.2.2.2.2.2.2.1
theorem SWS.lf {o t l r rs pt as fs o' t' l' r' rs' pt' as' fs' f g : Int → Int} {n j m k b : Int} (h : SWS o t l r rs pt as fs o' t' l' r' rs' pt' as' fs' f g n j m k b) : ∀ x : Int, b < x → fs' x = fs x := h.2.2.2.2.2.2.2.2.2.2.2
theorem SWS.init {o t l r rs pt as fs : Int → Int} (h1 : rs 0 = 0) (h2 : fs 0 = 0) : SWS o t l r rs pt as fs o t l r rs pt as fs (fun _ => 0) (fun _ => 0) 0 0 0 0 0 :=
  ⟨KP.init _ _, KB.init h1, CPY.init _ _, CPY.init _ _, CPY.init _ _, CPY.init _ _, KP.init _ _, KB.init h2, CPY.init _ _, CPY.init _ _, fun _ _ => rfl, fun _ _ => rfl⟩
theorem SWS.rskip {o t l r rs pt as fs o' t' l' r' rs' pt' as' fs' f g : Int → Int} {n j m k b : Int} (h : SWS o t l r rs pt as fs o' t' l' r' rs' pt' as' fs' f g n j m k b) (e : o' j = -1) : SWS o t l r rs pt as fs o' t' l' r' rs' pt' as' fs' f g n (j + 1) m k b := by
  have e2 : o j = -1 := by rw [← h.co.2 j (by omega)]; exact e
  exact ⟨h.k1.skip e2, h.b1, h.co.skip, h.ct.skip, h.cl.skip, h.cr.skip, h.k2, h.b2, h.cp, h.ca, h.lr, h.lf⟩
theorem SWS.radd {o t l r rs pt as fs o' t' l' r' rs' pt' as' fs' f g : Int → Int} {n j m k b : Int} (h : SWS o t l r rs pt as fs o' t' l' r' rs' pt' as' fs' f g n j m k b) (e : ¬ o' j = -1) (hj : ∀ x : Int, 0 ≤ x → x ≤ b → rs x ≤ j) : SWS o t l r rs pt as fs (zup o' n (o' j)) (zup t' n (t' j)) (zup l' n (l' j)) (zup r' n (r' j)) rs' pt' as' fs' (zup f n j) g (n + 1) (j + 1) m k b := by
  have e2 : ¬ o j = -1 := by rw [← h.co.2 j (by omega)]; exact e
  have nj := h.k1.n0.2
  exact ⟨h.k1.add e2, h.b1.add hj, h.co.add nj, h.ct.add nj, h.cl.add nj, h.cr.add nj, h.k2, h.b2, h.cp, h.ca, h.lr, h.lf⟩
theorem SWS.pskip {o t l r rs pt as fs o' t' l' r' rs' pt' as' fs' f g : Int → Int} {n j m k b : Int} (h : SWS o t l r rs pt as fs o' t' l' r' rs' pt' as' fs' f g n j m k b) (e : pt' k = -1) : SWS o t l r rs pt as fs o' t' l' r' rs' pt' as' fs' f g n j m (k + 1) b := by
  have e2 : pt k = -1 := by rw [← h.cp.2 k (by omega)]; exact e
  exact ⟨h.k1, h.b1, h.co, h.ct, h.cl, h.cr, h.k2.skip e2, h.b2, h.cp.skip, h.ca.skip, h.lr, h.lf⟩
/-- within block b: the ROWs' start of block b + 1 is written before its PHIs are looked at -/
abbrev SWP (o t l r rs pt as fs o' t' l' r' rs' pt' as' fs' f g : Int → Int) (n j m k b : Int) : Prop := (KP o f n j) ∧ (KB f rs rs' n (b + 1)) ∧ (CPY o o' f n j) ∧ (CPY t t' f n j) ∧ (CPY l l' f n j) ∧ (CPY r r' f n j) ∧ (KP pt g m k) ∧ (KB g fs fs' m b) ∧ (CPY pt pt' g m k) ∧ (CPY as as' g m k) ∧ (∀ x : Int, b + 1 < x → rs' x = rs x) ∧ (∀ x : Int, b < x → fs' x = fs x)
theorem SWP.k1 {o t l r rs pt as fs o' t' l' r' rs' pt' as' fs' f g : Int → Int} {n j m k b : Int} (h : SWP o t l r rs pt as fs o' t' l' r' rs' pt' as' fs' f g n j m k b) : KP o f n j := h.1
theorem SWP.b1 {o t l r rs pt as fs o' t' l' r' rs' pt' as' fs' f g : Int → Int} {n j m k b : Int} (h : SWP o t l r rs pt as fs o' t' l' r' rs' pt' as' fs' f g n j m k b) : KB f rs rs' n (b + 1) := h.2.1
theorem SWP.co {o t l r rs pt as fs o' t' l' r' rs' pt' as' fs' f g : Int → Int} {n j m k b : Int} (h : SWP o t l r rs pt as fs o' t' l' r' rs' pt' as' fs' f g n j m k b) : CPY o o' f n j := h.2.2.1
theorem SWP.ct {o t l r rs pt as fs o' t' l' r' rs' pt' as' fs' f g : Int → Int} {n j m k b : Int} (h : SWP o t l r rs pt as fs o' t' l' r' rs' pt' as' fs' f g n j m k b) : CPY t t' f n j := h.2.2.2.1
theorem SWP.cl {o t l r rs pt as fs o' t' l' r' rs' pt' as' fs' f g : Int → Int} {n j m k b : Int} (h : SWP o t l r rs pt as fs o' t' l' r' rs' pt' as' fs' f g n j m k b) : CPY l l' f n j := h.2.2.2.2.1
theorem SWP.cr {o t l r rs pt as fs o' t' l' r' rs' pt' as' fs' f g : Int → Int} {n j m k b : Int} (h : SWP o t l r rs pt as fs o' t' l' r' rs' pt' as' fs' f g n j m k b) : CPY r r' f n j := h.2.2.2.2.2.1
theorem SWP.k2 {o t l r rs pt as fs o' t' l' r' rs' pt' as' fs' f g : Int → Int} {n j m k b : Int} (h : SWP o t l r rs pt as fs o' t' l' r' rs' pt' as' fs' f g n j m k b) : KP pt g m k := h.2.2.2.2.2.2.1
theorem SWP.b2 {o t l r rs pt as fs o' t' l' r' rs' pt' as' fs' f g : Int → Int} {n j m k b : Int} (h : SWP o t l r rs pt as fs o' t' l' r' rs' pt' as' fs' f g n j m k b) : KB g fs fs' m b := h.2.2.2.2.2.2.2.1
theorem SWP.cp {o t l r rs pt as fs o' t' l' r' rs' pt' as' fs' f g : Int → Int} {n j m k b : Int} (h : SWP o t l r rs pt as fs o' t' l' r' rs' pt' as' fs' f g n j m k b) : CPY pt pt' g m k := h.2.2.2.2.2.2.2.2.1
theorem SWP.ca {o t l r rs pt as fs o' t' l' r' rs' pt' as' fs' f g : Int → Int} {n j m k b : Int} (h : SWP o t l r rs pt as fs o' t' l' r' rs' pt' as' fs' f g n j m k b) : CPY as as' g m k := h.2.2.2.2.2.2.2.2.2.1
theorem SWP.lr {o t l r rs pt as fs o' t' l' r' rs' pt' as' fs' f g : Int → Int} {n j m k b : Int} (h : SWP o t l r rs pt as fs o' t' l' r' rs' pt' as' fs' f g n j m k b) : ∀ x : Int, b + 1 < x → rs' x = rs x := h.2.2.2.2.2.2.2.2.2.2.1
theorem SWP.lf {o t l r rs pt as fs o' t' l' r' rs' pt' as' fs' f g : Int → Int} {n j m k b : Int} (h : SWP o t l r rs pt as fs o' t' l' r' rs' pt' as' fs' f g n j m k b) : ∀ x : Int, b < x → fs' x = fs x := h.2.2.2.2.2.2.2.2.2.2.2
theorem SWS.mid {o t l r rs pt as fs o' t' l' r' rs' pt' as' fs' f g : Int → Int} {n j m k b : Int} (h : SWS o t l r rs pt as fs o' t' l' r' rs' pt' as' fs' f g n j m k b) (hj : j = rs (b + 1)) (b0 : 0 ≤ b) : SWP o t l r rs pt as fs o' t' l' r' (zup rs' (b + 1) n) pt' as' fs' f g n j m k b :=
  ⟨h.k1, h.b1.next h.k1 hj b0, h.co, h.ct, h.cl, h.cr, h.k2, h.b2, h.cp, h.ca, fun x a => by rw [zup_ne _ _ (by omega)]; exact h.lr x (by omega), h.lf⟩
theorem SWP.pskip {o t l r rs pt as fs o' t' l' r' rs' pt' as' fs' f g : Int → Int} {n j m k b : Int} (h : SWP o t l r rs pt as fs o' t' l' r' rs' pt' as' fs' f g n j m k b) (e : pt' k = -1) : SWP o t l r rs pt as fs o' t' l' r' rs' pt' as' fs' f g n j m (k + 1) b := by
  have e2 : pt k = -1 := by rw [← h.cp.2 k (by omega)]; exact e
  exact ⟨h.k1, h.b1, h.co, h.ct, h.cl, h.cr, h.k2.skip e2, h.b2, h.cp.skip, h.ca.skip, h.lr, h.lf⟩
theorem SWP.padd {o t l r rs pt as fs o' t' l' r' rs' pt' as' fs' f g : Int → Int} {n j m k b : Int} (h : SWP o t l r rs pt as fs o' t' l' r' rs' pt' as' fs' f g n j m k b) (e : ¬ pt' k = -1) (hk : ∀ x : Int, 0 ≤ x → x ≤ b → fs x ≤ k) : SWP o t l r rs pt as fs o' t' l' r' rs' (zup pt' m (pt' k)) (zup as' m (as' k)) fs' f (zup g m k) n j (m + 1) (k + 1) b := by
  have e2 : ¬ pt k = -1 := by rw [← h.cp.2 k (by omega)]; exact e
  have mk := h.k2.n0.2
  exact ⟨h.k1, h.b1, h.co, h.ct, h.cl, h.cr, h.k2.add e2, h.b2.add hk, h.cp.add mk, h.ca.add mk, h.lr, h.lf⟩
theorem SWP.next {o t l r rs pt as fs o' t' l' r' rs' pt' as' fs' f g : Int → Int} {n j m k b : Int} (h : SWP o t l r rs pt as fs o' t' l' r' rs' pt' as' fs' f g n j m k b) (hk : k = fs (b + 1)) (b0 : 0 ≤ b) : SWS o t l r rs pt as fs o' t' l' r' rs' pt' as' (zup fs' (b + 1) m) f g n j m k (b + 1) :=
  ⟨h.k1, h.b1, h.co, h.ct, h.cl, h.cr, h.k2, h.b2.next h.k2 hk b0, h.cp, h.ca, h.lr, fun x a => by rw [zup_ne _ _ (by omega)]; exact h.lf x (by omega)⟩
theorem KB.ms {f rs rs' kp : Int → Int} {n B N : Int} (h : KB f rs rs' n B) (k : KP kp f n N) (m : MS B N rs) (z : rs' 0 = 0) : MS B n rs' := by
  have b0 := m.b0
  refine ⟨b0, z, fun x a c => ?_, ?_⟩
  · rcases Int.lt_or_le (rs' (x + 1)) (rs' x) with w | w
    · exfalso
      have q1 := h x a (by omega)
      have q2 := h (x + 1) (by omega) (by omega)
      have i1 := (q1.2 (rs' (x + 1)) (by omega) (by omega)).mp w
      have := m.mo x a c
      have := (q2.2 (rs' (x + 1)) (by omega) (by omega)).mpr (by omega)
      omega
    · exact w
  · have q := h B b0 (by omega)
    rcases Int.lt_or_le (rs' B) n with w | w
    · exfalso
      have d := (k.dom (rs' B) (by omega) w).1.2
      have := (q.2 (rs' B) (by omega) w).mpr (by rw [m.e]; exact d)
      omega
    · omega
