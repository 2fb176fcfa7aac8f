/-- the blocks put in the order of their parents: o are done, t stand on the stack; m: done or waiting, d: done -/
def OIC (idm ord stk m d : Int → Int) (o t n : Int) (nn : Nat) : Prop :=
  t + o + un m nn ≤ n ∧ (∀ j : Int, 0 ≤ j → j < t → m (stk j) = 1 ∧ d (stk j) = 0 ∧ 0 ≤ stk j ∧ stk j < n) ∧ (∀ i j : Int, 0 ≤ i → i < j → j < t → stk i ≠ stk j) ∧
  (∀ x : Int, d x ≠ 0 → m x ≠ 0) ∧ (∀ k : Int, 0 < k → k < n → m k ≠ 0 → d (idm k) ≠ 0) ∧
  (∀ j : Int, 0 ≤ j → j < o → d (ord j) ≠ 0 ∧ 0 ≤ ord j ∧ ord j < n) ∧ (∀ i j : Int, 0 ≤ i → i < j → j < o → ord i ≠ ord j) ∧
  (∀ j : Int, 0 < j → j < o → 0 < ord j) ∧ (0 < o → ord 0 = 0) ∧ (o = 0 → t = 1 ∧ stk 0 = 0) ∧ (0 < o → ∀ j : Int, 0 ≤ j → j < t → 0 < stk j) ∧
  (∀ x : Int, d x ≠ 0 → ∃ j : Int, 0 ≤ j ∧ j < o ∧ ord j = x) ∧ (∀ x : Int, m x ≠ 0 → d x ≠ 0 ∨ ∃ j : Int, 0 ≤ j ∧ j < t ∧ stk j = x) ∧
  (∀ j : Int, 0 < j → j < o → ∃ i : Int, 0 ≤ i ∧ i < j ∧ ord i = idm (ord j))
def OI (idm ord stk : Int → Int) (o t n : Int) (nn : Nat) : Prop := ∃ m d : Int → Int, OIC idm ord stk m d o t n nn ∧ ∀ k : Int, 0 < k → k < n → d (idm k) ≠ 0 → m k ≠ 0
/-- .. while the children of b are put on the stack, those above k are done -/
def OJ (idm ord stk : Int → Int) (o t n : Int) (nn : Nat) (b k : Int) : Prop := ∃ m d : Int → Int, OIC idm ord stk m d o t n nn ∧ d b ≠ 0 ∧ (∀ q : Int, 0 < q → q ≤ k → q < n → idm q = b → m q = 0) ∧ ∀ q : Int, 0 < q → q < n → d (idm q) ≠ 0 → m q ≠ 0 ∨ (idm q = b ∧ q ≤ k)
theorem OI.init (idm ord stk : Int → Int) {n : Int} {nn : Nat} (hn : (nn : Int) = n) (n1 : 1 ≤ n) : OI idm ord (zup stk 0 0) 0 1 n nn := by
  refine ⟨zup (fun _ => 0) 0 1, fun _ => 0, ⟨?_, ?_, ?_, ?_, ?_, ?_, ?_, ?_, ?_, ?_, ?_, ?_, ?_, ?_⟩, ?_⟩
  · have h := (un_set (fun _ => (0 : Int)) (k := 0) (v := 1) nn (by omega) (by omega)).1 rfl (by omega)
    have h2 := un_rng (fun _ => (0 : Int)) nn
    rw [h]; omega
  · intro j a b
    obtain rfl : j = 0 := by omega
    simp [zup]; omega
  · intro i j a b c; omega
  · intro x h; exact absurd rfl h
  · intro k a b h; unfold zup at h; rw [if_neg (by omega)] at h; exact absurd rfl h
  · intro j a b; omega
  · intro i j a b c; omega
  · intro j a b; omega
  · intro a; omega
  · intro _; exact ⟨rfl, by simp [zup]⟩
  · intro a; omega
  · intro x h; exact absurd rfl h
  · intro x h
    unfold zup at h
    by_cases e : x = 0
    · exact Or.inr ⟨0, by omega, by omega, by simp [zup, e]⟩
    · rw [if_neg e] at h; exact absurd rfl h
  · intro j a b; omega
  · intro k a b h; exact absurd rfl h
theorem OI.rng {idm ord stk : Int → Int} {o t n : Int} {nn : Nat} (h : OI idm ord stk o t n nn) : t + o ≤ n := by
  obtain ⟨m, d, h, _⟩ := h
  have := un_rng m nn
  have := h.1
  omega
theorem OI.top {idm ord stk : Int → Int} {o t n : Int} {nn : Nat} (h : OI idm ord stk o t n nn) {j : Int} (a : 0 ≤ j) (b : j < t) : 0 ≤ stk j ∧ stk j < n := by
  obtain ⟨m, d, h, _⟩ := h
  exact (h.2.1 j a b).2.2
theorem OI.stk {idm ord stk : Int → Int} {o t n : Int} {nn : Nat} (h : OI idm ord stk o t n nn) : ∀ j : Int, 0 ≤ j → j < o → 0 ≤ ord j ∧ ord j < n := by
  obtain ⟨m, d, h, _⟩ := h
  exact fun j a b => (h.2.2.2.2.2.1 j a b).2
theorem OI.pop {idm ord stk : Int → Int} {o t n : Int} {nn : Nat} (h : OI idm ord stk o t n nn) (t1 : 0 < t) (o0 : 0 ≤ o) : OJ idm (zup ord o (stk (t - 1))) stk (o + 1) (t - 1) n nn (stk (t - 1)) (n - 1) := by
  obtain ⟨m, d, ⟨A, B, C, D, E, F, G, H, I, J, K, L, M, N⟩, Z⟩ := h
  obtain ⟨b1, b2, b3, b4⟩ := B (t - 1) (by omega) (by omega)
  have zd : ∀ x : Int, d x ≠ 0 → zup d (stk (t - 1)) 1 x ≠ 0 := fun x h => by unfold zup; split; exact Int.one_ne_zero; exact h
  have zb : zup d (stk (t - 1)) 1 (stk (t - 1)) ≠ 0 := by simp [zup]
  refine ⟨m, zup d (stk (t - 1)) 1, ⟨by omega, ?_, fun i j a b c => C i j a b (by omega), ?_, ?_, ?_, ?_, ?_, ?_, ?_, ?_, ?_, ?_, ?_⟩, zb, ?_, ?_⟩
  · intro j a b
    obtain ⟨c1, c2, c3, c4⟩ := B j a (by omega)
    refine ⟨c1, ?_, c3, c4⟩
    unfold zup; rw [if_neg (C j (t - 1) a (by omega) (by omega))]; exact c2
  · intro x h
    by_cases e : x = stk (t - 1)
    · rw [e, b1]; omega
    · unfold zup at h; rw [if_neg e] at h; exact D x h
  · exact fun k a b h => zd _ (E k a b h)
  · intro j a b
    by_cases e : j = o
    · subst e; simp only [zup, if_true]; exact ⟨by omega, b3, b4⟩
    · obtain ⟨c1, c2⟩ := F j a (by omega)
      have q : zup ord o (stk (t - 1)) j = ord j := by unfold zup; rw [if_neg e]
      rw [q]; exact ⟨zd _ c1, c2⟩
  · intro i j a b c
    have q : zup ord o (stk (t - 1)) i = ord i := by unfold zup; rw [if_neg (by omega)]
    rw [q]
    by_cases e : j = o
    · subst e
      have q2 : zup ord j (stk (t - 1)) j = stk (t - 1) := by simp [zup]
      rw [q2]
      intro z
      have := (F i a (by omega)).1
      rw [z] at this; exact this b2
    · have q2 : zup ord o (stk (t - 1)) j = ord j := by unfold zup; rw [if_neg e]
      rw [q2]; exact G i j a b (by omega)
  · intro j a b
    by_cases e : j = o
    · subst e
      have q2 : zup ord j (stk (t - 1)) j = stk (t - 1) := by simp [zup]
      rw [q2]; exact K (by omega) (t - 1) (by omega) (by omega)
    · have q2 : zup ord o (stk (t - 1)) j = ord j := by unfold zup; rw [if_neg e]
      rw [q2]; exact H j a (by omega)
  · intro _
    by_cases e : o = 0
    · obtain ⟨c1, c2⟩ := J e
      subst e; subst c1
      simp [zup]; exact c2
    · unfold zup; rw [if_neg (by omega)]; exact I (by omega)
  · intro a; omega
  · intro _ j a b
    by_cases e : o = 0
    · have := (J e).1; omega
    · exact K (by omega) j a (by omega)
  · intro x h
    by_cases e : x = stk (t - 1)
    · exact ⟨o, o0, by omega, by simp [zup, e]⟩
    · unfold zup at h; rw [if_neg e] at h
      obtain ⟨j, c1, c2, c3⟩ := L x h
      exact ⟨j, c1, by omega, by unfold zup; rw [if_neg (by omega)]; exact c3⟩
  · intro x h
    by_cases e : x = stk (t - 1)
    · left; rw [e]; exact zb
    · rcases M x h with c | ⟨j, c1, c2, c3⟩
      · exact Or.inl (zd _ c)
      · refine Or.inr ⟨j, c1, ?_, c3⟩
        rcases Int.lt_or_le j (t - 1) with q | q
        · exact q
        · exfalso; apply e; rw [← c3]; congr 1; omega
  · intro j a b
    by_cases e : j = o
    · subst e
      have q2 : zup ord j (stk (t - 1)) j = stk (t - 1) := by simp [zup]
      rw [q2]
      have c0 := K (by omega) (t - 1) (by omega) (by omega)
      obtain ⟨i, c1, c2, c3⟩ := L _ (E _ c0 b4 (by omega))
      exact ⟨i, c1, c2, by unfold zup; rw [if_neg (by omega)]; exact c3⟩
    · have q2 : zup ord o (stk (t - 1)) j = ord j := by unfold zup; rw [if_neg e]
      rw [q2]
      obtain ⟨i, c1, c2, c3⟩ := N j a (by omega)
      exact ⟨i, c1, c2, by unfold zup; rw [if_neg (by omega)]; exact c3⟩
  · intro q a b c e
    rcases Classical.em (m q = 0) with h | h
    · exact h
    · have := E q a c h
      rw [e] at this; exact absurd b2 this
  · intro q a b h
    by_cases e : idm q = stk (t - 1)
    · exact Or.inr ⟨e, by omega⟩
    · unfold zup at h; rw [if_neg e] at h; exact Or.inl (Z q a b h)
theorem OJ.push {idm ord stk : Int → Int} {o t n b k : Int} {nn : Nat} (h : OJ idm ord stk o t n nn b k) (hn : (nn : Int) = n) (o1 : 0 < o) (t0 : 0 ≤ t) (k0 : 0 < k) (kn : k < n) (e : idm k = b) : OJ idm ord (zup stk t k) o (t + 1) n nn b (k - 1) ∧ t + o + 1 ≤ n := by
  obtain ⟨m, d, ⟨A, B, C, D, E, F, G, H, I, J, K, L, M, N⟩, db, P, Z⟩ := h
  have mk := P k k0 (by omega) kn e
  have dk : d k = 0 := by
    rcases Classical.em (d k = 0) with h | h
    · exact h
    · exact absurd mk (D k h)
  have u := (un_set m (k := k) (v := 1) nn (by omega) (by omega)).1 mk (by omega)
  have u2 := un_rng (zup m k 1) nn
  have zm : ∀ x : Int, m x ≠ 0 → zup m k 1 x ≠ 0 := fun x h => by unfold zup; split; exact Int.one_ne_zero; exact h
  have ns : ∀ j : Int, 0 ≤ j → j < t → stk j ≠ k := fun j a b z => by have := (B j a b).1; rw [z] at this; omega
  refine ⟨⟨zup m k 1, d, ⟨by rw [u]; omega, ?_, ?_, fun x h => zm x (D x h), ?_, F, G, H, I, fun a => by omega, ?_, L, ?_, N⟩, db, ?_, ?_⟩, by omega⟩
  · intro j a c
    by_cases q : j = t
    · subst q; simp only [zup, if_true]; exact ⟨trivial, dk, by omega, kn⟩
    · obtain ⟨c1, c2, c3, c4⟩ := B j a (by omega)
      have q2 : zup stk t k j = stk j := by unfold zup; rw [if_neg q]
      rw [q2]
      refine ⟨?_, c2, c3, c4⟩
      unfold zup; rw [if_neg (ns j a (by omega))]; exact c1
  · intro i j a c f
    have q1 : zup stk t k i = stk i := by unfold zup; rw [if_neg (by omega)]
    rw [q1]
    by_cases q : j = t
    · have q2 : zup stk t k j = k := by simp [zup, q]
      rw [q2]; exact ns i a (by omega)
    · have q2 : zup stk t k j = stk j := by unfold zup; rw [if_neg q]
      rw [q2]; exact C i j a c (by omega)
  · intro x a c h
    by_cases q : x = k
    · rw [q, e]; exact db
    · unfold zup at h; rw [if_neg q] at h; exact E x a c h
  · intro _ j a c
    by_cases q : j = t
    · have q2 : zup stk t k j = k := by simp [zup, q]
      rw [q2]; exact k0
    · have q2 : zup stk t k j = stk j := by unfold zup; rw [if_neg q]
      rw [q2]; exact K o1 j a (by omega)
  · intro x h
    by_cases q : x = k
    · exact Or.inr ⟨t, t0, by omega, by simp [zup, q]⟩
    · unfold zup at h; rw [if_neg q] at h
      rcases M x h with c | ⟨j, c1, c2, c3⟩
      · exact Or.inl c
      · exact Or.inr ⟨j, c1, by omega, by unfold zup; rw [if_neg (by omega)]; exact c3⟩
  · intro q a c f g
    unfold zup; rw [if_neg (by omega)]; exact P q a (by omega) f g
  · intro q a c h
    by_cases q2 : q = k
    · left; rw [q2]; simp [zup]
    · rcases Z q a c h with f | ⟨f, g⟩
      · exact Or.inl (zm _ f)
      · exact Or.inr ⟨f, by omega⟩
theorem OJ.next {idm ord stk : Int → Int} {o t n b k : Int} {nn : Nat} (h : OJ idm ord stk o t n nn b k) (e : idm k ≠ b) : OJ idm ord stk o t n nn b (k - 1) := by
  obtain ⟨m, d, h, db, P, Z⟩ := h
  refine ⟨m, d, h, db, fun q a c f g => P q a (by omega) f g, fun q a c f => ?_⟩
  rcases Z q a c f with z | ⟨z, y⟩
  · exact Or.inl z
  · refine Or.inr ⟨z, ?_⟩
    rcases Int.lt_or_le q k with w | w
    · omega
    · exfalso; apply e; rw [← z]; congr 1; omega
theorem OJ.done {idm ord stk : Int → Int} {o t n b k : Int} {nn : Nat} (h : OJ idm ord stk o t n nn b k) (k0 : k ≤ 0) : OI idm ord stk o t n nn := by
  obtain ⟨m, d, h, db, P, Z⟩ := h
  refine ⟨m, d, h, fun q a c f => ?_⟩
  rcases Z q a c f with z | ⟨z, y⟩
  · exact z
  · omega
theorem OJ.rng {idm ord stk : Int → Int} {o t n b k : Int} {nn : Nat} (h : OJ idm ord stk o t n nn b k) : t + o ≤ n := by
  obtain ⟨m, d, h, _⟩ := h
  have := un_rng m nn
  have := h.1
  omega
/-- the order as it is told: each block once, its parent before it; closed under children -/
def ODR (idm ord : Int → Int) (o n : Int) : Prop := (1 ≤ o ∧ o ≤ n ∧ ord 0 = 0) ∧ (∀ j : Int, 0 ≤ j → j < o → 0 ≤ ord j ∧ ord j < n) ∧ (∀ i j : Int, 0 ≤ i → i < j → j < o → ord i ≠ ord j) ∧
  (∀ j : Int, 0 < j → j < o → 0 < ord j ∧ ∃ i : Int, 0 ≤ i ∧ i < j ∧ ord i = idm (ord j)) ∧ ∀ k : Int, 0 < k → k < n → (∃ i : Int, 0 ≤ i ∧ i < o ∧ ord i = idm k) → ∃ j : Int, 0 ≤ j ∧ j < o ∧ ord j = k
theorem OI.odr {idm ord stk : Int → Int} {o n : Int} {nn : Nat} (h : OI idm ord stk o 0 n nn) (o0 : 0 ≤ o) : ODR idm ord o n := by
  have r := h.rng
  obtain ⟨m, d, ⟨A, B, C, D, E, F, G, H, I, J, K, L, M, N⟩, Z⟩ := h
  have o1 : 1 ≤ o := by
    rcases Int.lt_or_le 0 o with q | q
    · omega
    · have := (J (by omega)).1; omega
  refine ⟨⟨o1, by omega, I (by omega)⟩, fun j a b => (F j a b).2, G, fun j a b => ⟨H j a b, N j a b⟩, ?_⟩
  rintro k a b ⟨i, c1, c2, c3⟩
  have m1 := Z k a b (by rw [← c3]; exact (F i c1 c2).1)
  rcases M k m1 with f | ⟨j, f1, f2, _⟩
  · exact L k f
  · omega
