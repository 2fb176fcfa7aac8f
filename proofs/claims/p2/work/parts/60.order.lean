/-- the tree of the idoms -/
abbrev TR (B : Int) (po id : Int → Int) : Prop := (id 0 = -1 ∧ 0 ≤ po 0) ∧ (∀ b : Int, 0 < b → b < B → 0 ≤ po b → 0 ≤ id b ∧ id b < B ∧ 0 ≤ po (id b) ∧ po b < po (id b)) ∧ (∀ b : Int, 0 < b → b < B → po b < 0 → id b < 0)
theorem TR.t0 {B : Int} {po id : Int → Int} (h : TR B po id) : id 0 = -1 ∧ 0 ≤ po 0 := h.1
theorem TR.tp {B : Int} {po id : Int → Int} (h : TR B po id) : ∀ b : Int, 0 < b → b < B → 0 ≤ po b → 0 ≤ id b ∧ id b < B ∧ 0 ≤ po (id b) ∧ po b < po (id b) := h.2.1
theorem TR.tn {B : Int} {po id : Int → Int} (h : TR B po id) : ∀ b : Int, 0 < b → b < B → po b < 0 → id b < 0 := h.2.2
theorem TR.of {ek g1 g2 ps pr po bp id : Int → Int} {B rd : Int} (f : FW ek g1 g2 B po bp rd) (d : DT ek g1 g2 B ps pr po bp rd id) : TR B po id := by
  obtain ⟨i, e, I, fu, _, _⟩ := d
  have z := f.zero
  have r := f.r1
  refine ⟨⟨by rw [e, zup_eq], by omega⟩, fun b b0 b1 b2 => ?_, fun b b0 b1 b2 => ?_⟩
  · have q := f.pop b (by omega) b1 b2
    have ib : 0 ≤ i b := by have := fu (po b) b2 q.1; rw [q.2] at this; exact this
    have v := I.val b (by omega) b1 ib
    have v2 := I.val (i b) ib v.1 v.2.1
    rw [e, zup_ne _ _ (by omega)]
    exact ⟨ib, v.1, v2.2.2.1, v.2.2.2 (by omega)⟩
  · rw [e, zup_ne _ _ (by omega)]
    rcases Int.lt_or_le (i b) 0 with x | x
    · exact x
    · have := (I.val b (by omega) b1 x).2.2.1; omega
/-- the lists of the blocks below b, by their idoms -/
abbrev CH (B : Int) (id fc nc : Int → Int) (b : Int) : Prop := (∀ x : Int, 0 ≤ x → x < B → fc x = 0 ∨ (0 < fc x ∧ fc x < b ∧ id (fc x) = x)) ∧ (∀ c : Int, 0 < c → c < b → 0 ≤ id c → nc c = 0 ∨ (0 < nc c ∧ nc c < c ∧ id (nc c) = id c)) ∧ (∀ c : Int, 0 < c → c < b → 0 ≤ id c → c ≤ fc (id c)) ∧ (∀ c d : Int, 0 < c → c < b → 0 ≤ id c → 0 < d → d < c → id d = id c → d ≤ nc c)
theorem CH.c1 {B : Int} {id fc nc : Int → Int} {b : Int} (h : CH B id fc nc b) : ∀ x : Int, 0 ≤ x → x < B → fc x = 0 ∨ (0 < fc x ∧ fc x < b ∧ id (fc x) = x) := h.1
theorem CH.c2 {B : Int} {id fc nc : Int → Int} {b : Int} (h : CH B id fc nc b) : ∀ c : Int, 0 < c → c < b → 0 ≤ id c → nc c = 0 ∨ (0 < nc c ∧ nc c < c ∧ id (nc c) = id c) := h.2.1
theorem CH.c3 {B : Int} {id fc nc : Int → Int} {b : Int} (h : CH B id fc nc b) : ∀ c : Int, 0 < c → c < b → 0 ≤ id c → c ≤ fc (id c) := h.2.2.1
theorem CH.c4 {B : Int} {id fc nc : Int → Int} {b : Int} (h : CH B id fc nc b) : ∀ c d : Int, 0 < c → c < b → 0 ≤ id c → 0 < d → d < c → id d = id c → d ≤ nc c := h.2.2.2
theorem CH.init {B : Int} {id fc nc : Int → Int} (h : ∀ b : Int, 0 ≤ b → b < B → fc b = 0) : CH B id fc nc 1 := by
  refine ⟨fun x a c => Or.inl (h x a c), fun c a d => by omega, fun c a d => by omega, fun c d a e => by omega⟩
theorem CH.skip {B : Int} {id fc nc : Int → Int} {b : Int} (h : CH B id fc nc b) (n : id b < 0) : CH B id fc nc (b + 1) := by
  have ne : ∀ c : Int, 0 ≤ id c → ¬ c = b := by intro c x e; rw [e] at x; omega
  refine ⟨fun x a c => ?_, fun c a d e => ?_, fun c a d e => ?_, fun c d a e f => ?_⟩
  · rcases h.c1 x a c with y | y
    · exact Or.inl y
    · exact Or.inr ⟨y.1, by omega, y.2.2⟩
  · have := ne c e; exact h.c2 c a (by omega) e
  · have := ne c e; exact h.c3 c a (by omega) e
  · have := ne c f; exact h.c4 c d a (by omega) f
theorem CH.add {B : Int} {id fc nc : Int → Int} {b : Int} (h : CH B id fc nc b) (b0 : 0 < b) (n : 0 ≤ id b) (n1 : id b < B) : CH B id (zup fc (id b) b) (zup nc b (fc (id b))) (b + 1) := by
  refine ⟨fun x a c => ?_, fun c a d e => ?_, fun c a d e => ?_, fun c d a e f g k l => ?_⟩
  · by_cases q : x = id b
    · rw [q, zup_eq]; right; exact ⟨b0, by omega, rfl⟩
    · rw [zup_ne _ _ q]
      rcases h.c1 x a c with y | y
      · exact Or.inl y
      · exact Or.inr ⟨y.1, by omega, y.2.2⟩
  · by_cases q : c = b
    · rw [q, zup_eq]
      exact h.c1 (id b) n n1
    · rw [zup_ne _ _ q]; exact h.c2 c a (by omega) e
  · by_cases q : c = b
    · rw [q, zup_eq]; omega
    · by_cases q2 : id c = id b
      · rw [q2, zup_eq]; omega
      · rw [zup_ne _ _ q2]; exact h.c3 c a (by omega) e
  · by_cases q : c = b
    · rw [q, zup_eq]
      rw [q] at l k
      have := h.c3 d g k (by rw [l]; exact n)
      rw [l] at this; exact this
    · rw [zup_ne _ _ q]; exact h.c4 c d a (by omega) f g k l
/-- the order: n blocks have their places, d stand on the stack; cur's children up to ch aren't there yet -/
abbrev MO (B : Int) (po id pl od st tc : Int → Int) (d n cur ch : Int) : Prop := (0 ≤ d ∧ 0 ≤ n) ∧ (∀ j : Int, 0 ≤ tc j ∧ tc j ≤ 1) ∧ (sg tc B.toNat = n + d) ∧ (∀ j : Int, 0 ≤ j → j < d → 0 ≤ st j ∧ st j < B ∧ tc (st j) = 1 ∧ pl (st j) < 0) ∧ (∀ i j : Int, 0 ≤ i → i < j → j < d → ¬ st i = st j) ∧ (∀ b : Int, 0 ≤ b → b < B → tc b = 1 → 0 ≤ pl b ∨ ∃ j : Int, 0 ≤ j ∧ j < d ∧ st j = b) ∧ (∀ b : Int, 0 ≤ b → b < B → 0 ≤ pl b → pl b < n ∧ od (pl b) = b ∧ tc b = 1) ∧ (∀ i : Int, 0 ≤ i → i < n → 0 ≤ od i ∧ od i < B ∧ pl (od i) = i) ∧ (∀ b : Int, 0 < b → b < B → tc b = 1 → 0 ≤ po b ∧ 0 ≤ pl (id b)) ∧ (∀ b : Int, 0 < b → b < B → 0 ≤ pl b → pl (id b) < pl b) ∧ (∀ b : Int, 0 < b → b < B → 0 ≤ po b → 0 ≤ pl (id b) → (¬ id b = cur ∨ ch < b) → tc b = 1) ∧ (∀ b : Int, 0 < b → b < B → id b = cur → b ≤ ch → tc b = 0) ∧ (tc 0 = 1 ∧ (0 < n → od 0 = 0) ∧ (n = 0 → d = 1 ∧ st 0 = 0)) ∧ (∀ i j : Int, 0 ≤ i → i < j → j < d → Anc id (id (st i)) (id (st j))) ∧ (0 < n → ∀ j : Int, 0 ≤ j → j < d → ¬ st j = 0 ∧ Anc id (id (st j)) (od (n - 1))) ∧ (∀ m : Int, 0 < m → m < n → Anc id (id (od m)) (od (m - 1)))
theorem MO.d0 {B : Int} {po id pl od st tc : Int → Int} {d n cur ch : Int} (h : MO B po id pl od st tc d n cur ch) : 0 ≤ d ∧ 0 ≤ n := h.1
theorem MO.t01 {B : Int} {po id pl od st tc : Int → Int} {d n cur ch : Int} (h : MO B po id pl od st tc d n cur ch) : ∀ j : Int, 0 ≤ tc j ∧ tc j ≤ 1 := h.2.1
theorem MO.sum {B : Int} {po id pl od st tc : Int → Int} {d n cur ch : Int} (h : MO B po id pl od st tc d n cur ch) : sg tc B.toNat = n + d := h.2.2.1
theorem MO.stk {B : Int} {po id pl od st tc : Int → Int} {d n cur ch : Int} (h : MO B po id pl od st tc d n cur ch) : ∀ j : Int, 0 ≤ j → j < d → 0 ≤ st j ∧ st j < B ∧ tc (st j) = 1 ∧ pl (st j) < 0 := h.2.2.2.1
theorem MO.inj {B : Int} {po id pl od st tc : Int → Int} {d n cur ch : Int} (h : MO B po id pl od st tc d n cur ch) : ∀ i j : Int, 0 ≤ i → i < j → j < d → ¬ st i = st j := h.2.2.2.2.1
theorem MO.tch {B : Int} {po id pl od st tc : Int → Int} {d n cur ch : Int} (h : MO B po id pl od st tc d n cur ch) : ∀ b : Int, 0 ≤ b → b < B → tc b = 1 → 0 ≤ pl b ∨ ∃ j : Int, 0 ≤ j ∧ j < d ∧ st j = b := h.2.2.2.2.2.1
theorem MO.plc {B : Int} {po id pl od st tc : Int → Int} {d n cur ch : Int} (h : MO B po id pl od st tc d n cur ch) : ∀ b : Int, 0 ≤ b → b < B → 0 ≤ pl b → pl b < n ∧ od (pl b) = b ∧ tc b = 1 := h.2.2.2.2.2.2.1
theorem MO.ord {B : Int} {po id pl od st tc : Int → Int} {d n cur ch : Int} (h : MO B po id pl od st tc d n cur ch) : ∀ i : Int, 0 ≤ i → i < n → 0 ≤ od i ∧ od i < B ∧ pl (od i) = i := h.2.2.2.2.2.2.2.1
theorem MO.par {B : Int} {po id pl od st tc : Int → Int} {d n cur ch : Int} (h : MO B po id pl od st tc d n cur ch) : ∀ b : Int, 0 < b → b < B → tc b = 1 → 0 ≤ po b ∧ 0 ≤ pl (id b) := h.2.2.2.2.2.2.2.2.1
theorem MO.anc {B : Int} {po id pl od st tc : Int → Int} {d n cur ch : Int} (h : MO B po id pl od st tc d n cur ch) : ∀ b : Int, 0 < b → b < B → 0 ≤ pl b → pl (id b) < pl b := h.2.2.2.2.2.2.2.2.2.1
theorem MO.chl {B : Int} {po id pl od st tc : Int → Int} {d n cur ch : Int} (h : MO B po id pl od st tc d n cur ch) : ∀ b : Int, 0 < b → b < B → 0 ≤ po b → 0 ≤ pl (id b) → (¬ id b = cur ∨ ch < b) → tc b = 1 := h.2.2.2.2.2.2.2.2.2.2.1
theorem MO.unt {B : Int} {po id pl od st tc : Int → Int} {d n cur ch : Int} (h : MO B po id pl od st tc d n cur ch) : ∀ b : Int, 0 < b → b < B → id b = cur → b ≤ ch → tc b = 0 := h.2.2.2.2.2.2.2.2.2.2.2.1
theorem MO.zer {B : Int} {po id pl od st tc : Int → Int} {d n cur ch : Int} (h : MO B po id pl od st tc d n cur ch) : tc 0 = 1 ∧ (0 < n → od 0 = 0) ∧ (n = 0 → d = 1 ∧ st 0 = 0) := h.2.2.2.2.2.2.2.2.2.2.2.2.1
theorem MO.ns1 {B : Int} {po id pl od st tc : Int → Int} {d n cur ch : Int} (h : MO B po id pl od st tc d n cur ch) : ∀ i j : Int, 0 ≤ i → i < j → j < d → Anc id (id (st i)) (id (st j)) := h.2.2.2.2.2.2.2.2.2.2.2.2.2.1
theorem MO.ns2 {B : Int} {po id pl od st tc : Int → Int} {d n cur ch : Int} (h : MO B po id pl od st tc d n cur ch) : 0 < n → ∀ j : Int, 0 ≤ j → j < d → ¬ st j = 0 ∧ Anc id (id (st j)) (od (n - 1)) := h.2.2.2.2.2.2.2.2.2.2.2.2.2.2.1
theorem MO.ns3 {B : Int} {po id pl od st tc : Int → Int} {d n cur ch : Int} (h : MO B po id pl od st tc d n cur ch) : ∀ m : Int, 0 < m → m < n → Anc id (id (od m)) (od (m - 1)) := h.2.2.2.2.2.2.2.2.2.2.2.2.2.2.2
theorem ind_po {ek g1 g2 po bp : Int → Int} {B rd : Int} (f : FW ek g1 g2 B po bp rd) : sg (fun b => if 0 ≤ po b then 1 else 0) B.toNat = rd := by
  have key : ∀ r : Nat, (r : Int) ≤ rd → sg (fun b => if 0 ≤ po b ∧ po b < r then 1 else 0) B.toNat = r := by
    intro r
    induction r with
    | zero =>
      intro _
      rw [sg_congr (g := fun _ => 0) B.toNat (fun j a b => by show (if _ then _ else _) = (0 : Int); rw [if_neg (by omega)]), sg_const]; omega
    | succ r ih =>
      intro hr
      obtain ⟨b0, b1, b2⟩ := f.byp r (by omega) (by omega)
      have e : sg (fun b => if 0 ≤ po b ∧ po b < ((r + 1 : Nat) : Int) then 1 else 0) B.toNat = sg (zup (fun b => if 0 ≤ po b ∧ po b < (r : Int) then 1 else 0) (bp r) 1) B.toNat := by
        apply sg_congr
        intro j j0 j1
        unfold zup
        by_cases q : j = bp r
        · rw [if_pos q, q, b2, if_pos (by omega)]
        · rw [if_neg q]
          have : ¬ po j = r := by
            intro w; apply q
            exact f.inj j0 (by omega) b0 b1 (by omega) (by rw [w, b2])
          show _ = (if 0 ≤ po j ∧ po j < (r : Int) then (1 : Int) else 0)
          by_cases w : 0 ≤ po j ∧ po j < r
          · rw [if_pos w, if_pos (by omega)]
          · rw [if_neg w, if_neg (by omega)]
      rw [e, sg_up _ _ _ b0 (by omega), ih (by omega)]
      rw [if_neg (by omega)]
      omega
  have h := key rd.toNat (by have := f.r1; omega)
  have e : ((rd.toNat : Nat) : Int) = rd := by have := f.r1; omega
  rw [e] at h
  rw [← h]
  apply sg_congr
  intro j j0 j1
  by_cases w : 0 ≤ po j
  · have := (f.pop j j0 (by omega) w).1
    rw [if_pos w, if_pos ⟨w, this⟩]
  · rw [if_neg w, if_neg (by omega)]
theorem MO.init {B : Int} {po id pl od st : Int → Int} (hB : 1 ≤ B) (t : TR B po id) (hp : ∀ b : Int, 0 ≤ b → b < B → pl b = -1) : MO B po id pl od (zup st 0 0) (zup (fun _ => 0) 0 1) 1 0 (-1) 0 := by
  have tz : ∀ b : Int, 0 < b → zup (fun _ => (0 : Int)) 0 1 b = 0 := fun b x => zup_ne _ _ (by omega)
  refine ⟨by omega, fun j => ?_, ?_, fun j a b => ?_, fun i j a b c => by omega, fun b a c e => ?_, fun b a c e => ?_, fun i a b => by omega, fun b a c e => ?_, fun b a c e => ?_, fun b a c e f => ?_, fun b a c e f => by omega, ⟨zup_eq _ _ _, fun q => by omega, fun _ => ⟨rfl, zup_eq _ _ _⟩⟩, fun i j a b c => by omega, fun q => by omega, fun m a b => by omega⟩
  · unfold zup; split
    · omega
    · show 0 ≤ (0 : Int) ∧ (0 : Int) ≤ 1; omega
  · rw [sg_up _ _ _ (by omega) (by omega), sg_const]; omega
  · have : j = 0 := by omega
    rw [this, zup_eq, zup_eq, hp 0 (by omega) (by omega)]; omega
  · by_cases q : b = 0
    · right; exact ⟨0, by omega, by omega, by rw [zup_eq, q]⟩
    · rw [tz b (by omega)] at e; omega
  · rw [hp b a c] at e; omega
  · rw [tz b a] at e; omega
  · rw [hp b (by omega) c] at e; omega
  · have q := t.tp b a c e
    rw [hp (id b) q.1 q.2.1] at f; omega
theorem MO.le {B : Int} {po id pl od st tc : Int → Int} {d n cur ch : Int} (h : MO B po id pl od st tc d n cur ch) (hB : 1 ≤ B) : n + d ≤ B := by
  have h1 := h.sum
  have h2 : sg tc B.toNat ≤ sg (fun _ => 1) B.toNat := sg_le _ (fun j _ _ => (h.t01 j).2)
  rw [sg_const] at h2
  omega
/-- the stack isn't empty as long as a block has no place -/
theorem MO.some {ek g1 g2 po bp id pl od st tc : Int → Int} {B rd d n ch : Int} (f : FW ek g1 g2 B po bp rd) (t : TR B po id) (h : MO B po id pl od st tc d n (-1) ch) (hn : n < rd) : 0 < d := by
  rcases Int.lt_or_le 0 d with x | x
  · exact x
  · exfalso
    have d0 : d = 0 := by have := h.d0; omega
    have r1 := f.r1
    have all : ∀ (k : Nat) (b : Int), 0 ≤ b → b < B → 0 ≤ po b → rd - po b ≤ k → tc b = 1 := by
      intro k
      induction k with
      | zero => intro b b0 b1 b2 b3; have := (f.pop b b0 b1 b2).1; omega
      | succ k ih =>
        intro b b0 b1 b2 b3
        by_cases e : b = 0
        · rw [e]; exact h.zer.1
        · have q := t.tp b (by omega) b1 b2
          have tp := ih (id b) q.1 q.2.1 q.2.2.1 (by omega)
          have pp : 0 ≤ pl (id b) := by
            rcases h.tch (id b) q.1 q.2.1 tp with y | ⟨j, j0, j1, _⟩
            · exact y
            · omega
          exact h.chl b (by omega) b1 b2 pp (Or.inl (by omega))
    have s1 : sg (fun b => if 0 ≤ po b then 1 else 0) B.toNat ≤ sg tc B.toNat := sg_le _ (fun j j0 j1 => by
      by_cases w : 0 ≤ po j
      · rw [if_pos w, all (rd - po j).toNat j j0 (by omega) w (by omega)]; omega
      · rw [if_neg w]; exact (h.t01 j).1)
    rw [ind_po f, h.sum] at s1
    omega
/-- the top of the stack gets its place -/
theorem MO.pop {B : Int} {po id pl od st tc fc nc : Int → Int} {d n ch b : Int} (t : TR B po id) (h : MO B po id pl od st tc d n (-1) ch) (C : CH B id fc nc B) (hd : 0 < d) (hb : st (d - 1) = b) : MO B po id (zup pl b n) (zup od n b) st tc (d - 1) (n + 1) b (fc b) := by
  obtain ⟨b0, b1, b2, b3⟩ := h.stk (d - 1) (by omega) (by omega)
  rw [hb] at b0 b1 b2 b3
  have n0 := h.d0.2
  have stb : ∀ j : Int, 0 ≤ j → j < d - 1 → ¬ st j = b := by
    intro j a q e; exact h.inj j (d - 1) a q (by omega) (by rw [e, hb])
  have idn : ∀ c : Int, 0 < c → c < B → 0 ≤ po c → 0 ≤ id c := fun c x y z => (t.tp c x y z).1
  have un : ∀ c : Int, 0 < c → c < B → id c = b → ¬ tc c = 1 := by
    intro c x y z w
    have := (h.par c x y w).2
    rw [z] at this; omega
  have e1 : zup od n b (n + 1 - 1) = b := by rw [show n + 1 - 1 = n by omega, zup_eq]
  have e2 : ∀ i : Int, i < n → zup od n b i = od i := fun i q => zup_ne _ _ (by omega)
  have zn : b = 0 → n = 0 := by
    intro e
    rcases Int.lt_or_le 0 n with x | x
    · exfalso
      have := (h.ns2 x (d - 1) (by omega) (by omega)).1
      rw [hb] at this; exact this e
    · omega
  refine ⟨by omega, h.t01, by have := h.sum; omega, fun j a c => ?_, fun i j a c e => h.inj i j a c (by omega), fun c a e f => ?_, fun c a e f => ?_, fun i a c => ?_, fun c a e f => ?_, fun c a e f => ?_, fun c a e f g k => ?_, fun c a e f g => ?_, ⟨h.zer.1, fun _ => ?_, fun q => by omega⟩, fun i j a c e => h.ns1 i j a c (by omega), fun _ j a c => ?_, fun m a c => ?_⟩
  · rw [zup_ne _ _ (stb j a c)]; exact h.stk j a (by omega)
  · by_cases q : c = b
    · left; rw [q, zup_eq]; exact n0
    · rw [zup_ne _ _ q]
      rcases h.tch c a e f with x | ⟨j, j0, j1, j2⟩
      · exact Or.inl x
      · refine Or.inr ⟨j, j0, ?_, j2⟩
        rcases Int.lt_or_le j (d - 1) with y | y
        · exact y
        · exfalso; apply q; rw [← j2, show j = d - 1 by omega, hb]
  · by_cases q : c = b
    · rw [q, zup_eq, zup_eq]; exact ⟨by omega, rfl, b2⟩
    · rw [zup_ne _ _ q] at f ⊢
      have := h.plc c a e f
      rw [e2 _ this.1]; exact ⟨by omega, this.2⟩
  · by_cases q : i = n
    · rw [q, zup_eq, zup_eq]; exact ⟨b0, b1, rfl⟩
    · rw [e2 i (by omega)]
      have := h.ord i a (by omega)
      rw [zup_ne _ _ (by intro x; have y := this.2.2; rw [x] at y; omega)]; exact this
  · have := h.par c a e f
    refine ⟨this.1, ?_⟩
    unfold zup; split
    · exact n0
    · exact this.2
  · by_cases q : c = b
    · rw [q, zup_eq]
      have p := h.par b (by omega) b1 b2
      have i0 := t.tp b (by omega) b1 p.1
      have w := h.plc (id b) i0.1 i0.2.1 p.2
      have ne : ¬ id b = b := by intro x; have := i0.2.2.2; rw [x] at this; omega
      rw [zup_ne _ _ ne]; exact w.1
    · rw [zup_ne _ _ q] at f ⊢
      have w := h.anc c a e f
      have pc := h.plc c (by omega) e f
      have p := h.par c a e pc.2.2
      have ne : ¬ id c = b := by intro x; have := p.2; rw [x] at this; omega
      rw [zup_ne _ _ ne]; exact w
  · by_cases q : id c = b
    · exfalso
      rcases k with k | k
      · exact k q
      · have := C.c3 c a e (by omega)
        rw [q] at this; omega
    · rw [zup_ne _ _ q] at g
      exact h.chl c a e f g (Or.inl (by have := idn c a e f; omega))
  · have := un c a e f
    have := h.t01 c
    omega
  · by_cases q : n = 0
    · rw [q, zup_eq]
      have := h.zer.2.2 q
      rw [← hb, show d - 1 = 0 by omega]; exact this.2
    · rw [e2 0 (by omega)]; exact h.zer.2.1 (by omega)
  · rw [e1]
    have nb : ¬ b = 0 := by
      intro x
      have := zn x
      have := (h.zer.2.2 this).1
      omega
    have np : 0 < n := by
      rcases Int.lt_or_le 0 n with x | x
      · exact x
      · have := (h.zer.2.2 (by omega)).1; omega
    refine ⟨(h.ns2 np j a (by omega)).1, ?_⟩
    have w := h.ns1 j (d - 1) a c (by omega)
    rw [hb] at w
    have p := h.par b (by omega) b1 b2
    exact Anc.up nb (idn b (by omega) b1 p.1) w
  · rw [e2 (m - 1) (by omega)]
    by_cases q : m = n
    · rw [q, zup_eq]
      have w := (h.ns2 (by omega) (d - 1) (by omega) (by omega)).2
      rw [hb] at w; exact w
    · rw [e2 m (by omega)]; exact h.ns3 m a (by omega)
/-- a child comes onto the stack -/
theorem MO.push {B : Int} {po id pl od st tc fc nc : Int → Int} {d n cur c : Int} (t : TR B po id) (h : MO B po id pl od st tc d n cur c) (C : CH B id fc nc B) (hn : 0 < n) (hl : od (n - 1) = cur) (c0 : 0 < c) (c1 : c < B) (c2 : id c = cur) (u0 : 0 ≤ cur) (pc : 0 ≤ po c) (pu : 0 ≤ pl cur) : MO B po id pl od (zup st d c) (zup tc c 1) (d + 1) n cur (nc c) := by
  have tc0 := h.unt c c0 c1 c2 (by omega)
  have d0 := h.d0.1
  have sne : ∀ j : Int, j < d → zup st d c j = st j := fun j q => zup_ne _ _ (by omega)
  have stc : ∀ j : Int, 0 ≤ j → j < d → ¬ st j = c := by
    intro j a q e; have := (h.stk j a q).2.2.1; rw [e] at this; omega
  have tne : ∀ b : Int, tc b = 1 → zup tc c 1 b = 1 := by
    intro b q; unfold zup; split
    · rfl
    · exact q
  have nlt : nc c < c := by
    rcases C.c2 c c0 c1 (by omega) with x | x
    · omega
    · omega
  have plc0 : pl c < 0 := by
    rcases Int.lt_or_le (pl c) 0 with x | x
    · exact x
    · have := (h.plc c (by omega) c1 x).2.2; omega
  refine ⟨by have := h.d0; omega, fun j => ?_, ?_, fun j a b => ?_, fun i j a b e => ?_, fun b a e f => ?_, fun b a e f => ?_, h.ord, fun b a e f => ?_, h.anc, fun b a e f g k => ?_, fun b a e f g => ?_, ⟨tne 0 h.zer.1, h.zer.2.1, fun q => by omega⟩, fun i j a b e => ?_, fun _ j a b => ?_, h.ns3⟩
  · unfold zup; split
    · omega
    · exact h.t01 j
  · rw [sg_up _ _ _ (by omega) (by omega), h.sum, tc0]; omega
  · by_cases q : j = d
    · rw [q, zup_eq, zup_eq]; exact ⟨by omega, c1, rfl, plc0⟩
    · rw [sne j (by omega)]
      have := h.stk j a (by omega)
      exact ⟨this.1, this.2.1, tne _ this.2.2.1, this.2.2.2⟩
  · rw [sne i (by omega)]
    by_cases q : j = d
    · rw [q, zup_eq]; exact stc i a (by omega)
    · rw [sne j (by omega)]; exact h.inj i j a b (by omega)
  · by_cases q : b = c
    · right; exact ⟨d, by omega, by omega, by rw [zup_eq, q]⟩
    · rw [zup_ne _ _ q] at f
      rcases h.tch b a e f with x | ⟨j, j0, j1, j2⟩
      · exact Or.inl x
      · exact Or.inr ⟨j, j0, by omega, by rw [sne j j1]; exact j2⟩
  · have := h.plc b a e f
    exact ⟨this.1, this.2.1, tne _ this.2.2⟩
  · by_cases q : b = c
    · rw [q, c2]; exact ⟨pc, pu⟩
    · rw [zup_ne _ _ q] at f; exact h.par b a e f
  · by_cases q : b = c
    · rw [q, zup_eq]
    · rw [zup_ne _ _ q]
      by_cases q2 : id b = cur
      · rcases k with k | k
        · exact absurd q2 k
        · apply h.chl b a e f g
          right
          rcases Int.lt_or_le c b with x | x
          · exact x
          · exfalso
            have := C.c4 c b c0 c1 (by omega) a (by omega) (by rw [q2, c2])
            omega
      · exact h.chl b a e f g (Or.inl q2)
  · rw [zup_ne _ _ (by omega)]
    exact h.unt b a e f (by omega)
  · rw [sne i (by omega)]
    by_cases q : j = d
    · rw [q, zup_eq, c2, ← hl]
      exact (h.ns2 hn i a (by omega)).2
    · rw [sne j (by omega)]; exact h.ns1 i j a b (by omega)
  · by_cases q : j = d
    · rw [q, zup_eq, c2, hl]; exact ⟨by omega, Anc.refl⟩
    · rw [sne j (by omega)]; exact h.ns2 hn j a (by omega)
/-- all children are there -/
theorem MO.close {B : Int} {po id pl od st tc : Int → Int} {d n cur ch ch' : Int} (t : TR B po id) (h : MO B po id pl od st tc d n cur ch) (hc : ch ≤ 0) : MO B po id pl od st tc d n (-1) ch' := by
  refine ⟨h.d0, h.t01, h.sum, h.stk, h.inj, h.tch, h.plc, h.ord, h.par, h.anc, fun b a e f g _ => h.chl b a e f g (Or.inr (by omega)), fun b a e f g => ?_, h.zer, h.ns1, h.ns2, h.ns3⟩
  rcases Int.lt_or_le (po b) 0 with x | x
  · rcases Int.lt_or_le (tc b) 1 with y | y
    · have := h.t01 b; omega
    · have := (h.par b a e (by have := h.t01 b; omega)).1; omega
  · have := (t.tp b a e x).1; omega
/-- the order, as it is told -/
abbrev OD (B : Int) (po id pl od : Int → Int) (rd : Int) : Prop := (1 ≤ rd ∧ rd ≤ B) ∧ (od 0 = 0) ∧ (∀ b : Int, 0 ≤ b → b < B → 0 ≤ pl b → pl b < rd ∧ od (pl b) = b ∧ 0 ≤ po b) ∧ (∀ i : Int, 0 ≤ i → i < rd → 0 ≤ od i ∧ od i < B ∧ pl (od i) = i) ∧ (∀ b : Int, 0 ≤ b → b < B → 0 ≤ po b → 0 ≤ pl b) ∧ (∀ b : Int, 0 < b → b < B → 0 ≤ pl b → 0 ≤ id b ∧ id b < B ∧ 0 ≤ pl (id b) ∧ pl (id b) < pl b) ∧ (∀ m : Int, 0 < m → m < rd → Anc id (id (od m)) (od (m - 1)))
theorem OD.r1 {B : Int} {po id pl od : Int → Int} {rd : Int} (h : OD B po id pl od rd) : 1 ≤ rd ∧ rd ≤ B := h.1
theorem OD.o0 {B : Int} {po id pl od : Int → Int} {rd : Int} (h : OD B po id pl od rd) : od 0 = 0 := h.2.1
theorem OD.plc {B : Int} {po id pl od : Int → Int} {rd : Int} (h : OD B po id pl od rd) : ∀ b : Int, 0 ≤ b → b < B → 0 ≤ pl b → pl b < rd ∧ od (pl b) = b ∧ 0 ≤ po b := h.2.2.1
theorem OD.ord {B : Int} {po id pl od : Int → Int} {rd : Int} (h : OD B po id pl od rd) : ∀ i : Int, 0 ≤ i → i < rd → 0 ≤ od i ∧ od i < B ∧ pl (od i) = i := h.2.2.2.1
theorem OD.rch {B : Int} {po id pl od : Int → Int} {rd : Int} (h : OD B po id pl od rd) : ∀ b : Int, 0 ≤ b → b < B → 0 ≤ po b → 0 ≤ pl b := h.2.2.2.2.1
theorem OD.anc {B : Int} {po id pl od : Int → Int} {rd : Int} (h : OD B po id pl od rd) : ∀ b : Int, 0 < b → b < B → 0 ≤ pl b → 0 ≤ id b ∧ id b < B ∧ 0 ≤ pl (id b) ∧ pl (id b) < pl b := h.2.2.2.2.2.1
theorem OD.pre {B : Int} {po id pl od : Int → Int} {rd : Int} (h : OD B po id pl od rd) : ∀ m : Int, 0 < m → m < rd → Anc id (id (od m)) (od (m - 1)) := h.2.2.2.2.2.2
theorem MO.done {ek g1 g2 po bp id pl od st tc : Int → Int} {B rd d n ch : Int} (f : FW ek g1 g2 B po bp rd) (t : TR B po id) (h : MO B po id pl od st tc d n (-1) ch) (hn : n = rd) : OD B po id pl od rd := by
  have r1 := f.r1
  have tpo : ∀ b : Int, 0 ≤ b → b < B → tc b = 1 → 0 ≤ po b := by
    intro b b0 b1 x
    by_cases e : b = 0
    · rw [e]; exact t.t0.2
    · exact (h.par b (by omega) b1 x).1
  have s1 : sg tc B.toNat ≤ sg (fun b => if 0 ≤ po b then 1 else 0) B.toNat := sg_le _ (fun j j0 j1 => by
    have q := h.t01 j
    by_cases w : tc j = 1
    · rw [w, if_pos (tpo j j0 (by omega) w)]; omega
    · split <;> omega)
  rw [ind_po f, h.sum] at s1
  have d0 : d = 0 := by have := h.d0; omega
  have pt : ∀ b : Int, 0 ≤ b → b < B → tc b = 1 → 0 ≤ pl b := by
    intro b b0 b1 x
    rcases h.tch b b0 b1 x with y | ⟨j, j0, j1, _⟩
    · exact y
    · omega
  have all : ∀ (k : Nat) (b : Int), 0 ≤ b → b < B → 0 ≤ po b → rd - po b ≤ k → tc b = 1 := by
    intro k
    induction k with
    | zero => intro b b0 b1 b2 b3; have := (f.pop b b0 b1 b2).1; omega
    | succ k ih =>
      intro b b0 b1 b2 b3
      by_cases e : b = 0
      · rw [e]; exact h.zer.1
      · have q := t.tp b (by omega) b1 b2
        have tp := ih (id b) q.1 q.2.1 q.2.2.1 (by omega)
        exact h.chl b (by omega) b1 b2 (pt _ q.1 q.2.1 tp) (Or.inl (by omega))
  subst hn
  refine ⟨r1, h.zer.2.1 (by omega), fun b a c e => ?_, h.ord, fun b a c e => pt b a c (all (n - po b).toNat b a c e (by omega)), fun b a c e => ?_, h.ns3⟩
  · have := h.plc b a c e
    exact ⟨this.1, this.2.1, tpo b a c this.2.2⟩
  · have w := h.plc b (by omega) c e
    have p := h.par b a c w.2.2
    have q := t.tp b a c p.1
    exact ⟨q.1, q.2.1, p.2, h.anc b a c e⟩
/-- the spans in front of place n come to rd -/
abbrev SP (od sp : Int → Int) (rd n : Int) : Prop := (∀ i : Int, 0 ≤ i → i < rd → 1 ≤ sp (od i) ∧ sp (od i) ≤ rd) ∧ (sg (fun m => sp (od m)) (n + 1).toNat = rd)
theorem SP.rng {od sp : Int → Int} {rd n : Int} (h : SP od sp rd n) : ∀ i : Int, 0 ≤ i → i < rd → 1 ≤ sp (od i) ∧ sp (od i) ≤ rd := h.1
theorem SP.sum {od sp : Int → Int} {rd n : Int} (h : SP od sp rd n) : sg (fun m => sp (od m)) (n + 1).toNat = rd := h.2
theorem SP.init {B : Int} {po id pl od sp : Int → Int} {rd : Int} (o : OD B po id pl od rd) (h : ∀ b : Int, 0 ≤ b → b < B → sp b = 1) : SP od sp rd (rd - 1) := by
  have r1 := o.r1
  have e : ∀ i : Int, 0 ≤ i → i < rd → sp (od i) = 1 := fun i a c => h _ (o.ord i a c).1 (o.ord i a c).2.1
  refine ⟨fun i a c => by rw [e i a c]; omega, ?_⟩
  rw [show rd - 1 + 1 = rd by omega, sg_congr (g := fun _ => 1) rd.toNat (fun j a c => e j a (by omega)), sg_const]
  omega
theorem sg_one {f : Int → Int} (n : Nat) (h : ∀ j : Int, 0 ≤ j → j < n → 0 ≤ f j) {k : Int} (k0 : 0 ≤ k) (k1 : k < n) : f k ≤ sg f n := by
  have e := sg_up f 0 n k0 k1
  have h2 : sg (fun _ => 0) n ≤ sg (zup f k 0) n := sg_le n (fun j a c => by
    unfold zup; split
    · omega
    · exact h j a c)
  rw [sg_const] at h2
  omega
theorem sg_two {f : Int → Int} (n : Nat) (h : ∀ j : Int, 0 ≤ j → j < n → 0 ≤ f j) {k m : Int} (k0 : 0 ≤ k) (k1 : k < m) (m1 : m < n) : f k + f m ≤ sg f n := by
  have e := sg_up f 0 n (k := m) (by omega) m1
  have h2 := sg_one (f := zup f m 0) n (fun j a c => by
    unfold zup; split
    · omega
    · exact h j a c) k0 (by omega)
  rw [zup_ne _ _ (by omega)] at h2
  omega
theorem SP.step {B : Int} {po id pl od sp : Int → Int} {rd n : Int} (o : OD B po id pl od rd) (h : SP od sp rd n) (n0 : 0 < n) (n1 : n < rd) : sp (id (od n)) + sp (od n) ≤ rd ∧ 2 ≤ sp (id (od n)) + sp (od n) ∧ SP od (zup sp (id (od n)) (sp (id (od n)) + sp (od n))) rd (n - 1) := by
  obtain ⟨q0, q1, q2⟩ := o.ord n (by omega) n1
  have nz : ¬ od n = 0 := by
    intro e
    have := (o.ord 0 (by omega) (by omega)).2.2
    rw [o.o0, ← e] at this; omega
  obtain ⟨a0, a1, a2, a3⟩ := o.anc (od n) (by omega) q1 (by omega)
  rw [q2] at a3
  have ax := o.plc (id (od n)) a0 a1 a2
  have two := sg_two (f := fun m => sp (od m)) (n + 1).toNat (fun j x y => by have := (h.rng j x (by omega)).1; omega) a2 a3 (by omega)
  rw [h.sum, ax.2.1] at two
  have r1 := (h.rng n (by omega) n1).1
  have r2 := (h.rng (pl (id (od n))) a2 ax.1).1
  rw [ax.2.1] at r2
  refine ⟨two, by omega, fun i i0 i1 => ?_, ?_⟩
  · by_cases e : od i = id (od n)
    · rw [e, zup_eq]; omega
    · rw [zup_ne _ _ e]; exact h.rng i i0 i1
  · rw [show n - 1 + 1 = n by omega]
    have e2 : sg (fun m => zup sp (id (od n)) (sp (id (od n)) + sp (od n)) (od m)) n.toNat = sg (zup (fun m => sp (od m)) (pl (id (od n))) (sp (id (od n)) + sp (od n))) n.toNat := by
      apply sg_congr
      intro j j0 j1
      unfold zup
      by_cases e : j = pl (id (od n))
      · rw [if_pos e, e, ax.2.1, if_pos rfl]
      · have : ¬ od j = id (od n) := by
          intro x; apply e
          have := (o.ord j j0 (by omega)).2.2
          rw [x] at this; exact this.symm
        rw [if_neg e, if_neg this]
    have e3 : sg (fun m => sp (od m)) (n + 1).toNat = sg (fun m => sp (od m)) n.toNat + sp (od n) := by
      rw [show (n + 1).toNat = n.toNat + 1 by omega]
      show _ + sp (od (n.toNat : Int)) = _
      rw [show ((n.toNat : Nat) : Int) = n by omega]
    rw [e2, sg_up _ _ _ a2 (by omega)]
    rw [h.sum] at e3
    show sg (fun m => sp (od m)) n.toNat + (sp (id (od n)) + sp (od n) - sp (od (pl (id (od n))))) = rd
    rw [ax.2.1]; omega
theorem TR.lt {B : Int} {po id : Int → Int} (t : TR B po id) {b : Int} (b0 : 0 < b) (b1 : b < B) (i0 : 0 ≤ id b) : id b < B ∧ 0 ≤ po b := by
  rcases Int.lt_or_le (po b) 0 with x | x
  · have := t.tn b b0 b1 x; omega
  · exact ⟨(t.tp b b0 b1 x).2.1, x⟩
theorem OD.nz {B : Int} {po id pl od : Int → Int} {rd : Int} (o : OD B po id pl od rd) {n : Int} (n0 : 0 < n) (n1 : n < rd) : 0 < od n := by
  have q := o.ord n (by omega) n1
  rcases Int.lt_or_le 0 (od n) with x | x
  · exact x
  · exfalso
    have e : od n = 0 := by omega
    have := (o.ord 0 (by omega) (by omega)).2.2
    rw [o.o0, ← e] at this; omega
