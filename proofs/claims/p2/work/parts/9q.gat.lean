/-- goals of blocks that don't ret are blocks -/
abbrev HGP (ek g1 g2 : Int → Int) (B : Int) : Prop := ∀ b : Int, 0 ≤ b → b < B → ¬ ek b = 2 → (0 ≤ g1 b ∧ g1 b < B) ∧ (0 ≤ g2 b ∧ g2 b < B)
/-- blocks that lead, taken one by one: number of each, and back -/
def GBI (ld ek g1 g2 : Int → Int) (b T : Int) (fo la nu ek' g1' g2' : Int → Int) : Prop := (0 ≤ T ∧ T ≤ b) ∧ (∀ y : Int, 0 ≤ y → y < T → (0 ≤ fo y ∧ fo y < b) ∧ ld (fo y) = 1 ∧ nu (fo y) = y ∧ la y = fo y ∧ ek' y = ek (fo y) ∧ g1' y = g1 (fo y) ∧ g2' y = g2 (fo y)) ∧ (∀ x : Int, 0 ≤ x → x < b → ld x = 1 → (0 ≤ nu x ∧ nu x < T) ∧ fo (nu x) = x) ∧ (0 < b → ld 0 = 1 → nu 0 = 0)
theorem GBI.init (ld ek g1 g2 fo la nu ek' g1' g2' : Int → Int) : GBI ld ek g1 g2 0 0 fo la nu ek' g1' g2' := ⟨by omega, fun y a b => by omega, fun x a b => by omega, fun a => by omega⟩
theorem GBI.skip {ld ek g1 g2 : Int → Int} {b T : Int} {fo la nu ek' g1' g2' : Int → Int} (h : GBI ld ek g1 g2 b T fo la nu ek' g1' g2') (n : ¬ ld b = 1) : GBI ld ek g1 g2 (b + 1) T fo la nu ek' g1' g2' := by
  obtain ⟨h1, h2, h3, h4⟩ := h
  refine ⟨by omega, fun y a c => ?_, fun x a c e => ?_, fun a e => ?_⟩
  · have := h2 y a c; exact ⟨by omega, this.2⟩
  · by_cases w : x = b
    · rw [w] at e; exact absurd e n
    · exact h3 x a (by omega) e
  · by_cases w : b = 0
    · rw [w] at n; exact absurd e n
    · exact h4 (by omega) e
theorem GBI.add {ld ek g1 g2 : Int → Int} {b T : Int} {fo la nu ek' g1' g2' : Int → Int} (h : GBI ld ek g1 g2 b T fo la nu ek' g1' g2') (b0 : 0 ≤ b) (n : ld b = 1) : GBI ld ek g1 g2 (b + 1) (T + 1) (zup fo T b) (zup la T b) (zup nu b T) (zup ek' T (ek b)) (zup g1' T (g1 b)) (zup g2' T (g2 b)) := by
  obtain ⟨h1, h2, h3, h4⟩ := h
  refine ⟨by omega, fun y a c => ?_, fun x a c e => ?_, fun a e => ?_⟩
  · by_cases w : y = T
    · rw [w, zup_eq, zup_eq, zup_eq, zup_eq, zup_eq, zup_eq]; exact ⟨by omega, n, rfl, rfl, rfl, rfl, rfl⟩
    · have q := h2 y a (by omega)
      rw [zup_ne _ _ w, zup_ne _ _ w, zup_ne _ _ w, zup_ne _ _ w, zup_ne _ _ w, zup_ne _ _ (by omega)]
      exact ⟨by omega, q.2⟩
  · by_cases w : x = b
    · rw [w, zup_eq, zup_eq]; exact ⟨by omega, rfl⟩
    · have q := h3 x a (by omega) e
      rw [zup_ne _ _ w, zup_ne _ _ (by omega)]
      exact ⟨by omega, q.2⟩
  · by_cases w : b = 0
    · rw [w, zup_eq]; omega
    · rw [zup_ne _ _ (by omega)]; exact h4 (by omega) e
/-- goals are being numbered anew -/
def RGI (nu ek a w : Int → Int) (d : Int) : Prop := ∀ y : Int, (0 ≤ y → y < d → (ek y = 2 → w y = a y) ∧ (¬ ek y = 2 → w y = nu (a y))) ∧ (d ≤ y → w y = a y)
theorem RGI.init (nu ek a : Int → Int) : RGI nu ek a a 0 := fun y => ⟨fun h1 h2 => by omega, fun _ => rfl⟩
theorem RGI.skip {nu ek a w : Int → Int} {d : Int} (h : RGI nu ek a w d) (e : ek d = 2) : RGI nu ek a w (d + 1) := by
  intro y
  refine ⟨fun h1 h2 => ?_, fun h1 => (h y).2 (by omega)⟩
  by_cases q : y = d
  · refine ⟨fun _ => (h y).2 (by omega), fun z => ?_⟩
    rw [q] at z; exact absurd e z
  · exact (h y).1 h1 (by omega)
theorem RGI.set {nu ek a w : Int → Int} {d : Int} (h : RGI nu ek a w d) (e : ¬ ek d = 2) : RGI nu ek a (zup w d (nu (w d))) (d + 1) := by
  intro y
  refine ⟨fun h1 h2 => ?_, fun h1 => by rw [zup_ne _ _ (by omega)]; exact (h y).2 (by omega)⟩
  by_cases q : y = d
  · rw [q, zup_eq, (h d).2 (by omega)]; exact ⟨fun z => absurd z e, fun _ => rfl⟩
  · rw [zup_ne _ _ q]; exact (h y).1 h1 (by omega)
/-- the blocks that led, each with a number; ends and goals are theirs -/
def GFI (B : Int) (ld ek g1 g2 : Int → Int) (T : Int) (fo nu ek' G1 G2 : Int → Int) : Prop := (∀ y : Int, 0 ≤ y → y < T → (0 ≤ fo y ∧ fo y < B) ∧ ld (fo y) = 1 ∧ nu (fo y) = y ∧ ek' y = ek (fo y) ∧ (¬ ek' y = 2 → G1 y = nu (g1 (fo y)) ∧ G2 y = nu (g2 (fo y)))) ∧ (∀ x : Int, 0 ≤ x → x < B → ld x = 1 → (0 ≤ nu x ∧ nu x < T) ∧ fo (nu x) = x) ∧ (ld 0 = 1 → nu 0 = 0)
theorem GFI.of {B T : Int} {ld ek g1 g2 fo la nu ek' g1' g2' G1 G2 : Int → Int} (h : GBI ld ek g1 g2 B T fo la nu ek' g1' g2') (r1 : RGI nu ek' g1' G1 T) (r2 : RGI nu ek' g2' G2 T) (b0 : 0 < B) : GFI B ld ek g1 g2 T fo nu ek' G1 G2 := by
  obtain ⟨h1, h2, h3, h4⟩ := h
  refine ⟨fun y a b => ?_, h3, h4 b0⟩
  obtain ⟨q1, q2, q3, q4, q5, q6, q7⟩ := h2 y a b
  refine ⟨q1, q2, q3, q5, fun e => ?_⟩
  rw [((r1 y).1 a b).2 e, ((r2 y).1 a b).2 e, q6, q7]
  exact ⟨rfl, rfl⟩
theorem GFI.hg {B T : Int} {ld ek g1 g2 fo nu ek' G1 G2 : Int → Int} (h : GFI B ld ek g1 g2 T fo nu ek' G1 G2) (hG : ∀ b : Int, 0 ≤ b → b < B → ¬ ek b = 2 → (0 ≤ g1 b ∧ g1 b < B) ∧ (0 ≤ g2 b ∧ g2 b < B)) (cl : ∀ x : Int, 0 ≤ x → x < B → ld x = 1 → ¬ ek x = 2 → ld (g1 x) = 1 ∧ ld (g2 x) = 1) : ∀ b : Int, 0 ≤ b → b < T → ¬ ek' b = 2 → (0 ≤ G1 b ∧ G1 b < T) ∧ (0 ≤ G2 b ∧ G2 b < T) := by
  intro y a b e
  obtain ⟨q1, q2, q3, q4, q5⟩ := h.1 y a b
  obtain ⟨e1, e2⟩ := q5 e
  have k : ¬ ek (fo y) = 2 := by rw [← q4]; exact e
  have g := hG (fo y) q1.1 q1.2 k
  have c := cl (fo y) q1.1 q1.2 q2 k
  rw [e1, e2]
  exact ⟨(h.2.1 _ g.1.1 g.1.2 c.1).1, (h.2.1 _ g.2.1 g.2.2 c.2).1⟩
/-- where a goal leads is come to -/
theorem FW.closed {ek g1 g2 po bp id pl od : Int → Int} {B rd : Int} (f : FW ek g1 g2 B po bp rd) (o : OD B po id pl od rd) (hG : ∀ b : Int, 0 ≤ b → b < B → ¬ ek b = 2 → (0 ≤ g1 b ∧ g1 b < B) ∧ (0 ≤ g2 b ∧ g2 b < B)) : ∀ x : Int, 0 ≤ x → x < B → 0 ≤ pl x → ¬ ek x = 2 → 0 ≤ pl (g1 x) ∧ 0 ≤ pl (g2 x) := by
  intro x a b p e
  have q := o.plc x a b p
  have g := hG x a b e
  have c1 : 1 ≤ gcF ek g1 g2 x := by unfold gcF; rw [if_neg e]; split <;> omega
  have z1 := f.clo x 0 a b q.2.2 (by omega) (by omega)
  have e1 : glF g1 g2 x 0 = g1 x := by unfold glF; rw [if_pos rfl]
  rw [e1] at z1
  refine ⟨o.rch _ g.1.1 g.1.2 z1, ?_⟩
  by_cases w : g1 x = g2 x
  · rw [← w]; exact o.rch _ g.1.1 g.1.2 z1
  · have c2 : gcF ek g1 g2 x = 2 := by unfold gcF; rw [if_neg e, if_neg w]
    have z2 := f.clo x 1 a b q.2.2 (by omega) (by omega)
    have e2 : glF g1 g2 x 1 = g2 x := by unfold glF; rw [if_neg (by omega)]
    rw [e2] at z2
    exact o.rch _ g.2.1 g.2.2 z2
/-- all blocks that were taken are come to in the new function -/
theorem GFI.reach {B T : Int} {ld ek g1 g2 fo nu ek' G1 G2 po bp id pl od po' bp' : Int → Int} {rd rd' : Int} (h : GFI B ld ek g1 g2 T fo nu ek' G1 G2) (f : FW ek g1 g2 B po bp rd) (o : OD B po id pl od rd) (hl : ∀ x : Int, 0 ≤ x → x < B → (ld x = 1 ↔ 0 ≤ pl x)) (hG : ∀ b : Int, 0 ≤ b → b < B → ¬ ek b = 2 → (0 ≤ g1 b ∧ g1 b < B) ∧ (0 ≤ g2 b ∧ g2 b < B)) (f' : FW ek' G1 G2 T po' bp' rd') : ∀ y : Int, 0 ≤ y → y < T → 0 ≤ po' y := by
  have cl := f.closed o hG
  have key : ∀ (n : Nat) (x : Int), 0 ≤ x → x < B → 0 ≤ pl x → (rd - po x).toNat ≤ n → 0 ≤ po' (nu x) := by
    intro n
    induction n with
    | zero =>
      intro x a b p m
      have q := o.plc x a b p
      have := (f.pop x a b q.2.2).1
      omega
    | succ n ih =>
      intro x a b p m
      have q := o.plc x a b p
      have lx := (hl x a b).mpr p
      have nx := h.2.1 x a b lx
      by_cases z : x = 0
      · rw [z] at lx ⊢; rw [h.2.2 lx]; have := f'.zero; have := f'.r1; omega
      · obtain ⟨pp, p0, p1, ed, lt⟩ := f.par x (by omega) b q.2.2
        have ppl := o.rch pp p0 p1 (by have := (f.pop x a b q.2.2).1; omega)
        have np := h.2.1 pp p0 p1 ((hl pp p0 p1).mpr ppl)
        have r := ih pp p0 p1 ppl (by omega)
        obtain ⟨i, i0, i1, i2⟩ := ed
        have ne : ¬ ek pp = 2 := gcF_ne (ek := ek) (g1 := g1) (g2 := g2) (by omega)
        have yy := h.1 (nu pp) np.1.1 np.1.2
        rw [np.2] at yy
        have ke : ¬ ek' (nu pp) = 2 := by rw [yy.2.2.2.1]; exact ne
        have gg := yy.2.2.2.2 ke
        have cc := cl pp p0 p1 ppl ne
        have hh := hG pp p0 p1 ne
        have n1 := h.2.1 _ hh.1.1 hh.1.2 ((hl _ hh.1.1 hh.1.2).mpr cc.1)
        have n2 := h.2.1 _ hh.2.1 hh.2.2 ((hl _ hh.2.1 hh.2.2).mpr cc.2)
        have ge : glF G1 G2 (nu pp) i = nu x := by
          unfold glF at i2 ⊢
          split at i2
          · rename_i w; rw [if_pos w, gg.1, i2]
          · rename_i w; rw [if_neg w, gg.2, i2]
        have ic : i < gcF ek' G1 G2 (nu pp) := by
          unfold gcF at i1 ⊢
          rw [if_neg ne] at i1
          rw [if_neg ke, gg.1, gg.2]
          by_cases w : g1 pp = g2 pp
          · rw [if_pos w] at i1; rw [w, if_pos rfl]; exact i1
          · rw [if_neg w] at i1
            rw [if_neg (fun e => w (by have := n1.2; rw [e, n2.2] at this; exact this.symm))]; exact i1
        have := f'.clo (nu pp) i np.1.1 np.1.2 r i0 ic
        rw [ge] at this; exact this
  intro y a b
  have q := h.1 y a b
  have := key (rd - po (fo y)).toNat (fo y) q.1.1 q.1.2 ((hl _ q.1.1 q.1.2).mp q.2.1) (Nat.le_refl _)
  rw [q.2.2.1] at this; exact this
