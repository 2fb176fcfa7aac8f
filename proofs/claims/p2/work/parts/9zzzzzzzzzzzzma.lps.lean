/-! ways that stay; the one block from which a loop is come into -/
def EDY (P Q : PO) (la : Nat) : Prop := Q.lz la = P.lz la ∧ ∀ b : Int, 0 ≤ b → b < P.lz la → ∀ c : Int, EDG Q la b c ↔ EDG P la b c
/-- of the first d blocks o lead to h from outside; the last is p -/
def OUX (P : PO) (la : Nat) (t : Int → Int) (h d o p : Int) : Prop := (o = 0 → ∀ q : Int, 0 ≤ q → q < d → EDG P la q h → t q ≠ 0) ∧ (o = 1 → (0 ≤ p ∧ p < d ∧ EDG P la p h ∧ t p = 0) ∧ ∀ q : Int, 0 ≤ q → q < d → EDG P la q h → t q = 0 → q = p)
section LPS9
variable {L L' : List Nat} {P P1 Q : PO} {cO cI cZ : ClassId} {ed x la : Nat} {t g : Int → Int} {b c d h j n o p u : Int} {fd : Nat → Option Nat} {len lo hi m9 : Int}
theorem EDY.refl (P : PO) (la : Nat) : EDY P P la := ⟨rfl, fun _ _ _ _ => Iff.rfl⟩
theorem EDY.trans (h : EDY P P1 la) (k : EDY P1 Q la) : EDY P Q la := ⟨k.1.trans h.1, fun b b0 b1 c => (k.2 b b0 (by rw [h.1]; exact b1) c).trans (h.2 b b0 b1 c)⟩
theorem MVD.edy (m : MVD L P L' Q la c j p x) (a : ALP L P cO cI cZ ed la) : EDY P Q la := ⟨m.2.1.1, fun _ b0 b1 _ => m.edg a b0 b1⟩
theorem FNE.edy (v : FNE P Q la) : EDY P Q la := ⟨v.1, fun _ b0 b1 _ => ⟨fun e => v.edgr b0 b1 e, fun e => v.edg b0 b1 e⟩⟩
theorem EDY.rch (e : EDY P Q la) (a : ALP L P cO cI cZ ed la) (z : 0 < P.lz la) (r : RCH P la u b) : RCH Q la u b := fun S s0 st => (r (fun c => S c ∧ 0 ≤ c ∧ c < P.lz la) (fun q => ⟨s0 q, by omega, z⟩) (fun p c s w ne => ⟨st p c s.1 ((e.2 p s.2.1 s.2.2 c).mpr w) ne, EDG.rng a s.2.1 s.2.2 w⟩)).1
theorem EDY.rchr (e : EDY P Q la) (a : ALP L P cO cI cZ ed la) (z : 0 < P.lz la) (r : RCH Q la u b) : RCH P la u b := fun S s0 st => (r (fun c => S c ∧ 0 ≤ c ∧ c < P.lz la) (fun q => ⟨s0 q, by omega, z⟩) (fun p c s w ne => by
  have w2 := (e.2 p s.2.1 s.2.2 c).mp w
  exact ⟨st p c s.1 w2 ne, EDG.rng a s.2.1 s.2.2 w2⟩)).1
theorem EDY.dom (e : EDY P Q la) (a : ALP L P cO cI cZ ed la) (z : 0 < P.lz la) : DOM Q la b c ↔ DOM P la b c := ⟨fun q => ⟨e.rchr a z q.1, e.rchr a z q.2.1, fun w => q.2.2 (e.rch a z w)⟩, fun q => ⟨e.rch a z q.1, e.rch a z q.2.1, fun w => q.2.2 (e.rchr a z w)⟩⟩
theorem RCX.edy (r : RCX P la u g n) (e : EDY P Q la) (a : ALP L P cO cI cZ ed la) (z : 0 < P.lz la) : RCX Q la u g n := fun b b0 b1 => (r b b0 b1).trans ⟨fun q => e.rch a z q, fun q => e.rchr a z q⟩
theorem TKP.lvt {k : Nat} {cc : ClassId} (w : TKP k L P L' Q) (tb : TBK L P k cc fd n len lo hi) (b0 : 0 ≤ b) (b1 : b < n) (r : Int) : LVT Q fd b r = LVT P fd b r := by
  obtain ⟨y, e, m, _⟩ := tb b b0 b1
  have s := (w y m.1 m.2.1).2.2.2.2.1
  unfold LVT
  rw [e]
  show Q.ia y r = P.ia y r
  rw [s]
theorem DRWE.edy {k : Nat} {cc : ClassId} (d : DRWE P P fd la n n) (e : EDY P Q la) (w : TKP k L P L' Q) (tb : TBK L P k cc fd m9 len lo hi) (z2 : n ≤ m9) {L0 : List Nat} (a : ALP L0 P cO cI cZ ed la) (z : 0 < P.lz la) : DRWE Q Q fd la n n := fun b c b0 b1 c0 c1 => by
  rw [w.lvt tb b0 (by omega)]
  exact (d b c b0 b1 c0 c1).trans (e.dom a z).symm
theorem OUX.first (P : PO) (la : Nat) (t : Int → Int) (h p : Int) : OUX P la t h 0 0 p := ⟨fun _ q q0 q1 => by omega, fun q => by omega⟩
theorem OUX.skip (w : OUX P la t h d o p) (q : t d ≠ 0 ∨ ¬ EDG P la d h) : OUX P la t h (d + 1) o p := by
  have nx : ∀ e : Int, e = d → EDG P la e h → t e ≠ 0 := fun e ee k => by
    rw [ee] at k ⊢
    exact q.resolve_right (fun n => n k)
  refine ⟨fun z e e0 e1 k => ?_, fun z => ⟨⟨(w.2 z).1.1, by have := (w.2 z).1.2.1; omega, (w.2 z).1.2.2⟩, fun e e0 e1 k s => ?_⟩⟩
  · by_cases y : e = d
    · exact nx e y k
    · exact w.1 z e e0 (by omega) k
  · by_cases y : e = d
    · exact absurd s (nx e y k)
    · exact (w.2 z).2 e e0 (by omega) k s
theorem OUX.put (w : OUX P la t h d o p) (o0 : 0 ≤ o) (d0 : 0 ≤ d) (e : EDG P la d h) (z : t d = 0) : OUX P la t h (d + 1) (o + 1) d := ⟨fun q => by omega, fun q => ⟨⟨d0, by omega, e, z⟩, fun f f0 f1 k s => by
  by_cases y : f = d
  · exact y
  · exact absurd s (w.1 (by omega) f f0 (by omega) k)⟩⟩
theorem LPX.lpk (x : LPX P la t h n) (w : OUX P la t h d o p) (o1 : o = 1) (z : n = P.lz la) (zd : n ≤ d) (h0 : 0 ≤ h) (h1 : h < n) (s : SSP P la) (a : ALP L P cO cI cZ ed la) : LPK P la t h p := by
  subst z
  have zz := s.1
  have v := w.2 o1
  exact ⟨⟨x.1.1, h0, h1⟩, x.zero a.1.1 s.2.2.2.2.2.2.2.1 rfl zz, v.1.2.2.2, v.1.2.2.1, fun q q0 q1 e k => v.2 q q0 (by omega) e k, fun b b0 b1 tb ne q q0 q1 e => x.2.2 b b0 b1 tb ne q q0 q1 (s.2.2.2.1 q q0 q1) e⟩
theorem ALP.catb (a : ALP L P cO cI cZ ed la) : 0 ≤ P.cat 2 la ∧ P.cat 2 la ≤ 12000000 := by
  have z := a.1.1.2.1
  have z0 := a.lok.2.2.1.1
  have cb : ∀ i : Int, 0 ≤ i → i < P.lz la → 0 ≤ P.cap (P.2.1 2 (P.el la i)) ∧ P.cap (P.2.1 2 (P.el la i)) ≤ 40000 := fun i i0 i1 => ⟨P.cap_nn _, a.glf.cap40 (a.inb ⟨i, i0, i1, rfl⟩).2.1⟩
  refine ⟨sumI_nn (fun i i0 i1 => (cb i i0 (by omega)).1), ?_⟩
  have s := sumI_le (f := fun i => P.cap (P.2.1 2 (P.el la i))) (g := fun _ => 40000) (n := (P.lz la).toNat) (fun i i0 i1 => (cb i i0 (by omega)).2)
  have k : ∀ n : Nat, sumI (fun _ => (40000 : Int)) n = 40000 * n := fun n => by
    induction n with
    | zero => rfl
    | succ n ih =>
      show sumI (fun _ => (40000 : Int)) n + 40000 = 40000 * ((n + 1 : Nat) : Int)
      rw [ih]; omega
  rw [k] at s
  unfold PO.cat
  omega
end LPS9
