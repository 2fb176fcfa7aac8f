/-- what fold is given: states, numbers and blocks come to by some ways that are open -/
def FLC (P : PO) (la : Nat) (st nm gn : Int → Int) : Prop := ∃ op : Int → Int, CNV P la st nm op gn ∧ CLS P la st nm op gn
theorem FDK.jle {P Q : PO} {la : Nat} {st nm gn : Int → Int} {i j r : Int} {e : Prop} {H : Nat → Prop} (h : FDK P Q la st nm gn i j r e H) (i0 : 0 ≤ i) (i1 : i < P.lz la) : j ≤ Q.lz (P.bp (P.el la i)) ∧ r ≤ Q.lz (P.br (P.el la i)) := by
  have t := (h.2.1 i i0 i1).2.1 rfl
  obtain ⟨⟨a, _⟩, ⟨b, _⟩⟩ := t
  exact ⟨a, b⟩
/-! behind fold: what is kept is SSA -/
section FSK9
variable {L : List Nat} {P Q : PO} {cO cI cZ : ClassId} {ed x la : Nat} {A : Int → Int → Prop} {st nm op gn : Int → Int} {b c i j k p r : Int}
/-- of the lists of a block that is come to: what is left, and where it stood -/
theorem FDK.map (h : FDK P Q la st nm gn (P.lz la) j r False (fun _ => False)) (b0 : 0 ≤ b) (b1 : b < P.lz la) (g : gn b ≠ 0) : (Q.el la b = P.el la b ∧ Q.bp (P.el la b) = P.bp (P.el la b) ∧ Q.br (P.el la b) = P.br (P.el la b) ∧ Q.be (P.el la b) = P.be (P.el la b)) ∧ FLS9 (GPT P st) P Q (P.bp (P.el la b)) 0 ∧ FLS9 (GRT P st) P Q (P.br (P.el la b)) 0 := ⟨⟨(h.blk b0 b1).1, h.bp _, h.br _, h.be _⟩, (h.2.1 b b0 b1).1 b1 g⟩
theorem FLS9.le {G : Nat → Prop} {l : Nat} (h : FLS9 G P Q l 0) (z0 : 0 ≤ P.lz l) : Q.lz l ≤ P.lz l ∧ 0 ≤ Q.lz l := by
  obtain ⟨a, m, m1, m2, m3, m4⟩ := h
  have up : ∀ t : Nat, (t : Int) < Q.lz l → (t : Int) ≤ m t := fun t => by
    induction t with
    | zero => exact fun q => (m3 0 (by omega) (by omega)).1
    | succ t ih =>
      intro q
      have w := ih (by omega)
      have v := m2 t ((t + 1 : Nat) : Int) (by omega) (by omega) q
      omega
  refine ⟨?_, a⟩
  rcases Int.lt_or_le (P.lz l) (Q.lz l) with q | q
  · exfalso
    have w := up (P.lz l).toNat (by omega)
    rw [show (((P.lz l).toNat : Nat) : Int) = P.lz l from by omega] at w
    have v := (m3 (P.lz l) z0 q).2.1
    omega
  · exact q
theorem FDK.num (h : FDK P Q la st nm gn (P.lz la) j r False (fun _ => False)) (al : ALP L P cO cI cZ ed la) (b0 : 0 ≤ b) (b1 : b < P.lz la) (g : gn b ≠ 0) (k0 : 0 ≤ k) (k1 : k < P.lz (P.br (P.el la b))) (ng : ¬ GRT P st (P.el (P.br (P.el la b)) k)) : KNR P Q st nm (P.el (P.br (P.el la b)) k) := h.2.2.2.2.1 b k b0 b1 g k0 k1 (Or.inl b1) ng
theorem KNR.usA (h : KNR P Q st nm x) (u : rUsA (Q.ro x) (Q.rA x) ≠ 0) : rUsA (P.ro x) (P.rA x) ≠ 0 ∧ Q.ra x = P.ra x ∧ st (P.ra x) ≠ 1 := by
  have s1 := rUsA_spec (Q.ro x) (Q.rA x)
  have s2 := rUsA_spec (P.ro x) (P.rA x)
  have e := h.1.1
  rcases h.2.1 with t | t
  · omega
  · have v : rUsA (P.ro x) (P.rA x) ≠ 0 := by omega
    exact ⟨v, t.2.2, fun q => t.1 ⟨v, q⟩⟩
theorem KNR.usB (h : KNR P Q st nm x) (u : rUsB (Q.ro x) (Q.rB x) ≠ 0) : rUsB (P.ro x) (P.rB x) ≠ 0 ∧ Q.rb x = P.rb x ∧ st (P.rb x) ≠ 1 := by
  have s1 := rUsB_spec (Q.ro x) (Q.rB x)
  have s2 := rUsB_spec (P.ro x) (P.rB x)
  have e := h.1.1
  rcases h.2.2 with t | t
  · omega
  · have v : rUsB (P.ro x) (P.rB x) ≠ 0 := by omega
    exact ⟨v, t.2.2, fun q => t.1 ⟨v, q⟩⟩
theorem SPH.fdk (y : SPH P la b r) (h : FDK P Q la st nm gn (P.lz la) j k False (fun _ => False)) (b0 : 0 ≤ b) (b1 : b < P.lz la) (g : gn b ≠ 0) (s : st r ≠ 1) : SPH Q la b r := by
  obtain ⟨k, k0, k1, e⟩ := y
  obtain ⟨mp, fp, fr⟩ := h.map b0 b1 g
  have ng : ¬ GPT P st (P.el (P.bp (P.el la b)) k) := fun q => by unfold GPT at q; rw [e] at q; exact s q
  obtain ⟨_, m, m1, m2, m3, m4⟩ := fp
  obtain ⟨t, t0, t1, te⟩ := m4 k k0 k1 ng
  refine ⟨t, t0, by rw [mp.1, mp.2.1]; exact t1, ?_⟩
  rw [mp.1, mp.2.1, (m3 t t0 t1).2.2.1, te]
  exact ((h.2.2.2.1 b k b0 b1 g k0 k1 (Or.inl b1) ng).1.2.1).trans e
/-- a row that sets what is not told stays, in its order -/
theorem SRW.fdk {j' : Int} (y : SRW P la b j r) (h : FDK P Q la st nm gn (P.lz la) i k False (fun _ => False)) (b0 : 0 ≤ b) (b1 : b < P.lz la) (g : gn b ≠ 0) (s : st r ≠ 1) (w : ∀ m : Int → Int, (∀ k i : Int, 0 ≤ k → k < i → i < Q.lz (P.br (P.el la b)) → m k < m i) → ∀ t : Int, 0 ≤ t → t < Q.lz (P.br (P.el la b)) → (Q.el (P.br (P.el la b)) t = P.el (P.br (P.el la b)) (m t)) → m t < j → (∀ q : Int, 0 ≤ q → q < Q.lz (P.br (P.el la b)) → 0 ≤ m q ∧ m q < P.lz (P.br (P.el la b)) ∧ Q.el (P.br (P.el la b)) q = P.el (P.br (P.el la b)) (m q)) → t < j') : SRW Q la b j' r := by
  obtain ⟨k, k0, kj, k1, z, e⟩ := y
  obtain ⟨mp, fp, fr⟩ := h.map b0 b1 g
  have ng : ¬ GRT P st (P.el (P.br (P.el la b)) k) := fun q => by have t := q.2; rw [e] at t; exact s t
  obtain ⟨_, m, m1, m2, m3, m4⟩ := fr
  obtain ⟨t, t0, t1, te⟩ := m4 k k0 k1 ng
  have kn := h.2.2.2.2.1 b k b0 b1 g k0 k1 (Or.inl b1) ng
  have el : Q.el (P.br (P.el la b)) t = P.el (P.br (P.el la b)) k := by rw [(m3 t t0 t1).2.2.1, te]
  refine ⟨t, t0, w m m2 t t0 t1 (m3 t t0 t1).2.2.1 (by omega) (fun q q0 q1 => ⟨(m3 q q0 q1).1, (m3 q q0 q1).2.1, (m3 q q0 q1).2.2.1⟩), by rw [mp.1, mp.2.2.1]; exact t1, ?_, ?_⟩
  · rw [mp.1, mp.2.2.1, el, kn.1.1]; exact z
  · rw [mp.1, mp.2.2.1, el, kn.1.2.1]; exact e
theorem SIB.fdk (y : SIB P la b r) (h : FDK P Q la st nm gn (P.lz la) i k False (fun _ => False)) (b0 : 0 ≤ b) (b1 : b < P.lz la) (g : gn b ≠ 0) (s : st r ≠ 1) : SIB Q la b r := by
  have mp := (h.map b0 b1 g).1
  rcases y with y | y
  · exact Or.inl (y.fdk h b0 b1 g s)
  · refine Or.inr (y.fdk h b0 b1 g s (fun m _ t t0 t1 _ _ _ => ?_))
    rw [mp.1, mp.2.2.1]; exact t1
/-- where a block leads, before and behind -/
theorem FDK.way (h : FDK P Q la st nm gn (P.lz la) j r False (fun _ => False)) (tl : P.ro (P.be (P.el la b)) = 31 → SOF st (P.rA (P.be (P.el la b))) (P.ra (P.be (P.el la b))) ≠ 0) (s0 : SR9 st) (en : ENE P la) (b0 : 0 ≤ b) (b1 : b < P.lz la) (g : gn b ≠ 0) : ((Q.ro (P.be (P.el la b)) = 32 ↔ P.ro (P.be (P.el la b)) = 32) ∧ (P.ro (P.be (P.el la b)) = 32 → Q.bf (P.el la b) = 0 ∧ Q.bs (P.el la b) = 0) ∧ (Q.ro (P.be (P.el la b)) = 30 → Q.bs (P.el la b) = Q.bf (P.el la b)) ∧ (30 ≤ P.ro (P.be (P.el la b)) → P.ro (P.be (P.el la b)) ≤ 32 → 30 ≤ Q.ro (P.be (P.el la b)) ∧ Q.ro (P.be (P.el la b)) ≤ 32)) ∧ (30 ≤ P.ro (P.be (P.el la b)) → P.ro (P.be (P.el la b)) ≤ 31 → (WYC P la st nm b (Q.bf (P.el la b)) ∧ WYC P la st nm b (Q.bs (P.el la b))) ∧ ∀ c : Int, WYC P la st nm b c → Q.bf (P.el la b) = c ∨ (Q.ro (P.be (P.el la b)) ≠ 30 ∧ Q.bs (P.el la b) = c)) := by
  have e := h.2.2.2.2.2 b b0 b1 g (Or.inl b1)
  have ee := en.2 b b0 b1
  have ua := rUsA_spec (P.ro (P.be (P.el la b))) (P.rA (P.be (P.el la b)))
  have sr := SOF_rng (g := P.rA (P.be (P.el la b))) (v := P.ra (P.be (P.el la b))) s0
  have so : (P.rA (P.be (P.el la b)) = 0 ∧ SOF st (P.rA (P.be (P.el la b))) (P.ra (P.be (P.el la b))) = 1 ∧ NOF nm (P.rA (P.be (P.el la b))) (P.ra (P.be (P.el la b))) = P.ra (P.be (P.el la b))) ∨ (P.rA (P.be (P.el la b)) ≠ 0 ∧ SOF st (P.rA (P.be (P.el la b))) (P.ra (P.be (P.el la b))) = st (P.ra (P.be (P.el la b))) ∧ NOF nm (P.rA (P.be (P.el la b))) (P.ra (P.be (P.el la b))) = nm (P.ra (P.be (P.el la b)))) := by
    unfold SOF NOF
    by_cases q : P.rA (P.be (P.el la b)) = 0
    · rw [if_pos q, if_pos q]; exact Or.inl ⟨q, rfl, rfl⟩
    · rw [if_neg q, if_neg q]; exact Or.inr ⟨q, rfl, rfl⟩
  rcases e with ⟨e1, e2, e3, e4, e5, e6⟩ | ⟨e1, e2, e3, e4, e5, e6⟩
  · rw [e1, e4, e5]
    refine ⟨⟨Iff.rfl, fun q => ee.1 q, fun q => ee.2 q, fun q w => ⟨q, w⟩⟩, fun q w => ?_⟩
    by_cases o : P.ro (P.be (P.el la b)) = 30
    · refine ⟨⟨Or.inl ⟨o, rfl⟩, Or.inl ⟨o, ee.2 o⟩⟩, fun c y => ?_⟩
      rcases y with y | y
      · exact Or.inl y.2.symm
      · omega
    · have o2 : P.ro (P.be (P.el la b)) = 31 := by omega
      have t1 := tl o2
      have t2 := e6 o2
      have s2 : SOF st (P.rA (P.be (P.el la b))) (P.ra (P.be (P.el la b))) = 2 := by
        rcases e2 with e2 | e2
        · omega
        · have n1 : ¬ st (P.ra (P.be (P.el la b))) = 1 := fun z => e2.1 ⟨by omega, z⟩
          omega
      refine ⟨⟨Or.inr ⟨o2, t1, Or.inl ⟨rfl, by omega⟩⟩, Or.inr ⟨o2, t1, Or.inr ⟨rfl, by omega⟩⟩⟩, fun c y => ?_⟩
      rcases y with y | y
      · omega
      · rcases y.2.2 with z | z
        · exact Or.inl z.1.symm
        · exact Or.inr ⟨by omega, z.1.symm⟩
  · have s1 : SOF st (P.rA (P.be (P.el la b))) (P.ra (P.be (P.el la b))) = 1 ∧ NOF nm (P.rA (P.be (P.el la b))) (P.ra (P.be (P.el la b))) = Q.ra (P.be (P.el la b)) := by
      rcases e3 with e3 | e3
      · omega
      · omega
    refine ⟨⟨by omega, fun q => by omega, fun _ => e5, fun _ _ => by omega⟩, fun _ _ => ?_⟩
    have w1 : WYC P la st nm b (Q.bf (P.el la b)) := by
      refine Or.inr ⟨e1, by omega, ?_⟩
      rcases e6 with q | q
      · exact Or.inl ⟨q.2, by omega⟩
      · exact Or.inr ⟨q.2, by omega⟩
    refine ⟨⟨w1, by rw [e5]; exact w1⟩, fun c y => Or.inl ?_⟩
    rcases y with y | y
    · omega
    · rcases y.2.2 with z | z
      · rcases e6 with q | q
        · rw [q.2, z.1]
        · exact absurd ⟨by omega, by omega⟩ z.2
      · rcases e6 with q | q
        · exact absurd ⟨by omega, by omega⟩ z.2
        · rw [q.2, z.1]
theorem WYC.edg (w : WYC P la st nm p c) : EDG P la p c := by
  rcases w with w | w
  · exact EDG.yaw (by omega) (Or.inl w.2.symm)
  · rcases w.2.2 with t | t
    · exact EDG.yaw (by omega) (Or.inl t.1.symm)
    · exact EDG.yaw (by omega) (Or.inr ⟨by omega, t.1.symm⟩)
theorem FDK.opk (h : FDK P Q la st nm gn (P.lz la) j r False (fun _ => False)) (s : SSP P la) : OPK Q la gn := fun b k i j b0 b1 g k0 k1 i0 ij j1 => by
  rw [h.1.2.1] at b1
  obtain ⟨m9, fp, _⟩ := h.map b0 b1 g
  obtain ⟨_, m, m1, m2, m3, m4⟩ := fp
  rw [m9.1, m9.2.1] at k1 j1 ⊢
  have t := m3 k k0 k1
  have f := h.2.2.2.1 b (m k) b0 b1 g t.1 t.2.1 (Or.inl b1) (t.2.2.2 k0)
  rw [t.2.2.1] at j1 ⊢
  rw [f.1.1] at j1
  rw [h.pp, (f.2 i i0 (by omega)).1, (f.2 j (by omega) j1).1]
  exact s.2.2.2.2.2.2.2.2.2 b (m k) i j b0 b1 t.1 t.2.1 i0 ij j1
theorem FDK.ssk (h : FDK P Q la st nm gn (P.lz la) j r False (fun _ => False)) (s : SSP P la) (g0 : GN0 P la) (c : FLC P la st nm gn) (al : ALP L P cO cI cZ ed la) : SSK True Q la gn ∧ GNK Q la gn := by
  obtain ⟨op, cn, cl⟩ := c
  obtain ⟨A, aw, au⟩ := s.2.2.2.2.1
  have td := fun (b : Int) (b0 : 0 ≤ b) (b1 : b < P.lz la) (g : gn b ≠ 0) => told_all cn cl s al aw au b0 b1 g
  have z : Q.lz la = P.lz la := h.1.2.1
  have en := s.2.2.2.2.2.2.2.1
  have cm := s.2.1
  have nd := s.2.2.1
  have sg := s.2.2.2.2.2.1
  have tl : ∀ b : Int, 0 ≤ b → b < P.lz la → gn b ≠ 0 → P.ro (P.be (P.el la b)) = 31 → SOF st (P.rA (P.be (P.el la b))) (P.ra (P.be (P.el la b))) ≠ 0 := fun b b0 b1 g o => by
    unfold SOF
    by_cases q : P.rA (P.be (P.el la b)) = 0
    · rw [if_pos q]; decide
    · rw [if_neg q]
      have us := rUsA_spec (P.ro (P.be (P.el la b))) (P.rA (P.be (P.el la b)))
      rcases (au b b0 b1).2.2.1 with t | t
      · omega
      · exact (td b b0 b1 g).avt t
  have wy := fun (b : Int) (b0 : 0 ≤ b) (b1 : b < P.lz la) (g : gn b ≠ 0) => h.way (tl b b0 b1 g) cn.1 en b0 b1 g
  have mp := fun (b : Int) (b0 : 0 ≤ b) (b1 : b < P.lz la) (g : gn b ≠ 0) => h.map b0 b1 g
  have edg : ∀ p c : Int, 0 ≤ p → p < P.lz la → gn p ≠ 0 → EDG Q la p c → WYC P la st nm p c := fun p c p0 p1 gp e => by
    have y := e.way
    have m := (mp p p0 p1 gp).1
    rw [m.1, m.2.2.2] at y
    have w := wy p p0 p1 gp
    have rg := (cm.2.1 p p0 p1).2
    have w2 := w.2 rg.1 (by have := w.1.1; omega)
    rcases y.2 with t | t
    · rw [← t]; exact w2.1.1
    · rw [← t.2]; exact w2.1.2
  have egd : ∀ p c : Int, 0 ≤ p → p < P.lz la → gn p ≠ 0 → WYC P la st nm p c → EDG Q la p c := fun p c p0 p1 gp y => by
    have m := (mp p p0 p1 gp).1
    have w := wy p p0 p1 gp
    have o : P.ro (P.be (P.el la p)) = 30 ∨ P.ro (P.be (P.el la p)) = 31 := by rcases y with y | y; exact Or.inl y.1; exact Or.inr y.1
    have w2 := w.2 (by omega) (by omega)
    refine EDG.yaw ?_ ?_
    · rw [m.1, m.2.2.2]; have := w.1.1; omega
    · rw [m.1, m.2.2.2]; exact w2.2 c y
  have goal : ∀ b : Int, 0 ≤ b → b < P.lz la → gn b ≠ 0 → ∀ c : Int, WYC P la st nm b c → gn c ≠ 0 := fun b b0 b1 g c y => ((cl b b0 b1 g).2.2 c y).2
  have phm : ∀ b k : Int, 0 ≤ b → b < P.lz la → gn b ≠ 0 → ∃ m : Int → Int, (∀ k i : Int, 0 ≤ k → k < i → i < Q.lz (Q.bp (Q.el la b)) → m k < m i) ∧ ∀ k : Int, 0 ≤ k → k < Q.lz (Q.bp (Q.el la b)) → (0 ≤ m k ∧ m k < P.lz (P.bp (P.el la b))) ∧ Q.el (Q.bp (Q.el la b)) k = P.el (P.bp (P.el la b)) (m k) ∧ ¬ GPT P st (P.el (P.bp (P.el la b)) (m k)) ∧ FPK P Q st nm (P.el (P.bp (P.el la b)) (m k)) (P.pn (P.el (P.bp (P.el la b)) (m k))) := fun b k b0 b1 g => by
    obtain ⟨m9, fp, _⟩ := mp b b0 b1 g
    obtain ⟨_, m, m1, m2, m3, m4⟩ := fp
    rw [m9.1, m9.2.1]
    refine ⟨m, m2, fun k k0 k1 => ?_⟩
    have t := m3 k k0 k1
    have ng := t.2.2.2 k0
    exact ⟨⟨t.1, t.2.1⟩, t.2.2.1, ng, h.2.2.2.1 b (m k) b0 b1 g t.1 t.2.1 (Or.inl b1) ng⟩
  have rwm : ∀ b : Int, 0 ≤ b → b < P.lz la → gn b ≠ 0 → ∃ m : Int → Int, (∀ k i : Int, 0 ≤ k → k < i → i < Q.lz (Q.br (Q.el la b)) → m k < m i) ∧ ∀ k : Int, 0 ≤ k → k < Q.lz (Q.br (Q.el la b)) → (0 ≤ m k ∧ m k < P.lz (P.br (P.el la b))) ∧ Q.el (Q.br (Q.el la b)) k = P.el (P.br (P.el la b)) (m k) ∧ ¬ GRT P st (P.el (P.br (P.el la b)) (m k)) ∧ KNR P Q st nm (P.el (P.br (P.el la b)) (m k)) := fun b b0 b1 g => by
    obtain ⟨m9, _, fp⟩ := mp b b0 b1 g
    obtain ⟨_, m, m1, m2, m3, m4⟩ := fp
    rw [m9.1, m9.2.2.1]
    refine ⟨m, m2, fun k k0 k1 => ?_⟩
    have t := m3 k k0 k1
    have ng := t.2.2.2 k0
    exact ⟨⟨t.1, t.2.1⟩, t.2.2.1, ng, h.2.2.2.2.1 b (m k) b0 b1 g t.1 t.2.1 (Or.inl b1) ng⟩
  have inj : ∀ (m : Int → Int) (n j k : Int), (∀ k i : Int, 0 ≤ k → k < i → i < n → m k < m i) → 0 ≤ j → j < n → 0 ≤ k → k < n → m j = m k → j = k := fun m n j k mm j0 j1 k0 k1 e => by
    rcases Int.lt_trichotomy j k with q | q | q
    · have := mm j k j0 q k1; omega
    · exact q
    · have := mm k j k0 q j1; omega
  have lenp : ∀ b : Int, 0 ≤ b → b < P.lz la → gn b ≠ 0 → Q.lz (Q.bp (Q.el la b)) ≤ P.lz (P.bp (P.el la b)) ∧ 0 ≤ Q.lz (Q.bp (Q.el la b)) := fun b b0 b1 g => by
    obtain ⟨m9, fp, _⟩ := mp b b0 b1 g
    rw [m9.1, m9.2.1]; exact fp.le (al.inb ⟨b, b0, b1, rfl⟩).2.2.1.2.2.1.1
  refine ⟨⟨⟨⟨by rw [z]; exact s.1, cn.2.2.1.1⟩, fun b b0 b1 g => ?_, fun b c j k b0 b1 gb c0 c1 gc j0 j1 k0 k1 e => ?_⟩, ⟨?_, fun b b0 b1 g => ?_, fun p b p0 p1 gp b0 b1 gb e i i0 i1 => ?_⟩, ⟨fun b c j k b0 b1 gb c0 c1 gc j0 j1 k0 k1 e => ?_, fun b c b0 b1 gb c0 c1 gc e => ?_⟩, fun b b0 b1 g => ?_, ?_, ⟨fun b c j k b0 b1 gb c0 c1 gc j0 j1 k0 k1 e => ?_, fun b c j k b0 b1 gb c0 c1 gc j0 j1 k0 k1 s1 s2 e => ?_, fun b c j k b0 b1 gb c0 c1 gc j0 j1 k0 k1 s2 e => ?_⟩, ?_, fun p p0 p1 gp e => ?_, fun b b0 b1 g o => ?_⟩, fun b b0 b1 g => ⟨fun k k0 k1 => ?_, fun k k0 k1 => ?_⟩⟩
  · rw [z] at b1
    have m := (mp b b0 b1 g).1
    have w := wy b b0 b1 g
    have rg := (cm.2.1 b b0 b1).2
    rw [m.1, m.2.2.2]
    refine ⟨fun q => ?_, fun q => w.1.2.1 (w.1.1.mp q)⟩
    have w2 := w.2 rg.1 (by have := w.1.1; omega)
    exact ⟨goal b b0 b1 g _ w2.1.1, goal b b0 b1 g _ w2.1.2⟩
  · rw [z] at b1 c1
    obtain ⟨m, mm, mk⟩ := phm b 0 b0 b1 gb
    obtain ⟨m', mm', mk'⟩ := phm c 0 c0 c1 gc
    have t := mk j j0 j1
    have t' := mk' k k0 k1
    rw [t.2.1, t'.2.1] at e
    obtain ⟨e1, e2⟩ := nd.2.1 b c (m j) (m' k) b0 b1 c0 c1 t.1.1 t.1.2 t'.1.1 t'.1.2 e
    subst e1
    refine ⟨rfl, ?_⟩
    obtain ⟨m9, fp, _⟩ := mp b b0 b1 gb
    have ee : Q.el (Q.bp (Q.el la b)) j = Q.el (Q.bp (Q.el la b)) k := by rw [t.2.1, t'.2.1, e2]
    have tk := mk k k0 k1
    rw [t.2.1, tk.2.1] at ee
    exact inj m _ j k mm j0 j1 k0 k1 (nd.2.1 b b (m j) (m k) b0 b1 b0 b1 t.1.1 t.1.2 tk.1.1 tk.1.2 ee).2
  · have l := lenp 0 (Int.le_refl 0) s.1 cn.2.2.1.1
    have q := cm.1
    omega
  · rw [z] at b1
    have m := (mp b b0 b1 g).1
    have l := lenp b b0 b1 g
    have rg := cm.2.1 b b0 b1
    have w := (wy b b0 b1 g).1.2.2.2 rg.2.1 rg.2.2
    rw [m.1] at l ⊢
    rw [m.2.2.2]
    exact ⟨by omega, w⟩
  · rw [z] at p1 b1
    have y := (edg p b p0 p1 gp e).edg.way
    obtain ⟨m, mm, mk⟩ := phm b 0 b0 b1 gb
    have t := mk i i0 i1
    obtain ⟨q, q0, q1, qe⟩ := cm.2.2 p b p0 p1 b0 b1 y.1 y.2 (m i) t.1.1 t.1.2
    rw [t.2.1]
    refine ⟨q, q0, by rw [t.2.2.2.1.1]; exact q1, ?_⟩
    rw [h.pp, (t.2.2.2.2 q q0 q1).1]; exact qe
  · rw [z] at b1 c1
    obtain ⟨m, mm, mk⟩ := rwm b b0 b1 gb
    obtain ⟨m', mm', mk'⟩ := rwm c c0 c1 gc
    have t := mk j j0 j1
    have t' := mk' k k0 k1
    rw [t.2.1, t'.2.1] at e
    obtain ⟨e1, e2⟩ := nd.1 b c (m j) (m' k) b0 b1 c0 c1 t.1.1 t.1.2 t'.1.1 t'.1.2 e
    subst e1
    refine ⟨rfl, ?_⟩
    have ee : Q.el (Q.br (Q.el la b)) j = Q.el (Q.br (Q.el la b)) k := by rw [t.2.1, t'.2.1, e2]
    have tk := mk k k0 k1
    rw [t.2.1, tk.2.1] at ee
    exact inj m _ j k mm j0 j1 k0 k1 (nd.1 b b (m j) (m k) b0 b1 b0 b1 t.1.1 t.1.2 tk.1.1 tk.1.2 ee).2
  · rw [z] at b1 c1
    rw [(mp b b0 b1 gb).1.1, (mp c c0 c1 gc).1.1, h.be, h.be] at e
    exact nd.2.2 b c b0 b1 c0 c1 e
  · rw [z] at b1
    intro S z0 f
    refine (cn.2.2.1.2 b b0 b1 g (fun c => S c) (z0 (by decide)) (fun p c sp p0 p1 c0 c1 o => ?_))
    obtain ⟨gp, gc, y⟩ := cn.2.2.2 p c p0 p1 c0 c1 o
    exact f p c sp (egd p c p0 p1 gp y) (by omega)
  · refine ⟨fun r b => A r b ∧ st r ≠ 1, ⟨fun r q => aw.1 r q.1, fun r p b p0 p1 gp e q => ?_⟩, fun b b0 b1 g => ⟨fun k k0 k1 i i0 i1 gq wq => ?_, fun k k0 k1 => ?_, ?_⟩⟩
    · rw [z] at p1
      rcases aw.2 r p b p0 p1 (edg p b p0 p1 gp e).edg q.1 with t | t
      · exact Or.inl ⟨t, q.2⟩
      · exact Or.inr (t.fdk h p0 p1 gp q.2)
    · rw [z] at b1
      obtain ⟨m, mm, mk⟩ := phm b 0 b0 b1 g
      have t := mk k k0 k1
      rw [t.2.1] at i1 gq wq ⊢
      rw [h.pp] at gq wq
      rw [h.pr, h.pu, h.pp]
      rw [t.2.2.2.1.1] at i1
      have f := t.2.2.2.2 i i0 i1
      rw [f.1] at gq ⊢
      have kx := al.kphi b0 b1 t.1.1 t.1.2
      have e0 := ((al.pik kx.1 kx.2).2.2.2.2.2.2 i i0 i1).1.1
      have e1 := al.2.2.1 _ ⟨b, b0, b1, rfl⟩ (m k) t.1.1 t.1.2 i i0 i1
      rcases f.2 with q | q
      · exact Or.inl q.2.2.2.1
      · rw [q.2.1, q.2.2]
        rcases (au b b0 b1).1 (m k) t.1.1 t.1.2 i i0 i1 with u | u
        · exact Or.inl u
        · by_cases z1 : P.ia (P.pr (P.el (P.bp (P.el la b)) (m k))) i = 0
          · exact Or.inl z1
          · have ns : st (P.ia (P.pu (P.el (P.bp (P.el la b)) (m k))) i) ≠ 1 := fun w => q.1 ⟨i1, z1, w⟩
            rcases u with u | u
            · exact Or.inr (Or.inl ⟨u, ns⟩)
            · exact Or.inr (Or.inr (u.fdk h e0 e1 gq ns))
    · rw [z] at b1
      have mb := (mp b b0 b1 g).1
      obtain ⟨m, mm, mk⟩ := rwm b b0 b1 g
      have t := mk k k0 k1
      rw [t.2.1]
      have u := (au b b0 b1).2.1 (m k) t.1.1 t.1.2
      have av : ∀ v : Int, st v ≠ 1 → AVT P la A b (m k) v → AVT Q la (fun r b => A r b ∧ st r ≠ 1) b k v := fun v ns y => by
        rcases y with y | y | y
        · exact Or.inl ⟨y, ns⟩
        · exact Or.inr (Or.inl (y.fdk h b0 b1 g ns))
        · refine Or.inr (Or.inr (y.fdk h b0 b1 g ns (fun m' mm' q q0 q1 qe ql qa => ?_)))
          rw [mb.1, mb.2.2.1] at k1
          have qk := (qa k k0 k1)
          rcases Int.lt_or_le q k with w | w
          · exact w
          · exfalso
            have tk := t.2.1
            rw [mb.1, mb.2.2.1, qk.2.2] at tk
            have ee := (nd.1 b b (m' k) (m k) b0 b1 b0 b1 qk.1 qk.2.1 t.1.1 t.1.2 tk).2
            by_cases s9 : q = k
            · rw [s9, ee] at ql; omega
            · have := mm' k q k0 (by omega) q1
              omega
      refine ⟨?_, ?_⟩
      · by_cases q : rUsA (Q.ro (P.el (P.br (P.el la b)) (m k))) (Q.rA (P.el (P.br (P.el la b)) (m k))) = 0
        · exact Or.inl q
        · obtain ⟨w1, w2, w3⟩ := t.2.2.2.usA q
          rcases u.1 with u | u
          · exact absurd u w1
          · refine Or.inr ?_
            rw [w2]; exact av _ w3 u
      · by_cases q : rUsB (Q.ro (P.el (P.br (P.el la b)) (m k))) (Q.rB (P.el (P.br (P.el la b)) (m k))) = 0
        · exact Or.inl q
        · obtain ⟨w1, w2, w3⟩ := t.2.2.2.usB q
          rcases u.2 with u | u
          · exact absurd u w1
          · refine Or.inr ?_
            rw [w2]; exact av _ w3 u
    · rw [z] at b1
      have mb := (mp b b0 b1 g).1
      have u := (au b b0 b1).2.2
      have fe := h.2.2.2.2.2 b b0 b1 g (Or.inl b1)
      have av : ∀ v : Int, st v ≠ 1 → AVT P la A b (P.lz (P.br (P.el la b))) v → AVT Q la (fun r b => A r b ∧ st r ≠ 1) b (Q.lz (Q.br (Q.el la b))) v := fun v ns y => by
        rcases y with y | y | y
        · exact Or.inl ⟨y, ns⟩
        · exact Or.inr (Or.inl (y.fdk h b0 b1 g ns))
        · refine Or.inr (Or.inr (y.fdk h b0 b1 g ns (fun m' mm' q q0 q1 qe ql qa => ?_)))
          rw [mb.1, mb.2.2.1]; exact q1
      rw [mb.1, mb.2.2.2]
      rw [mb.1] at av
      rcases fe with ⟨f1, f2, f3, f4, f5, f6⟩ | ⟨f1, f2, f3, f4, f5, f6⟩
      · refine ⟨?_, ?_⟩
        · by_cases q : rUsA (Q.ro (P.be (P.el la b))) (Q.rA (P.be (P.el la b))) = 0
          · exact Or.inl q
          · have s1 := rUsA_spec (Q.ro (P.be (P.el la b))) (Q.rA (P.be (P.el la b)))
            have s2 := rUsA_spec (P.ro (P.be (P.el la b))) (P.rA (P.be (P.el la b)))
            rcases f2 with f2 | f2
            · omega
            · have v1 : rUsA (P.ro (P.be (P.el la b))) (P.rA (P.be (P.el la b))) ≠ 0 := by omega
              rcases u.1 with u | u
              · exact absurd u v1
              · refine Or.inr ?_
                rw [f2.2.2]; exact av _ (fun w => f2.1 ⟨v1, w⟩) u
        · by_cases q : rUsB (Q.ro (P.be (P.el la b))) (Q.rB (P.be (P.el la b))) = 0
          · exact Or.inl q
          · have s1 := rUsB_spec (Q.ro (P.be (P.el la b))) (Q.rB (P.be (P.el la b)))
            have s2 := rUsB_spec (P.ro (P.be (P.el la b))) (P.rB (P.be (P.el la b)))
            rcases f3 with f3 | f3
            · omega
            · have v1 : rUsB (P.ro (P.be (P.el la b))) (P.rB (P.be (P.el la b))) ≠ 0 := by omega
              rcases u.2 with u | u
              · exact absurd u v1
              · refine Or.inr ?_
                rw [f3.2.2]; exact av _ (fun w => f3.1 ⟨v1, w⟩) u
      · have s1 := rUsA_spec (Q.ro (P.be (P.el la b))) (Q.rA (P.be (P.el la b)))
        have s2 := rUsB_spec (Q.ro (P.be (P.el la b))) (Q.rB (P.be (P.el la b)))
        exact ⟨Or.inl (by omega), Or.inl (by omega)⟩
  · rw [z] at b1 c1
    obtain ⟨m, mm, mk⟩ := phm b 0 b0 b1 gb
    obtain ⟨m', mm', mk'⟩ := phm c 0 c0 c1 gc
    have t := mk j j0 j1
    have t' := mk' k k0 k1
    rw [t.2.1, t'.2.1, t.2.2.2.1.2.1, t'.2.2.2.1.2.1] at e
    obtain ⟨e1, e2⟩ := sg.1 b c (m j) (m' k) b0 b1 c0 c1 t.1.1 t.1.2 t'.1.1 t'.1.2 e
    subst e1
    refine ⟨rfl, ?_⟩
    have ee : Q.el (Q.bp (Q.el la b)) j = Q.el (Q.bp (Q.el la b)) k := by rw [t.2.1, t'.2.1, e2]
    have tk := mk k k0 k1
    rw [t.2.1, tk.2.1] at ee
    exact inj m _ j k mm j0 j1 k0 k1 (nd.2.1 b b (m j) (m k) b0 b1 b0 b1 t.1.1 t.1.2 tk.1.1 tk.1.2 ee).2
  · rw [z] at b1 c1
    obtain ⟨m, mm, mk⟩ := rwm b b0 b1 gb
    obtain ⟨m', mm', mk'⟩ := rwm c c0 c1 gc
    have t := mk j j0 j1
    have t' := mk' k k0 k1
    rw [t.2.1, t'.2.1, t.2.2.2.1.2.1, t'.2.2.2.1.2.1] at e
    rw [t.2.1, t.2.2.2.1.1] at s1
    rw [t'.2.1, t'.2.2.2.1.1] at s2
    obtain ⟨e1, e2⟩ := sg.2.1 b c (m j) (m' k) b0 b1 c0 c1 t.1.1 t.1.2 t'.1.1 t'.1.2 s1 s2 e
    subst e1
    refine ⟨rfl, ?_⟩
    have ee : Q.el (Q.br (Q.el la b)) j = Q.el (Q.br (Q.el la b)) k := by rw [t.2.1, t'.2.1, e2]
    have tk := mk k k0 k1
    rw [t.2.1, tk.2.1] at ee
    exact inj m _ j k mm j0 j1 k0 k1 (nd.1 b b (m j) (m k) b0 b1 b0 b1 t.1.1 t.1.2 tk.1.1 tk.1.2 ee).2
  · rw [z] at b1 c1
    obtain ⟨m, mm, mk⟩ := phm b 0 b0 b1 gb
    obtain ⟨m', mm', mk'⟩ := rwm c c0 c1 gc
    have t := mk j j0 j1
    have t' := mk' k k0 k1
    rw [t.2.1, t'.2.1, t.2.2.2.1.2.1, t'.2.2.2.1.2.1] at e
    rw [t'.2.1, t'.2.2.2.1.1] at s2
    exact sg.2.2 b c (m j) (m' k) b0 b1 c0 c1 t.1.1 t.1.2 t'.1.1 t'.1.2 s2 e
  · refine Int.le_trans ?_ s.2.2.2.2.2.2.1
    unfold NSK NST
    rw [z]
    refine sumI_le (fun b b0 b1 => ?_)
    have b2 : b < P.lz la := by omega
    have bk := al.inb ⟨b, b0, b2, rfl⟩
    have l3 := bk.2.1.2.2.1.1
    have l4 := bk.2.2.1.2.2.1.1
    have cp : 0 ≤ CSR P (P.el la b) (P.lz (P.br (P.el la b))) := sumI_nn (fun k _ _ => by split <;> decide)
    show (if gn b = 0 then 0 else WSB Q la b) ≤ WSB P la b
    by_cases g : gn b = 0
    · rw [if_pos g]; unfold WSB; omega
    · rw [if_neg g]
      have l := lenp b b0 b2 g
      obtain ⟨m, mm, mk⟩ := rwm b b0 b2 g
      have lr : 0 ≤ Q.lz (Q.br (Q.el la b)) := by
        obtain ⟨m9, _, fr⟩ := mp b b0 b2 g
        rw [m9.1, m9.2.2.1]; exact (fr.le l3).2
      have key : CSR Q (Q.el la b) (Q.lz (Q.br (Q.el la b))) ≤ CSR P (P.el la b) (P.lz (P.br (P.el la b))) := by
        unfold CSR
        have e1 : sumI (fun k => if rSets (Q.ro (Q.el (Q.br (Q.el la b)) k)) = 0 then 0 else 1) (Q.lz (Q.br (Q.el la b))).toNat = sumI (fun k => (fun i => if rSets (P.ro (P.el (P.br (P.el la b)) i)) = 0 then (0 : Int) else 1) (m k)) (Q.lz (Q.br (Q.el la b))).toNat := sumI_eq (fun k k0 k1 => by
          have u := mk k k0 (by omega)
          show (if rSets (Q.ro (Q.el (Q.br (Q.el la b)) k)) = 0 then 0 else 1) = if rSets (P.ro (P.el (P.br (P.el la b)) (m k))) = 0 then (0 : Int) else 1
          rw [u.2.1, u.2.2.2.1.1])
        rw [e1]
        refine sumI_ord _ _ (fun i _ _ => by split <;> decide) (fun j j0 j1 => ?_) (fun i j i0 ij j1 => ?_)
        · have u := mk j j0 (by omega); exact ⟨u.1.1, by omega⟩
        · have u := mm i j i0 ij (by omega); omega
      unfold WSB
      omega
  · rw [z] at p1
    exact en.1 p p0 p1 (edg p 0 p0 p1 gp e).edg
  · rw [z] at b1
    have m := (mp b b0 b1 g).1
    rw [m.1] at o ⊢
    rw [m.2.2.2] at o
    exact (wy b b0 b1 g).1.2.2.1 o
  · rw [z] at b1
    obtain ⟨m, mm, mk⟩ := phm b 0 b0 b1 g
    have t := mk k k0 k1
    rw [t.2.1, t.2.2.2.1.2.2]; exact (g0 b b0 b1).1 (m k) t.1.1 t.1.2
  · rw [z] at b1
    obtain ⟨m, mm, mk⟩ := rwm b b0 b1 g
    have t := mk k k0 k1
    rw [t.2.1, t.2.2.2.1.2.2]; exact (g0 b b0 b1).2 (m k) t.1.1 t.1.2
end FSK9
