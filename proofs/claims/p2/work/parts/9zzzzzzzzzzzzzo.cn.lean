/-! constants: what stays true while states rise -/
/-- block b is come to from block 0 along ways that are open -/
def OWR9 (n : Int) (op : Int → Int) (b : Int) : Prop := ∀ S : Int → Prop, S 0 → (∀ p c : Int, S p → 0 ≤ p → p < n → 0 ≤ c → c < n → op (p * n + c) ≠ 0 → S c) → S b
/-- by what is known the end of block p leads to c -/
def WYC (P : PO) (la : Nat) (st nm : Int → Int) (p c : Int) : Prop := (P.ro (P.be (P.el la p)) = 30 ∧ c = P.bf (P.el la p)) ∨ (P.ro (P.be (P.el la p)) = 31 ∧ SOF st (P.rA (P.be (P.el la p))) (P.ra (P.be (P.el la p))) ≠ 0 ∧ ((c = P.bf (P.el la p) ∧ ¬ (SOF st (P.rA (P.be (P.el la p))) (P.ra (P.be (P.el la p))) = 1 ∧ NOF nm (P.rA (P.be (P.el la p))) (P.ra (P.be (P.el la p))) = 0)) ∨ (c = P.bs (P.el la p) ∧ ¬ (SOF st (P.rA (P.be (P.el la p))) (P.ra (P.be (P.el la p))) = 1 ∧ NOF nm (P.rA (P.be (P.el la p))) (P.ra (P.be (P.el la p))) ≠ 0))))
def CNM (P : PO) (la : Nat) (st nm op : Int → Int) : Prop := (∀ b k : Int, 0 ≤ b → b < P.lz la → 0 ≤ k → k < P.lz (P.bp (P.el la b)) → LQ9 (st (P.pt (P.el (P.bp (P.el la b)) k))) (nm (P.pt (P.el (P.bp (P.el la b)) k))) (FPA P st nm op (P.el (P.bp (P.el la b)) k) b (P.lz la) (P.pn (P.el (P.bp (P.el la b)) k)).toNat).1 (FPA P st nm op (P.el (P.bp (P.el la b)) k) b (P.lz la) (P.pn (P.el (P.bp (P.el la b)) k)).toNat).2) ∧ ∀ b j : Int, 0 ≤ b → b < P.lz la → 0 ≤ j → j < P.lz (P.br (P.el la b)) → rSets (P.ro (P.el (P.br (P.el la b)) j)) ≠ 0 → LQ9 (st (P.rt (P.el (P.br (P.el la b)) j))) (nm (P.rt (P.el (P.br (P.el la b)) j))) (RFS P st nm (P.el (P.br (P.el la b)) j)) (RFN P st nm (P.el (P.br (P.el la b)) j))
def CNV (P : PO) (la : Nat) (st nm op gn : Int → Int) : Prop := SR9 st ∧ CNM P la st nm op ∧ (gn 0 ≠ 0 ∧ ∀ b : Int, 0 ≤ b → b < P.lz la → gn b ≠ 0 → OWR9 (P.lz la) op b) ∧ ∀ p c : Int, 0 ≤ p → p < P.lz la → 0 ≤ c → c < P.lz la → op (p * P.lz la + c) ≠ 0 → gn p ≠ 0 ∧ gn c ≠ 0 ∧ WYC P la st nm p c
section CNV9
variable {P : PO} {la x : Nat} {st nm op gn st' nm' op' gn' : Int → Int} {b c i j k p t n m ch ch' r1 r2 : Int}
theorem idx_inj (c0 : 0 ≤ c) (c1 : c < n) (t0 : 0 ≤ t) (t1 : t < n) (e : p * n + c = b * n + t) : p = b ∧ c = t := by
  rcases Int.lt_trichotomy p b with h | h | h
  · have q : (p + 1) * n ≤ b * n := Int.mul_le_mul_of_nonneg_right (by omega) (by omega)
    rw [Int.add_mul, Int.one_mul] at q
    omega
  · rw [h] at e; exact ⟨h, by omega⟩
  · have q : (b + 1) * n ≤ p * n := Int.mul_le_mul_of_nonneg_right (by omega) (by omega)
    rw [Int.add_mul, Int.one_mul] at q
    omega
theorem RFS.rng (P : PO) (st nm : Int → Int) (x : Nat) : 0 ≤ RFS P st nm x ∧ RFS P st nm x ≤ 2 := FRS9.rng _ _ _ _ _
theorem RFS.mono (h : RIS st nm st' nm') (s0 : SR9 st) (s1 : SR9 st') : LQ9 (RFS P st nm x) (RFN P st nm x) (RFS P st' nm' x) (RFN P st' nm' x) := by
  have q0 := SOF_rng (g := P.rA x) (v := P.ra x) s0
  have q1 := SOF_rng (g := P.rA x) (v := P.ra x) s1
  have p0 := SOF_rng (g := P.rB x) (v := P.rb x) s0
  have p1 := SOF_rng (g := P.rB x) (v := P.rb x) s1
  unfold RFS RFN
  by_cases z : P.ro x = 0
  · rw [if_pos z, if_pos z, if_pos z, if_pos z]
    exact FRS9.mono (SOF.ris h) (LQ9.refl ⟨by decide, by decide⟩) q0 ⟨by decide, by decide⟩ q1 ⟨by decide, by decide⟩
  · rw [if_neg z, if_neg z, if_neg z, if_neg z]
    exact FRS9.mono (SOF.ris h) (SOF.ris h) q0 p0 q1 p1
theorem WYC.ris (w : WYC P la st nm p c) (h : RIS st nm st' nm') (s1 : SR9 st') : WYC P la st' nm' p c := by
  rcases w with w | ⟨w1, w2, w3⟩
  · exact Or.inl w
  · have q := SOF.ris h (g := P.rA (P.be (P.el la p))) (w := P.ra (P.be (P.el la p)))
    have q1 := SOF_rng (g := P.rA (P.be (P.el la p))) (v := P.ra (P.be (P.el la p))) s1
    unfold LQ9 at q
    refine Or.inr ⟨w1, by omega, ?_⟩
    rcases w3 with w3 | w3
    · exact Or.inl ⟨w3.1, by omega⟩
    · exact Or.inr ⟨w3.1, by omega⟩
/-- one look: the register of its PHI or row, no other setter has it -/
theorem CNV.step {s v : Int} (h : CNV P la st nm op gn) (k : STP st nm st' nm' ch ch' t s v) (r : 0 ≤ s ∧ s ≤ 2) (m : LQ9 (st t) (nm t) s v) (own : (∀ b k : Int, 0 ≤ b → b < P.lz la → 0 ≤ k → k < P.lz (P.bp (P.el la b)) → P.pt (P.el (P.bp (P.el la b)) k) = t → s = (FPA P st nm op (P.el (P.bp (P.el la b)) k) b (P.lz la) (P.pn (P.el (P.bp (P.el la b)) k)).toNat).1 ∧ v = (FPA P st nm op (P.el (P.bp (P.el la b)) k) b (P.lz la) (P.pn (P.el (P.bp (P.el la b)) k)).toNat).2) ∧ ∀ b j : Int, 0 ≤ b → b < P.lz la → 0 ≤ j → j < P.lz (P.br (P.el la b)) → rSets (P.ro (P.el (P.br (P.el la b)) j)) ≠ 0 → P.rt (P.el (P.br (P.el la b)) j) = t → s = RFS P st nm (P.el (P.br (P.el la b)) j) ∧ v = RFN P st nm (P.el (P.br (P.el la b)) j)) : CNV P la st' nm' op gn := by
  obtain ⟨h1, h2, h3, h4⟩ := h
  have ri := k.ris h1 m
  have s1 := k.sr h1 r
  refine ⟨s1, ⟨fun b i b0 b1 i0 i1 => ?_, fun b i b0 b1 i0 i1 z => ?_⟩, h3, fun p c p0 p1 c0 c1 q => ⟨(h4 p c p0 p1 c0 c1 q).1, (h4 p c p0 p1 c0 c1 q).2.1, (h4 p c p0 p1 c0 c1 q).2.2.ris ri s1⟩⟩
  · have mo := FPA.mono ri h1 s1 (fun j q => q) (P := P) (x := P.el (P.bp (P.el la b)) i) (b := b) (n := P.lz la) (op := op) (op' := op) (P.pn (P.el (P.bp (P.el la b)) i)).toNat
    refine LQ9.trans ?_ mo
    by_cases e : P.pt (P.el (P.bp (P.el la b)) i) = t
    · obtain ⟨e1, e2⟩ := own.1 b i b0 b1 i0 i1 e
      have q := k.own h1 r m
      rw [← e, e1, e2] at q; exact q
    · obtain ⟨e1, e2⟩ := k.off e
      rw [e1, e2]; exact h2.1 b i b0 b1 i0 i1
  · have mo := RFS.mono ri h1 s1 (P := P) (x := P.el (P.br (P.el la b)) i)
    refine LQ9.trans ?_ mo
    by_cases e : P.rt (P.el (P.br (P.el la b)) i) = t
    · obtain ⟨e1, e2⟩ := own.2 b i b0 b1 i0 i1 z e
      have q := k.own h1 r m
      rw [← e, e1, e2] at q; exact q
    · obtain ⟨e1, e2⟩ := k.off e
      rw [e1, e2]; exact h2.2 b i b0 b1 i0 i1 z
theorem CNV.phi (h : CNV P la st nm op gn) (sg : SNG P la) (b0 : 0 ≤ b) (b1 : b < P.lz la) (i0 : 0 ≤ i) (i1 : i < P.lz (P.bp (P.el la b))) (ex : x = P.el (P.bp (P.el la b)) i) (k : LKH P x b (P.lz la) st nm op st' nm' ch ch') : CNV P la st' nm' op gn := by
  rw [ex] at k
  refine h.step k (FPA.rng _ _ _ _ _ _ _ _) (h.2.1.1 b i b0 b1 i0 i1) ⟨fun c j c0 c1 j0 j1 e => ?_, fun c j c0 c1 j0 j1 z e => ?_⟩
  · obtain ⟨e1, e2⟩ := sg.1 c b j i c0 c1 b0 b1 j0 j1 i0 i1 e
    rw [e1, e2]; exact ⟨rfl, rfl⟩
  · exact absurd e.symm (sg.2.2 b c i j b0 b1 c0 c1 i0 i1 j0 j1 z)
theorem CNV.row (h : CNV P la st nm op gn) (sg : SNG P la) (b0 : 0 ≤ b) (b1 : b < P.lz la) (i0 : 0 ≤ i) (i1 : i < P.lz (P.br (P.el la b))) (ex : x = P.el (P.br (P.el la b)) i) (k : LKW P x st nm st' nm' ch ch') : CNV P la st' nm' op gn := by
  rw [ex] at k
  rcases k with ⟨_, e1, e2, _⟩ | ⟨z, k⟩
  · rw [e1, e2]; exact h
  · refine h.step k (RFS.rng _ _ _ _) (h.2.1.2 b i b0 b1 i0 i1 z) ⟨fun c j c0 c1 j0 j1 e => ?_, fun c j c0 c1 j0 j1 z2 e => ?_⟩
    · exact absurd e (sg.2.2 c b j i c0 c1 b0 b1 j0 j1 i0 i1 z)
    · obtain ⟨e1, e2⟩ := sg.2.1 c b j i c0 c1 b0 b1 j0 j1 i0 i1 z2 z e
      rw [e1, e2]; exact ⟨rfl, rfl⟩
theorem OWR9.mono (h : OWR9 n op b) (o : ∀ j : Int, op j ≠ 0 → op' j ≠ 0) : OWR9 n op' b := fun S z f => h S z (fun p c s p0 p1 c0 c1 q => f p c s p0 p1 c0 c1 (o _ q))
theorem CNV.go (h : CNV P la st nm op gn) (g : GOX op gn op' gn' ch ch' b t (P.lz la)) (b0 : 0 ≤ b) (b1 : b < P.lz la) (t0 : 0 ≤ t) (t1 : t < P.lz la) (gb : gn b ≠ 0) (w : WYC P la st nm b t) : CNV P la st nm op' gn' := by
  obtain ⟨h1, h2, h3, h4⟩ := h
  obtain ⟨⟨e1, e2⟩, _⟩ := g
  have up : ∀ j : Int, op j ≠ 0 → op' j ≠ 0 := fun j q => by rw [e1]; exact zupne q
  have ug : ∀ j : Int, gn j ≠ 0 → gn' j ≠ 0 := fun j q => by rw [e2]; exact zupne q
  refine ⟨h1, ⟨fun b i b0 b1 i0 i1 => (h2.1 b i b0 b1 i0 i1).trans (FPA.mono (RIS.refl h1) h1 h1 up _), h2.2⟩, ⟨ug 0 h3.1, fun c c0 c1 q => ?_⟩, fun p c p0 p1 c0 c1 q => ?_⟩
  · by_cases e : c = t
    · rw [e]
      intro S z f
      exact f b t ((h3.2 b b0 b1 gb).mono up S z f) b0 b1 t0 t1 (by rw [e1, zup_eq]; decide)
    · rw [e2, zup_ne _ _ e] at q
      exact (h3.2 c c0 c1 q).mono up
  · by_cases e : p * P.lz la + c = b * P.lz la + t
    · obtain ⟨e3, e4⟩ := idx_inj c0 c1 t0 t1 e
      rw [e3, e4]
      exact ⟨ug b gb, by rw [e2, zup_eq]; decide, w⟩
    · rw [e1, zup_ne _ _ e] at q
      obtain ⟨q1, q2, q3⟩ := h4 p c p0 p1 c0 c1 q
      exact ⟨ug p q1, ug c q2, q3⟩
theorem CNV.first (P : PO) (la : Nat) (z1 : ∀ r : Int, 0 ≤ r → r ≤ 1001 → st r = 0) (s0 : SR9 st) (z2 : ∀ j : Int, 0 ≤ j → j < P.lz la * P.lz la → op j = 0) (z3 : ∀ j : Int, 0 < j → j < P.lz la → gn j = 0) (g0 : gn 0 ≠ 0) (rp : ∀ b k : Int, 0 ≤ b → b < P.lz la → 0 ≤ k → k < P.lz (P.bp (P.el la b)) → 0 ≤ P.pt (P.el (P.bp (P.el la b)) k) ∧ P.pt (P.el (P.bp (P.el la b)) k) ≤ 1001) (rr : ∀ b k : Int, 0 ≤ b → b < P.lz la → 0 ≤ k → k < P.lz (P.br (P.el la b)) → 0 ≤ P.rt (P.el (P.br (P.el la b)) k) ∧ P.rt (P.el (P.br (P.el la b)) k) ≤ 1001) (l3 : P.lz la ≤ 300) : CNV P la st nm op gn := by
  refine ⟨s0, ⟨fun b k b0 b1 k0 k1 => Or.inl (z1 _ (rp b k b0 b1 k0 k1).1 (rp b k b0 b1 k0 k1).2), fun b k b0 b1 k0 k1 _ => Or.inl (z1 _ (rr b k b0 b1 k0 k1).1 (rr b k b0 b1 k0 k1).2)⟩, ⟨g0, fun b b0 b1 q => ?_⟩, fun p c p0 p1 c0 c1 q => ?_⟩
  · by_cases e : b = 0
    · rw [e]; exact fun S z _ => z
    · exact absurd (z3 b (by omega) b1) q
  · have mi := mul_in p0 p1 c0 c1 l3
    exact absurd (z2 _ (by omega) (by omega)) q
end CNV9
/-! a round of constants -/
def MEA9 (st op gn : Int → Int) (n : Int) : Int := sumI (fun r => 2 - st r) 1002 + un op (n * n).toNat + un gn n.toNat
theorem MEA9.nn {st op gn : Int → Int} {n : Int} (s : SR9 st) : 0 ≤ MEA9 st op gn n := by
  have a := un_rng op (n * n).toNat
  have b := un_rng gn n.toNat
  have c : 0 ≤ sumI (fun r => 2 - st r) 1002 := sumI_nn (fun i _ _ => by have := s i; omega)
  unfold MEA9; omega
/-- nothing has changed in this round, or something rose -/
def RND (n : Int) (s0 m0 o0 g0 st nm op gn : Int → Int) (ch : Int) : Prop := (ch = 0 ∧ st = s0 ∧ nm = m0 ∧ op = o0 ∧ gn = g0) ∨ (ch = 1 ∧ MEA9 st op gn n < MEA9 s0 o0 g0 n)
/-- block b is closed: what can be told there is told, where it leads is come to -/
def CLB (P : PO) (la : Nat) (st nm op gn : Int → Int) (b : Int) : Prop := (∀ k : Int, 0 ≤ k → k < P.lz (P.bp (P.el la b)) → (FPA P st nm op (P.el (P.bp (P.el la b)) k) b (P.lz la) (P.pn (P.el (P.bp (P.el la b)) k)).toNat).1 ≠ 0 → st (P.pt (P.el (P.bp (P.el la b)) k)) ≠ 0) ∧ (∀ j : Int, 0 ≤ j → j < P.lz (P.br (P.el la b)) → rSets (P.ro (P.el (P.br (P.el la b)) j)) ≠ 0 → RFS P st nm (P.el (P.br (P.el la b)) j) ≠ 0 → st (P.rt (P.el (P.br (P.el la b)) j)) ≠ 0) ∧ ∀ c : Int, WYC P la st nm b c → op (b * P.lz la + c) ≠ 0 ∧ gn c ≠ 0
/-- in the round: i blocks, j PHIs and k rows of the next are done -/
def CIV (P : PO) (la : Nat) (s0 m0 o0 g0 st nm op gn : Int → Int) (ch i j k : Int) : Prop := CNV P la st nm op gn ∧ RND (P.lz la) s0 m0 o0 g0 st nm op gn ch ∧ (ch = 0 → (∀ b : Int, 0 ≤ b → b < i → gn b ≠ 0 → CLB P la st nm op gn b) ∧ (∀ q : Int, 0 ≤ q → q < j → q < P.lz (P.bp (P.el la i)) → (FPA P st nm op (P.el (P.bp (P.el la i)) q) i (P.lz la) (P.pn (P.el (P.bp (P.el la i)) q)).toNat).1 ≠ 0 → st (P.pt (P.el (P.bp (P.el la i)) q)) ≠ 0) ∧ ∀ q : Int, 0 ≤ q → q < k → q < P.lz (P.br (P.el la i)) → rSets (P.ro (P.el (P.br (P.el la i)) q)) ≠ 0 → RFS P st nm (P.el (P.br (P.el la i)) q) ≠ 0 → st (P.rt (P.el (P.br (P.el la i)) q)) ≠ 0)
section CIV9
variable {P : PO} {la x : Nat} {s0 m0 o0 g0 st nm op gn st' nm' op' gn' : Int → Int} {b c i j k t ch ch' : Int}
theorem CIV.first (h : CNV P la st nm op gn) : CIV P la st nm op gn st nm op gn 0 0 0 0 := ⟨h, Or.inl ⟨rfl, rfl, rfl, rfl, rfl⟩, fun _ => ⟨fun b _ _ => by omega, fun q _ _ => by omega, fun q _ _ => by omega⟩⟩
theorem RND.bit {n : Int} (h : RND n s0 m0 o0 g0 st nm op gn ch) : 0 ≤ ch ∧ ch ≤ 1 := by rcases h with h | h <;> omega
theorem RND.stp {n : Int} (h : RND n s0 m0 o0 g0 st nm op gn ch) (p : (st' = st ∧ nm' = nm ∧ ch' = ch ∧ b = 0) ∨ (ch' = 1 ∧ sumI (fun r => 2 - st' r) 1002 < sumI (fun r => 2 - st r) 1002)) : RND n s0 m0 o0 g0 st' nm' op gn ch' := by
  rcases p with ⟨e1, e2, e3, _⟩ | ⟨e3, lt⟩
  · rw [e1, e2, e3]; exact h
  · refine Or.inr ⟨e3, ?_⟩
    have l2 : MEA9 st' op gn n < MEA9 st op gn n := by unfold MEA9; omega
    rcases h with ⟨_, a1, _, a3, a4⟩ | ⟨_, a⟩
    · rw [a1, a3, a4] at l2; rw [a3, a4]; exact l2
    · omega
theorem CIV.phi (h : CIV P la s0 m0 o0 g0 st nm op gn ch i j 0) (sg : SNG P la) (i0 : 0 ≤ i) (i1 : i < P.lz la) (j0 : 0 ≤ j) (j1 : j < P.lz (P.bp (P.el la i))) (ex : x = P.el (P.bp (P.el la i)) j) (rt : 0 ≤ P.pt x ∧ P.pt x ≤ 1001) (k : LKH P x i (P.lz la) st nm op st' nm' ch ch') : CIV P la s0 m0 o0 g0 st' nm' op gn ch' i (j + 1) 0 := by
  obtain ⟨h1, h2, h3⟩ := h
  have m := h1.2.1.1 i j i0 i1 j0 j1
  have pr := STP.prg k h1.1 (FPA.rng _ _ _ _ _ _ _ _) (by rw [ex]; exact m) rt.1 rt.2
  refine ⟨h1.phi sg i0 i1 j0 j1 ex k, RND.stp (b := 0) h2 (pr.imp (fun q => ⟨q.1, q.2.1, q.2.2.1, rfl⟩) id), fun z => ?_⟩
  rcases pr with ⟨e1, e2, e3, e4⟩ | ⟨e, _⟩
  · rw [e1, e2]
    obtain ⟨a, b, c⟩ := h3 (by omega)
    refine ⟨a, fun q q0 q1 q2 => ?_, fun q q0 q1 => by omega⟩
    by_cases e : q = j
    · rw [e, ← ex]; exact e4
    · exact b q q0 (by omega) q2
  · omega
theorem CIV.row (h : CIV P la s0 m0 o0 g0 st nm op gn ch i j k) (sg : SNG P la) (i0 : 0 ≤ i) (i1 : i < P.lz la) (k0 : 0 ≤ k) (k1 : k < P.lz (P.br (P.el la i))) (ex : x = P.el (P.br (P.el la i)) k) (rt : 0 ≤ P.rt x ∧ P.rt x ≤ 1001) (w : LKW P x st nm st' nm' ch ch') : CIV P la s0 m0 o0 g0 st' nm' op gn ch' i j (k + 1) := by
  obtain ⟨h1, h2, h3⟩ := h
  have cn := h1.row sg i0 i1 k0 k1 ex w
  have pr : (st' = st ∧ nm' = nm ∧ ch' = ch ∧ (rSets (P.ro x) ≠ 0 → RFS P st nm x ≠ 0 → st (P.rt x) ≠ 0)) ∨ (ch' = 1 ∧ sumI (fun r => 2 - st' r) 1002 < sumI (fun r => 2 - st r) 1002) := by
    rcases w with ⟨z, e1, e2, e3⟩ | ⟨z, w⟩
    · exact Or.inl ⟨e1, e2, e3, fun q => absurd z q⟩
    · have m := h1.2.1.2 i k i0 i1 k0 k1 (by rw [← ex]; exact z)
      rw [← ex] at m
      exact (STP.prg w h1.1 (RFS.rng _ _ _ _) m rt.1 rt.2).imp (fun q => ⟨q.1, q.2.1, q.2.2.1, fun _ => q.2.2.2⟩) id
  refine ⟨cn, RND.stp (b := 0) h2 (pr.imp (fun q => ⟨q.1, q.2.1, q.2.2.1, rfl⟩) id), fun z => ?_⟩
  rcases pr with ⟨e1, e2, e3, e4⟩ | ⟨e, _⟩
  · rw [e1, e2]
    obtain ⟨a, b, c⟩ := h3 (by omega)
    refine ⟨a, b, fun q q0 q1 q2 => ?_⟩
    by_cases e : q = k
    · rw [e, ← ex]; exact e4
    · exact c q q0 (by omega) q2
  · omega
theorem zup_self9 (f : Int → Int) {k v : Int} (e : f k = v) : zup f k v = f := funext fun j => by
  by_cases q : j = k
  · rw [q, zup_eq, e]
  · rw [zup_ne _ _ q]
/-- where block i leads, as far as it was gone: to t -/
def GFA (ch : Int) (op gn : Int → Int) (n i t : Int) : Prop := ch = 0 → op (i * n + t) ≠ 0 ∧ gn t ≠ 0
theorem CIV.go (h : CIV P la s0 m0 o0 g0 st nm op gn ch i j k) (g : GOX op gn op' gn' ch ch' i t (P.lz la)) (i0 : 0 ≤ i) (i1 : i < P.lz la) (t0 : 0 ≤ t) (t1 : t < P.lz la) (l3 : P.lz la ≤ 300) (ro : ∀ q : Int, 0 ≤ op q ∧ op q ≤ 1) (rg : ∀ q : Int, 0 ≤ gn q ∧ gn q ≤ 1) (gb : gn i ≠ 0) (w : WYC P la st nm i t) : CIV P la s0 m0 o0 g0 st nm op' gn' ch' i j k ∧ GFA ch' op' gn' (P.lz la) i t ∧ gn' i ≠ 0 := by
  obtain ⟨h1, h2, h3⟩ := h
  have cn := h1.go g i0 i1 t0 t1 gb w
  obtain ⟨⟨e1, e2⟩, g⟩ := g
  have mi := mul_in i0 i1 t0 t1 l3
  have gi : gn' i ≠ 0 := by rw [e2]; exact zupne gb
  rcases g with ⟨a, b, c⟩ | ⟨a, c⟩
  · have r1 := ro (i * P.lz la + t)
    have r2 := rg t
    have f1 : op' = op := by rw [e1]; exact zup_self9 op (by omega)
    have f2 : gn' = gn := by rw [e2]; exact zup_self9 gn (by omega)
    rw [f1, f2, c]
    exact ⟨⟨h1, h2, h3⟩, fun _ => ⟨a, b⟩, gb⟩
  · refine ⟨⟨cn, Or.inr ⟨c, ?_⟩, fun z => by omega⟩, fun z => by omega, gi⟩
    have u1 := un_set op (k := i * P.lz la + t) (v := 1) (P.lz la * P.lz la).toNat (by omega) (by omega)
    have u2 := un_set gn (k := t) (v := 1) (P.lz la).toNat t0 (by omega)
    rw [← e1] at u1
    rw [← e2] at u2
    have lt : MEA9 st op' gn' (P.lz la) < MEA9 st op gn (P.lz la) := by unfold MEA9; omega
    rcases h2 with ⟨_, a1, _, a3, a4⟩ | ⟨_, a⟩
    · rw [a1, a3, a4] at lt; rw [a1]; exact lt
    · omega
theorem GFA.go {n f : Int} (h : GFA ch op gn n i t) (g : GOX op gn op' gn' ch ch' i f n) : GFA ch' op' gn' n i t := fun z => by
  obtain ⟨⟨e1, e2⟩, g⟩ := g
  have q := h (by omega)
  rw [e1, e2]
  exact ⟨zupne q.1, zupne q.2⟩
theorem CIV.skip (h : CIV P la s0 m0 o0 g0 st nm op gn ch i 0 0) (z : gn i = 0) : CIV P la s0 m0 o0 g0 st nm op gn ch (i + 1) 0 0 := ⟨h.1, h.2.1, fun q => ⟨fun b b0 b1 g => by
  by_cases e : b = i
  · rw [e] at g; exact absurd z g
  · exact (h.2.2 q).1 b b0 (by omega) g, fun _ _ _ => by omega, fun _ _ _ => by omega⟩⟩
theorem CIV.next (h : CIV P la s0 m0 o0 g0 st nm op gn ch i j k) (j1 : P.lz (P.bp (P.el la i)) ≤ j) (k1 : P.lz (P.br (P.el la i)) ≤ k) (w : ∀ c : Int, WYC P la st nm i c → GFA ch op gn (P.lz la) i c) : CIV P la s0 m0 o0 g0 st nm op gn ch (i + 1) 0 0 := ⟨h.1, h.2.1, fun z => ⟨fun b b0 b1 g => by
  obtain ⟨a, c, d⟩ := h.2.2 z
  by_cases e : b = i
  · rw [e]
    exact ⟨fun q q0 q1 => c q q0 (by omega) q1, fun q q0 q1 => d q q0 (by omega) q1, fun t wt => w t wt z⟩
  · exact a b b0 (by omega) g, fun _ _ _ => by omega, fun _ _ _ => by omega⟩⟩
end CIV9
/-- all is closed -/
def CLS (P : PO) (la : Nat) (st nm op gn : Int → Int) : Prop := ∀ b : Int, 0 ≤ b → b < P.lz la → gn b ≠ 0 → CLB P la st nm op gn b
theorem CIV.done {P : PO} {la : Nat} {s0 m0 o0 g0 st nm op gn : Int → Int} {ch i : Int} (h : CIV P la s0 m0 o0 g0 st nm op gn ch i 0 0) (e : P.lz la ≤ i) : CNV P la st nm op gn ∧ RND (P.lz la) s0 m0 o0 g0 st nm op gn ch ∧ (ch = 0 → CLS P la st nm op gn) := ⟨h.1, h.2.1, fun z b b0 b1 g => (h.2.2 z).1 b b0 (by omega) g⟩
