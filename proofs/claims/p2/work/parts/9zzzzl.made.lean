/-- chains of one block: the old numbers -/
theorem GTX.alone {B : Int} {ld fw rs o t l r ek eu g1 g2 rs' o' t' l' r' ek' eu' g1' g2' fo la nu : Int → Int} {T R' : Int} (h : GTX B ld fw rs o t l r ek eu g1 g2 B T R' rs' o' t' l' r' ek' eu' g1' g2' fo la nu) (hf : ∀ x : Int, 0 ≤ x → x < B → fw x = -1) : ∀ y : Int, 0 ≤ y → y < T → ld (la y) = 1 ∧ la y = fo y := fun y y0 y1 => by
  obtain ⟨b1, b2, b3, b4, b5, b6, b7, b8, b9, b10⟩ := h.blk y y0 y1
  have l1 : ld (la y) = 1 := by
    rcases h.tkn y y0 y1 with q | ⟨p, p0, p1, p2⟩
    · exact q
    · rw [hf p p0 p1] at p2; omega
  have := (h.lead (la y) b4.1 b4.2 b4.2 l1).2
  rw [b5] at this
  exact ⟨l1, this.symm⟩
theorem GAF.gfi {B : Int} {ld fw rs o t l r ek eu g1 g2 rs' o' t' l' r' ek' eu' G1 G2 fo la nu : Int → Int} {T R' : Int} (h : GAF B ld fw rs o t l r ek eu g1 g2 T R' rs' o' t' l' r' ek' eu' G1 G2 fo la nu) (hf : ∀ x : Int, 0 ≤ x → x < B → fw x = -1) (B1 : 1 ≤ B) : GFI B ld ek g1 g2 T fo nu ek' G1 G2 := by
  obtain ⟨h1, h2, X, r1, r2⟩ := h
  refine ⟨fun y y0 y1 => ?_, fun x x0 x1 e => X.lead x x0 x1 x1 e, fun e => X.zero (by omega) (Int.le_refl _) e⟩
  obtain ⟨b1, b2, b3, b4, b5, b6, b7, b8, b9, b10⟩ := X.blk y y0 y1
  have a := (X.alone hf y y0 y1).2
  refine ⟨b1, b2, b3, by rw [b7, a], fun e => ?_⟩
  rw [((r1 y).1 y0 y1).2 e, ((r2 y).1 y0 y1).2 e, b9, b10, a]
  exact ⟨rfl, rfl⟩
theorem GAF.enf {B : Int} {ld fw rs o t l r ek eu g1 g2 rs' o' t' l' r' ek' eu' G1 G2 fo la nu : Int → Int} {T R' : Int} (h : GAF B ld fw rs o t l r ek eu g1 g2 T R' rs' o' t' l' r' ek' eu' G1 G2 fo la nu) (v : ENF ek eu g1 g2 B) (hG : HGP ek g1 g2 B) (cl : GCL B ld fw ek g1 g2) (l0 : ld 0 = 1) (B1 : 1 ≤ B) : ENF ek' eu' G1 G2 T := by
  obtain ⟨h1, h2, X, r1, r2⟩ := h
  have z0 := X.zero (by omega) (Int.le_refl _) l0
  have fo0 : fo 0 = 0 := by have := (X.lead 0 (by omega) (by omega) (by omega) l0).2; rw [z0] at this; exact this
  intro y y0 y1
  obtain ⟨b1, b2, b3, b4, b5, b6, b7, b8, b9, b10⟩ := X.blk y y0 y1
  have en := v (la y) b4.1 b4.2
  have nz : ∀ w : Int, 0 ≤ w → w < T → 1 ≤ fo w → 1 ≤ w := fun w w0 w1 e => by
    by_cases q : w = 0
    · rw [q, fo0] at e; omega
    · omega
  refine ⟨fun e => ?_, fun e => ?_, fun e => ?_⟩
  · have g9 := X.goal r1 r2 hG cl y y0 y1 (by omega)
    rw [g9.1.1, g9.2.1, en.1 (by rw [← b7]; exact e)]
  · rw [b8]; exact en.2.1 (by rw [← b7]; exact e)
  · have g9 := X.goal r1 r2 hG cl y y0 y1 e
    have q := en.2.2 (by rw [← b7]; exact e)
    exact ⟨nz _ g9.1.2.1.1 g9.1.2.1.2 (by rw [g9.1.2.2]; exact q.1), nz _ g9.2.2.1.1 g9.2.2.1.2 (by rw [g9.2.2.2]; exact q.2)⟩
theorem GAF.rwf {B R : Int} {ld fw rs o t l r ek eu g1 g2 rs' o' t' l' r' ek' eu' G1 G2 fo la nu : Int → Int} {T R' : Int} (h : GAF B ld fw rs o t l r ek eu g1 g2 T R' rs' o' t' l' r' ek' eu' G1 G2 fo la nu) (v : RWF o l r R) (mR : MS B R rs) : RWF o' l' r' R' := by
  obtain ⟨h1, h2, ⟨tk, st, cp, H⟩, r1, r2⟩ := h
  intro j j0 j1
  obtain ⟨x, i, x0, x1, x2, x3, x4⟩ := H.2.1.2.1 j j0 j1
  have rx := (H.2.1.1 x x0.1 x0.2 x1).2.2 i x2 x3
  rw [← x4] at rx
  have q0 := mR.le' (a := 0) (b := x) (by omega) (by omega) (by omega)
  have q1 := mR.le' (a := x + 1) (b := B) (by omega) (by omega) (Int.le_refl _)
  have := mR.z; have := mR.e
  have w := v i (by omega) (by omega)
  rw [rx.1, rx.2.2.1, rx.2.2.2]
  exact w
/-- ROWs in front that set a register to 0 -/
theorem RWF.front {o l r o' l' r' : Int → Int} {R z : Int} (h : RWF o l r R) (z0 : 0 ≤ z) (a : ∀ i : Int, 0 ≤ i → i < z → o' i = 0 ∧ l' i = 0) (b : ∀ i : Int, z ≤ i → o' i = cpF o o 0 z R i ∧ l' i = cpF l l 0 z R i ∧ r' i = cpF r r 0 z R i) : RWF o' l' r' (R + z) := by
  intro i p q
  by_cases w : i < z
  · rw [(a i p w).1, (a i p w).2]; omega
  · have x := b i (by omega)
    rw [x.1, x.2.1, x.2.2]
    unfold cpF
    rw [if_pos (by omega), if_pos (by omega), if_pos (by omega)]
    exact h (0 + (i - z)) (by omega) (by omega)
theorem ENF.renamed {ek eu g1 g2 eu' : Int → Int} {B : Int} (v : ENF ek eu g1 g2 B) (e : RNE eu eu') : ENF ek eu' g1 g2 B := fun b b0 b1 => ⟨(v b b0 b1).1, fun k => by
  have := (v b b0 b1).2.1 k
  rcases e b with q | q
  · rw [q]; exact this
  · omega, (v b b0 b1).2.2⟩
theorem RWF.renamed {op lf rt lf' rt' : Int → Int} {R : Int} (v : RWF op lf rt R) (el : RNE lf lf') (er : RNE rt rt') : RWF op lf' rt' R := fun i i0 i1 => ⟨(v i i0 i1).1, fun e => by
  have q := (v i i0 i1).2.1 e
  rw [el.non i q.1, er.non i q.2]; exact q, fun e => by
  have w := (v i i0 i1).2.2 e
  rcases el i with z | z
  · rw [z]; exact w
  · omega⟩
/-- operands of PHIs: registers at first -/
theorem ARF.made {B C : Int} {fs ps pr as ar ar' : Int → Int} (a : ∀ q : Int, 0 ≤ q → q < C → isg (ar q)) (e : RNE ar ar') (a0 : ∀ i : Int, 0 ≤ as i) (l : ∀ x i : Int, 0 ≤ x → x < B → fs x ≤ i → i < fs (x + 1) → as i + (ps (x + 1) - ps x) ≤ C) : ARF B fs ps pr as ar' := fun q x p x0 x1 sl => by
  obtain ⟨i, k, i0, i1, k0, k1, eq, _⟩ := sl
  have := l x i x0 x1 i0 i1
  have := a0 i
  have w := a q (by omega) (by omega)
  unfold isg at w
  rcases e q with z | z
  · rw [z]; omega
  · omega
/-- what the walk numbers is come to -/
theorem FW.rch {ek g1 g2 po bp : Int → Int} {B rd : Int} (f : FW ek g1 g2 B po bp rd) : ∀ (n : Nat) (b : Int), 0 ≤ b → b < B → 0 ≤ po b → (rd - po b).toNat ≤ n → ∃ k : Nat, RA ek g1 g2 (fun _ => 0) (-1) k b := by
  intro n
  induction n with
  | zero => intro b b0 b1 p m; have := (f.pop b b0 b1 p).1; omega
  | succ n ih =>
    intro b b0 b1 p m
    by_cases z : b = 0
    · rw [z]; exact ⟨0, RA.start 0 (by omega)⟩
    · obtain ⟨q, q0, q1, ed, lt⟩ := f.par b (by omega) b1 p
      obtain ⟨k, r⟩ := ih q q0 q1 (by omega) (by omega)
      exact ⟨k + 1, r.back ed (by omega)⟩
/-- SSA made: numbers given along the tree of the ways -/
theorem SSV.made {B R P C g rd : Int} {rs op ek g1 g2 ps pr fs as po bp id pl od tg' pt' lf' rt' eu' ar' dn sd db bl : Int → Int} (c : CGD B R P C rs op tg' ek g1 g2 ps pr fs pt' as) (am : AMF B fs ps as) (en : ENF ek eu' g1 g2 B) (rw' : RWF op lf' rt' R) (va : ARF B fs ps pr as ar') (f1 : fs 1 = 0) (K : BLK B P R rs fs bl) (f : FW ek g1 g2 B po bp rd) (d : DT ek g1 g2 B ps pr po bp rd id) (o : OD B po id pl od rd) (po0 : ∀ b : Int, 0 ≤ b → b < B → 0 ≤ po b) (h : RN B P R fs ps pr as bl id pl tg' pt' lf' rt' eu' ar' dn sd db g rd (-1) (-P)) : SSV B R P C rs op tg' lf' rt' ek eu' g1 g2 ps pr fs pt' as ar' := by
  have c' := c
  obtain ⟨c1, c2, c3, c4, c5, c6, c7, c8⟩ := c'
  have P0 : 0 ≤ P := by have := c3.top 0 (by omega) (by omega); have := c3.z; omega
  have blr : ∀ s : Int, -P ≤ s → s < R → 0 ≤ bl s ∧ bl s < B := fun s a b => by
    rcases Int.lt_or_le s 0 with w | w
    · exact (K.pbl s a w).1
    · exact (K.rbl s w b).1
  have S' := SI.of f (GR.of c5) c6 d o P0 po0 blr h
  refine ⟨c, am, en, rw', va, f1, fun b b0 b1 => f.rch _ b b0 b1 (po0 b b0 b1) (Nat.le_refl _), fun s s0 s1 => ?_, bl, sd, K, S'⟩
  rcases Int.lt_or_le (TT tg' pt' P s) 0 with w | w
  · omega
  · have br := blr s s0 s1
    have q := o.rch _ br.1 br.2 (po0 _ br.1 br.2)
    have dn1 := (h.dnd s s0 s1).mpr (Or.inl ⟨q, (o.plc _ br.1 br.2 q).1⟩)
    have n := h.st.2.2.1 s s0 s1 dn1 w
    have g1000 : g ≤ 1000 := by
      have a := h.st.2.2.2.2.1
      have b := h.st.2.2.2.2.2
      have c := sg_le (f := fun j => if dn (j - P) = 1 ∧ 0 ≤ TT tg' pt' P (j - P) then 1 else 0) (g := fun j => if 0 ≤ TT tg' pt' P (j - P) then 1 else 0) (P + R).toNat (fun j _ _ => by
        show (if dn (j - P) = 1 ∧ 0 ≤ TT tg' pt' P (j - P) then 1 else 0) ≤ (if 0 ≤ TT tg' pt' P (j - P) then 1 else 0)
        by_cases x : 0 ≤ TT tg' pt' P (j - P)
        · rw [if_pos x]; split <;> omega
        · rw [if_neg x, if_neg (fun z => x z.2)]; omega)
      omega
    omega
theorem PHG.none {fo la fs pt as ar ps pr ps' pr' fs' pt' as' ar' : Int → Int} {B C T P' A' : Int} (Q : PHG fo la fs pt as ar ps pr ps' pr' 0 C T P' A' fs' pt' as' ar') (m : MS B 0 fs) (fr : ∀ z : Int, 0 ≤ z → z < T → 0 ≤ fo z ∧ fo z < B) (T1 : 1 ≤ T) (m' : MS T P' fs') (c : C = 0) : P' = 0 ∧ A' = 0 := by
  obtain ⟨q1, q2, q3, q4, i, _, h2, h3, _⟩ := Q
  have w := fr (T - 1) (by omega) (by omega)
  have z := m.zero (fo (T - 1) + 1) (by omega) (by omega)
  have e := h2 (by omega)
  have l := m'.le' (a := 0) (b := T) (by omega) (by omega) (Int.le_refl _)
  have := m'.z
  have := m'.e
  omega
theorem GAF.fr {B : Int} {ld fw rs o t l r ek eu g1 g2 rs' o' t' l' r' ek' eu' G1 G2 fo la nu : Int → Int} {T R' : Int} (h : GAF B ld fw rs o t l r ek eu g1 g2 T R' rs' o' t' l' r' ek' eu' G1 G2 fo la nu) : ∀ z : Int, 0 ≤ z → z < T → 0 ≤ fo z ∧ fo z < B := fun z a b => by
  obtain ⟨h1, h2, X, r1, r2⟩ := h
  exact (X.blk z a b).1
theorem gl_ge1 {ek g1 g2 : Int → Int} {B : Int} (hG : ∀ b : Int, 0 ≤ b → b < B → ¬ ek b = 2 → 1 ≤ g1 b ∧ 1 ≤ g2 b) {b i : Int} (h0 : 0 ≤ b) (h1 : b < B) (_h2 : 0 ≤ i) (h3 : i < gcF ek g1 g2 b) : 1 ≤ glF g1 g2 b i := by
  have k : ¬ ek b = 2 := gcF_ne (ek := ek) (g1 := g1) (g2 := g2) (by omega)
  have := hG b h0 h1 k
  unfold glF
  split <;> omega
theorem ENF.ge1 {ek eu g1 g2 : Int → Int} {B : Int} (v : ENF ek eu g1 g2 B) : ∀ b : Int, 0 ≤ b → b < B → ¬ ek b = 2 → 1 ≤ g1 b ∧ 1 ≤ g2 b := fun b a c => (v b a c).2.2
/-- the lowest bit of the first word of each block is 0 -/
def FR0 (B : Int) (f : Nat → Int64) : Prop := ∀ a : Int, 0 ≤ a → a < B → f (a * 5).toNat &&& 1 = 0
/-- a bit put: one word is another, with the same lowest bit if it isn't that one -/
def PBT (f g : Nat → Int64) (k i : Int) : Prop := ∀ j : Nat, g j = f j ∨ (j = k.toNat ∧ (¬ i % 64 = 0 → g j &&& 1 = f j &&& 1))
theorem FR0.put {B : Int} {f g : Nat → Int64} {a i : Int} (h : FR0 B f) (p : PBT f g (a * 5 + i / 64) i) (a0 : 0 ≤ a) (i0 : 1 ≤ i) (i1 : i < 300) : FR0 B g := fun b b0 b1 => by
  rcases p (b * 5).toNat with q | ⟨q, w⟩
  · rw [q]; exact h b b0 b1
  · rw [w (by omega)]; exact h b b0 b1
theorem FR0.clear {B n : Int} {f : Nat → Int64} (h : ∀ j : Nat, (j : Int) < n → f j = 0) (e : B * 5 ≤ n) : FR0 B f := fun b b0 b1 => by
  rw [h _ (by omega)]; decide
theorem zI_and63 {i : Int} (h0 : 0 ≤ i) : zI i &&& 63 = zI (i % 64) := by
  apply Int32.toBitVec_inj.mp
  rw [Int32.toBitVec_and]
  show BitVec.ofInt 32 i &&& 63#32 = BitVec.ofInt 32 (i % 64)
  obtain ⟨n, rfl⟩ : ∃ n : Nat, i = n := ⟨i.toNat, by omega⟩
  apply BitVec.eq_of_toNat_eq
  rw [BitVec.toNat_and]
  have e1 : (BitVec.ofInt 32 ((n : Nat) : Int)).toNat = n % 2 ^ 32 := by rw [BitVec.ofInt_natCast, BitVec.toNat_ofNat]
  have e2 : (BitVec.ofInt 32 ((n : Int) % 64)).toNat = n % 64 := by
    rw [show ((n : Int) % 64) = ((n % 64 : Nat) : Int) by omega, BitVec.ofInt_natCast, BitVec.toNat_ofNat]; omega
  rw [e1, e2]
  show n % 2 ^ 32 &&& (2 ^ 6 - 1) = _
  rw [Nat.and_two_pow_sub_one_eq_mod]; omega
theorem sh_bit : ∀ k < 64, ¬ k = 0 → (lI 1 <<< ((zI (k : Nat)).toInt64 &&& 63)) &&& 1 = 0 := by decide +kernel
theorem or_bit {x y : Int64} (h : y &&& 1 = 0) : (x ||| y) &&& 1 = x &&& 1 := by
  apply Int64.toBitVec_inj.mp
  have h2 : (y &&& 1).toBitVec = (0 : Int64).toBitVec := by rw [h]
  rw [Int64.toBitVec_and] at h2
  rw [Int64.toBitVec_and, Int64.toBitVec_and, Int64.toBitVec_or]
  apply BitVec.eq_of_getLsbD_eq
  intro i hi
  have h3 : (y.toBitVec &&& (1 : Int64).toBitVec).getLsbD i = (0 : Int64).toBitVec.getLsbD i := by rw [h2]
  rw [BitVec.getLsbD_and] at h3
  rw [BitVec.getLsbD_and, BitVec.getLsbD_and, BitVec.getLsbD_or]
  have h4 : (0 : Int64).toBitVec.getLsbD i = false := by
    show (0#64).getLsbD i = false
    exact BitVec.getLsbD_zero
  rw [h4] at h3
  revert h3
  cases x.toBitVec.getLsbD i <;> cases y.toBitVec.getLsbD i <;> cases (1 : Int64).toBitVec.getLsbD i <;> simp
theorem pb_bit {x y v : Int64} {i : Int} {z : Int32} (h0 : 0 ≤ i) (n : ¬ i % 64 = 0) (ez : z = zI i &&& 63) (ey : y = lI 1 <<< (z.toInt64 &&& 63)) (ev : v = x ||| y) : v &&& 1 = x &&& 1 := by
  rw [ev]
  refine or_bit ?_
  rw [ey, ez, zI_and63 h0, show i % 64 = (((i % 64).toNat : Nat) : Int) by omega]
  exact sh_bit _ (by omega) (by omega)
theorem hb_bit {x x3 x4 : Int64} {i : Int} {z : Int32} (h0 : i = 0) (ez : z = zI i &&& 63) (e3 : x3 = (x.toUInt64 >>> (z.toInt64.toUInt64 &&& Int64.toUInt64 63)).toInt64) (e4 : x4 = x3 &&& lI 1) (n : ¬ x4 = 0) : ¬ x &&& 1 = 0 := fun e => n (by
  have z0 : z.toInt64.toUInt64 &&& Int64.toUInt64 63 = 0 := by rw [ez, h0]; decide
  rw [z0, UInt64.shiftRight_zero] at e3
  rw [e4, e3]
  exact e)
theorem pcS_zero {f : Nat → Int64} {nw : Int} (h : ∀ j : Nat, (j : Int) < nw → f j = 0) : ∀ n : Nat, (n : Int) ≤ nw → pcS f (0 * nw) n = 0 := by
  intro n
  induction n with
  | zero => intro _; rfl
  | succ n ih =>
    intro e
    show pcS f (0 * nw) n + ((pcN 64 (uN (f (0 * nw + n).toNat)) : Nat) : Int) = 0
    rw [ih (by omega), show (0 * nw + (n : Int)).toNat = n by rw [Int.zero_mul]; omega, h n (by omega)]
    rfl
/-- nothing is wanted in the first block -/
theorem hwF_zero {f : Nat → Int64} {nw : Int} (h : ∀ j : Nat, (j : Int) < nw → f j = 0) (n0 : 0 ≤ nw) : sg (hwF f nw) (1 : Int).toNat = 0 := by
  show 0 + hwF f nw 0 = 0
  have := pcS_zero h nw.toNat (by omega)
  unfold hwF
  omega
