/-! how many registers are set by two rows; which block of the Code a block of the function is; limits where a list grows -/
section LMT9E
variable {L L' L2 Ls Lt Lo E : List Nat} {P P' Q Q' R R' Po : PO} {F : Nat → Prop} {cO cI cZ : ClassId} {ed la lb lr lp x q z : Nat} {n p n' p' s c s' c' t o r a b y : Int} {w : Nat → Int}
noncomputable def TWI (P : PO) (la : Nat) (r : Int) : Int := @ite Int (TW2 P la r) (Classical.propDecidable _) 1 0
theorem TWI.yes (h : TW2 P la r) : TWI P la r = 1 := if_pos h
theorem TWI.no (h : ¬ TW2 P la r) : TWI P la r = 0 := if_neg h
theorem TWI.rng (P : PO) (la : Nat) (r : Int) : 0 ≤ TWI P la r ∧ TWI P la r ≤ 1 := by
  rcases Classical.em (TW2 P la r) with h | h
  · rw [TWI.yes h]; decide
  · rw [TWI.no h]; decide
/-- of the registers below o, those that are set by two rows -/
noncomputable def TWN (P : PO) (la : Nat) (o : Int) : Int := sumI (TWI P la) o.toNat
theorem TWN.zero : TWN P la 0 = 0 := rfl
theorem TWN.succ (o0 : 0 ≤ o) : TWN P la (o + 1) = TWN P la o + TWI P la o := sumI_toN9 _ o0
theorem TWN.nn (P : PO) (la : Nat) (o : Int) : 0 ≤ TWN P la o := sumI_nn (fun i _ _ => (TWI.rng P la i).1)
theorem TWN.row : ∀ n : Nat, ∃ f : Int → Int, (∀ k : Int, 0 ≤ k → k < TWN P la n → TW2 P la (f k) ∧ f k < n) ∧ ∀ j k : Int, 0 ≤ j → j < k → k < TWN P la n → f j ≠ f k
  | 0 => ⟨fun k => k, fun k k0 k1 => by have e : TWN P la ((0 : Nat) : Int) = 0 := rfl; omega, fun j k j0 jk k1 => by have e : TWN P la ((0 : Nat) : Int) = 0 := rfl; omega⟩
  | n + 1 => by
    obtain ⟨f, h1, h2⟩ := TWN.row n
    have e : TWN P la ((n + 1 : Nat) : Int) = TWN P la n + TWI P la n := TWN.succ (o := (n : Int)) (by omega)
    rcases Classical.em (TW2 P la n) with w | w
    · rw [TWI.yes w] at e
      refine ⟨zup f (TWN P la n) n, fun k k0 k1 => ?_, fun j k j0 jk k1 => ?_⟩
      · by_cases q : k = TWN P la n
        · rw [q, zup_eq]; exact ⟨w, by omega⟩
        · rw [zup_ne _ _ q]; have r := h1 k k0 (by omega); exact ⟨r.1, by omega⟩
      · have r := h1 j j0 (by omega)
        rw [zup_ne _ _ (show ¬ j = TWN P la n from by omega)]
        by_cases q : k = TWN P la n
        · rw [q, zup_eq]; omega
        · rw [zup_ne _ _ q]; exact h2 j k j0 jk (by omega)
    · rw [TWI.no w] at e
      exact ⟨f, fun k k0 k1 => by have r := h1 k k0 (by omega); exact ⟨r.1, by omega⟩, fun j k j0 jk k1 => h2 j k j0 jk (by omega)⟩
/-- two names for each -/
theorem TWC.two {n : Int} {f : Int → Int} (al : ALP L P cO cI cZ ed la) (l0 : 0 < P.lz la) (tw : ∀ k : Int, 0 ≤ k → k < n → TW2 P la (f k)) (dt : ∀ j k : Int, 0 ≤ j → j < k → k < n → f j ≠ f k) : 2 * n ≤ NST P la := by
  have ch : ∀ k : Int, ∃ y : Int × Int × Int × Int, 0 ≤ k → k < n → SRP P la (f k) y.1 y.2.1 ∧ SRP P la (f k) y.2.2.1 y.2.2.2 ∧ ¬ (y.1 = y.2.2.1 ∧ y.2.1 = y.2.2.2) := fun k => by
    by_cases q : 0 ≤ k ∧ k < n
    · obtain ⟨c, i, d, j, h1, h2, h3⟩ := tw k q.1 q.2
      exact ⟨(c, i, d, j), fun _ _ => ⟨h1, h2, h3⟩⟩
    · exact ⟨(0, 0, 0, 0), fun y z => absurd ⟨y, z⟩ q⟩
  obtain ⟨G, hG⟩ := Classical.axiomOfChoice ch
  have tne : ∀ j k : Int, 0 ≤ j → j < n → 0 ≤ k → k < n → j ≠ k → f j ≠ f k := fun j k j0 j1 k0 k1 ne => by
    rcases Int.lt_trichotomy j k with y | y | y
    · exact dt j k j0 y k1
    · exact absurd y ne
    · exact fun e => dt k j k0 y j1 e.symm
  have rne : ∀ u v c i d j : Int, SRP P la u c i → SRP P la v d j → u ≠ v → ¬ (c = d ∧ i = j) := fun u v c i d j w1 w2 ne z => by
    obtain ⟨z1, z2⟩ := z
    subst z1; subst z2
    exact ne (w1.2.2.2.symm.trans w2.2.2.2)
  obtain ⟨ps, eps⟩ : ∃ z : Int → Int → Int, z = fun c i => NSM P la (fun e => e) c + P.lz (P.bp (P.el la c)) + CSR P (P.el la c) i := ⟨_, rfl⟩
  have apart : ∀ u v c i d j : Int, SRP P la u c i → SRP P la v d j → ¬ (c = d ∧ i = j) → ps c i ≠ ps d j := fun u v c i d j w1 w2 ne => by rw [eps]; exact NSI.apart al w1 w2 ne
  have rng : ∀ u c i : Int, SRP P la u c i → 0 ≤ ps c i ∧ ps c i < NST P la := fun u c i w => by
    have h1 := NSI.row al w
    have h2 := NSI.mono al (c := c + 1) (d := P.lz la) (by have := w.1; omega) (by have := w.1; omega) (Int.le_refl _)
    have h3 := NSI.mono al (c := 0) (d := c) (Int.le_refl 0) w.1.1 (by have := w.1; omega)
    have h4 : NSM P la (fun e => e) 0 = 0 := NSM.zero
    have h5 := (al.inb ⟨c, w.1.1, w.1.2, rfl⟩).2.2.1.2.2.1.1
    have h6 : NSM P la (fun e => e) (P.lz la) = NST P la := rfl
    rw [eps]
    exact ⟨by show 0 ≤ NSM P la (fun e => e) c + P.lz (P.bp (P.el la c)) + CSR P (P.el la c) i; omega, by show NSM P la (fun e => e) c + P.lz (P.bp (P.el la c)) + CSR P (P.el la c) i < NST P la; omega⟩
  have nn : 0 ≤ NST P la := by
    have m := NSI.mono al (c := 0) (d := P.lz la) (Int.le_refl 0) (by omega) (Int.le_refl _)
    have h4 : NSM P la (fun e => e) 0 = 0 := NSM.zero
    have h5 : NSM P la (fun e => e) (P.lz la) = NST P la := rfl
    omega
  have f1 : ∀ k : Int, 0 ≤ k → k < n → SRP P la (f k) (G k).1 (G k).2.1 := fun k k0 k1 => (hG k k0 k1).1
  have f2 : ∀ k : Int, n ≤ k → k < 2 * n → SRP P la (f (k - n)) (G (k - n)).2.2.1 (G (k - n)).2.2.2 := fun k k0 k1 => (hG (k - n) (by omega) (by omega)).2.1
  refine pigI (f := fun k => if k < n then ps (G k).1 (G k).2.1 else ps (G (k - n)).2.2.1 (G (k - n)).2.2.2) nn (fun k k0 k1 => ?_) (fun j k j0 jk k1 => ?_)
  · show 0 ≤ (if k < n then ps (G k).1 (G k).2.1 else ps (G (k - n)).2.2.1 (G (k - n)).2.2.2) ∧ (if k < n then ps (G k).1 (G k).2.1 else ps (G (k - n)).2.2.1 (G (k - n)).2.2.2) < NST P la
    by_cases q : k < n
    · rw [if_pos q]; exact rng _ _ _ (f1 k k0 q)
    · rw [if_neg q]; exact rng _ _ _ (f2 k (by omega) k1)
  · show (if j < n then ps (G j).1 (G j).2.1 else ps (G (j - n)).2.2.1 (G (j - n)).2.2.2) ≠ (if k < n then ps (G k).1 (G k).2.1 else ps (G (k - n)).2.2.1 (G (k - n)).2.2.2)
    by_cases qj : j < n
    · rw [if_pos qj]
      by_cases qk : k < n
      · rw [if_pos qk]; exact apart _ _ _ _ _ _ (f1 j j0 qj) (f1 k (by omega) qk) (rne _ _ _ _ _ _ (f1 j j0 qj) (f1 k (by omega) qk) (tne j k j0 qj (by omega) qk (by omega)))
      · rw [if_neg qk]
        by_cases e : j = k - n
        · rw [e]; exact apart _ _ _ _ _ _ (f1 (k - n) (by omega) (by omega)) (f2 k (by omega) k1) (hG (k - n) (by omega) (by omega)).2.2
        · exact apart _ _ _ _ _ _ (f1 j j0 qj) (f2 k (by omega) k1) (rne _ _ _ _ _ _ (f1 j j0 qj) (f2 k (by omega) k1) (tne j (k - n) j0 qj (by omega) (by omega) e))
    · rw [if_neg qj, if_neg (show ¬ k < n from by omega)]
      exact apart _ _ _ _ _ _ (f2 j (by omega) (by omega)) (f2 k (by omega) k1) (rne _ _ _ _ _ _ (f2 j (by omega) (by omega)) (f2 k (by omega) k1) (tne (j - n) (k - n) (by omega) (by omega) (by omega) (by omega) (by omega)))
theorem TWN.rows (al : ALP L Q cO cI cZ ed la) (hq : PLF Q la) (o0 : 0 ≤ o) : 2 * TWN Q la o ≤ Q.tot 2 la := by
  obtain ⟨f, h1, h2⟩ := TWN.row (P := Q) (la := la) o.toNat
  rw [Int.toNat_of_nonneg o0] at h1 h2
  have e := TWC.two al hq.1.1 (fun k k0 k1 => (h1 k k0 k1).1) h2
  have t := NST.tot9 al
  have u := hq.tot1
  omega
theorem tot_ge (al : ALP L P cO cI cZ ed la) (b0 : 0 ≤ b) (b1 : b < P.lz la) : P.lz (P.bp (P.el la b)) ≤ P.tot 1 la := by
  have q := sumI_in (f := fun i => P.lz (P.bp (P.el la i))) (n := (P.lz la).toNat) (k := b) (fun i i0 i1 => (al.inb ⟨i, i0, by omega, rfl⟩).2.2.1.2.2.1.1) b0 (by omega)
  exact q
/-- flagged blocks have more than one PRED -/
def FSM (Q : PO) (la : Nat) (r n : Int) (fl : Int → Int) : Prop := ∀ x : Int, 0 ≤ x → x < n → fl x ≠ 0 → TW2 Q la r ∧ MPR Q la x
theorem FSM.first {fl : Int → Int} (h : ∀ x : Int, 0 ≤ x → x < n → fl x = 0) : FSM Q la r n fl := fun x x0 x1 q => absurd (h x x0 x1) q
theorem FSM.put {fl : Int → Int} (h : FSM Q la r n fl) (t : TW2 Q la r ∧ MPR Q la b) : FSM Q la r n (zup fl b 1) := fun x x0 x1 q => by
  by_cases e : x = b
  · rw [e]; exact t
  · rw [zup_ne _ _ e] at q; exact h x x0 x1 q
theorem FSM.hfr {st fl : Int → Int} {lv : Int → Int → Int} (h : FSM Q la r (Q.lz la) fl) (w : HFR Q la st fl (Q.lz la) a) (s : ∀ b : Int, 0 ≤ b → b < Q.lz la → st b ≠ 0 → SRW Q la b (Q.lz (Q.br (Q.el la b))) r) (hq : PLF Q la) (aq : ALP L Q cO cI cZ ed la) (lu : LUB Q lv la (Q.lz la) (-1)) (hz : lv 0 r ≠ 0 → SRW Q la 0 n r) (r0 : 0 ≤ r) (r1 : r ≤ 1001) (l : lv a r ≠ 0) : TW2 Q la r ∧ MPR Q la a := by
  have t := FS2.hfr (fun x x0 x1 q => (h x x0 x1 q).1) w s hq aq lu hz r0 r1 l
  obtain ⟨_, _, _, _, f⟩ := w
  exact ⟨t, f.mpr aq hq.1.1 hq.2.2.1⟩
/-- PHIs of each block, while those of a register are put; they come where two blocks lead to -/
def PHTW (Q R : PO) (la : Nat) (N : Int) (fl : Int → Int) (y : Int) : Prop := ∀ c : Int, 0 ≤ c → c < Q.lz la → (c < y → R.lz (Q.bp (Q.el la c)) ≤ N + (if fl c = 0 then 0 else 1)) ∧ (y ≤ c → R.lz (Q.bp (Q.el la c)) ≤ N) ∧ (0 < R.lz (Q.bp (Q.el la c)) → MPR Q la c ∨ (c < y ∧ fl c ≠ 0))
def PHN (Q R : PO) (la : Nat) (N : Int) : Prop := ∀ c : Int, 0 ≤ c → c < Q.lz la → R.lz (Q.bp (Q.el la c)) ≤ N ∧ (0 < R.lz (Q.bp (Q.el la c)) → MPR Q la c)
theorem PHN.first (hq : PLF Q la) : PHN Q Q la 0 := fun c c0 c1 => by
  have e := (hq.1.2 c c0 c1).1
  rw [e]; exact ⟨by decide, fun q => by omega⟩
theorem PHN.pht (h : PHN Q R la n) (fl : Int → Int) : PHTW Q R la n fl 0 := fun c c0 c1 => ⟨fun q => by omega, fun _ => (h c c0 c1).1, fun q => Or.inl ((h c c0 c1).2 q)⟩
theorem PHN.le (h : PHN Q R la n) (e : n ≤ n') : PHN Q R la n' := fun c c0 c1 => ⟨Int.le_trans (h c c0 c1).1 e, (h c c0 c1).2⟩
theorem PHTW.skip {fl : Int → Int} (h : PHTW Q R la n fl y) (z : fl y = 0) : PHTW Q R la n fl (y + 1) := fun c c0 c1 => by
  have q := h c c0 c1
  refine ⟨fun k => ?_, fun k => q.2.1 (by omega), fun k => (q.2.2 k).imp id (fun w => ⟨by have := w.1; omega, w.2⟩)⟩
  by_cases e : c = y
  · have := q.2.1 (by omega); rw [e, z, if_pos rfl]; rw [e] at this; omega
  · exact q.1 (by omega)
theorem PHTW.put {fl : Int → Int} (h : PHTW Q R la n fl y) (z : fl y ≠ 0) (n1 : R'.lz (Q.bp (Q.el la y)) = R.lz (Q.bp (Q.el la y)) + 1) (n2 : ∀ c : Int, 0 ≤ c → c < Q.lz la → c ≠ y → R'.lz (Q.bp (Q.el la c)) = R.lz (Q.bp (Q.el la c))) : PHTW Q R' la n fl (y + 1) := fun c c0 c1 => by
  have q := h c c0 c1
  by_cases e : c = y
  · refine ⟨fun _ => ?_, fun k => by omega, fun _ => Or.inr ⟨by omega, by rw [e]; exact z⟩⟩
    have := q.2.1 (by omega)
    rw [e] at this ⊢
    rw [n1, if_neg z]; omega
  · rw [n2 c c0 c1 e]
    exact ⟨fun k => q.1 (by omega), fun k => q.2.1 (by omega), fun k => (q.2.2 k).imp id (fun w => ⟨by have := w.1; omega, w.2⟩)⟩
theorem PHTW.fne {fl : Int → Int} (h : PHTW Q R la n fl y) (s : PHS Q R la) (f : FNE R R' la) : PHTW Q R' la n fl y := fun c c0 c1 => by
  have e : R'.lz (Q.bp (Q.el la c)) = R.lz (Q.bp (Q.el la c)) := by
    have u := s.2 c c0 c1
    have v := f.2 c c0 (by rw [s.1]; exact c1)
    have k := v.2.2.1.1
    rw [u.1, u.2.1.1] at k
    exact k
  rw [e]; exact h c c0 c1
theorem PHN.fne (h : PHN Q R la n) (s : PHS Q R la) (f : FNE R R' la) : PHN Q R' la n := fun c c0 c1 => by
  have e : R'.lz (Q.bp (Q.el la c)) = R.lz (Q.bp (Q.el la c)) := by
    have u := s.2 c c0 c1
    have v := f.2 c c0 (by rw [s.1]; exact c1)
    have k := v.2.2.1.1
    rw [u.1, u.2.1.1] at k
    exact k
  rw [e]; exact h c c0 c1
theorem PHTW.nop {fl : Int → Int} (h : PHTW Q R la n fl y) (e : Q.lz la ≤ y) (k : ∀ c : Int, 0 ≤ c → c < Q.lz la → fl c ≠ 0 → n + 1 ≤ n') (m : ∀ c : Int, 0 ≤ c → c < Q.lz la → fl c ≠ 0 → MPR Q la c) (k1 : n ≤ n') : PHN Q R la n' := fun c c0 c1 => by
  have w := h c c0 c1
  have q := w.1 (by omega)
  refine ⟨?_, fun z => (w.2.2 z).elim id (fun u => m c c0 c1 u.2)⟩
  by_cases f : fl c = 0
  · rw [if_pos f] at q; omega
  · rw [if_neg f] at q; have := k c c0 c1 f; omega
/-- which block of the Code a block of the function is: the first is the first; one with more than one PRED is below 60 -/
def LBQ (Q P : PO) (la lb : Nat) : Prop := ∀ b k : Int, 0 ≤ b → b < P.lz la → 0 ≤ k → k < P.lz lb → P.el la b = P.el lb k → (b = 0 → k = 0) ∧ (60 ≤ k → ¬ MPR Q la b)
theorem LBQ.same (h : LBQ Q P la lb) (a : P'.lz la = P.lz la) (a' : ∀ i : Int, 0 ≤ i → i < P.lz la → P'.el la i = P.el la i) (b : P'.lz lb = P.lz lb ∧ ∀ i : Int, 0 ≤ i → i < P.lz lb → P'.el lb i = P.el lb i) : LBQ Q P' la lb := fun x k x0 x1 k0 k1 e => by
  rw [a] at x1
  rw [b.1] at k1
  rw [a' x x0 x1, b.2 k k0 k1] at e
  exact h x k x0 x1 k0 k1 e
theorem LBQ.kin {g : Nat → Nat} (h : LBQ Q P la lb) : LBQ Q (P.kin g) la lb := h
theorem LBQ.att (h : LBQ Q P la lb) (t : ATT L P cO cI cZ ed la lb lr lp n p s c) (k : KEP E L P L' P' la) : LBQ Q P' la lb := h.same k.2.2.1 k.2.2.2 (t.lists k.keg lb (Or.inl rfl))
theorem MPR.edy (e : EDY P Q la) (h : MPR Q la b) : MPR P la b := by
  obtain ⟨p, q, hp, hq, ne, e1, e2⟩ := h
  rw [e.1] at hp hq
  exact ⟨p, q, hp, hq, ne, (e.2 p hp.1 hp.2 b).mp e1, (e.2 q hq.1 hq.2 b).mp e2⟩
theorem LBQ.edy (h : LBQ Q P la lb) (e : EDY Q Q' la) : LBQ Q' P la lb := fun b k b0 b1 k0 k1 q => ⟨(h b k b0 b1 k0 k1 q).1, fun z m => (h b k b0 b1 k0 k1 q).2 z (MPR.edy e m)⟩
theorem LBQ.dre {st aa sm : Int → Int} {m : Int} (h : LBQ P P la lb) (d : DRE P Q la st aa sm m) (al : ALP L P cO cI cZ ed la) (kst : KST P la st) (b9 : Q.lz lb = P.lz lb ∧ ∀ i : Int, 0 ≤ i → i < P.lz lb → Q.el lb i = P.el lb i) : LBQ Q Q la lb := fun b k b0 b1 k0 k1 e => by
  have zm := d.1.2.1
  rw [zm] at b1
  rw [b9.1] at k1
  have on := d.on b0 b1
  rw [d.2.1 b b0 b1, b9.2 k k0 k1] at e
  have r := h (sm b) k on.1.1 on.1.2 k0 k1 e
  refine ⟨fun z => r.1 (by rw [z]; exact d.1.2.2.2), fun z mp => r.2 z ?_⟩
  obtain ⟨p, q, hp, hq, ne, e1, e2⟩ := mp
  rw [zm] at hp hq
  have op := d.on hp.1 hp.2
  have oq := d.on hq.1 hq.2
  refine ⟨sm p, sm q, op.1, oq.1, fun ee => ne ?_, (d.edg al kst hp.1 hp.2 b0 b1).mp e1, (d.edg al kst hq.1 hq.2 b0 b1).mp e2⟩
  have t1 := op.2.2
  rw [ee, oq.2.2] at t1
  exact t1.symm
/-- block 0's ROWS have grown -/
theorem LMT.br0 (h : LMT L P la lb lr lp) (B : LBQ Q P la lb) (g : GL1 x q L P L' P') (kx : P.kd x = 30) (fx : P.fl x = 1 ∨ P.le x ∉ L) (l0 : 0 < P.lz la) (mb : P.el la 0 ∈ L) (kb : P.kd (P.el la 0) = 12) (ex : x = P.br (P.el la 0)) (mx : x ∈ L) : LMT L' P' la lb lr lp := by
  have ob := h.2.2.1.2.2.1 _ mb (kc12 kb)
  have ol := h.2.2.1.2.2.2
  have kl := h.2.1.1
  have nl : ∀ l : Nat, l = la ∨ l = lb ∨ l = lr ∨ l = lp → x ≠ l := fun l e q => by
    have o := ol l e
    rw [← q, ex, ob.1] at o
    have k := (kl l e).2
    rw [← q, ex, ← o, kc12 kb] at k
    omega
  refine h.gl1 g mx kx fx ⟨nl _ (Or.inr (Or.inl rfl)), nl _ (Or.inr (Or.inr (Or.inl rfl))), nl _ (Or.inr (Or.inr (Or.inr rfl)))⟩ ⟨fun e => absurd e (nl _ (Or.inl rfl)), fun k k0 k1 => ⟨fun e k9 => ?_, fun e => ?_⟩⟩
  · have bk := (h.2.1.2.2.2 k k0 k1).1
    have o := (h.2.2.1.2.2.1 _ bk.1 bk.2).1
    rw [← e, ex, ob.1] at o
    have := (B 0 k (Int.le_refl 0) l0 k0 k1 o).1 rfl
    omega
  · have bk := (h.2.1.2.2.2 k k0 k1).1
    have o := (h.2.2.1.2.2.1 _ bk.1 bk.2).2.1
    rw [← e, ex, ob.1] at o
    exact absurd (ex.symm.trans (e.trans (by rw [← o]))) ob.2.2
/-- a block's PHIs have grown -/
theorem LMT.bpy (h : LMT L P la lb lr lp) (B : LBQ Q P la lb) (g : GL1 x q L P L' P') (kx : P.kd x = 30) (fx : P.fl x = 1 ∨ P.le x ∉ L) (y0 : 0 ≤ y) (y1 : y < P.lz la) (mb : P.el la y ∈ L) (kb : P.kd (P.el la y) = 12) (ex : x = P.bp (P.el la y)) (mx : x ∈ L) (mp : MPR Q la y) (cx : P'.cap x ≤ 823) : LMT L' P' la lb lr lp := by
  have ob := h.2.2.1.2.2.1 _ mb (kc12 kb)
  have ol := h.2.2.1.2.2.2
  have kl := h.2.1.1
  have nl : ∀ l : Nat, l = la ∨ l = lb ∨ l = lr ∨ l = lp → x ≠ l := fun l e q => by
    have o := ol l e
    rw [← q, ex, ob.2.1] at o
    have k := (kl l e).2
    rw [← q, ex, ← o, kc12 kb] at k
    omega
  refine h.gl1 g mx kx fx ⟨nl _ (Or.inr (Or.inl rfl)), nl _ (Or.inr (Or.inr (Or.inl rfl))), nl _ (Or.inr (Or.inr (Or.inr rfl)))⟩ ⟨fun e => absurd e (nl _ (Or.inl rfl)), fun k k0 k1 => ⟨fun e k9 => ?_, fun e => ⟨cx, fun k9 => ?_⟩⟩⟩
  · omega
  · have bk := (h.2.1.2.2.2 k k0 k1).1
    have o := (h.2.2.1.2.2.1 _ bk.1 bk.2).2.1
    rw [← e, ex, ob.2.1] at o
    exact absurd mp ((B y k y0 y1 k0 k1 o).2 k9)
/-- a row's numbers put -/
theorem LMT.rw1 (h : LMT L P la lb lr lp) (w : RW1 x P P') (k : P.kc x ≠ 18) : LMT L P' la lb lr lp := by
  have e : P'.2.1 = P.2.1 := by rw [w.1]
  have nx : ∀ l : Nat, P.kc l = 18 → l ≠ x := fun l q e => k (by rw [← e]; exact q)
  refine LMT.nat h e (fun l q => ?_) (fun z m kz f => ?_)
  · have m := h.2.1.1 l (Or.inr q)
    refine ⟨w.2 l (nx l m.2) 0, fun i _ _ => ?_⟩
    unfold PO.el PO.le PO.oa; rw [w.1]
  · show P'.1 0 z = 0
    rw [w.2 z (nx z kz) 0]; exact (h.2.2.1.1 z m kz).2 f
theorem LMT.mem (h : LMT L P la lb lr lp) (m : ∀ z : Nat, z ∈ L' ↔ z ∈ L) : LMT L' P la lb lr lp :=
  ⟨⟨fun z k => h.1.1 z ((m z).mp k), h.1.2⟩, ⟨fun l e => ⟨(m l).mpr (h.2.1.1 l e).1, (h.2.1.1 l e).2⟩, fun i i0 i1 => ⟨(m _).mpr (h.2.1.2.1 i i0 i1).1, (h.2.1.2.1 i i0 i1).2⟩, fun i i0 i1 => ⟨(m _).mpr (h.2.1.2.2.1 i i0 i1).1, (h.2.1.2.2.1 i i0 i1).2⟩, fun k k0 k1 => by
      have r := h.2.1.2.2.2 k k0 k1
      exact ⟨⟨(m _).mpr r.1.1, r.1.2⟩, ⟨(m _).mpr r.2.1.1, r.2.1.2⟩, ⟨(m _).mpr r.2.2.1.1, r.2.2.1.2⟩, (m _).mpr r.2.2.2.1, r.2.2.2.2⟩⟩,
    ⟨fun z k kz => ⟨fun f => ⟨(m _).mpr ((h.2.2.1.1 z ((m z).mp k) kz).1 f).1, ((h.2.2.1.1 z ((m z).mp k) kz).1 f).2⟩, (h.2.2.1.1 z ((m z).mp k) kz).2⟩, fun z k kz => ⟨(m _).mpr (h.2.2.1.2.1 z ((m z).mp k) kz).1, (h.2.2.1.2.1 z ((m z).mp k) kz).2⟩, fun z k kz => h.2.2.1.2.2.1 z ((m z).mp k) kz, h.2.2.1.2.2.2⟩, h.2.2.2⟩
/-- one more operand, told of the lower part of the pool -/
theorem PXC.mix9 (w : PXC x Ls P Lo Po) (pm : L.Perm (Ls ++ Lt)) (hr : ∀ z : Nat, z ∈ Lt → 43 ≤ P.kd z) (dj : ∀ z : Nat, z ∈ Lo → z ∉ Lt) : PXC x L P (Lo ++ Lt) (Po.mix Lt P) := by
  have ex := ext_mix (P := P) (P' := Po) dj
  have cs : ∀ z : Nat, z ∈ L → z ∈ Ls ∨ z ∈ Lt := fun z m => List.mem_append.mp (pm.mem_iff.mp m)
  have sm : ∀ z : Nat, z ∈ Lt → z ∈ Lo ++ Lt ∧ SM9 z P (Po.mix Lt P) := fun z m => ⟨List.mem_append_right _ m, mix_in m⟩
  refine ⟨fun z m => ?_, fun z m ns => ?_, fun z m n => ?_⟩
  · rcases cs z m with q | q
    · have r := w.1 z q
      have e := (ex z r.1).2
      exact ⟨(ex z r.1).1, (e.2.1 0).trans r.2.1, (e.2.1 8).trans r.2.2.1, (e.2.1 9).trans r.2.2.2⟩
    · have e := (sm z q).2
      exact ⟨(sm z q).1, e.2.1 0, e.2.1 8, e.2.1 9⟩
  · rcases cs z m with q | q
    · have r := w.2.1 z q ns
      have e := ex z r.1
      exact ⟨e.1, fun f => (e.2.1 f).trans (r.2.1 f), fun f => (e.2.2.1 f).trans (r.2.2.1 f), e.2.2.2.1.trans r.2.2.2.1, e.2.2.2.2.1.trans r.2.2.2.2.1, e.2.2.2.2.2.trans r.2.2.2.2.2⟩
    · exact sm z q
  · rcases List.mem_append.mp m with q | q
    · have n' : z ∉ Ls := fun k => n (pm.mem_iff.mpr (List.mem_append_left _ k))
      have r := w.2.2 z q n'
      have e := ((ex z q).2).2.1 0
      show 40 ≤ (Po.mix Lt P).2.1 0 z
      rw [e]; exact r
    · exact absurd (pm.mem_iff.mpr (List.mem_append_right _ q)) n
end LMT9E
