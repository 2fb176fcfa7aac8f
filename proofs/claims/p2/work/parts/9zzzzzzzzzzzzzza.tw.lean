/-! a PHI stands only for a register that two rows set; so three names go with each PHI of a block -/
def SRP (P : PO) (la : Nat) (r c i : Int) : Prop := (0 ≤ c ∧ c < P.lz la) ∧ (0 ≤ i ∧ i < P.lz (P.br (P.el la c))) ∧ rSets (P.ro (P.el (P.br (P.el la c)) i)) ≠ 0 ∧ P.rt (P.el (P.br (P.el la c)) i) = r
def TW2 (P : PO) (la : Nat) (r : Int) : Prop := ∃ c i d j : Int, SRP P la r c i ∧ SRP P la r d j ∧ ¬ (c = d ∧ i = j)
/-- where a PHI of r is wanted two rows set r -/
def FS2 (P : PO) (la : Nat) (r n : Int) (fl : Int → Int) : Prop := ∀ x : Int, 0 ≤ x → x < n → fl x ≠ 0 → TW2 P la r
section TW29
variable {L L' : List Nat} {P Q R : PO} {cO cI cZ : ClassId} {ed la : Nat} {a b c d i j n o p q r x : Int} {lv : Int → Int → Int} {st fl : Int → Int}
theorem RCH.zno : ¬ RCH P la 0 x := fun h => h (fun _ => False) (fun w => absurd rfl w) (fun _ _ s _ _ => s)
theorem TW2.of (hq : PLF Q la) (aq : ALP L Q cO cI cZ ed la) (lu : LUB Q lv la (Q.lz la) (-1)) (hz : lv 0 r ≠ 0 → SRW Q la 0 n r) (r0 : 0 ≤ r) (r1 : r ≤ 1001) (a0 : 0 ≤ a) (a1 : a < Q.lz la) (sa : SRW Q la a (Q.lz (Q.br (Q.el la a))) r) (f : FRO Q la a x) (l : lv x r ≠ 0) : TW2 Q la r := Classical.byContradiction fun no => by
  obtain ⟨i, i0, _, i1, s, e⟩ := sa
  have l0 := hq.1.1
  have only : ∀ c j : Int, SRP Q la r c j → c = a ∧ j = i := fun c j w => Classical.byContradiction fun ne => no ⟨a, i, c, j, ⟨⟨a0, a1⟩, ⟨i0, i1⟩, s, e⟩, w, fun z => ne ⟨z.1.symm, z.2.symm⟩⟩
  have x0 := f.ne0 aq l0 hq.2.2.1
  obtain ⟨ra, nd, p, dp, ep⟩ := f
  have rp := dp.2.1.rng aq.1.1 (by omega)
  have rgx := EDG.rng aq rp.1 rp.2 ep
  have rx : RCH Q la (-1) x := dp.2.1.step ep (by omega)
  have ane : a ≠ 0 := fun z => nd ⟨by rw [z]; exact fun w => x0 w.symm, ra, rx, by rw [z]; exact RCH.zno⟩
  have z0 : lv 0 r = 0 := Classical.byContradiction fun w => by
    obtain ⟨j, j0, _, j1, s2, e2⟩ := hz w
    exact ane (only 0 j ⟨⟨Int.le_refl 0, l0⟩, ⟨j0, j1⟩, s2, e2⟩).1.symm
  have up : ∀ y v : Int, 0 ≤ y → y < Q.lz la → y ≠ a → EDG Q la y v → lv v r ≠ 0 → lv y r ≠ 0 := fun y v y0 y1 ny ev w => lu y r (by omega) y1 r0 r1 ((hq.tfl aq y0 y1).mpr (Or.inr ⟨Or.inr ⟨v, ev, w⟩, fun ⟨k, k0, _, k1, s3, e3⟩ => ny (only y k ⟨⟨y0, y1⟩, ⟨k0, k1⟩, s3, e3⟩).1⟩))
  have sx : ∀ y : Int, RCH Q la a y → (lv y r = 0 ∧ y ≠ a) ∧ 0 ≤ y ∧ y < Q.lz la := fun y h => h (fun y => (lv y r = 0 ∧ y ≠ a) ∧ 0 ≤ y ∧ y < Q.lz la) (fun _ => ⟨⟨z0, fun w => ane w.symm⟩, Int.le_refl 0, l0⟩) (fun y v w ev ne => by
    have g := EDG.rng aq w.2.1 w.2.2 ev
    exact ⟨⟨Classical.byContradiction fun z => up y v w.2.1 w.2.2 w.1.2 ev z w.1.1, ne⟩, g⟩)
  have na : ¬ RCH Q la a x := fun h => l (sx x h).1.1
  have ax : a = x := Classical.byContradiction fun ne => nd ⟨ne, ra, rx, na⟩
  obtain ⟨q, rq, eq⟩ := rx.before x0
  rw [← ax] at rq eq l
  have w := sx q rq
  exact up q a w.2.1 w.2.2 w.1.2 eq l w.1.1
theorem FS2.first (h : ∀ x : Int, 0 ≤ x → x < n → fl x = 0) : FS2 P la r n fl := fun x x0 x1 q => absurd (h x x0 x1) q
theorem FS2.hfr (h : FS2 Q la r (Q.lz la) fl) (w : HFR Q la st fl (Q.lz la) x) (s : ∀ b : Int, 0 ≤ b → b < Q.lz la → st b ≠ 0 → SRW Q la b (Q.lz (Q.br (Q.el la b))) r) (hq : PLF Q la) (aq : ALP L Q cO cI cZ ed la) (lu : LUB Q lv la (Q.lz la) (-1)) (hz : lv 0 r ≠ 0 → SRW Q la 0 n r) (r0 : 0 ≤ r) (r1 : r ≤ 1001) (l : lv x r ≠ 0) : TW2 Q la r := by
  obtain ⟨a, a0, a1, k, f⟩ := w
  rcases k with k | k
  · exact TW2.of hq aq lu hz r0 r1 a0 a1 (s a a0 a1 k) f l
  · exact h a a0 a1 k
theorem FS2.put (h : FS2 P la r n fl) (t : TW2 P la r) : FS2 P la r n (zup fl x 1) := fun _ _ _ _ => t
/-- places of names: blocks one behind the other -/
theorem NSI.mono (al : ALP L P cO cI cZ ed la) (c0 : 0 ≤ c) (cd : c ≤ d) (d1 : d ≤ P.lz la) : NSM P la (fun e => e) c ≤ NSM P la (fun e => e) d := NSM.mono al (o := P.lz la) (fun e e0 e1 => ⟨e0, e1⟩) c0 cd d1
theorem NSI.row (al : ALP L P cO cI cZ ed la) (w : SRP P la r c i) : (NSM P la (fun e => e) c + P.lz (P.bp (P.el la c)) ≤ NSM P la (fun e => e) c + P.lz (P.bp (P.el la c)) + CSR P (P.el la c) i) ∧ NSM P la (fun e => e) c + P.lz (P.bp (P.el la c)) + CSR P (P.el la c) i < NSM P la (fun e => e) (c + 1) := by
  have h1 := CSR.nn (P := P) (y := P.el la c) w.2.1.1
  have h2 := CSR.yes (P := P) (y := P.el la c) w.2.1.1 w.2.2.1
  have h3 := CSR.le (P := P) (y := P.el la c) (k := i + 1) (r := P.lz (P.br (P.el la c))) (by have := w.2.1; omega) (by have := w.2.1; omega)
  have h4 : NSM P la (fun e => e) (c + 1) = NSM P la (fun e => e) c + WSB P la c := NSM.succ w.1.1
  have h5 : WSB P la c = P.lz (P.bp (P.el la c)) + CSR P (P.el la c) (P.lz (P.br (P.el la c))) := rfl
  exact ⟨by omega, by omega⟩
theorem NSI.apart (al : ALP L P cO cI cZ ed la) (w : SRP P la r c i) (v : SRP P la o d j) (ne : ¬ (c = d ∧ i = j)) : NSM P la (fun e => e) c + P.lz (P.bp (P.el la c)) + CSR P (P.el la c) i ≠ NSM P la (fun e => e) d + P.lz (P.bp (P.el la d)) + CSR P (P.el la d) j := fun e => by
  have rw9 := NSI.row al w
  have rv := NSI.row al v
  have pw := (al.inb ⟨c, w.1.1, w.1.2, rfl⟩).2.2.1.2.2.1.1
  have pv := (al.inb ⟨d, v.1.1, v.1.2, rfl⟩).2.2.1.2.2.1.1
  have wc := w.1
  have vd := v.1
  rcases Int.lt_trichotomy c d with y | y | y
  · have m := NSI.mono al (c := c + 1) (d := d) (by omega) (by omega) (by omega)
    omega
  · subst y
    exact ne ⟨rfl, CSR.inj w.2.1.1 v.2.1.1 w.2.2.1 v.2.2.1 (by omega)⟩
  · have m := NSI.mono al (c := d + 1) (d := c) (by omega) (by omega) (by omega)
    omega
theorem NSI.phi (al : ALP L P cO cI cZ ed la) (b0 : 0 ≤ b) (b1 : b < P.lz la) (q0 : 0 ≤ q) (q1 : q < P.lz (P.bp (P.el la b))) (w : SRP P la r c i) : NSM P la (fun e => e) b + q ≠ NSM P la (fun e => e) c + P.lz (P.bp (P.el la c)) + CSR P (P.el la c) i := fun e => by
  have rw9 := NSI.row al w
  have wc := w.1
  have pw := (al.inb ⟨c, w.1.1, w.1.2, rfl⟩).2.2.1.2.2.1.1
  rcases Int.lt_trichotomy c b with y | y | y
  · have m := NSI.mono al (c := c + 1) (d := b) (by omega) (by omega) (by omega)
    omega
  · subst y; omega
  · have m := NSI.mono al (c := b + 1) (d := c) (by omega) (by omega) (by omega)
    have h4 : NSM P la (fun e => e) (b + 1) = NSM P la (fun e => e) b + WSB P la b := NSM.succ b0
    have h5 : WSB P la b = P.lz (P.bp (P.el la b)) + CSR P (P.el la b) (P.lz (P.br (P.el la b))) := rfl
    have h6 := CSR.nn (P := P) (y := P.el la b) (al.inb ⟨b, b0, b1, rfl⟩).2.1.2.2.1.1
    omega
/-- three names for each PHI of a block -/
theorem TW2.three (al : ALP L P cO cI cZ ed la) (b0 : 0 ≤ b) (b1 : b < P.lz la) (dt : ∀ j k : Int, 0 ≤ j → j < k → k < P.lz (P.bp (P.el la b)) → P.pt (P.el (P.bp (P.el la b)) j) ≠ P.pt (P.el (P.bp (P.el la b)) k)) (tw : ∀ k : Int, 0 ≤ k → k < P.lz (P.bp (P.el la b)) → TW2 P la (P.pt (P.el (P.bp (P.el la b)) k))) : 3 * P.lz (P.bp (P.el la b)) ≤ NST P la := by
  have hn := (al.inb ⟨b, b0, b1, rfl⟩).2.2.1.2.2.1.1
  obtain ⟨n, en⟩ : ∃ z : Int, z = P.lz (P.bp (P.el la b)) := ⟨_, rfl⟩
  obtain ⟨t, et⟩ : ∃ z : Int → Int, z = fun k => P.pt (P.el (P.bp (P.el la b)) k) := ⟨_, rfl⟩
  have ch : ∀ k : Int, ∃ y : Int × Int × Int × Int, 0 ≤ k → k < n → SRP P la (t k) y.1 y.2.1 ∧ SRP P la (t k) y.2.2.1 y.2.2.2 ∧ ¬ (y.1 = y.2.2.1 ∧ y.2.1 = y.2.2.2) := fun k => by
    by_cases q : 0 ≤ k ∧ k < n
    · obtain ⟨c, i, d, j, h1, h2, h3⟩ := tw k q.1 (by omega)
      exact ⟨(c, i, d, j), fun _ _ => by rw [et]; exact ⟨h1, h2, h3⟩⟩
    · exact ⟨(0, 0, 0, 0), fun y z => absurd ⟨y, z⟩ q⟩
  obtain ⟨F, hF⟩ := Classical.axiomOfChoice ch
  have tne : ∀ j k : Int, 0 ≤ j → j < n → 0 ≤ k → k < n → j ≠ k → t j ≠ t k := fun j k j0 j1 k0 k1 ne => by
    rw [et]
    rcases Int.lt_trichotomy j k with y | y | y
    · exact dt j k j0 y (by omega)
    · exact absurd y ne
    · exact fun e => dt k j k0 y (by omega) e.symm
  have rne : ∀ u v c i d j : Int, SRP P la u c i → SRP P la v d j → u ≠ v → ¬ (c = d ∧ i = j) := fun u v c i d j w1 w2 ne z => by
    obtain ⟨z1, z2⟩ := z
    subst z1; subst z2
    exact ne (w1.2.2.2.symm.trans w2.2.2.2)
  obtain ⟨ps, eps⟩ : ∃ z : Int → Int → Int, z = fun c i => NSM P la (fun e => e) c + P.lz (P.bp (P.el la c)) + CSR P (P.el la c) i := ⟨_, rfl⟩
  have apart : ∀ u v c i d j : Int, SRP P la u c i → SRP P la v d j → ¬ (c = d ∧ i = j) → ps c i ≠ ps d j := fun u v c i d j w1 w2 ne => by rw [eps]; exact NSI.apart al w1 w2 ne
  have phir : ∀ q u c i : Int, 0 ≤ q → q < n → SRP P la u c i → NSM P la (fun e => e) b + q ≠ ps c i := fun q u c i q0 q1 w => by rw [eps]; exact NSI.phi al b0 b1 q0 (by omega) w
  have top : NSM P la (fun e => e) (P.lz la) = NST P la := rfl
  have nz : 0 ≤ NSM P la (fun e => e) b := by
    have m := NSI.mono al (c := 0) (d := b) (Int.le_refl 0) b0 (by omega)
    have z : NSM P la (fun e => e) 0 = 0 := NSM.zero
    omega
  have rng : ∀ u c i : Int, SRP P la u c i → 0 ≤ ps c i ∧ ps c i < NST P la := fun u c i w => by
    have h1 := NSI.row al w
    have h2 := NSI.mono al (c := c + 1) (d := P.lz la) (by have := w.1; omega) (by have := w.1; omega) (Int.le_refl _)
    have h3 := NSI.mono al (c := 0) (d := c) (Int.le_refl 0) w.1.1 (by have := w.1; omega)
    have h4 : NSM P la (fun e => e) 0 = 0 := NSM.zero
    have h5 := (al.inb ⟨c, w.1.1, w.1.2, rfl⟩).2.2.1.2.2.1.1
    rw [eps]
    exact ⟨by show 0 ≤ NSM P la (fun e => e) c + P.lz (P.bp (P.el la c)) + CSR P (P.el la c) i; omega, by show NSM P la (fun e => e) c + P.lz (P.bp (P.el la c)) + CSR P (P.el la c) i < NST P la; omega⟩
  have prg : ∀ q : Int, 0 ≤ q → q < n → NSM P la (fun e => e) b + q < NST P la := fun q q0 q1 => by
    have h2 := NSI.mono al (c := b + 1) (d := P.lz la) (by omega) (by omega) (Int.le_refl _)
    have h4 : NSM P la (fun e => e) (b + 1) = NSM P la (fun e => e) b + WSB P la b := NSM.succ b0
    have h5 : WSB P la b = P.lz (P.bp (P.el la b)) + CSR P (P.el la b) (P.lz (P.br (P.el la b))) := rfl
    have h6 := CSR.nn (P := P) (y := P.el la b) (al.inb ⟨b, b0, b1, rfl⟩).2.1.2.2.1.1
    omega
  have nn : 0 ≤ NST P la := by
    have m := NSI.mono al (c := b) (d := P.lz la) b0 (by omega) (Int.le_refl _)
    omega
  have f1 : ∀ k : Int, n ≤ k → k < 2 * n → SRP P la (t (k - n)) (F (k - n)).1 (F (k - n)).2.1 := fun k k0 k1 => (hF (k - n) (by omega) (by omega)).1
  have f2 : ∀ k : Int, 2 * n ≤ k → k < 3 * n → SRP P la (t (k - 2 * n)) (F (k - 2 * n)).2.2.1 (F (k - 2 * n)).2.2.2 := fun k k0 k1 => (hF (k - 2 * n) (by omega) (by omega)).2.1
  rw [← en]
  refine pigI (f := fun k => if k < n then NSM P la (fun e => e) b + k else if k < 2 * n then ps (F (k - n)).1 (F (k - n)).2.1 else ps (F (k - 2 * n)).2.2.1 (F (k - 2 * n)).2.2.2) nn (fun k k0 k1 => ?_) (fun j k j0 jk k1 => ?_)
  · show 0 ≤ (if k < n then NSM P la (fun e => e) b + k else if k < 2 * n then ps (F (k - n)).1 (F (k - n)).2.1 else ps (F (k - 2 * n)).2.2.1 (F (k - 2 * n)).2.2.2) ∧ (if k < n then NSM P la (fun e => e) b + k else if k < 2 * n then ps (F (k - n)).1 (F (k - n)).2.1 else ps (F (k - 2 * n)).2.2.1 (F (k - 2 * n)).2.2.2) < NST P la
    by_cases q : k < n
    · rw [if_pos q]
      have := prg k k0 q
      exact ⟨by omega, this⟩
    · rw [if_neg q]
      by_cases q2 : k < 2 * n
      · rw [if_pos q2]; exact rng _ _ _ (f1 k (by omega) q2)
      · rw [if_neg q2]; exact rng _ _ _ (f2 k (by omega) k1)
  · show (if j < n then NSM P la (fun e => e) b + j else if j < 2 * n then ps (F (j - n)).1 (F (j - n)).2.1 else ps (F (j - 2 * n)).2.2.1 (F (j - 2 * n)).2.2.2) ≠ (if k < n then NSM P la (fun e => e) b + k else if k < 2 * n then ps (F (k - n)).1 (F (k - n)).2.1 else ps (F (k - 2 * n)).2.2.1 (F (k - 2 * n)).2.2.2)
    by_cases qj : j < n
    · rw [if_pos qj]
      by_cases qk : k < n
      · rw [if_pos qk]; omega
      · rw [if_neg qk]
        by_cases qk2 : k < 2 * n
        · rw [if_pos qk2]; exact phir j _ _ _ j0 qj (f1 k (by omega) qk2)
        · rw [if_neg qk2]; exact phir j _ _ _ j0 qj (f2 k (by omega) k1)
    · rw [if_neg qj, if_neg (show ¬ k < n from by omega)]
      by_cases qj2 : j < 2 * n
      · rw [if_pos qj2]
        by_cases qk2 : k < 2 * n
        · rw [if_pos qk2]
          exact apart _ _ _ _ _ _ (f1 j (by omega) qj2) (f1 k (by omega) qk2) (rne _ _ _ _ _ _ (f1 j (by omega) qj2) (f1 k (by omega) qk2) (tne _ _ (by omega) (by omega) (by omega) (by omega) (by omega)))
        · rw [if_neg qk2]
          refine apart _ _ _ _ _ _ (f1 j (by omega) qj2) (f2 k (by omega) k1) ?_
          by_cases e : j - n = k - 2 * n
          · rw [← e]; exact (hF (j - n) (by omega) (by omega)).2.2
          · exact rne _ _ _ _ _ _ (f1 j (by omega) qj2) (f2 k (by omega) k1) (tne _ _ (by omega) (by omega) (by omega) (by omega) e)
      · rw [if_neg qj2, if_neg (show ¬ k < 2 * n from by omega)]
        exact apart _ _ _ _ _ _ (f2 j (by omega) (by omega)) (f2 k (by omega) k1) (rne _ _ _ _ _ _ (f2 j (by omega) (by omega)) (f2 k (by omega) k1) (tne _ _ (by omega) (by omega) (by omega) (by omega) (by omega)))
end TW29
