/-! how many registers a function sets; what toPlain finds unused -/
/-- a place of its own for what sets r -/
def PLC9 (P : PO) (la : Nat) (r v : Int) : Prop := (∃ c i : Int, SRP P la r c i ∧ v = NSM P la (fun e => e) c + P.lz (P.bp (P.el la c)) + CSR P (P.el la c) i) ∨ ∃ c q : Int, ((0 ≤ c ∧ c < P.lz la) ∧ 0 ≤ q ∧ q < P.lz (P.bp (P.el la c))) ∧ P.pt (P.el (P.bp (P.el la c)) q) = r ∧ v = NSM P la (fun e => e) c + q
/-- what is taken is set by the function -/
def TKN9 (P : PO) (la : Nat) (w : Int → Int) : Prop := ∀ r : Int, 0 ≤ r → r ≤ 1001 → w r ≠ 0 → SETR P la r
/-- what PHIs before the j-th of block b set is taken -/
def TKD9 (P : PO) (la : Nat) (w : Int → Int) (b j : Int) : Prop := ∀ c k : Int, 0 ≤ c → c < P.lz la → 0 ≤ k → k < P.lz (P.bp (P.el la c)) → (c < b ∨ (c = b ∧ k < j)) → w (P.pt (P.el (P.bp (P.el la c)) k)) ≠ 0
section UNU9
variable {L : List Nat} {P : PO} {cO cI cZ : ClassId} {ed la x : Nat} {b c d i j k n q r s v : Int} {f w w' : Int → Int}
theorem SETR.phi (b0 : 0 ≤ b) (b1 : b < P.lz la) (k0 : 0 ≤ k) (k1 : k < P.lz (P.bp (P.el la b))) (e : x = P.el (P.bp (P.el la b)) k) : SETR P la (P.pt x) := Or.inl ⟨b, k, b0, b1, k0, k1, by rw [e]⟩
theorem SETR.row (b0 : 0 ≤ b) (b1 : b < P.lz la) (k0 : 0 ≤ k) (k1 : k < P.lz (P.br (P.el la b))) (e : x = P.el (P.br (P.el la b)) k) (o : rSets (P.ro x) ≠ 0) : SETR P la (P.rt x) := Or.inr ⟨b, k, b0, b1, k0, k1, by rw [← e]; exact o, by rw [e]⟩
theorem PLC9.of (h : SETR P la r) : ∃ v : Int, PLC9 P la r v := by
  rcases h with ⟨b, k, b0, b1, k0, k1, e⟩ | ⟨b, k, b0, b1, k0, k1, o, e⟩
  · exact ⟨_, Or.inr ⟨b, k, ⟨⟨b0, b1⟩, k0, k1⟩, e, rfl⟩⟩
  · exact ⟨_, Or.inl ⟨b, k, ⟨⟨b0, b1⟩, ⟨k0, k1⟩, o, e⟩, rfl⟩⟩
theorem NST.nn9 (al : ALP L P cO cI cZ ed la) (l0 : 0 < P.lz la) : 0 ≤ NST P la := by
  have m := NSI.mono al (c := 0) (d := P.lz la) (Int.le_refl 0) (by omega) (Int.le_refl _)
  have h4 : NSM P la (fun e => e) 0 = 0 := NSM.zero
  have h5 : NSM P la (fun e => e) (P.lz la) = NST P la := rfl
  omega
theorem NSI.phr (al : ALP L P cO cI cZ ed la) (b0 : 0 ≤ b) (b1 : b < P.lz la) (q0 : 0 ≤ q) (q1 : q < P.lz (P.bp (P.el la b))) : 0 ≤ NSM P la (fun e => e) b + q ∧ NSM P la (fun e => e) b + q < NSM P la (fun e => e) (b + 1) ∧ NSM P la (fun e => e) (b + 1) ≤ NST P la := by
  have m := NSI.mono al (c := 0) (d := b) (Int.le_refl 0) b0 (by omega)
  have z : NSM P la (fun e => e) 0 = 0 := NSM.zero
  have h2 := NSI.mono al (c := b + 1) (d := P.lz la) (by omega) (by omega) (Int.le_refl _)
  have h4 : NSM P la (fun e => e) (b + 1) = NSM P la (fun e => e) b + WSB P la b := NSM.succ b0
  have h5 : WSB P la b = P.lz (P.bp (P.el la b)) + CSR P (P.el la b) (P.lz (P.br (P.el la b))) := rfl
  have h6 := CSR.nn (P := P) (y := P.el la b) (al.inb ⟨b, b0, b1, rfl⟩).2.1.2.2.1.1
  have h7 : NSM P la (fun e => e) (P.lz la) = NST P la := rfl
  exact ⟨by omega, by omega, by omega⟩
theorem PLC9.rng (al : ALP L P cO cI cZ ed la) (h : PLC9 P la r v) : 0 ≤ v ∧ v < NST P la := by
  rcases h with ⟨c, i, w, e⟩ | ⟨c, q, ⟨⟨c0, c1⟩, q0, q1⟩, _, e⟩
  · have h1 := NSI.row al w
    have h2 := NSI.mono al (c := c + 1) (d := P.lz la) (by have := w.1; omega) (by have := w.1; omega) (Int.le_refl _)
    have h3 := NSI.mono al (c := 0) (d := c) (Int.le_refl 0) w.1.1 (by have := w.1; omega)
    have h4 : NSM P la (fun e => e) 0 = 0 := NSM.zero
    have h5 := (al.inb ⟨c, w.1.1, w.1.2, rfl⟩).2.2.1.2.2.1.1
    have h6 : NSM P la (fun e => e) (P.lz la) = NST P la := rfl
    omega
  · have h1 := NSI.phr al c0 c1 q0 q1
    omega
theorem PLC9.inj (al : ALP L P cO cI cZ ed la) (h : PLC9 P la r v) (k : PLC9 P la s v) : r = s := by
  rcases h with ⟨c, i, w, e⟩ | ⟨c, q, ⟨⟨c0, c1⟩, q0, q1⟩, t, e⟩ <;> rcases k with ⟨d, j, u, g⟩ | ⟨d, p, ⟨⟨d0, d1⟩, p0, p1⟩, z, g⟩
  · refine Classical.byContradiction fun ne => NSI.apart al w u (fun y => ne ?_) (e.symm.trans g)
    obtain ⟨y1, y2⟩ := y
    subst y1; subst y2
    exact w.2.2.2.symm.trans u.2.2.2
  · exact absurd (g.symm.trans e) (NSI.phi al d0 d1 p0 p1 w)
  · exact absurd (e.symm.trans g) (NSI.phi al c0 c1 q0 q1 u)
  · have h1 := NSI.phr al c0 c1 q0 q1
    have h2 := NSI.phr al d0 d1 p0 p1
    rcases Int.lt_trichotomy c d with y | y | y
    · have m := NSI.mono al (c := c + 1) (d := d) (by omega) (by omega) (by omega)
      omega
    · subst y
      have y : q = p := by omega
      subst y
      exact t.symm.trans z
    · have m := NSI.mono al (c := d + 1) (d := c) (by omega) (by omega) (by omega)
      omega
theorem SETR.le (al : ALP L P cO cI cZ ed la) (l0 : 0 < P.lz la) (h : ∀ k : Int, 0 ≤ k → k < n → SETR P la k) : n ≤ NST P la := by
  have ch : ∀ k : Int, ∃ v : Int, 0 ≤ k → k < n → PLC9 P la k v := fun k => by
    by_cases q : 0 ≤ k ∧ k < n
    · obtain ⟨v, hv⟩ := PLC9.of (h k q.1 q.2)
      exact ⟨v, fun _ _ => hv⟩
    · exact ⟨0, fun y z => absurd ⟨y, z⟩ q⟩
  obtain ⟨G, hG⟩ := Classical.axiomOfChoice ch
  refine pigI (f := G) (NST.nn9 al l0) (fun k k0 k1 => (hG k k0 k1).rng al) (fun j k j0 jk k1 e => ?_)
  have a := hG j j0 (by omega)
  rw [e] at a
  have t := a.inj al (hG k (by omega) k1)
  omega
theorem TKN9.zero (h : ∀ r : Int, 0 ≤ r → r ≤ 1001 → w r = 0) : TKN9 P la w := fun r r0 r1 n => absurd (h r r0 r1) n
theorem TKN9.put (h : TKN9 P la w) (e : w' = zup w c v) (s : SETR P la c) : TKN9 P la w' := fun r r0 r1 n => by
  by_cases q : r = c
  · rw [q]; exact s
  · rw [e, zup_ne _ _ q] at n; exact h r r0 r1 n
theorem TKD9.first (P : PO) (la : Nat) (w : Int → Int) : TKD9 P la w 0 0 := fun c k c0 _ k0 _ q => by omega
theorem TKD9.put (h : TKD9 P la w b j) (e : w' = zup w c v) (v0 : v ≠ 0) : TKD9 P la w' b j := fun d k d0 d1 k0 k1 q => by
  have u := h d k d0 d1 k0 k1 q
  rw [e]
  by_cases t : P.pt (P.el (P.bp (P.el la d)) k) = c
  · rw [t, zup_eq]; exact v0
  · rw [zup_ne _ _ t]; exact u
theorem TKD9.next (h : TKD9 P la w b j) (e : x = P.el (P.bp (P.el la b)) j) (n : w (P.pt x) ≠ 0) : TKD9 P la w b (j + 1) := fun c k c0 c1 k0 k1 q => by
  by_cases t : c = b ∧ k = j
  · rw [t.1, t.2, ← e]; exact n
  · exact h c k c0 c1 k0 k1 (by omega)
theorem TKD9.blk (h : TKD9 P la w b j) (e : P.lz (P.bp (P.el la b)) ≤ j) : TKD9 P la w (b + 1) 0 := fun c k c0 c1 k0 k1 q => by
  by_cases t : c = b
  · exact h c k c0 c1 k0 k1 (Or.inr ⟨t, by rw [t] at k1; omega⟩)
  · exact h c k c0 c1 k0 k1 (by omega)
theorem TKD9.all (h : TKD9 P la w b j) (e : P.lz la ≤ b) (z : w r = 0) : ∀ c k : Int, 0 ≤ c → c < P.lz la → 0 ≤ k → k < P.lz (P.bp (P.el la c)) → P.pt (P.el (P.bp (P.el la c)) k) ≠ r := fun c k c0 c1 k0 k1 q => h c k c0 c1 k0 k1 (Or.inl (by omega)) (by rw [q]; exact z)
end UNU9
