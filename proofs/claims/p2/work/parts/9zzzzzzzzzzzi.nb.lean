/-! a function seen by its parts: what is the same over a change that touches tables alone -/
def PVE (P P' : PO) (x : Nat) : Prop := (∀ f : Nat, P'.1 f x = P.1 f x) ∧ (P'.pp x = P.pp x ∧ P'.pu x = P.pu x ∧ P'.pr x = P.pr x) ∧ P'.ia (P.pp x) = P.ia (P.pp x) ∧ P'.ia (P.pu x) = P.ia (P.pu x) ∧ P'.ia (P.pr x) = P.ia (P.pr x)
def BVE (P P' : PO) (y : Nat) : Prop := (P'.bp y = P.bp y ∧ P'.br y = P.br y ∧ P'.be y = P.be y ∧ P'.bf y = P.bf y ∧ P'.bs y = P.bs y) ∧ (P'.lz (P.bp y) = P.lz (P.bp y) ∧ ∀ k : Int, 0 ≤ k → k < P.lz (P.bp y) → P'.el (P.bp y) k = P.el (P.bp y) k ∧ PVE P P' (P.el (P.bp y) k)) ∧ (P'.lz (P.br y) = P.lz (P.br y) ∧ ∀ k : Int, 0 ≤ k → k < P.lz (P.br y) → P'.el (P.br y) k = P.el (P.br y) k ∧ ∀ f : Nat, P'.1 f (P.el (P.br y) k) = P.1 f (P.el (P.br y) k)) ∧ ∀ f : Nat, P'.1 f (P.be y) = P.1 f (P.be y)
def FNE (P P' : PO) (la : Nat) : Prop := P'.lz la = P.lz la ∧ ∀ b : Int, 0 ≤ b → b < P.lz la → P'.el la b = P.el la b ∧ BVE P P' (P.el la b)
/-- r is set by the function -/
def SETR (P : PO) (la : Nat) (r : Int) : Prop := (∃ b k : Int, 0 ≤ b ∧ b < P.lz la ∧ 0 ≤ k ∧ k < P.lz (P.bp (P.el la b)) ∧ P.pt (P.el (P.bp (P.el la b)) k) = r) ∨ ∃ b k : Int, 0 ≤ b ∧ b < P.lz la ∧ 0 ≤ k ∧ k < P.lz (P.br (P.el la b)) ∧ rSets (P.ro (P.el (P.br (P.el la b)) k)) ≠ 0 ∧ P.rt (P.el (P.br (P.el la b)) k) = r
def URW (P : PO) (la x : Nat) : Prop := (rUsA (P.ro x) (P.rA x) = 0 ∨ SETR P la (P.ra x)) ∧ (rUsB (P.ro x) (P.rB x) = 0 ∨ SETR P la (P.rb x))
/-- what is used is set -/
def USD (P : PO) (la : Nat) : Prop := ∀ b : Int, 0 ≤ b → b < P.lz la → (∀ k : Int, 0 ≤ k → k < P.lz (P.bp (P.el la b)) → ∀ i : Int, 0 ≤ i → i < P.pn (P.el (P.bp (P.el la b)) k) → P.ia (P.pr (P.el (P.bp (P.el la b)) k)) i = 0 ∨ SETR P la (P.ia (P.pu (P.el (P.bp (P.el la b)) k)) i)) ∧ (∀ k : Int, 0 ≤ k → k < P.lz (P.br (P.el la b)) → URW P la (P.el (P.br (P.el la b)) k)) ∧ URW P la (P.be (P.el la b)) ∧ rSets (P.ro (P.be (P.el la b))) = 0
/-- every block is come to -/
def ALR (P : PO) (la : Nat) : Prop := ∀ b : Int, 0 ≤ b → b < P.lz la → RCH P la (-1) b
/-- how many rows of a block set something -/
def CSR (P : PO) (y : Nat) (r : Int) : Int := sumI (fun k => if rSets (P.ro (P.el (P.br y) k)) = 0 then 0 else 1) r.toNat
def WSB (P : PO) (la : Nat) (b : Int) : Int := P.lz (P.bp (P.el la b)) + CSR P (P.el la b) (P.lz (P.br (P.el la b)))
def NST (P : PO) (la : Nat) : Int := sumI (fun b => WSB P la b) (P.lz la).toNat
def NUM (P : PO) (la : Nat) (ord : Int → Int) (d : Int) : Int := sumI (fun e => WSB P la (ord e)) d.toNat
/-- the first j PHIs and r rows of block b have something to become -/
def BSS (P : PO) (la : Nat) (g : Int → Int) (b j r : Int) : Prop := (∀ k : Int, 0 ≤ k → k < j → k < P.lz (P.bp (P.el la b)) → 0 ≤ g (P.pt (P.el (P.bp (P.el la b)) k))) ∧ ∀ k : Int, 0 ≤ k → k < r → k < P.lz (P.br (P.el la b)) → rSets (P.ro (P.el (P.br (P.el la b)) k)) ≠ 0 → 0 ≤ g (P.rt (P.el (P.br (P.el la b)) k))
def ASS (P : PO) (la : Nat) (g ord : Int → Int) (d : Int) : Prop := ∀ e : Int, 0 ≤ e → e < d → BSS P la g (ord e) 40000 40000
section NBD9
variable {P P' : PO} {la x y : Nat} {idm ord g gr : Int → Int} {o n b d j k r t v : Int} {L L' : List Nat} {cO cI cZ : ClassId} {ed : Nat}
theorem ALP.fne {m : Nat} (h : ALP L P cO cI cZ ed la) (c : CHX m L P L' P') (hk : 43 ≤ m) : FNE P P' la := by
  have el : ∀ (q l : Nat) (i : Int), LOK L P cO q l → 0 ≤ i → i < P.lz l → P'.el l i = P.el l i := fun q l i lk i0 i1 => by
    have le : P'.le l = P.le l := (c.1 l lk.1).2.2.1 1
    have oa := (c.1 _ (lk.row i0 i1).1).2.2.2.1
    unfold PO.el
    rw [le, oa]
  have ia : ∀ z : Nat, z ∈ L → P.kd z ≤ 42 → P'.ia z = P.ia z := fun z m q => (c.1 z m).2.2.2.2.2 (by omega)
  refine ⟨(c.1 la h.lok.1).2.1 0, fun b b0 b1 => ⟨el 12 la b h.lok b0 b1, ?_⟩⟩
  have bk := h.inb ⟨b, b0, b1, rfl⟩
  have s := c.1 _ bk.1.1
  refine ⟨⟨s.2.2.1 1, s.2.2.1 2, s.2.2.1 3, s.2.1 0, s.2.1 1⟩, ⟨(c.1 _ bk.2.2.1.1).2.1 0, fun k k0 k1 => ⟨el 15 _ k bk.2.2.1 k0 k1, ?_⟩⟩, ⟨(c.1 _ bk.2.1.1).2.1 0, fun k k0 k1 => ⟨el 17 _ k bk.2.1 k0 k1, (c.1 _ (bk.2.1.2.2.2.2 k k0 k1).2.1).2.1⟩⟩, (c.1 _ bk.2.2.2.1.1).2.1⟩
  have q := (bk.2.2.1.2.2.2.2 k k0 k1).2
  have w := h.pik q.1 q.2
  have t := c.1 _ q.1
  exact ⟨t.2.1, ⟨t.2.2.1 1, t.2.2.1 2, t.2.2.1 3⟩, ia _ w.2.1.1 (by rw [w.2.1.2.1]; decide), ia _ w.2.2.1.1 (by rw [w.2.2.1.2.1]; decide), ia _ w.2.2.2.1.1 (by rw [w.2.2.2.1.2.1]; decide)⟩
theorem NDR.fne (h : NDR P la) (v : FNE P P' la) : NDR P' la := by
  obtain ⟨z, w⟩ := v
  refine ⟨fun b c j k b0 b1 c0 c1 j0 j1 k0 k1 e => ?_, fun b c j k b0 b1 c0 c1 j0 j1 k0 k1 e => ?_, fun b c b0 b1 c0 c1 e => ?_⟩ <;> rw [z] at b1 c1 <;> obtain ⟨eb, wb⟩ := w b b0 b1 <;> obtain ⟨ec, wc⟩ := w c c0 c1
  · rw [eb, wb.1.2.1, wb.2.2.1.1] at j1
    rw [ec, wc.1.2.1, wc.2.2.1.1] at k1
    rw [eb, ec, wb.1.2.1, wc.1.2.1, (wb.2.2.1.2 j j0 j1).1, (wc.2.2.1.2 k k0 k1).1] at e
    exact h.1 b c j k b0 b1 c0 c1 j0 j1 k0 k1 e
  · rw [eb, wb.1.1, wb.2.1.1] at j1
    rw [ec, wc.1.1, wc.2.1.1] at k1
    rw [eb, ec, wb.1.1, wc.1.1, (wb.2.1.2 j j0 j1).1, (wc.2.1.2 k k0 k1).1] at e
    exact h.2.1 b c j k b0 b1 c0 c1 j0 j1 k0 k1 e
  · rw [eb, ec, wb.1.2.2.1, wc.1.2.2.1] at e
    exact h.2.2 b c b0 b1 c0 c1 e
theorem SETR.fne (h : SETR P la r) (v : FNE P P' la) : SETR P' la r := by
  obtain ⟨z, w⟩ := v
  rcases h with ⟨b, k, b0, b1, k0, k1, e⟩ | ⟨b, k, b0, b1, k0, k1, s, e⟩
  · obtain ⟨eb, wb⟩ := w b b0 b1
    have q := wb.2.1.2 k k0 k1
    refine Or.inl ⟨b, k, b0, by rw [z]; exact b1, k0, ?_, ?_⟩
    · rw [eb, wb.1.1, wb.2.1.1]; exact k1
    · rw [eb, wb.1.1, q.1]; exact (q.2.1 0).trans e
  · obtain ⟨eb, wb⟩ := w b b0 b1
    have q := wb.2.2.1.2 k k0 k1
    refine Or.inr ⟨b, k, b0, by rw [z]; exact b1, k0, ?_, ?_, ?_⟩
    · rw [eb, wb.1.2.1, wb.2.2.1.1]; exact k1
    · rw [eb, wb.1.2.1, q.1]
      have e0 : P'.ro (P.el (P.br (P.el la b)) k) = P.ro (P.el (P.br (P.el la b)) k) := q.2 0
      rw [e0]; exact s
    · rw [eb, wb.1.2.1, q.1]; exact (q.2 1).trans e
theorem URW.fne (h : URW P la x) (v : FNE P P' la) (e : ∀ f : Nat, P'.1 f x = P.1 f x) : URW P' la x := by
  have a0 : P'.ro x = P.ro x := e 0
  have a2 : P'.ra x = P.ra x := e 2
  have a3 : P'.rb x = P.rb x := e 3
  have a4 : P'.rA x = P.rA x := e 4
  have a5 : P'.rB x = P.rB x := e 5
  unfold URW
  rw [a0, a2, a3, a4, a5]
  exact ⟨h.1.imp id (fun q => q.fne v), h.2.imp id (fun q => q.fne v)⟩
theorem USD.fne (h : USD P la) (v : FNE P P' la) : USD P' la := fun b b0 b1 => by
  have v0 := v
  obtain ⟨z, w⟩ := v
  rw [z] at b1
  obtain ⟨eb, wb⟩ := w b b0 b1
  obtain ⟨h1, h2, h3, h4⟩ := h b b0 b1
  rw [eb, wb.1.1, wb.1.2.1, wb.1.2.2.1, wb.2.1.1, wb.2.2.1.1]
  refine ⟨fun k k0 k1 i i0 i1 => ?_, fun k k0 k1 => ?_, h3.fne v0 wb.2.2.2, ?_⟩
  · obtain ⟨q1, q2⟩ := wb.2.1.2 k k0 k1
    rw [q1] at i1 ⊢
    have e1 : P'.pn (P.el (P.bp (P.el la b)) k) = P.pn (P.el (P.bp (P.el la b)) k) := q2.1 1
    rw [e1] at i1
    rw [q2.2.1.2.2, q2.2.1.2.1, q2.2.2.2.2, q2.2.2.2.1]
    exact (h1 k k0 k1 i i0 i1).imp id (fun q => q.fne v0)
  · obtain ⟨q1, q2⟩ := wb.2.2.1.2 k k0 k1
    rw [q1]
    exact (h2 k k0 k1).fne v0 q2
  · have e0 : P'.ro (P.be (P.el la b)) = P.ro (P.be (P.el la b)) := wb.2.2.2 0
    rw [e0]; exact h4
theorem FNE.edg {a c : Int} (v : FNE P P' la) (a0 : 0 ≤ a) (a1 : a < P.lz la) (e : EDG P la a c) : EDG P' la a c := by
  obtain ⟨eb, wb⟩ := v.2 a a0 a1
  have e0 : P'.ro (P.be (P.el la a)) = P.ro (P.be (P.el la a)) := wb.2.2.2 0
  obtain ⟨k, k0, k1, k2⟩ := e
  refine ⟨k, k0, ?_, ?_⟩
  · rw [eb, wb.1.2.2.1, e0, wb.1.2.2.2.1, wb.1.2.2.2.2]; exact k1
  · rw [eb, wb.1.2.2.2.1, wb.1.2.2.2.2]; exact k2
theorem ALR.fne (h : ALR P la) (v : FNE P P' la) (cd : CDK L P cO la) : ALR P' la := fun b b0 b1 => by
  rw [v.1] at b1
  have key := h b b0 b1 (fun c => RCH P' la (-1) c ∧ 0 ≤ c ∧ c < P.lz la) (fun _ => ⟨RCH.zero (by decide), by omega, by omega⟩) (fun p q s e ne => by
    refine ⟨s.1.step (v.edg s.2.1 s.2.2 e) ne, ?_⟩
    have bk := (cd.2.2.1 p s.2.1 s.2.2).2.2.2.2
    obtain ⟨k, _, _, k2⟩ := e
    have rw9 := rWay_spec (P.bf (P.el la p)) (P.bs (P.el la p)) k
    exact ⟨by omega, by omega⟩)
  exact key.1
theorem CSR.fne (v : BVE P P' y) : CSR P' y (P.lz (P.br y)) = CSR P y (P.lz (P.br y)) := sumI_eq (fun i i0 i1 => by
  obtain ⟨q1, q2⟩ := v.2.2.1.2 i i0 (by omega)
  have e0 : P'.ro (P.el (P.br y) i) = P.ro (P.el (P.br y) i) := q2 0
  rw [v.1.2.1, q1, e0])
theorem NST.fne (v : FNE P P' la) : NST P' la = NST P la := by
  unfold NST
  rw [v.1]
  refine sumI_eq (fun i i0 i1 => ?_)
  obtain ⟨eb, wb⟩ := v.2 i i0 (by omega)
  unfold WSB
  rw [eb, wb.1.1, wb.1.2.1, wb.2.1.1, wb.2.2.1.1, CSR.fne wb]
/-- all blocks that are come to are in the order -/
theorem ODR.dom (h : ODR idm ord o n) (t : IDT P la gr idm n) (rg : RCX P la (-1) gr n) : ∀ (m : Nat) (j d : Int), 0 ≤ j → j < o → j ≤ m → DOM P la d (ord j) → ∃ i : Int, 0 ≤ i ∧ i < o ∧ ord i = d := by
  intro m
  induction m with
  | zero =>
    intro j d j0 j1 jm k
    have e : j = 0 := by omega
    rw [e, h.1.2.2] at k
    by_cases z : d = 0
    · exact ⟨0, by omega, by omega, by rw [h.1.2.2, z]⟩
    · exact absurd (RCH.zero z) k.2.2
  | succ m ih =>
    intro j d j0 j1 jm k
    by_cases q : j ≤ (m : Int)
    · exact ih j d j0 j1 q k
    · by_cases e : d = ord j
      · exact ⟨j, j0, j1, e.symm⟩
      · obtain ⟨b0, i, i0, i1, ei⟩ := h.2.2.2.1 j (by omega) j1
        have b1 := h.2.1 j j0 j1
        have w := (t (ord j) b0 b1.2 ((rg (ord j) b1.1 b1.2).mpr k.2.1)).1
        have u := w.above k e
        rw [← ei] at u
        exact ih i d i0 (by omega) (by omega) u
theorem ODR.all (h : ODR idm ord o n) (t : IDT P la gr idm n) (rg : RCX P la (-1) gr n) (cd : CDK L P cO la) (en : n = P.lz la) (r : RCH P la (-1) b) : ∃ j : Int, 0 ≤ j ∧ j < o ∧ ord j = b := by
  have h1 := h.1.1
  have h2 := h.1.2.1
  have key := r (fun c => RCH P la (-1) c ∧ ∃ j : Int, 0 ≤ j ∧ j < o ∧ ord j = c) (fun _ => ⟨RCH.zero (by decide), 0, by omega, by omega, h.1.2.2⟩) (fun a c s e ne => by
    obtain ⟨ra, j, j0, j1, ej⟩ := s
    have rc := ra.step e ne
    have c1 := RCH.rng cd (by omega) rc
    refine ⟨rc, ?_⟩
    by_cases z : c = 0
    · exact ⟨0, by omega, by omega, by rw [z]; exact h.1.2.2⟩
    · have w := (t c (by omega) (by omega) ((rg c c1.1 (by omega)).mpr rc)).1
      have da : DOM P la (idm c) a := ⟨w.1.1, ra, fun q => w.1.2.2 (q.step e (fun y => w.2.1 y.symm))⟩
      obtain ⟨i, i0, i1, ei⟩ := h.dom t rg j.toNat j (idm c) j0 j1 (by omega) (by rw [ej]; exact da)
      exact h.2.2.2.2 c (by omega) (by omega) ⟨i, i0, i1, ei⟩)
  exact key.2
/-- a sum along an order is at most the sum over all -/
theorem sumI_ord {N : Nat} : ∀ (m : Nat) (f : Int → Int), (∀ b : Int, 0 ≤ b → b < N → 0 ≤ f b) → (∀ j : Int, 0 ≤ j → j < m → 0 ≤ ord j ∧ ord j < N) → (∀ i j : Int, 0 ≤ i → i < j → j < m → ord i ≠ ord j) → sumI (fun j => f (ord j)) m ≤ sumI f N
  | 0, f, h, _, _ => sumI_nn h
  | m + 1, f, h, r, s => by
    have q := r m (by omega) (by omega)
    have ih := sumI_ord m (zup f (ord m) 0) (fun b b0 b1 => by
      by_cases e : b = ord m
      · rw [e, zup_eq]; exact Int.le_refl _
      · rw [zup_ne _ _ e]; exact h b b0 b1) (fun j j0 j1 => r j j0 (by omega)) (fun i j i0 ij j1 => s i j i0 ij (by omega))
    have e1 : sumI (fun j => zup f (ord m) 0 (ord j)) m = sumI (fun j => f (ord j)) m := sumI_eq (fun i i0 i1 => zup_ne _ _ (s i m i0 i1 (by omega)))
    have e2 : sumI f N = sumI (zup f (ord m) 0) N + f (ord m) := sumI_one q.1 q.2 (by rw [zup_eq]; omega) (fun i _ _ ne => (zup_ne _ _ ne).symm)
    show sumI (fun j => f (ord j)) m + f (ord m) ≤ sumI f N
    omega
theorem CSR.zero (P : PO) (y : Nat) : CSR P y 0 = 0 := rfl
theorem CSR.succ (k0 : 0 ≤ k) : CSR P y (k + 1) = CSR P y k + (if rSets (P.ro (P.el (P.br y) k)) = 0 then 0 else 1) := by
  unfold CSR
  rw [show (k + 1).toNat = k.toNat + 1 from by omega]
  show sumI _ k.toNat + (if rSets (P.ro (P.el (P.br y) ((k.toNat : Nat) : Int))) = 0 then 0 else 1) = _
  rw [show ((k.toNat : Nat) : Int) = k from by omega]
theorem CSR.yes (k0 : 0 ≤ k) (s : rSets (P.ro (P.el (P.br y) k)) ≠ 0) : CSR P y (k + 1) = CSR P y k + 1 := by rw [CSR.succ k0, if_neg s]
theorem CSR.no (k0 : 0 ≤ k) (s : rSets (P.ro (P.el (P.br y) k)) = 0) : CSR P y (k + 1) = CSR P y k := by rw [CSR.succ k0, if_pos s]; omega
theorem CSR.up (k0 : 0 ≤ k) : ∀ m : Nat, CSR P y k ≤ CSR P y (k + m)
  | 0 => by rw [show k + ((0 : Nat) : Int) = k from by omega]; exact Int.le_refl _
  | m + 1 => by
    have q := CSR.up k0 m
    have s := CSR.succ (P := P) (y := y) (k := k + m) (by omega)
    rw [show k + ((m + 1 : Nat) : Int) = k + m + 1 from by omega, s]
    by_cases e : rSets (P.ro (P.el (P.br y) (k + m))) = 0
    · rw [if_pos e]; omega
    · rw [if_neg e]; omega
theorem CSR.le (k0 : 0 ≤ k) (kr : k ≤ r) : CSR P y k ≤ CSR P y r := by
  have q := CSR.up (P := P) (y := y) k0 (r - k).toNat
  rw [show k + (((r - k).toNat : Nat) : Int) = r from by omega] at q
  exact q
theorem CSR.nn (r0 : 0 ≤ r) : 0 ≤ CSR P y r := CSR.le (Int.le_refl 0) r0
theorem NUM.zero (P : PO) (la : Nat) (ord : Int → Int) : NUM P la ord 0 = 0 := rfl
theorem NUM.succ (d0 : 0 ≤ d) : NUM P la ord (d + 1) = NUM P la ord d + WSB P la (ord d) := by
  unfold NUM
  rw [show (d + 1).toNat = d.toNat + 1 from by omega]
  show sumI _ d.toNat + WSB P la (ord ((d.toNat : Nat) : Int)) = _
  rw [show ((d.toNat : Nat) : Int) = d from by omega]
theorem NUM.top (h : ODR idm ord o (P.lz la)) (a : ALP L P cO cI cZ ed la) (d0 : 0 ≤ d) (d1 : d < o) : NUM P la ord d + WSB P la (ord d) ≤ NST P la := by
  rw [← NUM.succ d0]
  have h1 := h.1.1
  have h2 := h.1.2.1
  refine sumI_ord (d + 1).toNat (WSB P la) (fun b b0 b1 => ?_) (fun j j0 j1 => ?_) (fun i j i0 ij j1 => h.2.2.1 i j i0 ij (by omega))
  · have bk := a.inb ⟨b, b0, by omega, rfl⟩
    have q1 := bk.2.2.1.2.2.1.1
    have q2 := CSR.nn (P := P) (y := P.el la b) bk.2.1.2.2.1.1
    unfold WSB; omega
  · have q := h.2.1 j j0 (by omega)
    exact ⟨q.1, by omega⟩
theorem NUM.nn (h : ODR idm ord o (P.lz la)) (a : ALP L P cO cI cZ ed la) (d1 : d ≤ o) : 0 ≤ NUM P la ord d := sumI_nn (fun j j0 j1 => by
  have q := h.2.1 j j0 (by omega)
  have bk := a.inb ⟨ord j, q.1, q.2, rfl⟩
  have q1 := bk.2.2.1.2.2.1.1
  have q2 := CSR.nn (P := P) (y := P.el la (ord j)) bk.2.1.2.2.1.1
  unfold WSB; omega)
theorem zupnn (v0 : 0 ≤ v) (h : 0 ≤ g k) : 0 ≤ zup g t v k := by
  by_cases e : k = t
  · rw [e, zup_eq]; exact v0
  · rw [zup_ne _ _ e]; exact h
theorem BSS.up (h : BSS P la g b j r) (v0 : 0 ≤ v) : BSS P la (zup g t v) b j r := ⟨fun k k0 k1 k2 => zupnn v0 (h.1 k k0 k1 k2), fun k k0 k1 k2 s => zupnn v0 (h.2 k k0 k1 k2 s)⟩
theorem ASS.up (h : ASS P la g ord d) (v0 : 0 ≤ v) : ASS P la (zup g t v) ord d := fun e e0 e1 => (h e e0 e1).up v0
theorem BSS.phi (h : BSS P la g b j r) (ex : x = P.el (P.bp (P.el la b)) j) (v0 : 0 ≤ v) : BSS P la (zup g (P.pt x) v) b (j + 1) r := ⟨fun k k0 k1 k2 => by
  by_cases e : k = j
  · rw [e, ← ex, zup_eq]; exact v0
  · exact zupnn v0 (h.1 k k0 (by omega) k2), fun k k0 k1 k2 s => zupnn v0 (h.2 k k0 k1 k2 s)⟩
theorem BSS.row (h : BSS P la g b j r) (ex : x = P.el (P.br (P.el la b)) r) (v0 : 0 ≤ v) : BSS P la (zup g (P.rt x) v) b j (r + 1) := ⟨fun k k0 k1 k2 => zupnn v0 (h.1 k k0 k1 k2), fun k k0 k1 k2 s => by
  by_cases e : k = r
  · rw [e, ← ex, zup_eq]; exact v0
  · exact zupnn v0 (h.2 k k0 (by omega) k2 s)⟩
theorem BSS.skip (h : BSS P la g b j r) (ex : x = P.el (P.br (P.el la b)) r) (s : rSets (P.ro x) = 0) : BSS P la g b j (r + 1) := ⟨h.1, fun k k0 k1 k2 q => by
  by_cases e : k = r
  · rw [e, ← ex] at q; exact absurd s q
  · exact h.2 k k0 (by omega) k2 q⟩
theorem BSS.none (P : PO) (la : Nat) (g : Int → Int) (b : Int) : BSS P la g b 0 0 := ⟨fun k k0 k1 _ => by omega, fun k k0 k1 _ _ => by omega⟩
theorem ASS.next (h : ASS P la g ord d) (k : BSS P la g (ord d) j r) (a : P.lz (P.bp (P.el la (ord d))) ≤ j) (c : P.lz (P.br (P.el la (ord d))) ≤ r) : ASS P la g ord (d + 1) := fun e e0 e1 => by
  by_cases q : e < d
  · exact h e e0 q
  · have z : e = d := by omega
    rw [z]
    exact ⟨fun i i0 _ i2 => k.1 i i0 (by omega) i2, fun i i0 _ i2 s => k.2 i i0 (by omega) i2 s⟩
theorem ASS.none (P : PO) (la : Nat) (g ord : Int → Int) : ASS P la g ord 0 := fun e e0 e1 => by omega
theorem ASS.ocb (h : ASS P la g ord o) (al : ∀ b : Int, 0 ≤ b → b < P.lz la → ∃ j : Int, 0 ≤ j ∧ j < o ∧ ord j = b) (u : USD P la) (a : ALP L P cO cI cZ ed la) : OCB P la g := by
  have bs : ∀ b : Int, 0 ≤ b → b < P.lz la → BSS P la g b 40000 40000 := fun b b0 b1 => by
    obtain ⟨j, j0, j1, e⟩ := al b b0 b1
    have q := h j j0 j1
    rw [e] at q; exact q
  have se : ∀ r : Int, SETR P la r → 0 ≤ g r := fun r s => by
    rcases s with ⟨b, k, b0, b1, k0, k1, e⟩ | ⟨b, k, b0, b1, k0, k1, s, e⟩
    · have bk := (a.inb ⟨b, b0, b1, rfl⟩).2.2.1.2.2.1
      have q := (bs b b0 b1).1 k k0 (by omega) k1
      rw [e] at q; exact q
    · have bk := (a.inb ⟨b, b0, b1, rfl⟩).2.1.2.2.1
      have q := (bs b b0 b1).2 k k0 (by omega) k1 s
      rw [e] at q; exact q
  intro b b0 b1
  obtain ⟨u1, u2, u3, u4⟩ := u b b0 b1
  have bk := a.inb ⟨b, b0, b1, rfl⟩
  have z1 := bk.2.2.1.2.2.1
  have z2 := bk.2.1.2.2.1
  refine ⟨fun k k0 k1 => ⟨(bs b b0 b1).1 k k0 (by omega) k1, fun i i0 i1 => (u1 k k0 k1 i i0 i1).imp id (se _)⟩, fun k k0 k1 => ⟨(u2 k k0 k1).1.imp id (se _), (u2 k k0 k1).2.imp id (se _), ?_⟩, u3.1.imp id (se _), u3.2.imp id (se _), Or.inl u4⟩
  by_cases s : rSets (P.ro (P.el (P.br (P.el la b)) k)) = 0
  · exact Or.inl s
  · exact Or.inr ((bs b b0 b1).2 k k0 (by omega) k1 s)
end NBD9
