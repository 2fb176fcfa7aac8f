section FDL9
variable {L : List Nat} {P Q Q' Q1 : PO} {cO cI cZ : ClassId} {ed x y z l la : Nat} {st nm gn : Int → Int} {e : Prop} {H : Nat → Prop} {b c i j k r j' r' v : Int}
theorem FDK.to (h : FDK P Q la st nm gn i j r e H) (e1 : j = j') (e2 : r = r') : FDK P Q la st nm gn i j' r' e H := by rw [← e1, ← e2]; exact h
theorem FDK.atp (h : FDK P Q la st nm gn i (j + 1) r e H) (i0 : 0 ≤ i) (i1 : i < P.lz la) (j0 : 0 ≤ j) : Q.el (P.bp (P.el la i)) j = P.el (P.bp (P.el la i)) j ∧ j < P.lz (P.bp (P.el la i)) ∧ j < Q.lz (P.bp (P.el la i)) := by
  have f := ((h.2.1 i i0 i1).2.1 rfl).1
  have t := FLT.at f j0
  obtain ⟨a, m, m1, m2, m3, m4⟩ := f
  have u := m3 j j0 t.2
  rw [m1 j j0 (by omega)] at u
  exact ⟨t.1, u.2.1, t.2⟩
theorem FDK.atr (h : FDK P Q la st nm gn i j (r + 1) e H) (i0 : 0 ≤ i) (i1 : i < P.lz la) (r0 : 0 ≤ r) : Q.el (P.br (P.el la i)) r = P.el (P.br (P.el la i)) r ∧ r < P.lz (P.br (P.el la i)) ∧ r < Q.lz (P.br (P.el la i)) := by
  have f := ((h.2.1 i i0 i1).2.1 rfl).2
  have t := FLT.at f r0
  obtain ⟨a, m, m1, m2, m3, m4⟩ := f
  have u := m3 r r0 t.2
  rw [m1 r r0 (by omega)] at u
  exact ⟨t.1, u.2.1, t.2⟩
/-- lists of a block that is not yet looked at are as long as they were -/
theorem FLS9.len {G : Nat → Prop} (h : FLS9 G P Q l (P.lz l)) (z0 : 0 ≤ P.lz l) : Q.lz l = P.lz l := by
  obtain ⟨a, m, m1, m2, m3, m4⟩ := h
  by_cases q : Q.lz l = P.lz l
  · exact q
  · exfalso
    have t := m3 (P.lz l) z0 (by omega)
    by_cases z : P.lz l = 0
    · omega
    · have u := m2 (P.lz l - 1) (P.lz l) (by omega) (by omega) (by omega)
      rw [m1 (P.lz l - 1) (by omega) (by omega)] at u
      omega
theorem FDK.lenp (h : FDK P Q la st nm gn i (P.lz (P.bp (P.el la i))) r e H) (al : ALP L P cO cI cZ ed la) (i0 : 0 ≤ i) (i1 : i < P.lz la) : Q.lz (P.bp (P.el la i)) = P.lz (P.bp (P.el la i)) := FLS9.len ((h.2.1 i i0 i1).2.1 rfl).1 (al.inb ⟨i, i0, i1, rfl⟩).2.2.1.2.2.1.1
theorem FDK.lenr (h : FDK P Q la st nm gn i j (P.lz (P.br (P.el la i))) e H) (al : ALP L P cO cI cZ ed la) (i0 : 0 ≤ i) (i1 : i < P.lz la) : Q.lz (P.br (P.el la i)) = P.lz (P.br (P.el la i)) := FLS9.len ((h.2.1 i i0 i1).2.1 rfl).2 (al.inb ⟨i, i0, i1, rfl⟩).2.1.2.2.1.1
theorem FDK.un (h : FDK P Q la st nm gn i j r e H) (k : P.kd z ≠ 30) (n : ¬ VFD P la i j r e z) (nh : ¬ H z) (f : Nat) : Q.1 f z = P.1 f z := h.2.2.1.1 z k (fun q => q.elim n nh) f
theorem FDK.uia (h : FDK P Q la st nm gn i j r e H) (o : P.ow y = z) (n : ¬ VFD P la i j r e z) (nh : ¬ H z) : Q.ia y = P.ia y := h.2.2.1.2 y (fun q => by rw [o] at q; exact q.elim n nh)
theorem VFD.pj (h : VFD P la i j r e z) (a : j' ≤ j) (c : r' ≤ r) : VFD P la i j' r' e z := by
  rcases h with ⟨b, k, b0, b1, k0, k1, e, q⟩ | ⟨b, k, b0, b1, k0, k1, e, q⟩ | h
  · exact Or.inl ⟨b, k, b0, b1, k0, k1, e, by omega⟩
  · exact Or.inr (Or.inl ⟨b, k, b0, b1, k0, k1, e, by omega⟩)
  · exact Or.inr (Or.inr h)
/-- one list of the block in hand has lost something -/
theorem FDK.ls (h : FDK P Q la st nm gn i j r e H) (aQ : ALP L Q cO cI cZ ed la) (al : ALP L P cO cI cZ ed la) (i0 : 0 ≤ i) (i1 : i < P.lz la) (el : l = P.bp (P.el la i) ∨ l = P.br (P.el la i)) (w : LS1 l Q Q') (fl : Q.fl l = 1) (f : FLS9 (GPT P st) P Q' (P.bp (P.el la i)) j' ∧ FLS9 (GRT P st) P Q' (P.br (P.el la i)) r') (jj : j' ≤ j) (rr : r' ≤ r) (hj : ∀ k : Int, 0 ≤ k → j' ≤ k → k < j → GPT P st (P.el (P.bp (P.el la i)) k)) (hr : ∀ k : Int, 0 ≤ k → r' ≤ k → k < r → GRT P st (P.el (P.br (P.el la i)) k)) : FDK P Q' la st nm gn i j' r' e H := by
  have kd : ∀ z : Nat, Q.kd z = P.kd z := h.kd
  have ib := al.inb ⟨i, i0, i1, rfl⟩
  have kl : P.kd l = 30 := by
    rcases el with q | q
    · rw [q]; exact ib.2.2.1.2.1
    · rw [q]; exact ib.2.1.2.1
  have ml : l ∈ L := by
    rcases el with q | q
    · rw [q]; exact ib.2.2.1.1
    · rw [q]; exact ib.2.1.1
  have ol : P.ow l = P.el la i := by
    have oc := al.2.1.2.2.1 _ ib.1.1 ib.1.2
    rcases el with q | q
    · rw [q]; exact oc.2.2.1
    · rw [q]; exact oc.1.2.1
  have un : ∀ m : Nat, m ∈ L → P.kd m = 30 → m ≠ l → UNT Q Q' m := fun m mm km n => aQ.unt w ml ((kd l).trans kl) fl mm ((kd m).trans km) n
  have nla : la ≠ l := fun q => by
    have oc := al.2.1.2.2.1 _ ib.1.1 ib.1.2
    have t := al.2.1.2.1
    rcases el with s | s
    · rw [q, s] at t; omega
    · rw [q, s] at t; omega
  have num : ∀ z : Nat, P.kd z ≠ 30 → ∀ f : Nat, Q'.1 f z = Q.1 f z := fun z k f => w.2.2.1 z (fun q => k (by rw [q]; exact kl)) f
  have ia : ∀ y : Nat, Q'.ia y = Q.ia y := fun y => by show Q'.2.2.2.1 y = Q.2.2.2.1 y; rw [w.2.1]
  refine ⟨⟨w.1.trans h.1.1, h.1.2.trans (un la al.lok.1 al.lok.2.1 nla)⟩, fun b b0 b1 => ?_, ⟨fun z k n f => (num z k f).trans (h.2.2.1.1 z k (fun q => n (q.imp (fun t => t.pj jj rr) id)) f), fun y n => (ia y).trans (h.2.2.1.2 y (fun q => n (q.imp (fun t => t.pj jj rr) id)))⟩, fun b k b0 b1 g k0 k1 q ng => ?_, fun b k b0 b1 g k0 k1 q ng => ?_, fun b b0 b1 g q => ?_⟩
  · have t := h.2.1 b b0 b1
    have bb := al.inb ⟨b, b0, b1, rfl⟩
    have ob := al.2.1.2.2.1 _ bb.1.1 bb.1.2
    by_cases s : b = i
    · rw [s]
      exact ⟨fun q => by omega, fun _ => f, fun q => by omega⟩
    · have dn : P.el la b ≠ P.el la i := fun q => by
        rcases Int.lt_or_le b i with c | c
        · exact al.2.1.2.2.2 b i b0 c i1 q
        · exact al.2.1.2.2.2 i b i0 (by omega) b1 q.symm
      have u1 := un _ bb.2.2.1.1 bb.2.2.1.2.1 (fun q => dn (by rw [← ob.2.2.1, q, ol]))
      have u2 := un _ bb.2.1.1 bb.2.1.2.1 (fun q => dn (by rw [← ob.1.2.1, q, ol]))
      exact ⟨fun q g => ⟨(t.1 q g).1.away u1, (t.1 q g).2.away u2⟩, fun q => absurd q s, fun q => ⟨(t.2.2 q).1.trans u1, (t.2.2 q).2.trans u2⟩⟩
  · have kp := al.kphi b0 b1 k0 k1
    by_cases s : b < i ∨ (b = i ∧ j ≤ k)
    · exact (h.2.2.2.1 b k b0 b1 g k0 k1 s ng).same (num _ (by rw [kp.2]; decide)) (ia _) (ia _) (ia _)
    · have eb : b = i := by omega
      exact absurd (by rw [eb]; exact hj k k0 (by omega) (by omega)) ng
  · have kp := al.krow b0 b1 k0 k1
    by_cases s : b < i ∨ (b = i ∧ r ≤ k)
    · exact (h.2.2.2.2.1 b k b0 b1 g k0 k1 s ng).same (num _ (by rw [kp.2]; decide))
    · have eb : b = i := by omega
      exact absurd (by rw [eb]; exact hr k k0 (by omega) (by omega)) ng
  · exact (h.2.2.2.2.2 b b0 b1 g q).same (num _ (by rw [(al.kend b0 b1).2.1]; decide)) (num _ (by rw [(al.inb ⟨b, b0, b1, rfl⟩).1.2]; decide))
theorem FDK.remp (h : FDK P Q la st nm gn i (j + 1) r e H) (aQ : ALP L Q cO cI cZ ed la) (al : ALP L P cO cI cZ ed la) (i0 : 0 ≤ i) (i1 : i < P.lz la) (j0 : 0 ≤ j) (el : P.bp (P.el la i) = l) (w : LS1 l Q Q') (fl : Q.fl l = 1) (z : Q'.lz l = Q.lz l - 1) (rm : RMV (Q.oa (Q.le l)) (Q'.oa (Q.le l)) j (Q.lz l)) (g : GPT P st (P.el l j)) : FDK P Q' la st nm gn i j r e H := by
  have f := (h.2.1 i i0 i1).2.1 rfl
  have ib := al.inb ⟨i, i0, i1, rfl⟩
  have oc := al.2.1.2.2.1 _ ib.1.1 ib.1.2
  have ne : P.br (P.el la i) ≠ l := fun q => by
    have t := oc.2.1
    rw [el, ← q] at t; omega
  refine h.ls aQ al i0 i1 (Or.inl el.symm) w fl ⟨?_, ?_⟩ (by omega) (Int.le_refl _) (fun k k0 k1 k2 => ?_) (fun k k0 k1 k2 => by omega)
  · have f1 := f.1
    rw [el] at f1 ⊢
    exact FLT.remove f1 j0 (by rw [(FLT.at f1 j0).1]; exact g) z (rmv_el9 w rm)
  · exact f.2.away (aQ.unt w (by rw [← el]; exact ib.2.2.1.1) ((h.kd l).trans (by rw [← el]; exact ib.2.2.1.2.1)) fl ib.2.1.1 ((h.kd _).trans ib.2.1.2.1) ne)
  · rw [show k = j from by omega, el]; exact g
theorem FDK.remr (h : FDK P Q la st nm gn i j (r + 1) e H) (aQ : ALP L Q cO cI cZ ed la) (al : ALP L P cO cI cZ ed la) (i0 : 0 ≤ i) (i1 : i < P.lz la) (r0 : 0 ≤ r) (el : P.br (P.el la i) = l) (w : LS1 l Q Q') (fl : Q.fl l = 1) (z : Q'.lz l = Q.lz l - 1) (rm : RMV (Q.oa (Q.le l)) (Q'.oa (Q.le l)) r (Q.lz l)) (g : GRT P st (P.el l r)) : FDK P Q' la st nm gn i j r e H := by
  have f := (h.2.1 i i0 i1).2.1 rfl
  have ib := al.inb ⟨i, i0, i1, rfl⟩
  have oc := al.2.1.2.2.1 _ ib.1.1 ib.1.2
  have ne : P.bp (P.el la i) ≠ l := fun q => by
    have t := oc.1.1
    rw [el, ← q] at t; omega
  refine h.ls aQ al i0 i1 (Or.inr el.symm) w fl ⟨?_, ?_⟩ (Int.le_refl _) (by omega) (fun k k0 k1 k2 => by omega) (fun k k0 k1 k2 => ?_)
  · exact f.1.away (aQ.unt w (by rw [← el]; exact ib.2.1.1) ((h.kd l).trans (by rw [← el]; exact ib.2.1.2.1)) fl ib.2.2.1.1 ((h.kd _).trans ib.2.2.1.2.1) ne)
  · have f1 := f.2
    rw [el] at f1 ⊢
    exact FLT.remove f1 r0 (by rw [(FLT.at f1 r0).1]; exact g) z (rmv_el9 w rm)
  · rw [show k = r from by omega, el]; exact g
theorem FPK.zero (e0 : ∀ f : Nat, Q.1 f x = P.1 f x) (e1 : Q.ia (P.pp x) = P.ia (P.pp x)) (e2 : Q.ia (P.pu x) = P.ia (P.pu x)) (e3 : Q.ia (P.pr x) = P.ia (P.pr x)) : FPK P Q st nm x 0 := ⟨⟨e0 1, e0 0, e0 2⟩, fun i i0 i1 => ⟨by rw [e1], Or.inr ⟨by omega, by rw [e3], by rw [e2]⟩⟩⟩
theorem FPK.to {k' : Int} (h : FPK P Q st nm x k) (e : k = k') : FPK P Q st nm x k' := by rw [← e]; exact h
theorem FPK.at (h : FPK P Q st nm x k) (k0 : 0 ≤ k) (k1 : k < P.pn x) : Q.ia (P.pr x) k = P.ia (P.pr x) k ∧ Q.ia (P.pu x) k = P.ia (P.pu x) k := by
  rcases (h.2 k k0 k1).2 with t | t
  · omega
  · exact t.2
theorem FPK.skip (h : FPK P Q st nm x k) (q : ¬ (P.ia (P.pr x) k ≠ 0 ∧ st (P.ia (P.pu x) k) = 1)) : FPK P Q st nm x (k + 1) := ⟨h.1, fun i i0 i1 => ⟨(h.2 i i0 i1).1, by
  rcases (h.2 i i0 i1).2 with t | t
  · exact Or.inl ⟨by omega, t.2⟩
  · refine Or.inr ⟨fun s => ?_, t.2⟩
    by_cases e : i = k
    · rw [e] at s; exact q s.2
    · exact t.1 ⟨by omega, s.2⟩⟩⟩
theorem FPK.put (h : FPK P Q st nm x k) (g : P.ia (P.pr x) k ≠ 0 ∧ st (P.ia (P.pu x) k) = 1) (e0 : Q'.pn x = Q.pn x ∧ Q'.pt x = Q.pt x ∧ Q'.pg x = Q.pg x) (e1 : Q'.ia (P.pp x) = Q.ia (P.pp x)) (e2 : Q'.ia (P.pu x) = zup (Q.ia (P.pu x)) k (nm (P.ia (P.pu x) k))) (e3 : Q'.ia (P.pr x) = zup (Q.ia (P.pr x)) k 0) : FPK P Q' st nm x (k + 1) := by
  refine ⟨⟨e0.1.trans h.1.1, e0.2.1.trans h.1.2.1, e0.2.2.trans h.1.2.2⟩, fun i i0 i1 => ⟨by rw [e1]; exact (h.2 i i0 i1).1, ?_⟩⟩
  rw [e2, e3]
  by_cases e : i = k
  · rw [e, zup_eq, zup_eq]; exact Or.inl ⟨by omega, g.1, g.2, rfl, rfl⟩
  · rw [zup_ne _ _ e, zup_ne _ _ e]
    rcases (h.2 i i0 i1).2 with t | t
    · exact Or.inl ⟨by omega, t.2⟩
    · exact Or.inr ⟨fun s => t.1 ⟨by omega, s.2⟩, t.2⟩
theorem KNR.pre (h : KNR Q Q' st nm x) (e : ∀ f : Nat, Q.1 f x = P.1 f x) : KNR P Q' st nm x := by
  have a : Q.ro x = P.ro x := e _
  have b : Q.rt x = P.rt x := e _
  have c : Q.rg x = P.rg x := e _
  have d1 : Q.rA x = P.rA x := e _
  have d2 : Q.rB x = P.rB x := e _
  have d3 : Q.ra x = P.ra x := e _
  have d4 : Q.rb x = P.rb x := e _
  unfold KNR KNA KNB at h ⊢
  rw [a, b, c, d1, d2, d3, d4] at h; exact h
theorem KNA.same (h : KNA P Q st nm x) (d1 : Q'.rA x = Q.rA x) (d3 : Q'.ra x = Q.ra x) : KNA P Q' st nm x := by unfold KNA; rw [d1, d3]; exact h
theorem FED.no (k : KNR P Q st nm (P.be y)) (f : Q.bf y = P.bf y ∧ Q.bs y = P.bs y) (n : P.ro (P.be y) = 31 → Q.rA (P.be y) ≠ 0) : FED P Q st nm y := Or.inl ⟨k.1.1, k.2.1, k.2.2, f.1, f.2, n⟩
theorem FED.yes (ro : P.ro (P.be y) = 31) (r2 : Q.ro (P.be y) = 30) (ka : KNA P Q st nm (P.be y)) (a : Q.rA (P.be y) = 0) (s : Q.bs y = Q.bf y) (v : (Q.ra (P.be y) ≠ 0 ∧ Q.bf y = P.bf y) ∨ (Q.ra (P.be y) = 0 ∧ Q.bf y = P.bs y)) : FED P Q st nm y := Or.inr ⟨ro, r2, ka, a, s, v⟩
theorem PIK.put2 {u q : Nat} (h : PIK L P cI cZ x) (eu : P.pu x = u) (eq : P.pr x = q) (i0 : 0 ≤ i) (i1 : i < P.pn x) (v0 : -2147483648 ≤ v) (v1 : v ≤ 2147483647) (e1 : Q1 = P.ri9 u (zup (P.ia u) i v)) (e2 : Q = Q1.ri9 q (zup (Q1.ia q) i 0)) : PH1 x P Q ∧ PIK L Q cI cZ x ∧ PRQ x P Q ∧ (Q.pn x = P.pn x ∧ Q.pt x = P.pt x ∧ Q.pg x = P.pg x) ∧ (Q.ia (P.pp x) = P.ia (P.pp x) ∧ Q.ia (P.pu x) = zup (P.ia (P.pu x)) i v ∧ Q.ia (P.pr x) = zup (P.ia (P.pr x)) i 0) := by
  subst eu; subst eq
  have ne1 : P.pr x ≠ P.pu x := fun q => by have s := h.2.2.2.1.2.1; rw [q, h.2.2.1.2.1] at s; omega
  have ne2 : P.pp x ≠ P.pu x := fun q => by have s := h.2.1.2.1; rw [q, h.2.2.1.2.1] at s; omega
  have ne3 : P.pp x ≠ P.pr x := fun q => by have s := h.2.1.2.1; rw [q, h.2.2.2.1.2.1] at s; omega
  have w1 : PH1 x P Q1 := by rw [e1]; exact PH1.num h.2.2.1.2.2.2
  have o1 : Q1.ow (P.pr x) = x := by
    have t : Q1.ow (P.pr x) = P.ow (P.pr x) := by unfold PO.ow; rw [w1.1.1]
    rw [t]; exact h.2.2.2.1.2.2.2
  have w2 : PH1 x Q1 Q := by rw [e2]; exact PH1.num o1
  have w := w1.trans w2
  have a1 : Q.ia (P.pp x) = P.ia (P.pp x) := by rw [e2, ri9_of _ _ ne3, e1, ri9_of _ _ ne2]
  have a2 : Q.ia (P.pu x) = zup (P.ia (P.pu x)) i v := by rw [e2, ri9_of _ _ (fun q => ne1 q.symm), e1, ri9_at]
  have a3 : Q.ia (P.pr x) = zup (P.ia (P.pr x)) i 0 := by rw [e2, ri9_at, e1, ri9_of _ _ ne1]
  have n1 : Q.pn x = P.pn x := by rw [e2, e1]; rfl
  have n0 : Q.pt x = P.pt x := by rw [e2, e1]; rfl
  have n2 : Q.pg x = P.pg x := by rw [e2, e1]; rfl
  have b1 : Q.pp x = P.pp x := by rw [e2, e1]; rfl
  have b2 : Q.pu x = P.pu x := by rw [e2, e1]; rfl
  have b3 : Q.pr x = P.pr x := by rw [e2, e1]; rfl
  have hn := h.2.2.2.2.1
  have ht := h.2.2.2.2.2.1
  refine ⟨w, h.of w (by omega) (by omega) (by rw [n0, n2]; exact ht) (fun j j0 j1 => ?_), fun n f j j0 j1 => ?_, ⟨n1, n0, n2⟩, a1, a2, a3⟩
  · have q := h.ef j0 (by omega)
    unfold PEF at q ⊢
    rw [b1, b2, b3, a1, a2, a3]
    by_cases s : j = i
    · rw [s, zup_eq, zup_eq]
      rw [s] at q
      exact ⟨q.1, ⟨v0, v1⟩, ⟨by decide, by decide⟩, Or.inl rfl⟩
    · rw [zup_ne _ _ s, zup_ne _ _ s]; exact q
  · rw [b1, a1]; exact f j j0 (by omega)
end FDL9
