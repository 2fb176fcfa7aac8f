/-! behind the first half of join: the function is SSA, the block has no PHIs -/
/-- the PHIs of block b are replaced by their first operands, nothing else is replaced -/
def JRP (P : PO) (la : Nat) (rp br bb : Int → Int) (b : Int) : Prop := (∀ k : Int, 0 ≤ k → k < P.lz (P.bp (P.el la b)) → rp (P.pt (P.el (P.bp (P.el la b)) k)) ≠ 0 ∧ br (P.pt (P.el (P.bp (P.el la b)) k)) = P.ia (P.pr (P.el (P.bp (P.el la b)) k)) 0 ∧ bb (P.pt (P.el (P.bp (P.el la b)) k)) = P.ia (P.pu (P.el (P.bp (P.el la b)) k)) 0) ∧ ∀ v : Int, 0 ≤ v → v ≤ 1001 → rp v ≠ 0 → ∃ k : Int, 0 ≤ k ∧ k < P.lz (P.bp (P.el la b)) ∧ P.pt (P.el (P.bp (P.el la b)) k) = v
noncomputable def JGP (P : PO) (l z : Nat) : Int := @ite Int (∃ k : Int, 0 ≤ k ∧ k < P.lz l ∧ z = P.el l k) (Classical.propDecidable _) 1 0
theorem JGP.in {P : PO} {l z : Nat} {k : Int} (k0 : 0 ≤ k) (k1 : k < P.lz l) (e : z = P.el l k) : JGP P l z = 1 := @if_pos _ (Classical.propDecidable _) ⟨k, k0, k1, e⟩ _ _ _
theorem JGP.out {P : PO} {l z : Nat} (n : ¬ ∃ k : Int, 0 ≤ k ∧ k < P.lz l ∧ z = P.el l k) : JGP P l z = 0 := @if_neg _ (Classical.propDecidable _) n _ _ _
section JNA9
variable {L : List Nat} {P P1 Q : PO} {cO cI cZ : ClassId} {ed l la x m : Nat} {rp br bb : Int → Int} {b c i j k p y : Int}
theorem SSP.oneop (s : SSP P la) (a : ALP L P cO cI cZ ed la) (b0 : 0 ≤ b) (b1 : b < P.lz la) (y0 : 0 ≤ y) (y1 : y < P.lz la) (ey : EDG P la y b) (one : ∀ p : Int, 0 ≤ p → p < P.lz la → EDG P la p b → p = y) (k0 : 0 ≤ k) (k1 : k < P.lz (P.bp (P.el la b))) : P.pn (P.el (P.bp (P.el la b)) k) = 1 ∧ P.ia (P.pp (P.el (P.bp (P.el la b)) k)) 0 = y := by
  have w := ey.way
  obtain ⟨q, q0, q1, qe⟩ := s.2.1.2.2 y b y0 y1 b0 b1 w.1 w.2 k k0 k1
  have ope := s.2.2.2.2.2.2.2.2.1
  have opd := s.2.2.2.2.2.2.2.2.2
  have at9 : ∀ i : Int, 0 ≤ i → i < P.pn (P.el (P.bp (P.el la b)) k) → P.ia (P.pp (P.el (P.bp (P.el la b)) k)) i = y := fun i i0 i1 => by
    have pr := a.prd b0 b1 k0 k1 i0 i1
    exact one _ pr.1 pr.2 (ope b k i b0 b1 k0 k1 i0 i1)
  refine ⟨?_, at9 0 (Int.le_refl 0) (by omega)⟩
  by_cases t : P.pn (P.el (P.bp (P.el la b)) k) = 1
  · exact t
  · exfalso
    exact opd b k 0 1 b0 b1 k0 k1 (Int.le_refl 0) (by decide) (by omega) (by rw [at9 0 (Int.le_refl 0) (by omega), at9 1 (by decide) (by omega)])
theorem JRP.rps (h : JRP P la rp br bb b) (b0 : 0 ≤ b) (b1 : b < P.lz la) (on : ∀ k : Int, 0 ≤ k → k < P.lz (P.bp (P.el la b)) → P.pn (P.el (P.bp (P.el la b)) k) = 1) : RPS P la rp br bb := fun v v0 v1 r q => by
  obtain ⟨k, k0, k1, e⟩ := h.2 v v0 v1 r
  have t := h.1 k k0 k1
  have n := on k k0 k1
  rw [e] at t
  refine Or.inr (Or.inr (Or.inr ⟨b, k, b0, b1, k0, k1, e, fun i i0 i1 => ?_⟩))
  rw [show i = 0 from by omega, ← t.2.1, ← t.2.2]
  exact ⟨q, Or.inr rfl⟩
/-- another list stays -/
theorem CLR.unt (h : CLR l L P P1) (a : ALP L P cO cI cZ ed la) (ml : l ∈ L) (kl : P.kd l = 30) (mm : m ∈ L) (km : P.kd m = 30) (n : m ≠ l) : UNT P P1 m := by
  obtain ⟨w, z, f⟩ := h
  rcases f with f | f
  · exact a.unt w ml kl f.1 mm km n
  · refine ⟨w.2.2.1 m n 0, fun k _ _ => ?_⟩
    have le : P1.le m = P.le m := by show P1.2.1 1 m = P.2.1 1 m; rw [w.1]
    unfold PO.el; rw [le, f]
theorem STQ.unt (s : STQ L P1 Q) (km : P1.kd m = 30) : UNT P1 Q m := ⟨s.1.2.2 m km, fun k _ _ => by unfold PO.el PO.oa PO.le; rw [s.1.1, s.1.2.1]⟩
/-- all that the first half does to lists, told by what stood before -/
theorem JNA.swg (h : CLR (P.bp (P.el la b)) L P P1) (st : STQ L P1 Q) (a : ALP L P cO cI cZ ed la) (nd : NDR P la) (b0 : 0 ≤ b) (b1 : b < P.lz la) : SWG (P.rst Q (P.bp (P.el la b))) Q la (JGP P (P.bp (P.el la b))) (fun _ => 0) := by
  have ib := a.inb ⟨b, b0, b1, rfl⟩
  have kl := ib.2.2.1.2.1
  have w := h.1
  have rb : ∀ z : Nat, (P.rst Q (P.bp (P.el la b))).bp z = P.bp z := fun z => congrFun (congrFun (rst_ref w st) 1) z
  have rr : ∀ z : Nat, (P.rst Q (P.bp (P.el la b))).br z = P.br z := fun z => by unfold PO.br; rw [rst_ref w st]
  have oc := fun (c : Int) (c0 : 0 ≤ c) (c1 : c < P.lz la) => a.2.1.2.2.1 _ (a.inb ⟨c, c0, c1, rfl⟩).1.1 (a.inb ⟨c, c0, c1, rfl⟩).1.2
  have nla : la ≠ P.bp (P.el la b) := fun q => by
    have t := (oc b b0 b1).2.1
    rw [← q, a.2.1.2.1] at t; omega
  have un : ∀ m : Nat, m ∈ L → P.kd m = 30 → m ≠ P.bp (P.el la b) → UNT P Q m := fun m mm km n => (h.unt a ib.2.2.1.1 kl mm km n).trans (st.unt ((w.kd m).trans km))
  have unR : ∀ m : Nat, m ∈ L → P.kd m = 30 → m ≠ P.bp (P.el la b) → UNT (P.rst Q (P.bp (P.el la b))) Q m := fun m mm km n => by
    have t := un m mm km n
    have lz := rst_lz w st km
    exact ⟨t.1.trans lz.symm, fun k k0 k1 => (t.2 k k0 (by rw [← lz]; exact k1)).trans (rst_el w st m k).symm⟩
  have same : ∀ (m : Nat) (g : Nat → Int), m ∈ L → P.kd m = 30 → m ≠ P.bp (P.el la b) → 0 ≤ P.lz m → (∀ k : Int, 0 ≤ k → k < P.lz m → g (P.el m k) = 0) → ∃ μ : Int → Int, MPS μ ((P.rst Q (P.bp (P.el la b))).lz m) (Q.lz m) ((P.rst Q (P.bp (P.el la b))).el m) (Q.el m) g := fun m g mm km n z0 gz => by
    have t := unR m mm km n
    have lz := rst_lz w st km
    refine ⟨fun k => k, by rw [t.1, lz]; exact z0, fun k i _ q _ => q, fun k k0 k1 => ⟨k0, by rw [← t.1]; exact k1, t.2 k k0 (by rw [← t.1]; exact k1), ?_⟩, fun i i0 i1 _ => ⟨i, i0, by rw [t.1]; exact i1, rfl⟩⟩
    rw [rst_el w st]; exact gz k k0 (by rw [← lz, ← t.1]; exact k1)
  refine ⟨⟨rfl, rfl, fun z f k _ _ => ?_⟩, unR la a.lok.1 a.lok.2.1 nla, fun c c0 c1 => ?_⟩
  · refine (rst_num P Q (fun q => k ?_) f).symm
    rw [q]; unfold PO.kd; rw [rst_ref w st]; exact kl
  · rw [rst_lz w st a.lok.2.1] at c1
    rw [rst_el w st, rb, rr]
    have ic := a.inb ⟨c, c0, c1, rfl⟩
    constructor
    · by_cases q : c = b
      · rw [q]
        have z0 : Q.lz (P.bp (P.el la b)) = 0 := (st.1.2.2 _ ((w.kd _).trans kl)).trans h.2.1
        refine ⟨fun k => k, by omega, fun k i _ _ _ => by omega, fun k _ _ => by omega, fun i i0 i1 g => ?_⟩
        rw [rst_lz w st kl] at i1
        rw [rst_el w st, JGP.in i0 i1 rfl] at g
        omega
      · have ne : P.bp (P.el la c) ≠ P.bp (P.el la b) := fun e => by
          have t1 := (oc c c0 c1).2.2.1
          rw [e, (oc b b0 b1).2.2.1] at t1
          rcases Int.lt_or_le c b with u | u
          · exact a.2.1.2.2.2 c b c0 u b1 t1.symm
          · exact a.2.1.2.2.2 b c b0 (by omega) c1 t1
        refine same _ _ ic.2.2.1.1 ic.2.2.1.2.1 ne ic.2.2.1.2.2.1.1 (fun k k0 k1 => JGP.out (fun ⟨i, i0, i1, e⟩ => ?_))
        exact q (nd.2.1 c b k i c0 c1 b0 b1 k0 k1 i0 i1 e).1
    · have ne : P.br (P.el la c) ≠ P.bp (P.el la b) := fun e => by
        have t1 := (oc c c0 c1).1.1
        rw [e, (oc b b0 b1).2.1] at t1; omega
      exact same _ _ ic.2.1.1 ic.2.1.2.1 ne ic.2.1.2.2.1.1 (fun _ _ _ => rfl)
theorem JNA.ndd (h : CLR (P.bp (P.el la b)) L P P1) (st : STQ L P1 Q) (rv : RVI P1 Q rp la (P1.lz la) 0 0) (jr : JRP P la rp br bb b) (a : ALP L P cO cI cZ ed la) (b0 : 0 ≤ b) (b1 : b < P.lz la) : NDD (P.rst Q (P.bp (P.el la b))) la (JGP P (P.bp (P.el la b))) (fun _ => 0) (fun r => rp r = 0) := by
  have ib := a.inb ⟨b, b0, b1, rfl⟩
  have kl := ib.2.2.1.2.1
  have w := h.1
  have rb : ∀ z : Nat, (P.rst Q (P.bp (P.el la b))).bp z = P.bp z := fun z => congrFun (congrFun (rst_ref w st) 1) z
  have rr : ∀ z : Nat, (P.rst Q (P.bp (P.el la b))).br z = P.br z := fun z => by unfold PO.br; rw [rst_ref w st]
  have re : ∀ z : Nat, (P.rst Q (P.bp (P.el la b))).be z = P.be z := fun z => by unfold PO.be; rw [rst_ref w st]
  have oc := fun (c : Int) (c0 : 0 ≤ c) (c1 : c < P.lz la) => a.2.1.2.2.1 _ (a.inb ⟨c, c0, c1, rfl⟩).1.1 (a.inb ⟨c, c0, c1, rfl⟩).1.2
  have nla : la ≠ P.bp (P.el la b) := fun q => by
    have t := (oc b b0 b1).2.1
    rw [← q, a.2.1.2.1] at t; omega
  have un1 : ∀ m : Nat, m ∈ L → P.kd m = 30 → m ≠ P.bp (P.el la b) → UNT P P1 m := fun m mm km n => h.unt a ib.2.2.1.1 kl mm km n
  have ula := un1 la a.lok.1 a.lok.2.1 nla
  have pb : ∀ z : Nat, P1.bp z = P.bp z := fun z => by unfold PO.bp; rw [w.1]
  have pr : ∀ z : Nat, P1.br z = P.br z := fun z => by unfold PO.br; rw [w.1]
  have pe : ∀ z : Nat, P1.be z = P.be z := fun z => by unfold PO.be; rw [w.1]
  have rz : ∀ x : Nat, P.kd x = 17 → RZR Q rp x → (rUsA ((P.rst Q (P.bp (P.el la b))).ro x) ((P.rst Q (P.bp (P.el la b))).rA x) = 0 ∨ rp ((P.rst Q (P.bp (P.el la b))).ra x) = 0) ∧ (rUsB ((P.rst Q (P.bp (P.el la b))).ro x) ((P.rst Q (P.bp (P.el la b))).rB x) = 0 ∨ rp ((P.rst Q (P.bp (P.el la b))).rb x) = 0) := fun x k q => by
    have n : x ≠ P.bp (P.el la b) := kd_ne k kl (by decide)
    rw [show (P.rst Q (P.bp (P.el la b))).ro x = Q.ro x from rst_num P Q n _, show (P.rst Q (P.bp (P.el la b))).rA x = Q.rA x from rst_num P Q n _, show (P.rst Q (P.bp (P.el la b))).ra x = Q.ra x from rst_num P Q n _, show (P.rst Q (P.bp (P.el la b))).rB x = Q.rB x from rst_num P Q n _, show (P.rst Q (P.bp (P.el la b))).rb x = Q.rb x from rst_num P Q n _]
    exact q
  intro c c0 c1
  rw [rst_lz w st a.lok.2.1] at c1
  have ic := a.inb ⟨c, c0, c1, rfl⟩
  have rc := ((rv c c0 (by rw [ula.1]; exact c1)).1 (by rw [ula.1]; exact c1))
  rw [ula.2 c c0 c1, pb, pr, pe] at rc
  have nbr : P.br (P.el la c) ≠ P.bp (P.el la b) := fun e => by
    have t1 := (oc c c0 c1).1.1
    rw [e, (oc b b0 b1).2.1] at t1; omega
  have ubr := un1 _ ic.2.1.1 ic.2.1.2.1 nbr
  rw [rst_el w st, rb, rr, re]
  refine ⟨fun k k0 k1 => ?_, fun k k0 k1 => ?_, ?_⟩
  · rw [rst_lz w st ic.2.2.1.2.1] at k1
    rw [rst_el w st]
    have kp := a.kphi c0 c1 k0 k1
    have n : P.el (P.bp (P.el la c)) k ≠ P.bp (P.el la b) := kd_ne kp.2 kl (by decide)
    have pt := ((rst_stq w st kl).2.2.1 _ kp.1 kp.2).1
    refine ⟨fun g q => ?_, fun g i i0 i1 => ?_⟩
    · rw [pt] at q
      have ex : ∃ i : Int, 0 ≤ i ∧ i < P.lz (P.bp (P.el la b)) ∧ P.el (P.bp (P.el la c)) k = P.el (P.bp (P.el la b)) i := Classical.byContradiction (fun no => g (JGP.out no))
      obtain ⟨i, i0, i1, e⟩ := ex
      rw [e] at q
      exact (jr.1 i i0 i1).1 q
    · have cb : c ≠ b := fun q => by
        rw [q] at g k1
        rw [JGP.in k0 k1 rfl] at g
        omega
      have ne : P.bp (P.el la c) ≠ P.bp (P.el la b) := fun e => by
        have t1 := (oc c c0 c1).2.2.1
        rw [e, (oc b b0 b1).2.2.1] at t1
        rcases Int.lt_or_le c b with u | u
        · exact a.2.1.2.2.2 c b c0 u b1 t1.symm
        · exact a.2.1.2.2.2 b c b0 (by omega) c1 t1
      have ubp := un1 _ ic.2.2.1.1 ic.2.2.1.2.1 ne
      have t := rc.1 k k0 (by rw [ubp.1]; exact k1)
      rw [ubp.2 k k0 k1] at t
      have pn : (P.rst Q (P.bp (P.el la b))).pn (P.el (P.bp (P.el la c)) k) = Q.pn (P.el (P.bp (P.el la c)) k) := rst_num P Q n 1
      rw [pn] at i1
      exact t i i0 i1
  · rw [rst_lz w st ic.2.1.2.1] at k1
    rw [rst_el w st]
    have t := rc.2.1 k k0 (by rw [ubr.1]; exact k1)
    rw [ubr.2 k k0 k1] at t
    exact ⟨fun g => absurd rfl g, fun _ => rz _ (a.krow c0 c1 k0 k1).2 t⟩
  · exact rz _ (a.kend c0 c1).2.1 rc.2.2
theorem SSP.jna (s : SSP P la) (a : ALP L P cO cI cZ ed la) (aQ : ALP L Q cO cI cZ ed la) (b0 : 0 ≤ b) (b1 : b < P.lz la) (y0 : 0 ≤ y) (y1 : y < P.lz la) (ey : EDG P la y b) (one : ∀ p : Int, 0 ≤ p → p < P.lz la → EDG P la p b → p = y) (h : CLR (P.bp (P.el la b)) L P P1) (st : STQ L P1 Q) (op : OPR9 L P1 Q rp br bb) (rv : RVI P1 Q rp la (P1.lz la) 0 0) (jr : JRP P la rp br bb b) : SSP Q la ∧ (∀ p c : Int, 0 ≤ p → p < P.lz la → (EDG Q la p c ↔ EDG P la p c)) ∧ Q.lz (P.bp (P.el la b)) = 0 := by
  have kl := (a.inb ⟨b, b0, b1, rfl⟩).2.2.1.2.1
  have rs := jr.rps b0 b1 (fun k k0 k1 => (s.oneop a b0 b1 y0 y1 ey one k0 k1).1)
  have sR := s.eqv (rst_stq h.1 st kl) (rst_opr h.1 st op kl) rs a
  have aR := rst_alp h.1 st kl a aQ
  have sw := JNA.swg h st a s.2.2.1 b0 b1
  refine ⟨sR.swd ⟨_, _, _, sw, JNA.ndd h st rv jr a b0 b1⟩ aR, fun p c p0 p1 => ?_, (st.1.2.2 _ ((h.1.kd _).trans kl)).trans h.2.1⟩
  exact (sw.edg aR p0 (by rw [rst_lz h.1 st a.lok.2.1]; exact p1)).trans (((rst_stq h.1 st kl).edy a).2 p p0 p1 c)
end JNA9
