/-- nothing is changed but at S -/
def CHG (S : Nat → Prop) (L : List Nat) (P : PO) (L' : List Nat) (P' : PO) : Prop := ∀ z : Nat, z ∈ L → ¬ S z → z ∈ L' ∧ SM9 z P P'
section CHG9
variable {L L' L2 : List Nat} {P P' P2 : PO} {cO cI cZ : ClassId} {ed la x q : Nat}
theorem SM9.refl (z : Nat) (P : PO) : SM9 z P P := ⟨fun _ => rfl, fun _ => rfl, rfl, rfl, rfl⟩
theorem CHG.refl (S : Nat → Prop) (L : List Nat) (P : PO) : CHG S L P L P := fun z m _ => ⟨m, SM9.refl z P⟩
theorem CHG.trans {S S' : Nat → Prop} (h : CHG S L P L' P') (k : CHG S' L' P' L2 P2) (s : ∀ z : Nat, z ∈ L → S' z → S z) : CHG S L P L2 P2 := fun z m n => by
  obtain ⟨a, b⟩ := h z m n
  obtain ⟨c, d⟩ := k z a (fun q => n (s z m q))
  exact ⟨c, b.trans d⟩
theorem CHG.wk {S S' : Nat → Prop} (h : CHG S L P L' P') (s : ∀ z : Nat, z ∈ L → S z → S' z) : CHG S' L P L' P' := fun z m n => h z m (fun q => n (s z m q))
theorem RW1.chg (w : RW1 x P P') (L : List Nat) : CHG (fun z => z = x) L P L P' := fun z m n => ⟨m, fun f => w.2 z n f, fun f => by rw [w.1], by show P'.2.2.1 z = P.2.2.1 z; rw [w.1], by show P'.2.2.2.1 z = P.2.2.2.1 z; rw [w.1], by show P'.2.2.2.2 z = P.2.2.2.2 z; rw [w.1]⟩
theorem PH1.chg (w : PH1 x P P') (L : List Nat) : CHG (fun z => z = x ∨ P.ow z = x) L P L P' := fun z m n => ⟨m, fun f => w.2.1 z (fun e => n (Or.inl e)) f, fun f => by rw [w.1.1], by show P'.2.2.1 z = P.2.2.1 z; rw [w.1.2.1], w.2.2 z (fun e => n (Or.inr e)), by show P'.2.2.2.2 z = P.2.2.2.2 z; rw [w.1.2.2]⟩
theorem GL1.chg (w : GL1 x q L P L' P') : CHG (fun z => z = x ∨ z = P.le x) L P L' P' := fun z m n => ⟨w.2.1 z m (fun e => n (Or.inr e)), w.sm z m (fun e => n (Or.inl e)) (fun e => n (Or.inr e))⟩
theorem EXT9.chg (e : EXT9 L P L' P') : CHG (fun _ => False) L P L' P' := fun z m _ => e z m
/-- a row taken from the list lr, or made -/
def CR9 (lr x : Nat) (n : Int) (L : List Nat) (P : PO) (L' : List Nat) (P' : PO) : Prop := (x ∈ L' ∧ P'.kd x = 17 ∧ P'.ek x ≠ 1 ∧ x = P'.el lr n) ∧ (n + 1 ≤ P'.lz lr ∧ (P'.lz lr = P.lz lr ∨ (P'.lz lr = P.lz lr + 1 ∧ n = P.lz lr))) ∧ (P'.rt x = 0 ∧ P'.ra x = 0 ∧ P'.rb x = 0 ∧ P'.rA x = 0 ∧ P'.rB x = 0 ∧ P'.rg x = 0) ∧ (∀ i : Int, 0 ≤ i → i < P.lz lr → P'.el lr i = P.el lr i) ∧ CHG (fun z => z = x ∨ z = lr ∨ z = P.le lr) L P L' P'
theorem GL1.elx {i : Int} (w : GL1 x q L P L' P') (old : ∀ j : Nat, (j : Int) < P.lz x → P'.oa q j = P.oa (P.le x) j) (i0 : 0 ≤ i) (i1 : i < P.lz x) : P'.el x i = P.el x i := by
  have le : P'.le x = q := w.1.2.2.2.1
  unfold PO.el; rw [le, old i.toNat (by omega)]
theorem RW1.el (w : RW1 x P P') (l : Nat) (i : Int) : P'.el l i = P.el l i := by
  show ((P'.2.2.1 (P'.2.1 1 l)) i.toNat).getD 0 = ((P.2.2.1 (P.2.1 1 l)) i.toNat).getD 0
  rw [w.1]
theorem RW1.ek (w : RW1 x P P') (y : Nat) : P'.ek y = P.ek y := by show P'.2.1 8 y = P.2.1 8 y; rw [w.1]
theorem RW1.cap (w : RW1 x P P') (y : Nat) : P'.cap y = P.cap y := by unfold PO.cap PO.fl PO.le PO.an; rw [w.1]
end CHG9
/-- what stays while a function is built -/
def KEG (E : List Nat) (L : List Nat) (P : PO) (L' : List Nat) (P' : PO) : Prop := (∀ y : Nat, y ∈ L → P.kd y ≠ 31 → y ∈ L' ∧ P'.kd y = P.kd y ∧ P'.ek y = P.ek y ∧ (P.kd y = 30 → P.ow y = y → P'.ow y = y ∧ (y ∉ E → P'.lz y = P.lz y ∧ ∀ i : Int, 0 ≤ i → i < P.lz y → P'.el y i = P.el y i)) ∧ (PKD (P.kd y) → SMA y P P')) ∧ (∀ x : Nat, x ∈ L → P.kd x = 12 → P'.bp x = P.bp x ∧ P'.br x = P.br x ∧ P'.be x = P.be x)
section KEG9
variable {E L L' L2 : List Nat} {P P' P2 : PO} {cO cI cZ : ClassId} {ed la x q : Nat}
theorem KEP.keg (h : KEP E L P L' P' la) : KEG E L P L' P' := ⟨h.1, h.2.1⟩
theorem KEG.refl (E : List Nat) (L : List Nat) (P : PO) : KEG E L P L P := (KEP.refl E L P 0).keg
theorem KEG.trans (h : KEG E L P L' P') (k : KEG E L' P' L2 P2) : KEG E L P L2 P2 := by
  obtain ⟨a, b⟩ := h
  obtain ⟨a', b'⟩ := k
  refine ⟨fun y m n => ?_, fun x m n => ?_⟩
  · obtain ⟨e, f, e8, g, pa⟩ := a y m n
    obtain ⟨e', j, e8', g', pb⟩ := a' y e (by rw [f]; exact n)
    refine ⟨e', j.trans f, e8'.trans e8, fun k o => ?_, fun k => (pa k).trans (pb (by rw [f]; exact k))⟩
    obtain ⟨o1, q1⟩ := g k o
    obtain ⟨o2, q2⟩ := g' (f.trans k) o1
    refine ⟨o2, fun ne => ?_⟩
    obtain ⟨z1, r1⟩ := q1 ne
    obtain ⟨z2, r2⟩ := q2 ne
    exact ⟨z2.trans z1, fun i i0 i1 => (r2 i i0 (by rw [z1]; exact i1)).trans (r1 i i0 i1)⟩
  · obtain ⟨e, f, _⟩ := a x m (by omega)
    obtain ⟨p, q, r⟩ := b x m n
    obtain ⟨p', q', r'⟩ := b' x e (f.trans n)
    exact ⟨p'.trans p, q'.trans q, r'.trans r⟩
theorem KEG.wk {E' : List Nat} (h : KEG E L P L' P') (s : ∀ y : Nat, y ∈ E → y ∈ E') : KEG E' L P L' P' := ⟨fun y m n => ⟨(h.1 y m n).1, (h.1 y m n).2.1, (h.1 y m n).2.2.1, fun k o => ⟨((h.1 y m n).2.2.2.1 k o).1, fun ne => ((h.1 y m n).2.2.2.1 k o).2 (fun me => ne (s y me))⟩, (h.1 y m n).2.2.2.2⟩, h.2⟩
theorem KEG.ek {y k : Nat} (h : KEG E L P L' P') (m : y ∈ L) (e : P.kd y = k) (n : k ≠ 31) : P'.ek y = P.ek y := (h.1 y m (by rw [e]; exact n)).2.2.1
theorem KEG.mem {y k : Nat} (h : KEG E L P L' P') (m : y ∈ L) (e : P.kd y = k) (n : k ≠ 31) : y ∈ L' ∧ P'.kd y = k := by
  obtain ⟨a, b, _⟩ := h.1 y m (by rw [e]; exact n)
  exact ⟨a, b.trans e⟩
theorem KEG.bp (h : KEG E L P L' P') (m : x ∈ L) (k : P.kd x = 12) (e : P.bp x = q) : P'.bp x = q := (h.2 x m k).1.trans e
theorem KEG.br (h : KEG E L P L' P') (m : x ∈ L) (k : P.kd x = 12) (e : P.br x = q) : P'.br x = q := (h.2 x m k).2.1.trans e
theorem KEG.be (h : KEG E L P L' P') (m : x ∈ L) (k : P.kd x = 12) (e : P.be x = q) : P'.be x = q := (h.2 x m k).2.2.trans e
theorem RWD.keg (h : RWD P P') (L : List Nat) (k : P.kd la = 30) : KEG E L P L P' := (h.kep L k).keg
theorem RW1.keg (h : RW1 x P P') (L : List Nat) (k : P.kd la = 30) (n : 9 ≤ P.kd x ∧ P.kd x ≠ 30) : KEG E L P L P' := (h.kep L k n).keg
theorem EXT9.keg (e : EXT9 L P L' P') (h : GLF L P cO cI cZ ed) : KEG E L P L' P' := ⟨fun y m k => ⟨(e y m).1, (e y m).2.2.1 0, (e y m).2.2.1 8, fun k2 o2 => ⟨((e y m).2.2.1 9).trans o2, fun _ => ⟨(e y m).2.1 0, fun i i0 i1 => e.el h.2.2.2.1 m k2 i0 i1⟩⟩, fun _ => (e y m).2.sma⟩, fun y m k => ⟨(e y m).2.2.1 1, (e y m).2.2.1 2, (e y m).2.2.1 3⟩⟩
theorem GL1.keg (h : GLF L P cO cI cZ ed) (w : GL1 x q L P L' P') (mx : x ∈ L) (kx : P.kd x = 30) (fx : P.fl x = 1 ∨ P.le x ∉ L) (ox : P.ow x ≠ x ∨ x ∈ E) : KEG E L P L' P' := by
  have o : OWA L P cO ed := h.2.2.2.1
  refine ⟨fun y m k => ?_, fun y m k => ?_⟩
  · have n := o.nle mx kx fx m k
    refine ⟨w.2.1 y m n, w.kd kx m n, w.ek o mx kx fx m k, fun k2 o2 => ?_, fun k2 => (w.sm y m (fun e => by rw [e, kx] at k2; unfold PKD at k2; omega) n).sma⟩
    by_cases ny : y = x
    · refine ⟨by rw [ny] at o2 ⊢; exact w.1.2.2.2.2.2.2.1.trans o2, fun ne => ?_⟩
      rcases ox with q | q
      · exact absurd (by rw [← ny]; exact o2) q
      · exact absurd (by rw [ny]; exact q) ne
    · have s := w.sm y m ny n
      exact ⟨(s.2.1 9).trans o2, fun _ => ⟨s.1 0, fun i i0 i1 => w.elO o mx kx fx m k2 ny i0 i1⟩⟩
  · have s := w.sm y m (kd_ne k kx (by decide)) (o.nle mx kx fx m (by omega))
    exact ⟨s.2.1 1, s.2.1 2, s.2.1 3⟩
/-- a list made empty -/
def CLR (x : Nat) (L : List Nat) (P P' : PO) : Prop := LS1 x P P' ∧ P'.lz x = 0 ∧ ((P.fl x = 1 ∧ ELS L P' (P'.oa (P.le x))) ∨ ∀ a : Nat, P'.oa a = P.oa a)
theorem CLR.keg (h : GLF L P cO cI cZ ed) (w : CLR x L P P') (mx : x ∈ L) (kx : P.kd x = 30) (ox : P.ow x ≠ x ∨ x ∈ E) : KEG E L P L P' := by
  obtain ⟨w, z, f⟩ := w
  have o : OWA L P cO ed := h.2.2.2.1
  refine ⟨fun y m _ => ⟨m, w.kd y, w.ek y, fun k2 o2 => ⟨by show P'.2.1 9 y = y; rw [w.1]; exact o2, fun ne => ?_⟩, fun k2 => w.sma kx (f.imp (fun q => ((o x mx kx).2 q.1).2.1) id) k2⟩, fun y _ _ => ⟨by show P'.2.1 1 y = P.2.1 1 y; rw [w.1], by show P'.2.1 2 y = P.2.1 2 y; rw [w.1], by show P'.2.1 3 y = P.2.1 3 y; rw [w.1]⟩⟩
  have ny : y ≠ x := fun e2 => by
    rcases ox with q | q
    · exact q (by rw [← e2]; exact o2)
    · exact ne (by rw [e2]; exact q)
  refine ⟨w.2.2.1 y ny 0, fun i i0 i1 => ?_⟩
  rcases f with f | f
  · exact o.els w mx kx f.1 m k2 ny i0 i1
  · have le : P'.le y = P.le y := by show P'.2.1 1 y = P.2.1 1 y; rw [w.1]
    unfold PO.el; rw [le, f]
theorem CLR.glf (h : GLF L P cO cI cZ ed) (w : CLR x L P P') (mx : x ∈ L) (kx : P.kd x = 30) : GLF L P' cO cI cZ ed := by
  obtain ⟨w, z, f⟩ := w
  obtain ⟨g0, hr, hp, o, hc⟩ := h
  have f' : P.fl x = 1 ∨ ∀ a : Nat, P'.oa a = P.oa a := f.imp (fun q => q.1) id
  refine ⟨g0.clear o w mx kx f' z, fun q m d => ?_, fun q m d => ?_, fun y m k => ?_, fun y m k => ?_⟩
  · rw [w.kd] at d
    exact w.rok (kd_ne d kx (by decide)) (hr q m d)
  · rw [w.kd] at d
    exact w.pik (kd_ne d kx (by decide)) (hp q m d)
  · rw [w.kd] at k
    have le : P'.le y = P.le y := by show P'.2.1 1 y = P.2.1 1 y; rw [w.1]
    have fl : P'.fl y = P.fl y := by show P'.2.1 7 y = P.2.1 7 y; rw [w.1]
    have an : P'.an (P.le y) = P.an (P.le y) := by show P'.2.1 1 _ = P.2.1 1 _; rw [w.1]
    have ac : P'.ac (P.le y) = P.ac (P.le y) := by show P'.2.2.2.2 _ = P.2.2.2.2 _; rw [w.2.1]
    have ow : P'.ow (P.le y) = P.ow (P.le y) := by show P'.2.1 9 _ = P.2.1 9 _; rw [w.1]
    have elsm : ∀ g : Nat → Option Nat, ELS L P g → ELS L P' g := fun g e j u eq => by
      obtain ⟨a, b⟩ := e j u eq
      exact ⟨a, by show OBK (P'.2.1 0 u); rw [w.1]; exact b⟩
    rw [le, fl]
    obtain ⟨h1, h2⟩ := o y m k
    by_cases n : y = x
    · refine ⟨fun f0 => ⟨by rw [n]; exact z, (h1 f0).2⟩, fun f1 => ?_⟩
      obtain ⟨a, b, c, d, e1, e2, e3, e4⟩ := h2 f1
      refine ⟨a, (w.kd _).trans b, ow.trans c, ?_, by rw [an]; exact e1, by rw [an]; exact e2, ac.trans e3, by rw [n, z]; omega⟩
      rcases f with f | f
      · rw [n]; exact f.2
      · rw [f]; exact elsm _ d
    · have lz : P'.lz y = P.lz y := w.2.2.1 y n 0
      rw [lz]
      refine ⟨h1, fun f1 => ?_⟩
      obtain ⟨a, b, c, d, e1, e2, e3, e4⟩ := h2 f1
      refine ⟨a, (w.kd _).trans b, ow.trans c, ?_, by rw [an]; exact e1, by rw [an]; exact e2, ac.trans e3, by rw [an]; exact e4⟩
      have oa : P'.oa (P.le y) = P.oa (P.le y) := by
        rcases f with f | f
        · exact w.2.2.2 _ (fun q2 => n (by rw [← c, q2, ((o x mx kx).2 f.1).2.2.1]))
        · exact f _
      rw [oa]; exact elsm _ d
  · rw [w.kd] at k
    have b := hc y m k
    unfold PO.kd PO.ek PO.br PO.bp PO.ow at *
    rw [w.1]; exact b
theorem ALP.gla (h : ALP L P cO cI cZ ed la) : GLA L P cO := h.2.2.2.1
theorem GLF.gla (h : GLF L P cO cI cZ ed) : GLA L P cO := h.1.1
theorem ALP.owa (h : ALP L P cO cI cZ ed la) : OWA L P cO ed := h.2.1.1
theorem GLF.owa (h : GLF L P cO cI cZ ed) : OWA L P cO ed := h.2.2.2.1
theorem GLF.op21 (h : GLF L P cO cI cZ ed) (m : x ∈ L) (k : P.kd x = 17) (e : P.ek x ≠ 1) : (P.ro x ≤ 14 ∨ P.ro x = 20 ∨ P.ro x = 21) := h.1.2.2 x m k e
theorem GLF.adcl {l k : Nat} (h : GLF L P cO cI cZ ed) (q : LOK L P cO k l) : ADC L P cO ed l := h.adc q
theorem ALP.adcl {l k : Nat} (h : ALP L P cO cI cZ ed la) (q : LOK L P cO k l) : ADC L P cO ed l := h.adc q
theorem GLF.adc40 {l k : Nat} (h : GLF L P cO cI cZ ed) (q : LOK L P cO k l) : P.fl l = 1 → (P.an (P.le l) : Int) ≤ 40000 := fun f => by
  have := ((h.2.2.2.1 l q.1 q.2.1).2 f).2.2.2.2.2.1
  omega
theorem GLF.lbr (h : GLF L P cO cI cZ ed) (m : x ∈ L) (k : P.kd x = 12) : LOK L P cO 17 (P.br x) := by
  have c := h.2.2.2.2 x m k
  have l := (h.1.1 _ c.1.2.2.1 c.1.2.2.2).1
  rw [c.1.1] at l; exact l
theorem GLF.lbp (h : GLF L P cO cI cZ ed) (m : x ∈ L) (k : P.kd x = 12) : LOK L P cO 15 (P.bp x) := by
  have c := h.2.2.2.2 x m k
  have l := (h.1.1 _ c.2.2.2.1 c.2.2.2.2).1
  rw [c.2.1] at l; exact l
theorem GLF.gb (h : GLF L P cO cI cZ ed) (m : x ∈ L) (k : P.kd x = 12) : GLB1 L P x := h.1.2.1 x m k
/-- a PHI taken from the list lp, or made -/
def CP9 (lp x : Nat) (n t : Int) (L : List Nat) (P : PO) (L' : List Nat) (P' : PO) : Prop := (x ∈ L' ∧ P'.kd x = 15 ∧ x = P'.el lp n) ∧ (n + 1 ≤ P'.lz lp ∧ (P'.lz lp = P.lz lp ∨ (P'.lz lp = P.lz lp + 1 ∧ n = P.lz lp))) ∧ (P'.pn x = 0 ∧ P'.pt x = t ∧ P'.pg x = 0) ∧ (∀ i : Int, 0 ≤ i → i < P.lz lp → P'.el lp i = P.el lp i) ∧ CHG (fun z => z = x ∨ z = lp ∨ z = P.le lp ∨ P.ow z = x) L P L' P'
theorem CHG.trans2 {S S' : Nat → Prop} (h : CHG S L P L' P') (k : CHG S' L' P' L2 P2) (s : ∀ z : Nat, z ∈ L → ¬ S z → SM9 z P P' → ¬ S' z) : CHG S L P L2 P2 := fun z m n => by
  obtain ⟨a, b⟩ := h z m n
  obtain ⟨c, d⟩ := k z a (s z m n b)
  exact ⟨c, b.trans d⟩
theorem chg_phi1 {l p : Nat} {Q1 Q2 : PO} {M1 M2 : List Nat} (e : EXT9 L P M1 Q1) (g : GL1 l q M1 Q1 M2 Q2) (h : PH1 p Q2 P2) (ml : l ∈ L) : CHG (fun z => z = p ∨ z = l ∨ z = P.le l ∨ P.ow z = p) L P M2 P2 := by
  have a : CHG (fun z => z = p ∨ z = l ∨ z = P.le l ∨ P.ow z = p) L P M1 Q1 := e.chg.wk (fun z _ q => q.elim)
  have b := a.trans2 g.chg (fun z m n s q => by
    rcases q with q | q
    · exact n (Or.inr (Or.inl q))
    · exact n (Or.inr (Or.inr (Or.inl (by rw [q]; exact (e l ml).2.2.1 1)))))
  exact b.trans2 (h.chg M2) (fun z m n s q => by
    rcases q with q | q
    · exact n (Or.inl q)
    · exact n (Or.inr (Or.inr (Or.inr (by have e9 : Q2.ow z = P.ow z := s.2.1 9; rw [← e9]; exact q)))))
theorem RWD.cap (w : RWD P P') (y : Nat) : P'.cap y = P.cap y := by unfold PO.cap PO.fl PO.le PO.an; rw [w.1.1]
end KEG9
