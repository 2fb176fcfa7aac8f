/-- a block of the function -/
def INB (P : PO) (la x : Nat) : Prop := ∃ i : Int, 0 ≤ i ∧ i < P.lz la ∧ x = P.el la i
/-- nothing of an object has changed but, perhaps, what a row of numbers holds -/
def SMA (y : Nat) (P P' : PO) : Prop := (∀ f : Nat, P'.1 f y = P.1 f y) ∧ (∀ f : Nat, P'.2.1 f y = P.2.1 f y) ∧ P'.oa y = P.oa y ∧ P'.ac y = P.ac y
theorem SMA.refl (y : Nat) (P : PO) : SMA y P P := ⟨fun _ => rfl, fun _ => rfl, rfl, rfl⟩
theorem SMA.trans {y : Nat} {P Q R : PO} (h : SMA y P Q) (k : SMA y Q R) : SMA y P R := ⟨fun f => (k.1 f).trans (h.1 f), fun f => (k.2.1 f).trans (h.2.1 f), k.2.2.1.trans h.2.2.1, k.2.2.2.trans h.2.2.2⟩
theorem SM9.sma {y : Nat} {P Q : PO} (h : SM9 y P Q) : SMA y P Q := ⟨h.1, h.2.1, h.2.2.1, h.2.2.2.2⟩
theorem RWD.sma {y : Nat} {P P' : PO} (h : RWD P P') (k : PKD (P.kd y)) : SMA y P P' := ⟨fun f => h.2 y (by unfold PKD at k; omega) (by unfold PKD at k; omega) f, fun f => by rw [h.1.1], h.oa y, h.ac y⟩
theorem RW1.sma {x y : Nat} {P P' : PO} (h : RW1 x P P') (n : 9 ≤ P.kd x) (k : PKD (P.kd y)) : SMA y P P' := ⟨fun f => h.2 y (fun e => by rw [e] at k; unfold PKD at k; omega) f, fun f => by rw [h.1], by unfold PO.oa; rw [h.1], by unfold PO.ac; rw [h.1]⟩
theorem LS1.sma {x y : Nat} {P P' : PO} (h : LS1 x P P') (kx : P.kd x = 30) (kl : P.kd (P.le x) = 31 ∨ ∀ a : Nat, P'.oa a = P.oa a) (k : PKD (P.kd y)) : SMA y P P' := ⟨fun f => h.2.2.1 y (fun e => by rw [e, kx] at k; unfold PKD at k; omega) f, fun f => by rw [h.1], by
  rcases kl with kl | kl
  · exact h.2.2.2 y (fun e => by rw [e, kl] at k; unfold PKD at k; omega)
  · exact kl y, by unfold PO.ac; rw [h.2.1]⟩
/-- what stays over every change but one of the function's list of blocks: objects and their kinds, the blocks' lists, the function's blocks -/
def KEP (E : List Nat) (L : List Nat) (P : PO) (L' : List Nat) (P' : PO) (la : Nat) : Prop := (∀ y : Nat, y ∈ L → P.kd y ≠ 31 → y ∈ L' ∧ P'.kd y = P.kd y ∧ P'.ek y = P.ek y ∧ (P.kd y = 30 → P.ow y = y → P'.ow y = y ∧ (y ∉ E → P'.lz y = P.lz y ∧ ∀ i : Int, 0 ≤ i → i < P.lz y → P'.el y i = P.el y i)) ∧ (PKD (P.kd y) → SMA y P P')) ∧ (∀ x : Nat, x ∈ L → P.kd x = 12 → P'.bp x = P.bp x ∧ P'.br x = P.br x ∧ P'.be x = P.be x) ∧ P'.lz la = P.lz la ∧ ∀ i : Int, 0 ≤ i → i < P.lz la → P'.el la i = P.el la i
theorem KEP.refl (E : List Nat) (L : List Nat) (P : PO) (la : Nat) : KEP E L P L P la := ⟨fun _ h _ => ⟨h, rfl, rfl, fun _ o => ⟨o, fun _ => ⟨rfl, fun _ _ _ => rfl⟩⟩, fun _ => SMA.refl _ _⟩, fun _ _ _ => ⟨rfl, rfl, rfl⟩, rfl, fun _ _ _ => rfl⟩
theorem KEP.trans {E : List Nat} {L L' L'' : List Nat} {P P' P'' : PO} {la : Nat} (h : KEP E L P L' P' la) (k : KEP E L' P' L'' P'' la) : KEP E L P L'' P'' la := by
  obtain ⟨a, b, c, d⟩ := h
  obtain ⟨a', b', c', d'⟩ := k
  refine ⟨fun y m n => ?_, fun x m n => ?_, c'.trans c, fun i i0 i1 => (d' i i0 (by rw [c]; exact i1)).trans (d i i0 i1)⟩
  · obtain ⟨e, f, e8, g, pa⟩ := a y m n
    obtain ⟨e', j, e8', g', pb⟩ := a' y e (by rw [f]; exact n)
    refine ⟨e', j.trans f, e8'.trans e8, fun k o => ?_, fun k => (pa k).trans (pb (by rw [f]; exact k))⟩
    obtain ⟨o1, q1⟩ := g k o
    obtain ⟨o2, q2⟩ := g' (f.trans k) o1
    refine ⟨o2, fun ne => ?_⟩
    obtain ⟨z1, r1⟩ := q1 ne
    obtain ⟨z2, r2⟩ := q2 ne
    exact ⟨z2.trans z1, fun i i0 i1 => (r2 i i0 (by rw [z1]; exact i1)).trans (r1 i i0 i1)⟩
  · obtain ⟨e, f, _⟩ := a x m (by omega)
    obtain ⟨p, q, r⟩ := b x m n
    obtain ⟨p', q', r'⟩ := b' x e (f.trans n)
    exact ⟨p'.trans p, q'.trans q, r'.trans r⟩
theorem KEP.wk {E E' : List Nat} {L L' : List Nat} {P P' : PO} {la : Nat} (h : KEP E L P L' P' la) (s : ∀ y : Nat, y ∈ E → y ∈ E') : KEP E' L P L' P' la := ⟨fun y m n => ⟨(h.1 y m n).1, (h.1 y m n).2.1, (h.1 y m n).2.2.1, fun k o => ⟨((h.1 y m n).2.2.2.1 k o).1, fun ne => ((h.1 y m n).2.2.2.1 k o).2 (fun me => ne (s y me))⟩, (h.1 y m n).2.2.2.2⟩, h.2⟩
theorem KEP.ek {E : List Nat} {L L' : List Nat} {P P' : PO} {la y k : Nat} (h : KEP E L P L' P' la) (m : y ∈ L) (e : P.kd y = k) (n : k ≠ 31) : P'.ek y = P.ek y := (h.1 y m (by rw [e]; exact n)).2.2.1
theorem KEP.mem {E : List Nat} {L L' : List Nat} {P P' : PO} {la y k : Nat} (h : KEP E L P L' P' la) (m : y ∈ L) (e : P.kd y = k) (n : k ≠ 31) : y ∈ L' ∧ P'.kd y = k := by
  obtain ⟨a, b, _⟩ := h.1 y m (by rw [e]; exact n)
  exact ⟨a, b.trans e⟩
theorem KEP.inb {E : List Nat} {L L' : List Nat} {P P' : PO} {la x : Nat} (h : KEP E L P L' P' la) (i : INB P la x) : INB P' la x := by
  obtain ⟨j, a, b, c⟩ := i
  exact ⟨j, a, by rw [h.2.2.1]; exact b, by rw [h.2.2.2 j a b]; exact c⟩
theorem KEP.bp {E : List Nat} {L L' : List Nat} {P P' : PO} {la x q : Nat} (h : KEP E L P L' P' la) (m : x ∈ L) (k : P.kd x = 12) (e : P.bp x = q) : P'.bp x = q := (h.2.1 x m k).1.trans e
theorem KEP.br {E : List Nat} {L L' : List Nat} {P P' : PO} {la x q : Nat} (h : KEP E L P L' P' la) (m : x ∈ L) (k : P.kd x = 12) (e : P.br x = q) : P'.br x = q := (h.2.1 x m k).2.1.trans e
theorem KEP.be {E : List Nat} {L L' : List Nat} {P P' : PO} {la x q : Nat} (h : KEP E L P L' P' la) (m : x ∈ L) (k : P.kd x = 12) (e : P.be x = q) : P'.be x = q := (h.2.1 x m k).2.2.trans e
theorem RWD.kep {P P' : PO} (h : RWD P P') {E : List Nat} (L : List Nat) {la : Nat} (k : P.kd la = 30) : KEP E L P L P' la := ⟨fun y m _ => ⟨m, h.kd y, h.ek y, fun k2 o => ⟨by show P'.2.1 9 y = y; rw [h.1.1]; exact o, fun _ => ⟨h.lz k2, fun i _ _ => h.el y i⟩⟩, fun k2 => h.sma k2⟩, fun x _ _ => ⟨h.bp x, h.br x, h.be x⟩, h.lz k, fun i _ _ => h.el la i⟩
/-- numbers of blocks may have changed too -/
theorem RW1.kep {x : Nat} {P P' : PO} (h : RW1 x P P') {E : List Nat} (L : List Nat) {la : Nat} (k : P.kd la = 30) (n9 : 9 ≤ P.kd x ∧ P.kd x ≠ 30) : KEP E L P L P' la := by
  have n := n9.2
  have el : ∀ (l : Nat) (i : Int), P'.el l i = P.el l i := fun l i => by
    show ((P'.2.2.1 (P'.2.1 1 l)) i.toNat).getD 0 = ((P.2.2.1 (P.2.1 1 l)) i.toNat).getD 0
    rw [h.1]
  have ne : ∀ l : Nat, P.kd l = 30 → l ≠ x := fun l k2 e => n (by rw [← e]; exact k2)
  exact ⟨fun y m _ => ⟨m, by show P'.2.1 0 y = P.2.1 0 y; rw [h.1], by show P'.2.1 8 y = P.2.1 8 y; rw [h.1], fun k2 o => ⟨by show P'.2.1 9 y = y; rw [h.1]; exact o, fun _ => ⟨h.2 y (ne y k2) 0, fun i _ _ => el y i⟩⟩, fun k2 => h.sma n9.1 k2⟩, fun y _ _ => ⟨by show P'.2.1 1 y = P.2.1 1 y; rw [h.1], by show P'.2.1 2 y = P.2.1 2 y; rw [h.1], by show P'.2.1 3 y = P.2.1 3 y; rw [h.1]⟩, h.2 la (ne la k) 0, fun i _ _ => el la i⟩
/-- each list has a row of its own, and what its rows hold is in the pool; ed: the row of those that have none yet -/
def OWN9 (L : List Nat) (P : PO) (cO : ClassId) (ed la : Nat) : Prop := (∀ x : Nat, x ∈ L → P.kd x = 30 → (P.fl x ≠ 1 → P.lz x = 0 ∧ P.le x = ed) ∧ (P.fl x = 1 → P.le x ∈ L ∧ P.kd (P.le x) = 31 ∧ P.ow (P.le x) = x ∧ ELS L P (P.oa (P.le x)) ∧ 0 < P.an (P.le x) ∧ P.an (P.le x) ≤ 40000 ∧ P.ac (P.le x) = cO ∧ P.lz x ≤ P.an (P.le x))) ∧ P.ek la = 12 ∧ (∀ x : Nat, x ∈ L → P.kd x = 12 → (P.ek (P.br x) = 17 ∧ P.ow (P.br x) = x ∧ P.br x ∈ L ∧ P.kd (P.br x) = 30) ∧ P.ek (P.bp x) = 15 ∧ P.ow (P.bp x) = x ∧ P.bp x ∈ L ∧ P.kd (P.bp x) = 30) ∧ ∀ i j : Int, 0 ≤ i → i < j → j < P.lz la → P.el la i ≠ P.el la j
theorem OWN9.of {L : List Nat} {P P' : PO} {cO : ClassId} {ed la : Nat} (h : OWN9 L P cO ed la) (a : P'.2.1 = P.2.1) (b : P'.2.2.1 = P.2.2.1) (c : P'.2.2.2.2 = P.2.2.2.2) (z : ∀ l : Nat, P.kd l = 30 → P'.lz l = P.lz l) (kl : P.kd la = 30) : OWN9 L P' cO ed la := by
  obtain ⟨h1, h2, h3, h4⟩ := h
  have kd : ∀ y : Nat, P'.kd y = P.kd y := fun y => by show P'.2.1 0 y = P.2.1 0 y; rw [a]
  have el : ∀ (l : Nat) (i : Int), P'.el l i = P.el l i := fun l i => by
    show ((P'.2.2.1 (P'.2.1 1 l)) i.toNat).getD 0 = ((P.2.2.1 (P.2.1 1 l)) i.toNat).getD 0
    rw [a, b]
  refine ⟨fun x m k => ?_, ?_, ?_, ?_⟩
  · rw [kd] at k
    rw [z x k]
    have := h1 x m k
    unfold ELS PO.fl PO.kd PO.le PO.oa PO.ow PO.an PO.ac at *
    rw [a, b, c]; exact this
  · unfold PO.ek at *; rw [a]; exact h2
  · unfold PO.kd PO.ek PO.br PO.bp PO.ow at *; rw [a]; exact h3
  · rw [z la kl]; simp only [el]; exact h4
def sumI (f : Int → Int) : Nat → Int
  | 0 => 0
  | n + 1 => sumI f n + f n
theorem sumI_eq {f g : Int → Int} {n : Nat} (h : ∀ i : Int, 0 ≤ i → i < n → f i = g i) : sumI f n = sumI g n := by
  induction n with
  | zero => rfl
  | succ n ih => unfold sumI; rw [ih (fun i a b => h i a (by omega)), h n (by omega) (by omega)]
theorem sumI_le {f g : Int → Int} {n : Nat} (h : ∀ i : Int, 0 ≤ i → i < n → f i ≤ g i) : sumI f n ≤ sumI g n := by
  induction n with
  | zero => exact Int.le_refl _
  | succ n ih => unfold sumI; have a := ih (fun i a b => h i a (by omega)); have b := h n (by omega) (by omega); omega
theorem sumI_one {f g : Int → Int} {n : Nat} {k d : Int} (k0 : 0 ≤ k) (k1 : k < n) (e : g k = f k + d) (h : ∀ i : Int, 0 ≤ i → i < n → i ≠ k → g i = f i) : sumI g n = sumI f n + d := by
  induction n with
  | zero => omega
  | succ n ih =>
    unfold sumI
    by_cases q : k = n
    · rw [← q, e, sumI_eq (fun i a b => h i a (by omega) (by omega))]; omega
    · rw [ih (by omega) (fun i a b c => h i a (by omega) c), h n (by omega) (by omega) (by omega)]; omega
theorem sumI_nn {f : Int → Int} {n : Nat} (h : ∀ i : Int, 0 ≤ i → i < n → 0 ≤ f i) : 0 ≤ sumI f n := by
  induction n with
  | zero => exact Int.le_refl _
  | succ n ih => unfold sumI; have a := ih (fun i a b => h i a (by omega)); have b := h n (by omega) (by omega); omega
theorem sumI_in {f : Int → Int} {n : Nat} {k : Int} (h : ∀ i : Int, 0 ≤ i → i < n → 0 ≤ f i) (k0 : 0 ≤ k) (k1 : k < n) : f k ≤ sumI f n := by
  induction n with
  | zero => omega
  | succ n ih =>
    unfold sumI
    have b := h n (by omega) (by omega)
    have a := sumI_nn (f := f) (n := n) (fun i a b => h i a (by omega))
    by_cases q : k = n
    · rw [← q]; omega
    · have c := ih (fun i a b => h i a (by omega)) (by omega); omega
/-- how many stand in all the blocks' lists: f = 2 rows, f = 1 PHIs -/
def PO.tot (P : PO) (f la : Nat) : Int := sumI (fun i => P.lz (P.2.1 f (P.el la i))) (P.lz la).toNat
/-- PREDs of the function's PHIs are its blocks -/
def PBK (P : PO) (la : Nat) : Prop := ∀ x : Nat, INB P la x → ∀ j : Int, 0 ≤ j → j < P.lz (P.bp x) → PRB P (P.el (P.bp x) j) (P.lz la)
theorem PRB.same {P P' : PO} {z : Nat} {n : Int} (a : P'.pn z = P.pn z) (b : P'.pp z = P.pp z) (c : P'.ia (P.pp z) = P.ia (P.pp z)) (h : PRB P z n) : PRB P' z n := fun i i0 i1 => by
  rw [b, c]; exact h i i0 (by rw [← a]; exact i1)
/-- a function with all that the pool keeps -/
def ALP (L : List Nat) (P : PO) (cO cI cZ : ClassId) (ed la : Nat) : Prop := ALLK L P cO cI cZ la ∧ OWN9 L P cO ed la ∧ PBK P la ∧ GLO L P cO
section ALP9
variable {L : List Nat} {P P' : PO} {cO cI cZ : ClassId} {ed la x : Nat}
theorem ALP.lok (h : ALP L P cO cI cZ ed la) : LOK L P cO 12 la := h.1.1.1
theorem ALP.inb (h : ALP L P cO cI cZ ed la) (i : INB P la x) : BOK L P cO (P.lz la) x := by
  obtain ⟨j, a, b, c⟩ := i
  rw [c]; exact h.1.blk a b
theorem ALP.rok (h : ALP L P cO cI cZ ed la) (m : x ∈ L) (k : P.kd x = 17) : ROK9 P x := h.1.1.2.2.2 x m k
theorem ALP.pik (h : ALP L P cO cI cZ ed la) (m : x ∈ L) (k : P.kd x = 15) : PIK L P cI cZ x := h.1.2 x m k
theorem ALP.op21 (h : ALP L P cO cI cZ ed la) (m : x ∈ L) (k : P.kd x = 17) (e : P.ek x ≠ 1) : (P.ro x ≤ 14 ∨ P.ro x = 20 ∨ P.ro x = 21) := h.2.2.2.2.2 x m k e
theorem KEP.back {E : List Nat} {L' : List Nat} (h : KEP E L P L' P' la) (i : INB P' la x) : INB P la x := by
  obtain ⟨j, a, b, c⟩ := i
  rw [h.2.2.1] at b
  exact ⟨j, a, b, by rw [c, h.2.2.2 j a b]⟩
/-- the PHI at a place of a block's list -/
theorem ALP.at (h : ALP L P cO cI cZ ed la) (i : INB P la x) {j : Int} (j0 : 0 ≤ j) (j1 : j < P.lz (P.bp x)) : PIK L P cI cZ (P.el (P.bp x) j) := by
  have q := (h.inb i).2.2.1.2.2.2.2 j j0 j1
  exact h.pik q.2.1 q.2.2
theorem ALP.phi (h : ALP L P cO cI cZ ed la) (w : PH1 x P P') (k : P.kd x = 15) (p : PIK L P' cI cZ x) (q : PRQ x P P') : ALP L P' cO cI cZ ed la := by
  have r := w.rwd k
  refine ⟨h.1.phi w k p, h.2.1.of w.1.1 w.1.2.1 w.1.2.2 (fun l q => r.lz q) h.lok.2.1, fun y m j j0 j1 => ?_, h.2.2.2.phi w k⟩
  have m' := (r.kep (E := []) L h.lok.2.1).back m
  have lb := (h.inb m').2.2.1
  rw [r.bp, r.lz lb.2.1] at j1
  rw [r.bp, r.el, r.lz h.lok.2.1]
  have b := h.2.2.1 y m' j j0 j1
  by_cases e : P.el (P.bp y) j = x
  · rw [e] at b ⊢; exact q _ b
  · have pk := h.at m' j0 j1
    exact b.same (w.2.1 _ e 1) (congrFun (congrFun w.1.1 1) _) (w.2.2 _ (by rw [pk.2.1.2.2.2]; exact e))
theorem ALP.row (h : ALP L P cO cI cZ ed la) (w : RW1 x P P') (k : P.kd x = 17) (p : ROK9 P' x) (o : P.ek x ≠ 1 → (P'.ro x ≤ 14 ∨ P'.ro x = 20 ∨ P'.ro x = 21)) : ALP L P' cO cI cZ ed la := by
  have r := w.rwd (Or.inl k)
  refine ⟨h.1.row w k p, h.2.1.of (by rw [w.1]) (by rw [w.1]) (by rw [w.1]) (fun l q => r.lz q) h.lok.2.1, fun y m j j0 j1 => ?_, h.2.2.2.row w k o⟩
  have m' := (r.kep (E := []) L h.lok.2.1).back m
  have lb := (h.inb m').2.2.1
  rw [r.bp, r.lz lb.2.1] at j1
  rw [r.bp, r.el, r.lz h.lok.2.1]
  have b := h.2.2.1 y m' j j0 j1
  have pk := h.at m' j0 j1
  exact b.same (w.2 _ (kd_ne pk.1.2 k (by decide)) 1) (by show P'.2.1 1 _ = P.2.1 1 _; rw [w.1]) (by show P'.2.2.2.1 _ = P.2.2.2.1 _; rw [w.1])
theorem ALP.goal (h : ALP L P cO cI cZ ed la) (w : RW1 x P P') (k : P.kd x = 12) (g : 0 ≤ P'.bf x ∧ P'.bf x < P.lz la ∧ 0 ≤ P'.bs x ∧ P'.bs x < P.lz la) : ALP L P' cO cI cZ ed la := by
  have kk : ∀ y : Nat, P'.kd y = P.kd y := fun y => by show P'.2.1 0 y = P.2.1 0 y; rw [w.1]
  have nl : la ≠ x := fun e => by have := h.1.1.1.2.1; rw [e] at this; omega
  have zl : P'.lz la = P.lz la := w.2 la nl 0
  have el : ∀ i : Int, P'.el la i = P.el la i := fun i => by
    show ((P'.2.2.1 (P'.2.1 1 la)) i.toNat).getD 0 = ((P.2.2.1 (P.2.1 1 la)) i.toNat).getD 0
    rw [w.1]
  refine ⟨⟨⟨w.lok (by omega) h.1.1.1, by rw [zl]; exact h.1.1.2.1, fun i i0 i1 => ?_, fun q m d => ?_⟩, fun q m d => ?_⟩, h.2.1.of (by rw [w.1]) (by rw [w.1]) (by rw [w.1]) (fun l q => w.2 l (kd_ne q k (by decide)) 0) h.lok.2.1, fun y m j j0 j1 => ?_, h.2.2.2.goal w k (by have := h.1.1.2.1; omega)⟩
  · rw [zl] at i1
    obtain ⟨a, b, c, d, e⟩ := h.1.blk i0 i1
    have br : P'.br (P.el la i) = P.br (P.el la i) := by show P'.2.1 2 _ = P.2.1 2 _; rw [w.1]
    have bp : P'.bp (P.el la i) = P.bp (P.el la i) := by show P'.2.1 1 _ = P.2.1 1 _; rw [w.1]
    have be : P'.be (P.el la i) = P.be (P.el la i) := by show P'.2.1 3 _ = P.2.1 3 _; rw [w.1]
    rw [el, zl]
    refine ⟨⟨a.1, (kk _).trans a.2⟩, by rw [br]; exact w.lok (by omega) b, by rw [bp]; exact w.lok (by omega) c, by rw [be, kk]; exact d, ?_⟩
    by_cases q : P.el la i = x
    · rw [q]; omega
    · have f1 : P'.bf (P.el la i) = P.bf (P.el la i) := w.2 _ q 0
      have f2 : P'.bs (P.el la i) = P.bs (P.el la i) := w.2 _ q 1
      rw [f1, f2]; exact e
  · have d' : P.kd q = 17 := (kk q).symm.trans d
    exact w.rok (fun e => by rw [e] at d'; omega) (h.rok m d')
  · have d' : P.kd q = 15 := (kk q).symm.trans d
    exact (h.pik m d').other w.ph1 (fun e => by rw [e] at d'; omega)
  · have ke := w.kep (E := []) L h.lok.2.1 (by omega)
    have m' := ke.back m
    have ib := h.inb m'
    have bp := (ke.2.1 y ib.1.1 ib.1.2).1
    have lb := ib.2.2.1
    have lz : P'.lz (P.bp y) = P.lz (P.bp y) := w.2 _ (kd_ne lb.2.1 k (by decide)) 0
    have eb : P'.el (P.bp y) j = P.el (P.bp y) j := by
      show ((P'.2.2.1 (P'.2.1 1 _)) j.toNat).getD 0 = ((P.2.2.1 (P.2.1 1 _)) j.toNat).getD 0
      rw [w.1]
    rw [bp, lz] at j1
    rw [bp, eb, zl]
    have pk := h.at m' j0 j1
    exact (h.2.2.1 y m' j j0 j1).same (w.2 _ (kd_ne pk.1.2 k (by decide)) 1) (by show P'.2.1 1 _ = P.2.1 1 _; rw [w.1]) (by show P'.2.2.2.1 _ = P.2.2.2.1 _; rw [w.1])
theorem ALP.fl1 {l k : Nat} (h : ALP L P cO cI cZ ed la) (q : LOK L P cO k l) (z : P.lz l ≠ 0) : P.fl l = 1 := by
  rcases Classical.em (P.fl l = 1) with e | e
  · exact e
  · exact absurd ((h.2.1.1 l q.1 q.2.1).1 e).1 z
/-- what a list needs to be changed -/
theorem ALP.own {l k : Nat} (h : ALP L P cO cI cZ ed la) (q : LOK L P cO k l) (z : P.lz l ≠ 0) : (P.le l ∈ L ∧ P.kd (P.le l) = 31 ∧ P.ac (P.le l) = cO) ∧ ELS L P (P.oa (P.le l)) ∧ (P.lz l ≤ P.an (P.le l) ∧ (P.an (P.le l) : Int) ≤ 40000 ∧ 0 < P.an (P.le l)) := by
  rcases q.2.2.2.1 with e | ⟨a, b, c, d, e⟩
  · exact absurd e z
  · obtain ⟨_, _, _, f, g⟩ := (h.2.1.1 l q.1 q.2.1).2 (h.fl1 q z)
    exact ⟨⟨a, b, c⟩, f, d, by omega, g.1⟩
/-- one taken out of a list -/
theorem ALP.away {l k : Nat} (h : ALP L P cO cI cZ ed la) (w : LS1 x P P') (mx : x ∈ L) (kx : P.kd x = 30) (lx : P.fl x = 1) (q : LOK L P cO k l) (n : l ≠ x) : LOK L P' cO k l := by
  have le : P'.le l = P.le l := by show P'.2.1 1 l = P.2.1 1 l; rw [w.1]
  have z : P'.lz l = P.lz l := w.2.2.1 l n 0
  have oa : P.lz l = 0 ∨ P'.oa (P.le l) = P.oa (P.le l) := by
    rcases q.2.2.2.1 with e | ⟨a, b, c, d, e⟩
    · exact Or.inl e
    · by_cases z0 : P.lz l = 0
      · exact Or.inl z0
      · refine Or.inr (w.2.2.2 _ (fun q2 => n ?_))
        rw [← ((h.2.1.1 l q.1 q.2.1).2 (h.fl1 q z0)).2.2.1, q2, ((h.2.1.1 x mx kx).2 lx).2.2.1]
  obtain ⟨a, b, c, d, e⟩ := q
  refine ⟨a, (w.kd l).trans b, by rw [z]; exact c, ?_, fun i i0 i1 => ?_⟩
  · rw [z, le]
    have an : P'.an (P.le l) = P.an (P.le l) := by show P'.2.1 1 _ = P.2.1 1 _; rw [w.1]
    have ac : P'.ac (P.le l) = P.ac (P.le l) := by show P'.2.2.2.2 _ = P.2.2.2.2 _; rw [w.2.1]
    rw [w.kd, an, ac]; exact d
  · rw [z] at i1
    rcases oa with o | o
    · omega
    · have el : P'.el l i = P.el l i := by unfold PO.el; rw [le, o]
      rw [le, o, el, w.kd]; exact e i i0 i1
theorem ALP.rmv {l k : Nat} {i : Int} (h : ALP L P cO cI cZ ed la) (w : LS1 x P P') (mx : x ∈ L) (kx : P.kd x = 30) (lx : P.fl x = 1) (z1 : P'.lz x = P.lz x - 1) (zp : 0 < P.lz x) (r : RMV (P.oa (P.le x)) (P'.oa (P.le x)) i (P.lz x)) (q : LOK L P cO k l) : LOK L P' cO k l := by
  by_cases n : l = x
  · subst n
    have le : P'.le l = P.le l := by show P'.2.1 1 l = P.2.1 1 l; rw [w.1]
    obtain ⟨a, b, c, d, e⟩ := q
    refine ⟨a, (w.kd l).trans b, by omega, ?_, fun j j0 j1 => ?_⟩
    · rcases d with d | ⟨d1, d2, d3, d4, d5⟩
      · omega
      · have an : P'.an (P.le l) = P.an (P.le l) := by show P'.2.1 1 _ = P.2.1 1 _; rw [w.1]
        have ac : P'.ac (P.le l) = P.ac (P.le l) := by show P'.2.2.2.2 _ = P.2.2.2.2 _; rw [w.2.1]
        rw [le, w.kd, an, ac]
        exact Or.inr ⟨d1, d2, d3, by omega, d5⟩
    · have g := rmv_el w r j0 (by omega)
      have m := e (if j < i then j else j + 1) (by split <;> omega) (by split <;> omega)
      rw [m.1] at g
      have el : P'.el l j = P.el l (if j < i then j else j + 1) := by
        have : P'.el l j = ((P'.oa (P'.le l)) j.toNat).getD 0 := rfl
        rw [this, le, g]; rfl
      rw [le, g, el, w.kd]
      exact ⟨rfl, m.2⟩
  · exact h.away w mx kx lx q n
theorem ALP.lskep {E : List Nat} (h : ALP L P cO cI cZ ed la) (w : LS1 x P P') (mx : x ∈ L) (kx : P.kd x = 30) (lx : P.fl x = 1) (e : P.ek x ≠ 12) (ox : P.ow x ≠ x ∨ x ∈ E) : KEP E L P L P' la := by
  have n : la ≠ x := fun q => e (by rw [← q]; exact h.2.1.2.1)
  have o : OWA L P cO ed := h.2.1.1
  refine ⟨fun y m _ => ⟨m, w.kd y, w.ek y, fun k2 o2 => ⟨by show P'.2.1 9 y = y; rw [w.1]; exact o2, fun ne => ?_⟩, fun k2 => w.sma kx (Or.inl ((o x mx kx).2 lx).2.1) k2⟩, fun y _ _ => ⟨by show P'.2.1 1 y = P.2.1 1 y; rw [w.1], by show P'.2.1 2 y = P.2.1 2 y; rw [w.1], by show P'.2.1 3 y = P.2.1 3 y; rw [w.1]⟩, w.2.2.1 la n 0, fun i i0 i1 => o.els w mx kx lx h.lok.1 h.lok.2.1 n i0 i1⟩
  have ny : y ≠ x := fun e2 => by
    rcases ox with q | q
    · exact q (by rw [← e2]; exact o2)
    · exact ne (by rw [e2]; exact q)
  exact ⟨w.2.2.1 y ny 0, fun i i0 i1 => o.els w mx kx lx m k2 ny i0 i1⟩
theorem LS1.rok {q : Nat} (w : LS1 x P P') (n : q ≠ x) (k : ROK9 P q) : ROK9 P' q := by
  unfold ROK9 PO.ro PO.rt PO.ra PO.rb PO.rA PO.rB PO.rg at *
  simp only [w.2.2.1 q n]; exact k
theorem LS1.pik {q : Nat} (w : LS1 x P P') (n : q ≠ x) (k : PIK L P cI cZ q) : PIK L P' cI cZ q := by
  have e1 : P'.1 0 q = P.1 0 q := w.2.2.1 q n 0
  have e2 : P'.1 1 q = P.1 1 q := w.2.2.1 q n 1
  have e3 : P'.1 2 q = P.1 2 q := w.2.2.1 q n 2
  unfold PIK PO.kd PO.pp PO.pu PO.pr PO.ac PO.ow PO.pn PO.an PO.pt PO.pg PO.ia at *
  rw [w.1, w.2.1, e1, e2, e3]; exact k
theorem LS1.own {E : List Nat} (h : OWN9 L P cO ed la) (ke : KEP E L P L P' la) (w : LS1 x P P') (mx : x ∈ L) (kx : P.kd x = 30) (lx : P.fl x = 1) (els : ELS L P' (P'.oa (P.le x))) (z1 : P'.lz x ≤ P.lz x) : OWN9 L P' cO ed la := by
  have le : ∀ y : Nat, P'.le y = P.le y := fun y => by show P'.2.1 1 y = P.2.1 1 y; rw [w.1]
  have fl : ∀ y : Nat, P'.fl y = P.fl y := fun y => by show P'.2.1 7 y = P.2.1 7 y; rw [w.1]
  refine ⟨fun y m k => ?_, by show P'.2.1 8 la = 12; rw [w.1]; exact h.2.1, fun y m k => ?_, fun i j a b c => ?_⟩
  · rw [w.kd] at k
    rw [le, fl]
    obtain ⟨h1, h2⟩ := h.1 y m k
    refine ⟨fun f => ?_, fun f => ?_⟩
    · have n : y ≠ x := fun e => f (by rw [e]; exact lx)
      have z : P'.lz y = P.lz y := w.2.2.1 y n 0
      rw [z]; exact h1 f
    · obtain ⟨l, a, b, c, d⟩ := h2 f
      refine ⟨l, (w.kd _).trans a, by show P'.2.1 9 _ = y; rw [w.1]; exact b, ?_, ?_⟩
      rotate_left
      · have an : P'.an (P.le y) = P.an (P.le y) := by show P'.2.1 1 _ = P.2.1 1 _; rw [w.1]
        have ac : P'.ac (P.le y) = P.ac (P.le y) := by show P'.2.2.2.2 _ = P.2.2.2.2 _; rw [w.2.1]
        rw [an, ac]
        refine ⟨d.1, d.2.1, d.2.2.1, ?_⟩
        by_cases q : y = x
        · rw [q] at d ⊢; have := d.2.2.2; omega
        · have z : P'.lz y = P.lz y := w.2.2.1 y q 0
          rw [z]; exact d.2.2.2
      by_cases q : y = x
      · rw [q]; exact els
      · have o : P'.oa (P.le y) = P.oa (P.le y) := w.2.2.2 _ (fun q2 => q (by rw [← b, q2, ((h.1 x mx kx).2 lx).2.2.1]))
        rw [o]
        intro j z e
        obtain ⟨f, g⟩ := c j z e
        exact ⟨f, by show OBK (P'.2.1 0 z); rw [w.1]; exact g⟩
  · rw [w.kd] at k
    show (P'.2.1 8 (P'.2.1 2 y) = 17 ∧ P'.2.1 9 (P'.2.1 2 y) = y ∧ P'.2.1 2 y ∈ L ∧ P'.2.1 0 (P'.2.1 2 y) = 30) ∧ P'.2.1 8 (P'.2.1 1 y) = 15 ∧ P'.2.1 9 (P'.2.1 1 y) = y ∧ P'.2.1 1 y ∈ L ∧ P'.2.1 0 (P'.2.1 1 y) = 30
    rw [w.1]; exact h.2.2.1 y m k
  · rw [ke.2.2.1] at c
    rw [ke.2.2.2 i a (by omega), ke.2.2.2 j (by omega) c]; exact h.2.2.2 i j a b c
theorem ALP.remove {i : Int} (h : ALP L P cO cI cZ ed la) (w : LS1 x P P') (mx : x ∈ L) (kx : P.kd x = 30) (lx : P.fl x = 1) (e : P.ek x ≠ 12) (z1 : P'.lz x = P.lz x - 1) (zp : 0 < P.lz x) (els : ELS L P' (P'.oa (P.le x))) (r : RMV (P.oa (P.le x)) (P'.oa (P.le x)) i (P.lz x)) : ALP L P' cO cI cZ ed la := by
  have k : KEP [x] L P L P' la := h.lskep w mx kx lx e (Or.inr (by simp))
  refine ⟨⟨⟨h.rmv w mx kx lx z1 zp r h.lok, by rw [k.2.2.1]; exact h.1.1.2.1, fun j j0 j1 => ?_, fun q m d => ?_⟩, fun q m d => ?_⟩, LS1.own h.2.1 k w mx kx lx els (by omega), fun y m j j0 j1 => ?_, h.2.2.2.remove h.2.1.1 w mx kx lx z1 zp r⟩
  · rw [k.2.2.1] at j1 ⊢
    rw [k.2.2.2 j j0 j1]
    obtain ⟨a, b, c, d, f⟩ := h.1.blk j0 j1
    obtain ⟨g1, g2, g3⟩ := k.2.1 _ a.1 a.2
    have n : P.el la j ≠ x := kd_ne a.2 kx (by decide)
    refine ⟨⟨a.1, (w.kd _).trans a.2⟩, by rw [g2]; exact h.rmv w mx kx lx z1 zp r b, by rw [g1]; exact h.rmv w mx kx lx z1 zp r c, by rw [g3, w.kd]; exact d, ?_⟩
    have f1 : P'.bf (P.el la j) = P.bf (P.el la j) := w.2.2.1 _ n 0
    have f2 : P'.bs (P.el la j) = P.bs (P.el la j) := w.2.2.1 _ n 1
    rw [f1, f2]; exact f
  · rw [w.kd] at d
    exact w.rok (kd_ne d kx (by decide)) (h.rok m d)
  · rw [w.kd] at d
    exact w.pik (kd_ne d kx (by decide)) (h.pik m d)
  · have m' := k.back m
    have ib := h.inb m'
    have bp := (k.2.1 y ib.1.1 ib.1.2).1
    have lb := ib.2.2.1
    rw [bp] at j1 ⊢
    rw [k.2.2.1]
    have go : ∀ i : Int, 0 ≤ i → i < P.lz (P.bp y) → PRB P' (P.el (P.bp y) i) (P.lz la) := fun i i0 i1 => by
      have pk := h.at m' i0 i1
      exact (h.2.2.1 y m' i i0 i1).same (w.2.2.1 _ (kd_ne pk.1.2 kx (by decide)) 1) (by show P'.2.1 1 _ = P.2.1 1 _; rw [w.1]) (by show P'.2.2.2.1 _ = P.2.2.2.1 _; rw [w.2.1])
    have le : P'.le (P.bp y) = P.le (P.bp y) := by show P'.2.1 1 _ = P.2.1 1 _; rw [w.1]
    by_cases n : P.bp y = x
    · rw [n, z1] at j1
      have g := rmv_el w r j0 (by omega)
      have el : P'.el (P.bp y) j = P.el (P.bp y) (if j < i then j else j + 1) := by
        unfold PO.el; rw [le, n, g]
      rw [el]
      exact go _ (by split <;> omega) (by rw [n]; split <;> omega)
    · have lz : P'.lz (P.bp y) = P.lz (P.bp y) := w.2.2.1 _ n 0
      rw [lz] at j1
      have q := h.away w mx kx lx lb n
      have el : P'.el (P.bp y) j = P.el (P.bp y) j := by
        rcases lb.2.2.2.1 with e0 | ⟨a, _⟩
        · omega
        · have o : P'.oa (P.le (P.bp y)) = P.oa (P.le (P.bp y)) := w.2.2.2 _ (fun q2 => n (by rw [← ((h.2.1.1 _ lb.1 lb.2.1).2 (h.fl1 lb (by omega))).2.2.1, q2, ((h.2.1.1 x mx kx).2 lx).2.2.1]))
          unfold PO.el; rw [le, o]
      rw [el]; exact go j j0 j1
theorem RWD.tot (w : RWD P P') (h : ALP L P cO cI cZ ed la) (f : Nat) (hf : f = 1 ∨ f = 2) : P'.tot f la = P.tot f la := by
  unfold PO.tot
  rw [w.lz h.lok.2.1]
  refine sumI_eq (fun i a b => ?_)
  have i1 : i < P.lz la := by omega
  have q := h.1.blk a i1
  have e : P'.2.1 = P.2.1 := w.1.1
  rw [w.el, e]
  rcases hf with rfl | rfl
  · exact w.lz q.2.2.1.2.1
  · exact w.lz q.2.1.2.1
theorem RW1.tot (w : RW1 x P P') (h : ALP L P cO cI cZ ed la) (k9 : 9 ≤ P.kd x ∧ P.kd x ≠ 30) (f : Nat) (hf : f = 1 ∨ f = 2) : P'.tot f la = P.tot f la := by
  have k := k9.2
  have ke := w.kep (E := []) L h.lok.2.1 k9
  unfold PO.tot
  rw [ke.2.2.1]
  refine sumI_eq (fun i a b => ?_)
  have i1 : i < P.lz la := by omega
  have q := h.1.blk a i1
  rw [ke.2.2.2 i a i1, w.1]
  rcases hf with rfl | rfl
  · exact w.2 _ (fun e => k (by rw [← e]; exact q.2.2.1.2.1)) 0
  · exact w.2 _ (fun e => k (by rw [← e]; exact q.2.1.2.1)) 0
theorem ALP.in (h : ALP L P cO cI cZ ed la) (i : INB P la x) : P.lz (P.br x) ≤ P.tot 2 la ∧ P.lz (P.bp x) ≤ P.tot 1 la := by
  obtain ⟨j, a, b, rfl⟩ := i
  constructor
  · exact sumI_in (f := fun i => P.lz (P.2.1 2 (P.el la i))) (fun i a b => (h.1.blk a (by omega)).2.1.2.2.1.1) a (by omega)
  · exact sumI_in (f := fun i => P.lz (P.2.1 1 (P.el la i))) (fun i a b => (h.1.blk a (by omega)).2.2.1.2.2.1.1) a (by omega)
theorem ALP.totnn (h : ALP L P cO cI cZ ed la) : 0 ≤ P.tot 2 la ∧ 0 ≤ P.tot 1 la := ⟨sumI_nn (fun i a b => (h.1.blk a (by omega)).2.1.2.2.1.1), sumI_nn (fun i a b => (h.1.blk a (by omega)).2.2.1.2.2.1.1)⟩
/-- a list's count changed by d: its block's, and no other's -/
theorem ALP.tots {E : List Nat} {d : Int} {L' : List Nat} {b l : Nat} (h : ALP L P cO cI cZ ed la) (ke : KEP E L P L' P' la) (i : INB P la b) (f : Nat) (hf : f = 1 ∨ f = 2) (el : P.2.1 f b = l) (z : P'.lz l = P.lz l + d) (o : ∀ y : Nat, y ∈ L → P.kd y = 30 → y ≠ l → P'.lz y = P.lz y) : P'.tot f la = P.tot f la + d ∧ P'.tot (3 - f) la = P.tot (3 - f) la := by
  obtain ⟨k, k0, k1, e⟩ := i
  subst e
  have bl := fun (i : Int) (a : 0 ≤ i) (b : i < P.lz la) => h.1.blk a b
  have ob := fun (i : Int) (a : 0 ≤ i) (b : i < P.lz la) => h.2.1.2.2.1 _ (bl i a b).1.1 (bl i a b).1.2
  have kb := fun (i : Int) (a : 0 ≤ i) (b : i < P.lz la) => ke.2.1 _ (bl i a b).1.1 (bl i a b).1.2
  have ne : ∀ i : Int, 0 ≤ i → i < P.lz la → i ≠ k → P.el la i ≠ P.el la k := fun i a b c => by
    rcases Int.lt_or_gt_of_ne c with q | q
    · exact h.2.1.2.2.2 i k a q k1
    · exact fun e => h.2.1.2.2.2 k i k0 q b e.symm
  unfold PO.tot
  rw [ke.2.2.1]
  rcases hf with rfl | rfl
  · constructor
    · refine sumI_one (k := k) k0 (by omega) ?_ (fun i a b c => ?_)
      · show P'.lz (P'.2.1 1 (P'.el la k)) = P.lz (P.2.1 1 (P.el la k)) + d
        have q : P'.2.1 1 (P.el la k) = P.2.1 1 (P.el la k) := (kb k k0 k1).1
        rw [ke.2.2.2 k k0 k1, q, el]; exact z
      · have i1 : i < P.lz la := by omega
        show P'.lz (P'.2.1 1 (P'.el la i)) = P.lz (P.2.1 1 (P.el la i))
        have q : P'.2.1 1 (P.el la i) = P.2.1 1 (P.el la i) := (kb i a i1).1
        rw [ke.2.2.2 i a i1, q]
        refine o _ (bl i a i1).2.2.1.1 (bl i a i1).2.2.1.2.1 (fun e => ne i a i1 c ?_)
        have q1 := (ob i a i1).2.2.1
        have q2 := (ob k k0 k1).2.2.1
        have q3 : P.bp (P.el la i) = P.bp (P.el la k) := e.trans el.symm
        rw [← q1, q3, q2]
    · refine sumI_eq (fun i a b => ?_)
      have i1 : i < P.lz la := by omega
      show P'.lz (P'.2.1 2 (P'.el la i)) = P.lz (P.2.1 2 (P.el la i))
      have q : P'.2.1 2 (P.el la i) = P.2.1 2 (P.el la i) := (kb i a i1).2.1
      rw [ke.2.2.2 i a i1, q]
      refine o _ (bl i a i1).2.1.1 (bl i a i1).2.1.2.1 (fun e => ?_)
      have q1 := (ob i a i1).1.1
      have q2 := (ob k k0 k1).2.1
      have q3 : P.br (P.el la i) = P.bp (P.el la k) := e.trans el.symm
      rw [q3, q2] at q1; omega
  · constructor
    · refine sumI_one (k := k) k0 (by omega) ?_ (fun i a b c => ?_)
      · show P'.lz (P'.2.1 2 (P'.el la k)) = P.lz (P.2.1 2 (P.el la k)) + d
        have q : P'.2.1 2 (P.el la k) = P.2.1 2 (P.el la k) := (kb k k0 k1).2.1
        rw [ke.2.2.2 k k0 k1, q, el]; exact z
      · have i1 : i < P.lz la := by omega
        show P'.lz (P'.2.1 2 (P'.el la i)) = P.lz (P.2.1 2 (P.el la i))
        have q : P'.2.1 2 (P.el la i) = P.2.1 2 (P.el la i) := (kb i a i1).2.1
        rw [ke.2.2.2 i a i1, q]
        refine o _ (bl i a i1).2.1.1 (bl i a i1).2.1.2.1 (fun e => ne i a i1 c ?_)
        have q1 := (ob i a i1).1.2.1
        have q2 := (ob k k0 k1).1.2.1
        have q3 : P.br (P.el la i) = P.br (P.el la k) := e.trans el.symm
        rw [← q1, q3, q2]
    · refine sumI_eq (fun i a b => ?_)
      have i1 : i < P.lz la := by omega
      show P'.lz (P'.2.1 1 (P'.el la i)) = P.lz (P.2.1 1 (P.el la i))
      have q : P'.2.1 1 (P.el la i) = P.2.1 1 (P.el la i) := (kb i a i1).1
      rw [ke.2.2.2 i a i1, q]
      refine o _ (bl i a i1).2.2.1.1 (bl i a i1).2.2.1.2.1 (fun e => ?_)
      have q1 := (ob i a i1).2.1
      have q2 := (ob k k0 k1).1.1
      have q3 : P.bp (P.el la i) = P.br (P.el la k) := e.trans el.symm
      rw [q3, q2] at q1; omega
end ALP9
