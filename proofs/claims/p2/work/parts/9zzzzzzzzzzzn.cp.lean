section PARK9
variable {D : va_G} {cl : List vw_C} {A0 : Nat → Prop} {X a b T : va_W} {H : Heap} {L LS : List Nat} {f : Nat → va_E} {x k : Nat} {c : Nat × va_E}
theorem pk_asc (h : va_P D cl (X ++ (a ++ b)) H) : va_P D cl ((X ++ a) ++ b) H := by rw [List.append_assoc]; exact h
theorem pk_ascD (h : va_D A0 (X ++ (a ++ b))) : va_D A0 ((X ++ a) ++ b) := by rw [List.append_assoc]; exact h
theorem pk_back (h : va_P D cl ((X ++ a) ++ b) H) : va_P D cl (X ++ (a ++ b)) H := by rw [← List.append_assoc]; exact h
theorem pk_backD (h : va_D A0 ((X ++ a) ++ b)) : va_D A0 (X ++ (a ++ b)) := by rw [← List.append_assoc]; exact h
theorem pk_perm : (X ++ (a ++ b)).Perm ((X ++ b) ++ a) := by
  rw [List.append_assoc]
  exact List.Perm.append_left X List.perm_append_comm
theorem pk_sw (h : va_P D cl (X ++ (a ++ b)) H) : va_P D cl (X ++ (b ++ a)) H := pl_Pp (List.Perm.append_left X List.perm_append_comm) h
theorem pk_swD (h : va_D A0 (X ++ (a ++ b))) : va_D A0 (X ++ (b ++ a)) := pl_Dp (List.Perm.append_left X List.perm_append_comm) h
theorem pk_A (h : va_P D cl (X ++ (a ++ b)) H) : va_P D cl (X ++ a) H := pl_left (pk_asc h)
theorem pk_B (h : va_P D cl (X ++ (a ++ b)) H) : va_P D cl (X ++ b) H := pl_left (pl_Pp pk_perm h)
theorem pk_up (h : (X ++ a)[k]? = some c) : (X ++ (a ++ b))[k]? = some c := by
  rw [← List.append_assoc, List.getElem?_append_left (List.getElem?_eq_some_iff.mp h).1]
  exact h
theorem pk_getA (h : x ∈ L) : ∃ k : Nat, (X ++ (va_pl L f ++ T))[k]? = some (x, f x) := by
  obtain ⟨k, hk⟩ := va_pl_get (X := X) (f := f) h
  exact ⟨k, pk_up hk⟩
theorem pk_getB (h : x ∈ L) : ∃ k : Nat, (X ++ (T ++ va_pl L f))[k]? = some (x, f x) := by
  obtain ⟨k, hk⟩ := va_pl_get (X := X ++ T) (f := f) h
  exact ⟨k, by rw [← List.append_assoc]; exact hk⟩
theorem pk_set {a' : va_W} {c' : Nat × va_E} (h : (X ++ a)[k]? = some c) (e : (X ++ a).set k c' = X ++ a') : (X ++ (a ++ b)).set k c' = X ++ (a' ++ b) := by
  rw [← List.append_assoc, List.set_append_left _ _ (List.getElem?_eq_some_iff.mp h).1, e, List.append_assoc]
theorem pk_out (h : x ∈ LS) : (X ++ (a ++ va_pl LS f)).Perm (((X ++ [(x, f x)]) ++ a) ++ va_pl (LS.erase x) f) := by
  rw [← List.append_assoc]
  exact (pl_out (X := X ++ a) h).trans (pl_new.append_right _)
end PARK9
/-- no element of a list stands twice -/
def DSL (P : PO) (l : Nat) : Prop := ∀ i j : Int, 0 ≤ i → i < j → j < P.lz l → P.el l i ≠ P.el l j
/-- a row that is a copy -/
def CRW (P : PO) (x : Nat) (Q : PO) (y : Nat) : Prop := P.ro x = Q.ro y ∧ P.rt x = Q.rt y ∧ P.ra x = Q.ra y ∧ P.rb x = Q.rb y ∧ P.rA x = Q.rA y ∧ P.rB x = Q.rB y
/-- a PHI with the first n operands of another -/
def CPH (P : PO) (x : Nat) (Q : PO) (y : Nat) (n : Int) : Prop := P.pn x = n ∧ P.pt x = Q.pt y ∧ ∀ k : Int, 0 ≤ k → k < n → P.ia (P.pp x) k = Q.ia (Q.pp y) k ∧ P.ia (P.pu x) k = Q.ia (Q.pu y) k ∧ P.ia (P.pr x) k = Q.ia (Q.pr y) k
/-- where a block's rows (f = 2) or PHIs (f = 1) begin -/
def OFS (f : Nat) (Q : PO) (ls : Nat) (b : Int) : Int := sumI (fun c => Q.lz (Q.2.1 f (Q.el ls c))) b.toNat
def LNN (f : Nat) (Q : PO) (ls : Nat) : Prop := ∀ c : Int, 0 ≤ c → c < Q.lz ls → 0 ≤ Q.lz (Q.2.1 f (Q.el ls c))
section OFS9
variable {f ls : Nat} {Q : PO} {b c i j k : Int}
theorem OFS.zero (f : Nat) (Q : PO) (ls : Nat) : OFS f Q ls 0 = 0 := rfl
theorem OFS.succ (b0 : 0 ≤ b) : OFS f Q ls (b + 1) = OFS f Q ls b + Q.lz (Q.2.1 f (Q.el ls b)) := by
  unfold OFS
  rw [show (b + 1).toNat = b.toNat + 1 from by omega]
  show sumI _ b.toNat + Q.lz (Q.2.1 f (Q.el ls ((b.toNat : Nat) : Int))) = _
  rw [show ((b.toNat : Nat) : Int) = b from by omega]
theorem OFS.nn (h : LNN f Q ls) (b1 : b ≤ Q.lz ls) : 0 ≤ OFS f Q ls b := sumI_nn (fun i i0 i1 => h i i0 (by omega))
theorem OFS.up (h : LNN f Q ls) (b0 : 0 ≤ b) (d : Nat) : b + 1 + d ≤ Q.lz ls → OFS f Q ls b + Q.lz (Q.2.1 f (Q.el ls b)) ≤ OFS f Q ls (b + 1 + d) := by
  induction d with
  | zero => intro _; rw [show b + 1 + ((0 : Nat) : Int) = b + 1 from by omega, OFS.succ b0]; exact Int.le_refl _
  | succ d ih =>
    intro q
    have r := ih (by omega)
    have s := OFS.succ (f := f) (Q := Q) (ls := ls) (b := b + 1 + d) (by omega)
    have t := h (b + 1 + d) (by omega) (by omega)
    rw [show b + 1 + ((d + 1 : Nat) : Int) = b + 1 + d + 1 from by omega]
    omega
theorem OFS.mono (h : LNN f Q ls) (b0 : 0 ≤ b) (bc : b < c) (c1 : c ≤ Q.lz ls) : OFS f Q ls b + Q.lz (Q.2.1 f (Q.el ls b)) ≤ OFS f Q ls c := by
  have q := OFS.up h b0 (c - b - 1).toNat (by omega)
  rw [show b + 1 + (((c - b - 1).toNat : Nat) : Int) = c from by omega] at q
  exact q
theorem OFS.inj (h : LNN f Q ls) (b0 : 0 ≤ b) (b1 : b < Q.lz ls) (j0 : 0 ≤ j) (j1 : j < Q.lz (Q.2.1 f (Q.el ls b))) (i0 : 0 ≤ i) (i1 : i < Q.lz ls) (k0 : 0 ≤ k) (k1 : k < Q.lz (Q.2.1 f (Q.el ls i))) (e : OFS f Q ls b + j = OFS f Q ls i + k) : b = i ∧ j = k := by
  by_cases q : b < i
  · have := OFS.mono h b0 q (by omega); omega
  · by_cases r : i < b
    · have := OFS.mono h i0 r (by omega); omega
    · have z : b = i := by omega
      subst z
      exact ⟨rfl, by omega⟩
end OFS9
/-- an object whose numbers and names stay, and its contents, if it is a row of numbers -/
def SM8 (y : Nat) (P P' : PO) : Prop := (∀ f : Nat, P'.1 f y = P.1 f y) ∧ (∀ f : Nat, P'.2.1 f y = P.2.1 f y) ∧ P'.oa y = P.oa y ∧ (40 ≤ P.kd y → P'.ia y = P.ia y)
def CH8 (S : Nat → Prop) (L : List Nat) (P : PO) (L' : List Nat) (P' : PO) : Prop := ∀ z : Nat, z ∈ L → ¬ S z → z ∈ L' ∧ SM8 z P P'
def CPR (P Q : PO) (lr ls : Nat) (n : Int) : Prop := ∀ b j : Int, 0 ≤ b → b < Q.lz ls → 0 ≤ j → j < Q.lz (Q.br (Q.el ls b)) → OFS 2 Q ls b + j < n → CRW P (P.el lr (OFS 2 Q ls b + j)) Q (Q.el (Q.br (Q.el ls b)) j)
def CPP (P Q : PO) (lp ls : Nat) (n : Int) : Prop := ∀ b j : Int, 0 ≤ b → b < Q.lz ls → 0 ≤ j → j < Q.lz (Q.bp (Q.el ls b)) → OFS 1 Q ls b + j < n → CPH P (P.el lp (OFS 1 Q ls b + j)) Q (Q.el (Q.bp (Q.el ls b)) j) (Q.pn (Q.el (Q.bp (Q.el ls b)) j))
/-- the lists of the blocks in front of m hold the Code's rows (PHIs) in order -/
def CPL (f l : Nat) (P Q : PO) (lb ls : Nat) (m n : Int) : Prop := ∀ b : Int, 0 ≤ b → b < m → P.lz (P.2.1 f (P.el lb b)) = Q.lz (Q.2.1 f (Q.el ls b)) ∧ OFS f Q ls b + Q.lz (Q.2.1 f (Q.el ls b)) ≤ n ∧ ∀ j : Int, 0 ≤ j → j < P.lz (P.2.1 f (P.el lb b)) → P.el (P.2.1 f (P.el lb b)) j = P.el l (OFS f Q ls b + j)
def CPE (P Q : PO) (lb ls : Nat) (i : Int) : Prop := ∀ b : Int, 0 ≤ b → b < i → CRW P (P.be (P.el lb b)) Q (Q.be (Q.el ls b)) ∧ P.bf (P.el lb b) = Q.bf (Q.el ls b) ∧ P.bs (P.el lb b) = Q.bs (Q.el ls b)
def CPI (P Q : PO) (lb lr lp ls : Nat) (i n p : Int) : Prop := CPR P Q lr ls n ∧ CPP P Q lp ls p ∧ CPL 2 lr P Q lb ls i n ∧ CPL 1 lp P Q lb ls i p ∧ CPE P Q lb ls i
/-- nothing that a copy holds is in S -/
def HNS (S : Nat → Prop) (P : PO) (lb lr lp : Nat) (i n p : Int) : Prop := (∀ b : Int, 0 ≤ b → b < i → ¬ S (P.el lb b) ∧ ¬ S (P.be (P.el lb b)) ∧ (¬ S (P.br (P.el lb b)) ∧ (P.fl (P.br (P.el lb b)) = 1 → ¬ S (P.le (P.br (P.el lb b))))) ∧ ¬ S (P.bp (P.el lb b)) ∧ (P.fl (P.bp (P.el lb b)) = 1 → ¬ S (P.le (P.bp (P.el lb b))))) ∧ (∀ k : Int, 0 ≤ k → k < n → ¬ S (P.el lr k)) ∧ ∀ k : Int, 0 ≤ k → k < p → ¬ S (P.el lp k) ∧ ¬ S (P.pp (P.el lp k)) ∧ ¬ S (P.pu (P.el lp k)) ∧ ¬ S (P.pr (P.el lp k))
section CPI9
variable {L L' M LS : List Nat} {P P' P2 Q : PO} {cO cI cZ : ClassId} {ed x y l lb lr lp ls : Nat} {S S' : Nat → Prop} {i n p : Int} {E : List Nat}
theorem SM8.refl (z : Nat) (P : PO) : SM8 z P P := ⟨fun _ => rfl, fun _ => rfl, rfl, fun _ => rfl⟩
theorem SM8.trans (h : SM8 y P P') (k : SM8 y P' P2) : SM8 y P P2 := ⟨fun f => (k.1 f).trans (h.1 f), fun f => (k.2.1 f).trans (h.2.1 f), k.2.2.1.trans h.2.2.1, fun q => (k.2.2.2 (by show 40 ≤ P'.2.1 0 y; rw [h.2.1 0]; exact q)).trans (h.2.2.2 q)⟩
theorem SM9.s8 (h : SM9 y P P') : SM8 y P P' := ⟨h.1, h.2.1, h.2.2.1, fun _ => h.2.2.2.1⟩
theorem CHG.c8 (h : CHG S L P L' P') : CH8 S L P L' P' := fun z m n => ⟨(h z m n).1, (h z m n).2.s8⟩
theorem CH8.wk (h : CH8 S L P L' P') (s : ∀ z : Nat, z ∈ L → S z → S' z) : CH8 S' L P L' P' := fun z m n => h z m (fun q => n (s z m q))
theorem CH8.trans2 (h : CH8 S L P M P') (k : CH8 S' M P' L' P2) (s : ∀ z : Nat, z ∈ L → ¬ S z → SM8 z P P' → ¬ S' z) : CH8 S L P L' P2 := fun z m n => by
  obtain ⟨a, b⟩ := h z m n
  obtain ⟨c, d⟩ := k z a (s z m n b)
  exact ⟨c, b.trans d⟩
theorem CH8.lst (c : CH8 S L P L' P') (o : OWA L P cO ed) (m : y ∈ L) (k : P.kd y = 30) (h : ¬ S y) (g : P.fl y = 1 → ¬ S (P.le y)) : P'.lz y = P.lz y ∧ (∀ i : Int, 0 ≤ i → i < P.lz y → P'.el y i = P.el y i) ∧ P'.cap y = P.cap y := by
  have s := (c y m h).2
  have fl : P'.fl y = P.fl y := s.2.1 7
  have le : P'.le y = P.le y := s.2.1 1
  by_cases f : P.fl y = 1
  · obtain ⟨a, _⟩ := (o y m k).2 f
    have s2 := (c _ a (g f)).2
    have an : P'.an (P.le y) = P.an (P.le y) := s2.2.1 1
    have oa : P'.oa (P.le y) = P.oa (P.le y) := s2.2.2.1
    refine ⟨s.1 0, fun i _ _ => ?_, ?_⟩
    · unfold PO.el; rw [le, oa]
    · unfold PO.cap; rw [fl, le, an]
  · have z := ((o y m k).1 f).1
    refine ⟨s.1 0, fun i i0 i1 => by omega, ?_⟩
    unfold PO.cap; rw [fl, if_neg f, if_neg f]
theorem CRW.num (h : CRW P x Q y) (e : ∀ f : Nat, P'.1 f x = P.1 f x) : CRW P' x Q y := ⟨(e 0).trans h.1, (e 1).trans h.2.1, (e 2).trans h.2.2.1, (e 3).trans h.2.2.2.1, (e 4).trans h.2.2.2.2.1, (e 5).trans h.2.2.2.2.2⟩
theorem CPH.num (h : CPH P x Q y n) (e : SM8 x P P') (a1 : P'.ia (P.pp x) = P.ia (P.pp x)) (a2 : P'.ia (P.pu x) = P.ia (P.pu x)) (a3 : P'.ia (P.pr x) = P.ia (P.pr x)) : CPH P' x Q y n := by
  have b1 : P'.pp x = P.pp x := e.2.1 1
  have b2 : P'.pu x = P.pu x := e.2.1 2
  have b3 : P'.pr x = P.pr x := e.2.1 3
  refine ⟨(e.1 1).trans h.1, (e.1 0).trans h.2.1, fun k k0 k1 => ?_⟩
  rw [b1, b2, b3, a1, a2, a3]
  exact h.2.2 k k0 k1
/-- a copy stays where nothing of it changes -/
theorem CPI.fr (h : CPI P Q lb lr lp ls i n p) (g : GLF L P cO cI cZ ed) (c : CH8 S L P L' P') (kb : LOK L P cO 12 lb) (kr : LOK L P cO 17 lr) (kp : LOK L P cO 15 lp) (ib : i ≤ P.lz lb) (nr : n ≤ P.lz lr) (np : p ≤ P.lz lp) (z1 : LNN 1 Q ls) (z2 : LNN 2 Q ls) (iq : i ≤ Q.lz ls)
    (eb : ∀ k : Int, 0 ≤ k → k < i → P'.el lb k = P.el lb k) (er : ∀ k : Int, 0 ≤ k → k < n → P'.el lr k = P.el lr k) (ep : ∀ k : Int, 0 ≤ k → k < p → P'.el lp k = P.el lp k) (ns : HNS S P lb lr lp i n p) : CPI P' Q lb lr lp ls i n p := by
  obtain ⟨h1, h2, h3, h4, h5⟩ := h
  have bk : ∀ b : Int, 0 ≤ b → b < i → (P.el lb b ∈ L ∧ P.kd (P.el lb b) = 12) ∧ SM8 (P.el lb b) P P' := fun b b0 b1 => by
    have q := (kb.2.2.2.2 b b0 (by omega)).2
    exact ⟨q, (c _ q.1 (ns.1 b b0 b1).1).2⟩
  refine ⟨fun b j b0 b1 j0 j1 q => ?_, fun b j b0 b1 j0 j1 q => ?_, fun b b0 b1 => ?_, fun b b0 b1 => ?_, fun b b0 b1 => ?_⟩
  · have k0 : 0 ≤ OFS 2 Q ls b + j := by have := OFS.nn z2 (b := b) (by omega); omega
    have m := (kr.2.2.2.2 _ k0 (by omega)).2
    rw [er _ k0 q]
    exact (h1 b j b0 b1 j0 j1 q).num (c _ m.1 (ns.2.1 _ k0 q)).2.1
  · have k0 : 0 ≤ OFS 1 Q ls b + j := by have := OFS.nn z1 (b := b) (by omega); omega
    have m := (kp.2.2.2.2 _ k0 (by omega)).2
    have w := g.pik m.1 m.2
    have u := ns.2.2 _ k0 q
    rw [ep _ k0 q]
    exact (h2 b j b0 b1 j0 j1 q).num (c _ m.1 u.1).2 ((c _ w.2.1.1 u.2.1).2.2.2.2 (by rw [w.2.1.2.1]; decide)) ((c _ w.2.2.1.1 u.2.2.1).2.2.2.2 (by rw [w.2.2.1.2.1]; decide)) ((c _ w.2.2.2.1.1 u.2.2.2).2.2.2.2 (by rw [w.2.2.2.1.2.1]; decide))
  · obtain ⟨⟨mb, kb9⟩, sb⟩ := bk b b0 b1
    have o := (g.owc _ mb kb9).1
    have q := c.lst g.owa o.2.2.1 o.2.2.2 (ns.1 b b0 b1).2.2.1.1 (ns.1 b b0 b1).2.2.1.2
    obtain ⟨a1, a2, a3⟩ := h3 b b0 b1
    have e2 : P'.2.1 2 (P.el lb b) = P.2.1 2 (P.el lb b) := sb.2.1 2
    rw [eb b b0 b1, e2]
    refine ⟨q.1.trans a1, a2, fun j j0 j1 => ?_⟩
    have zz := q.1
    have j2 : j < P.lz (P.2.1 2 (P.el lb b)) := by rw [← show P'.lz (P.2.1 2 (P.el lb b)) = P.lz (P.2.1 2 (P.el lb b)) from zz]; exact j1
    have k0 : 0 ≤ OFS 2 Q ls b + j := by have := OFS.nn z2 (b := b) (by omega); omega
    have k1 : OFS 2 Q ls b + j < n := by
      have a1' : P.lz (P.2.1 2 (P.el lb b)) = Q.lz (Q.2.1 2 (Q.el ls b)) := a1
      omega
    rw [er _ k0 k1]
    exact (q.2.1 j j0 j2).trans (a3 j j0 j2)
  · obtain ⟨⟨mb, kb9⟩, sb⟩ := bk b b0 b1
    have o := (g.owc _ mb kb9).2
    have q := c.lst g.owa o.2.2.1 o.2.2.2 (ns.1 b b0 b1).2.2.2.1 (ns.1 b b0 b1).2.2.2.2
    obtain ⟨a1, a2, a3⟩ := h4 b b0 b1
    have e2 : P'.2.1 1 (P.el lb b) = P.2.1 1 (P.el lb b) := sb.2.1 1
    rw [eb b b0 b1, e2]
    refine ⟨q.1.trans a1, a2, fun j j0 j1 => ?_⟩
    have zz := q.1
    have j2 : j < P.lz (P.2.1 1 (P.el lb b)) := by rw [← show P'.lz (P.2.1 1 (P.el lb b)) = P.lz (P.2.1 1 (P.el lb b)) from zz]; exact j1
    have k0 : 0 ≤ OFS 1 Q ls b + j := by have := OFS.nn z1 (b := b) (by omega); omega
    have k1 : OFS 1 Q ls b + j < p := by
      have a1' : P.lz (P.2.1 1 (P.el lb b)) = Q.lz (Q.2.1 1 (Q.el ls b)) := a1
      omega
    rw [ep _ k0 k1]
    exact (q.2.1 j j0 j2).trans (a3 j j0 j2)
  · obtain ⟨⟨mb, kb9⟩, sb⟩ := bk b b0 b1
    have ge := (g.gb mb kb9).1
    obtain ⟨a1, a2, a3⟩ := h5 b b0 b1
    have e3 : P'.be (P.el lb b) = P.be (P.el lb b) := sb.2.1 3
    rw [eb b b0 b1, e3]
    exact ⟨a1.num (c _ ge.1 (ns.1 b b0 b1).2.1).2.1, (sb.1 0).trans a2, (sb.1 1).trans a3⟩
theorem CPI.zero (P Q : PO) (lb lr lp ls : Nat) (z1 : LNN 1 Q ls) (z2 : LNN 2 Q ls) : CPI P Q lb lr lp ls 0 0 0 := ⟨fun b j b0 b1 j0 j1 q => by have := OFS.nn z2 (b := b) (by omega); omega, fun b j b0 b1 j0 j1 q => by have := OFS.nn z1 (b := b) (by omega); omega, fun b b0 b1 => by omega, fun b b0 b1 => by omega, fun b b0 b1 => by omega⟩
/-- one row more -/
theorem CPI.row (h : CPI P Q lb lr lp ls i n p) (z2 : LNN 2 Q ls) {j : Int} (i0 : 0 ≤ i) (i1 : i < Q.lz ls) (j0 : 0 ≤ j) (j1 : j < Q.lz (Q.br (Q.el ls i))) (e : n = OFS 2 Q ls i + j) (w : CRW P (P.el lr n) Q (Q.el (Q.br (Q.el ls i)) j)) : CPI P Q lb lr lp ls i (n + 1) p := by
  obtain ⟨h1, h2, h3, h4, h5⟩ := h
  refine ⟨fun b k b0 b1 k0 k1 q => ?_, h2, fun b b0 b1 => ⟨(h3 b b0 b1).1, by have := (h3 b b0 b1).2.1; omega, (h3 b b0 b1).2.2⟩, h4, h5⟩
  by_cases r : OFS 2 Q ls b + k < n
  · exact h1 b k b0 b1 k0 k1 r
  · obtain ⟨e1, e2⟩ := OFS.inj z2 b0 b1 k0 k1 i0 i1 j0 j1 (by omega)
    subst e1; subst e2
    rw [← e]
    exact w
/-- one PHI more -/
theorem CPI.phi (h : CPI P Q lb lr lp ls i n p) (z1 : LNN 1 Q ls) {j : Int} (i0 : 0 ≤ i) (i1 : i < Q.lz ls) (j0 : 0 ≤ j) (j1 : j < Q.lz (Q.bp (Q.el ls i))) (e : p = OFS 1 Q ls i + j) (w : CPH P (P.el lp p) Q (Q.el (Q.bp (Q.el ls i)) j) (Q.pn (Q.el (Q.bp (Q.el ls i)) j))) : CPI P Q lb lr lp ls i n (p + 1) := by
  obtain ⟨h1, h2, h3, h4, h5⟩ := h
  refine ⟨h1, fun b k b0 b1 k0 k1 q => ?_, h3, fun b b0 b1 => ⟨(h4 b b0 b1).1, by have := (h4 b b0 b1).2.1; omega, (h4 b b0 b1).2.2⟩, h5⟩
  by_cases r : OFS 1 Q ls b + k < p
  · exact h2 b k b0 b1 k0 k1 r
  · obtain ⟨e1, e2⟩ := OFS.inj z1 b0 b1 k0 k1 i0 i1 j0 j1 (by omega)
    subst e1; subst e2
    rw [← e]
    exact w
/-- what is copied of block i: j PHIs, r rows -/
def CUR (P Q : PO) (lb lr lp ls : Nat) (i j r : Int) : Prop := (P.lz (P.bp (P.el lb i)) = j ∧ ∀ k : Int, 0 ≤ k → k < j → P.el (P.bp (P.el lb i)) k = P.el lp (OFS 1 Q ls i + k)) ∧ (P.lz (P.br (P.el lb i)) = r ∧ ∀ k : Int, 0 ≤ k → k < r → P.el (P.br (P.el lb i)) k = P.el lr (OFS 2 Q ls i + k))
/-- one block more -/
theorem CPI.blk (h : CPI P Q lb lr lp ls i n p) (i0 : 0 ≤ i) (u : CUR P Q lb lr lp ls i (Q.lz (Q.bp (Q.el ls i))) (Q.lz (Q.br (Q.el ls i)))) (en : n = OFS 2 Q ls i + Q.lz (Q.br (Q.el ls i))) (ep : p = OFS 1 Q ls i + Q.lz (Q.bp (Q.el ls i))) (w : CRW P (P.be (P.el lb i)) Q (Q.be (Q.el ls i))) (f : P.bf (P.el lb i) = Q.bf (Q.el ls i)) (s : P.bs (P.el lb i) = Q.bs (Q.el ls i)) : CPI P Q lb lr lp ls (i + 1) n p := by
  obtain ⟨h1, h2, h3, h4, h5⟩ := h
  refine ⟨h1, h2, fun b b0 b1 => ?_, fun b b0 b1 => ?_, fun b b0 b1 => ?_⟩
  · by_cases q : b < i
    · exact h3 b b0 q
    · have e : b = i := by omega
      subst e
      have z : P.lz (P.2.1 2 (P.el lb b)) = Q.lz (Q.2.1 2 (Q.el ls b)) := u.2.1
      exact ⟨z, (by rw [en]; exact Int.le_refl _), fun j j0 j1 => u.2.2 j j0 (by rw [z] at j1; exact j1)⟩
  · by_cases q : b < i
    · exact h4 b b0 q
    · have e : b = i := by omega
      subst e
      have z : P.lz (P.2.1 1 (P.el lb b)) = Q.lz (Q.2.1 1 (Q.el ls b)) := u.1.1
      exact ⟨z, (by rw [ep]; exact Int.le_refl _), fun j j0 j1 => u.1.2 j j0 (by rw [z] at j1; exact j1)⟩
  · by_cases q : b < i
    · exact h5 b b0 q
    · have e : b = i := by omega
      subst e
      exact ⟨w, f, s⟩
end CPI9
section CP89
variable {L L' M1 M2 : List Nat} {P P' P2 Q1 Q2 : PO} {x p l q : Nat}
theorem PH1.c8 (h : PH1 x P P') (L : List Nat) : CH8 (fun z => z = x ∨ (P.ow z = x ∧ 40 ≤ P.kd z)) L P L P' := fun z m n => ⟨m, fun f => h.2.1 z (fun e => n (Or.inl e)) f, fun f => by rw [h.1.1], by show P'.2.2.1 z = P.2.2.1 z; rw [h.1.2.1], fun k => h.2.2 z (fun e => n (Or.inr ⟨e, k⟩))⟩
theorem c8_phi1 (e : EXT9 L P M1 Q1) (g : CHG (fun z => z = l ∨ (Q1.kd z = 31 ∧ Q1.ow z = l)) M1 Q1 M2 Q2) (h : PH1 p Q2 P2) : CH8 (fun z => z = p ∨ z = l ∨ (P.kd z = 31 ∧ P.ow z = l) ∨ (P.ow z = p ∧ 40 ≤ P.kd z)) L P M2 P2 := by
  have a : CH8 (fun z => z = p ∨ z = l ∨ (P.kd z = 31 ∧ P.ow z = l) ∨ (P.ow z = p ∧ 40 ≤ P.kd z)) L P M1 Q1 := e.chg.c8.wk (fun z _ q => q.elim)
  have b := a.trans2 g.c8 (fun z m n s q => by
    rcases q with q | ⟨q, w⟩
    · exact n (Or.inr (Or.inl q))
    · have e9 : Q1.ow z = P.ow z := s.2.1 9
      have e0 : Q1.kd z = P.kd z := s.2.1 0
      exact n (Or.inr (Or.inr (Or.inl ⟨by rw [← e0]; exact q, by rw [← e9]; exact w⟩))))
  exact b.trans2 (h.c8 M2) (fun z m n s q => by
    rcases q with q | ⟨q, k⟩
    · exact n (Or.inl q)
    · have e9 : Q2.ow z = P.ow z := s.2.1 9
      have e0 : Q2.kd z = P.kd z := s.2.1 0
      exact n (Or.inr (Or.inr (Or.inr ⟨by rw [← e9]; exact q, by rw [← e0]; exact k⟩))))
/-- a PHI taken from the list lp, or made -/
def CP8 (lp x : Nat) (n t : Int) (L : List Nat) (P : PO) (L' : List Nat) (P' : PO) : Prop := (x ∈ L' ∧ P'.kd x = 15 ∧ x = P'.el lp n) ∧ (n + 1 ≤ P'.lz lp ∧ (P'.lz lp = P.lz lp ∨ (P'.lz lp = P.lz lp + 1 ∧ n = P.lz lp ∧ x ∉ L))) ∧ (P'.pn x = 0 ∧ P'.pt x = t) ∧ (∀ i : Int, 0 ≤ i → i < P.lz lp → P'.el lp i = P.el lp i) ∧ CH8 (fun z => z = x ∨ z = lp ∨ (P.kd z = 31 ∧ P.ow z = lp) ∨ (P.ow z = x ∧ 40 ≤ P.kd z)) L P L' P' ∧ CPS lp L P P'
end CP89
section HNS9
variable {L L' : List Nat} {P P' : PO} {cO cI cZ : ClassId} {ed x y l la lb lr lp : Nat} {S : Nat → Prop} {i n p : Int} {E : List Nat}
theorem HNS.of (g : GLF L P cO cI cZ ed) (kb : LOK L P cO 12 lb) (kr : LOK L P cO 17 lr) (er : P.ek lr = 17) (kp : LOK L P cO 15 lp) (ib : i ≤ P.lz lb) (nr : n ≤ P.lz lr) (np : p ≤ P.lz lp)
    (s12 : ∀ z : Nat, z ∈ L → P.kd z = 12 → S z → ∀ b : Int, 0 ≤ b → b < i → z ≠ P.el lb b) (s17e : ∀ z : Nat, z ∈ L → P.kd z = 17 → P.ek z = 1 → S z → ∀ b : Int, 0 ≤ b → b < i → z ≠ P.be (P.el lb b)) (s17 : ∀ z : Nat, z ∈ L → P.kd z = 17 → P.ek z ≠ 1 → S z → ∀ k : Int, 0 ≤ k → k < n → z ≠ P.el lr k)
    (s30 : ∀ z : Nat, z ∈ L → P.kd z = 30 → S z → ∀ b : Int, 0 ≤ b → b < i → P.ow z ≠ P.el lb b) (s31 : ∀ z : Nat, z ∈ L → P.kd z = 31 → S z → ∀ b : Int, 0 ≤ b → b < i → P.ow (P.ow z) ≠ P.el lb b)
    (s15 : ∀ z : Nat, z ∈ L → P.kd z = 15 → S z → ∀ k : Int, 0 ≤ k → k < p → z ≠ P.el lp k) (s40 : ∀ z : Nat, z ∈ L → 40 ≤ P.kd z → S z → ∀ k : Int, 0 ≤ k → k < p → P.ow z ≠ P.el lp k) : HNS S P lb lr lp i n p := by
  refine ⟨fun b b0 b1 => ?_, fun k k0 k1 s => ?_, fun k k0 k1 => ?_⟩
  · have q := (kb.2.2.2.2 b b0 (by omega)).2
    have o := g.owc _ q.1 q.2
    have ge := (g.gb q.1 q.2).1
    refine ⟨fun s => s12 _ q.1 q.2 s b b0 b1 rfl, fun s => s17e _ ge.1 ge.2.1 ge.2.2 s b b0 b1 rfl, ⟨fun s => s30 _ o.1.2.2.1 o.1.2.2.2 s b b0 b1 o.1.2.1, fun f s => ?_⟩, fun s => s30 _ o.2.2.2.1 o.2.2.2.2 s b b0 b1 o.2.2.1, fun f s => ?_⟩
    · have r := (g.owa _ o.1.2.2.1 o.1.2.2.2).2 f
      exact s31 _ r.1 r.2.1 s b b0 b1 (by rw [r.2.2.1]; exact o.1.2.1)
    · have r := (g.owa _ o.2.2.2.1 o.2.2.2.2).2 f
      exact s31 _ r.1 r.2.1 s b b0 b1 (by rw [r.2.2.1]; exact o.2.2.1)
  · have m := (kr.2.2.2.2 k k0 (by omega)).2
    exact s17 _ m.1 m.2 ((g.gla lr kr.1 kr.2.1).2.2 er k k0 (by omega)) s k k0 k1 rfl
  · have m := (kp.2.2.2.2 k k0 (by omega)).2
    have w := g.pik m.1 m.2
    exact ⟨fun s => s15 _ m.1 m.2 s k k0 k1 rfl, fun s => s40 _ w.2.1.1 (by rw [w.2.1.2.1]; decide) s k k0 k1 w.2.1.2.2.2, fun s => s40 _ w.2.2.1.1 (by rw [w.2.2.1.2.1]; decide) s k k0 k1 w.2.2.1.2.2.2, fun s => s40 _ w.2.2.2.1.1 (by rw [w.2.2.2.1.2.1]; decide) s k k0 k1 w.2.2.2.1.2.2.2⟩
/-- a row taken: it, the list of rows and its row -/
theorem hns_row (g : GLF L P cO cI cZ ed) (kb : LOK L P cO 12 lb) (kr : LOK L P cO 17 lr) (er : P.ek lr = 17) (wr : P.ow lr = lr) (kp : LOK L P cO 15 lp) (ib : i ≤ P.lz lb) (nr : n ≤ P.lz lr) (np : p ≤ P.lz lp) (hx : x ∈ L → (P.kd x = 17 ∧ P.ek x ≠ 1) ∧ ∀ k : Int, 0 ≤ k → k < n → x ≠ P.el lr k) : HNS (fun z => z = x ∨ z = lr ∨ (P.kd z = 31 ∧ P.ow z = lr)) P lb lr lp i n p := by
  have bk : ∀ b : Int, 0 ≤ b → b < i → P.kd (P.el lb b) = 12 := fun b b0 b1 => (kb.2.2.2.2 b b0 (by omega)).2.2
  refine HNS.of g kb kr er kp ib nr np (fun z m k s b b0 b1 => ?_) (fun z m k e s b b0 b1 => ?_) (fun z m k e s c c0 c1 => ?_) (fun z m k s b b0 b1 => ?_) (fun z m k s b b0 b1 => ?_) (fun z m k s c c0 c1 => ?_) (fun z m k s c c0 c1 => ?_) <;> rcases s with s | s | s
  · rw [s] at k m; have := (hx m).1.1; omega
  · rw [s, kr.2.1] at k; omega
  · have := s.1; omega
  · rw [s] at m e; exact absurd e (hx m).1.2
  · rw [s, kr.2.1] at k; omega
  · have := s.1; omega
  · rw [s] at m ⊢; exact (hx m).2 c c0 c1
  · rw [s, kr.2.1] at k; omega
  · have := s.1; omega
  · rw [s] at k m; have := (hx m).1.1; omega
  · rw [s, wr]; intro q; have w := bk b b0 b1; rw [← q, kr.2.1] at w; omega
  · have := s.1; omega
  · rw [s] at k m; have := (hx m).1.1; omega
  · rw [s, kr.2.1] at k; omega
  · rw [s.2, wr]; intro q; have w := bk b b0 b1; rw [← q, kr.2.1] at w; omega
  · rw [s] at k m; have := (hx m).1.1; omega
  · rw [s, kr.2.1] at k; omega
  · have := s.1; omega
  · rw [s] at k m; have := (hx m).1.1; omega
  · rw [s, kr.2.1] at k; omega
  · have := s.1; omega
/-- a PHI taken, or changed with its rows -/
theorem hns_phi (g : GLF L P cO cI cZ ed) (kb : LOK L P cO 12 lb) (kr : LOK L P cO 17 lr) (er : P.ek lr = 17) (kp : LOK L P cO 15 lp) (wp : P.ow lp = lp) (ib : i ≤ P.lz lb) (nr : n ≤ P.lz lr) (np : p ≤ P.lz lp) (hx : x ∈ L → P.kd x = 15 ∧ ∀ k : Int, 0 ≤ k → k < p → x ≠ P.el lp k) (hy : ∀ k : Int, 0 ≤ k → k < p → P.el lp k ≠ x) : HNS (fun z => z = x ∨ z = lp ∨ (P.kd z = 31 ∧ P.ow z = lp) ∨ (P.ow z = x ∧ 40 ≤ P.kd z)) P lb lr lp i n p := by
  have bk : ∀ b : Int, 0 ≤ b → b < i → P.kd (P.el lb b) = 12 := fun b b0 b1 => (kb.2.2.2.2 b b0 (by omega)).2.2
  refine HNS.of g kb kr er kp ib nr np (fun z m k s b b0 b1 => ?_) (fun z m k e s b b0 b1 => ?_) (fun z m k e s c c0 c1 => ?_) (fun z m k s b b0 b1 => ?_) (fun z m k s b b0 b1 => ?_) (fun z m k s c c0 c1 => ?_) (fun z m k s c c0 c1 => ?_) <;> rcases s with s | s | s | s
  · rw [s] at k m; have := (hx m).1; omega
  · rw [s, kp.2.1] at k; omega
  · have := s.1; omega
  · have := s.2; omega
  · rw [s] at k m; have := (hx m).1; omega
  · rw [s, kp.2.1] at k; omega
  · have := s.1; omega
  · have := s.2; omega
  · rw [s] at k m; have := (hx m).1; omega
  · rw [s, kp.2.1] at k; omega
  · have := s.1; omega
  · have := s.2; omega
  · rw [s] at k m; have := (hx m).1; omega
  · rw [s, wp]; intro q; have w := bk b b0 b1; rw [← q, kp.2.1] at w; omega
  · have := s.1; omega
  · have := s.2; omega
  · rw [s] at k m; have := (hx m).1; omega
  · rw [s, kp.2.1] at k; omega
  · rw [s.2, wp]; intro q; have w := bk b b0 b1; rw [← q, kp.2.1] at w; omega
  · have := s.2; omega
  · rw [s] at m ⊢; exact (hx m).2 c c0 c1
  · rw [s, kp.2.1] at k; omega
  · have := s.1; omega
  · have := s.2; omega
  · rw [s] at k m; have := (hx m).1; omega
  · rw [s, kp.2.1] at k; omega
  · have := s.1; omega
  · rw [s.1]; exact fun q => hy c c0 c1 q.symm
/-- a list of a block that is not held, with its row -/
theorem hns_add (g : GLF L P cO cI cZ ed) (kb : LOK L P cO 12 lb) (kr : LOK L P cO 17 lr) (er : P.ek lr = 17) (kp : LOK L P cO 15 lp) (ib : i ≤ P.lz lb) (nr : n ≤ P.lz lr) (np : p ≤ P.lz lp) (kl : P.kd l = 30) (wl : P.ow l = y) (hy : ∀ b : Int, 0 ≤ b → b < i → y ≠ P.el lb b) : HNS (fun z => z = l ∨ (P.kd z = 31 ∧ P.ow z = l)) P lb lr lp i n p := by
  refine HNS.of g kb kr er kp ib nr np (fun z m k s b b0 b1 => ?_) (fun z m k e s b b0 b1 => ?_) (fun z m k e s c c0 c1 => ?_) (fun z m k s b b0 b1 => ?_) (fun z m k s b b0 b1 => ?_) (fun z m k s c c0 c1 => ?_) (fun z m k s c c0 c1 => ?_) <;> rcases s with s | s
  · rw [s, kl] at k; omega
  · have := s.1; omega
  · rw [s, kl] at k; omega
  · have := s.1; omega
  · rw [s, kl] at k; omega
  · have := s.1; omega
  · rw [s, wl]; exact hy b b0 b1
  · have := s.1; omega
  · rw [s, kl] at k; omega
  · rw [s.2, wl]; exact hy b b0 b1
  · rw [s, kl] at k; omega
  · have := s.1; omega
  · rw [s, kl] at k; omega
  · have := s.1; omega
/-- one row, one end, one block -/
theorem hns_one (g : GLF L P cO cI cZ ed) (kb : LOK L P cO 12 lb) (kr : LOK L P cO 17 lr) (er : P.ek lr = 17) (kp : LOK L P cO 15 lp) (ib : i ≤ P.lz lb) (nr : n ≤ P.lz lr) (np : p ≤ P.lz lp) (h : (P.kd x = 17 ∧ P.ek x ≠ 1 ∧ ∀ k : Int, 0 ≤ k → k < n → x ≠ P.el lr k) ∨ (P.kd x = 17 ∧ P.ek x = 1 ∧ ∀ b : Int, 0 ≤ b → b < i → x ≠ P.be (P.el lb b)) ∨ (P.kd x = 12 ∧ ∀ b : Int, 0 ≤ b → b < i → x ≠ P.el lb b)) : HNS (fun z => z = x) P lb lr lp i n p := by
  refine HNS.of g kb kr er kp ib nr np (fun z m k s b b0 b1 => ?_) (fun z m k e s b b0 b1 => ?_) (fun z m k e s c c0 c1 => ?_) (fun z m k s b b0 b1 => ?_) (fun z m k s b b0 b1 => ?_) (fun z m k s c c0 c1 => ?_) (fun z m k s c c0 c1 => ?_) <;> rw [s] at k <;> rcases h with h | h | h
  · have := h.1; omega
  · have := h.1; omega
  · rw [s]; exact h.2 b b0 b1
  · rw [s] at e; exact absurd e h.2.1
  · rw [s]; exact h.2.2 b b0 b1
  · have := h.1; omega
  · rw [s]; exact h.2.2 c c0 c1
  · rw [s] at e; exact absurd h.2.1 e
  · have := h.1; omega
  · have := h.1; omega
  · have := h.1; omega
  · have := h.1; omega
  · have := h.1; omega
  · have := h.1; omega
  · have := h.1; omega
  · have := h.1; omega
  · have := h.1; omega
  · have := h.1; omega
  · have := h.1; omega
  · have := h.1; omega
  · have := h.1; omega
end HNS9
