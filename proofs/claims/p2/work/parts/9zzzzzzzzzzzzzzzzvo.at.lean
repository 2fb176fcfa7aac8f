/-! a function put down behind a call that had the pool without its tables; what toSsa needs of its first steps -/
section ATS9
variable {L L' L0 Lr E : List Nat} {P P' Q Q' : PO} {F : Nat → Prop} {cO cI cZ : ClassId} {ed la lb lr lp x q z : Nat} {n p s c : Int} {st a : Int → Int}
theorem wSL_nn (k : Nat) : 0 ≤ wSL k := by unfold wSL; (repeat' split) <;> decide
theorem wCE_nn (k : Nat) : 0 ≤ wCE k := by unfold wCE; (repeat' split) <;> decide
theorem ATW.zero (h : ATW L P cO cI cZ ed la lb lr lp n p s c) : ATW L P cO cI cZ ed la lb lr lp n p 0 0 := by
  obtain ⟨g, e, t, ⟨h1, h2, h3, h4, _⟩⟩ := h
  exact ⟨g, e, t, h1, h2, h3, h4, PSI.nn wSL_nn _ _, PSI.nn wCE_nn _ _⟩
theorem ATT.ow (h : ATT L P cO cI cZ ed la lb lr lp n p s c) : P.ow la = la := by
  obtain ⟨Q, F, e, _, _, _, ⟨⟨_, f, _⟩, _⟩⟩ := h
  rw [e]; exact f.1.2.2.2
theorem ATT.lz (h : ATT L P cO cI cZ ed la lb lr lp n p s c) : 0 ≤ n ∧ n ≤ P.lz lr ∧ 0 ≤ p ∧ p ≤ P.lz lp ∧ P.lz lr ≤ 4164 ∧ P.lz lp ≤ 4164 := by
  obtain ⟨Q, F, e, _, _, _, ⟨_, _, _, r, _⟩⟩ := h
  rw [e]; exact r.2.2
theorem KEG.mix9 (k : KEG E L0 P L' P') (a : ALP L' P' cO cI cZ ed la) (p : L.Perm (L0 ++ Lr)) (hr : ∀ z : Nat, z ∈ Lr → 43 ≤ P.kd z) (dj : ∀ z : Nat, z ∈ L' → z ∉ Lr) : KEG E L P (L' ++ Lr) (P'.mix Lr P) := by
  have k2 : KEG E L0 P (L' ++ Lr) (P'.mix Lr P) := k.trans ((ext_mix dj).kep a).keg
  refine ⟨fun y m q => ?_, fun y m q => ?_⟩
  · rcases List.mem_append.mp (p.mem_iff.mp m) with w | w
    · exact k2.1 y w q
    · have s := mix_in (P := P) (P' := P') w
      exact ⟨List.mem_append_right _ w, s.2.1 0, s.2.1 8, fun q2 => absurd (hr y w) (by omega), fun _ => s.sma⟩
  · rcases List.mem_append.mp (p.mem_iff.mp m) with w | w
    · exact k2.2 y w q
    · exact absurd (hr y w) (by omega)
theorem TKA.gl9 (w : GL1 x q L P L' P') (o : OWA L P cO ed) (mx : x ∈ L) (kx : P.kd x = 30) (fx : P.fl x = 1 ∨ P.le x ∉ L) : TKA L P L' P' := by
  have kl : P.le x ∈ L → P.kd (P.le x) = 31 := fun m => by
    rcases fx with f | f
    · exact ((o x mx kx).2 f).2.1
    · exact absurd m f
  exact TKA.gl1 w kx (fun m => by have e := w.2.2.2.2 m; rw [e] at m ⊢; exact kl m) kl
/-- one has come in the middle of block 0's rows -/
theorem ZAD.of (a : ALP L P cO cI cZ ed la) (w : GL1 x q L P L' P') (k : KEP E L P L' P' la) (hx : x = P.br (P.el la 0)) (mx : x ∈ L) (kx : P.kd x = 30) (fx : P.fl x = 1 ∨ P.le x ∉ L) (l0 : 0 < P.lz la) (z1 : P'.lz x = P.lz x + 1) (r : INSF (P.oa (P.le x)) (P'.oa q) n (P.lz x) z) (i0 : 0 ≤ n) (i1 : n ≤ P.lz x) : ZAD L P L' P' la n z := by
  have ln : ∀ y : Nat, y ∈ L → P.kd y = 30 → y ≠ x → UNT P P' y := fun y m ky n9 => ⟨w.lz a mx kx fx m ky n9, fun i i0 i1 => w.elO a.glf.owa mx kx fx m ky n9 i0 i1⟩
  have ib0 := a.inb ⟨0, Int.le_refl 0, l0, rfl⟩
  have oc0 := a.2.1.2.2.1 _ ib0.1.1 ib0.1.2
  have el := INSF.el w r i0
  refine ⟨⟨fun y m n1 n2 => ?_, k.2.2⟩, fun c c0 c1 => ?_, ⟨i0, by rw [← hx]; exact i1, by rw [← hx]; exact z1⟩, ?_, ?_, ?_⟩
  · have n3 : y ≠ q := fun e => by have e2 := w.2.2.2.2 (by rw [← e]; exact m); rw [e, e2] at n2; rcases fx with f | f; exact n2 ((a.glf.owa x mx kx).2 f).2.1; rw [e, e2] at m; exact f m
    exact ⟨w.2.1 y m (fun e => by rw [e] at n2; rcases fx with f | f; exact n2 ((a.glf.owa x mx kx).2 f).2.1; rw [e] at m; exact f m), w.2.2.2.1 y (fun e => by rw [e] at n1; exact n1 kx) n3⟩
  · have ib := a.inb ⟨c, c0, c1, rfl⟩
    have oc := a.2.1.2.2.1 _ ib.1.1 ib.1.2
    refine ⟨ln _ oc.2.2.2.1 oc.2.2.2.2 (fun e => ?_), fun cn => ln _ oc.1.2.2.1 oc.1.2.2.2 (fun e => ?_)⟩
    · have e1 := oc.2.1; have e2 := oc0.1.1; rw [e, hx] at e1; omega
    · have e1 := oc.1.2.1; have e2 := oc0.1.2.1; rw [e, hx] at e1; rw [e1] at e2
      rcases Int.lt_trichotomy 0 c with t | t | t
      · exact a.2.1.2.2.2 0 c (Int.le_refl 0) t c1 e2.symm
      · exact cn t.symm
      · omega
  · rw [← hx]; exact el.1
  · rw [← hx]; exact el.2.1
  · rw [← hx]; exact el.2.2
end ATS9
theorem TKA.hand {L : List Nat} {P : PO} {g : Nat → Nat} {F : Nat → Prop} (t : ∀ z : Nat, z ∈ L → 43 ≤ P.kd z → g z = P.kd z) : TKA L P L ((P.kin g).park F) := TKA.park (fun z m k => ⟨m, fun _ => rfl, fun f => by
  by_cases f0 : f = 0
  · rw [f0]; exact t z m k
  · show (if f = 0 then _ else P.2.1 f z) = _; rw [if_neg f0], rfl, rfl, rfl⟩)
