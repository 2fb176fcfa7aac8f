/-! what a pool has cost, parked or not; drop over the whole; ways twice in one call -/
section LMT9G
variable {L L' L0 Ls Lt Lo E E0 : List Nat} {P P' P0 P1 Q Q' Z Z' Po Pb : PO} {F : Nat → Prop} {cO cI cZ : ClassId} {ed la lb lr lp x q z l : Nat} {n p n' p' s c s' c' t y : Int} {w : Nat → Int}
def WTK (w : Nat → Int) (P : PO) (z : Nat) : Int := if P.kc z = 21 then w 0 else if P.kc z = 20 then w 1 + w 2 * ((P.an (P.pp z) - 1 : Nat) : Int) else if P.kc z = 19 then w 3 else if P.kc z = 18 then w 4 + w 5 * LVS (P.cap z) else 0
def PSE (w : Nat → Int) (L : List Nat) (P : PO) : Int := sumL (WTK w P) L
theorem WTK.nn (nn : ∀ k : Nat, 0 ≤ w k) (P : PO) (z : Nat) : 0 ≤ WTK w P z := by
  unfold WTK
  split
  · exact nn 0
  split
  · exact Int.add_nonneg (nn 1) (Int.mul_nonneg (nn 2) (by omega))
  split
  · exact nn 3
  split
  · exact Int.add_nonneg (nn 4) (Int.mul_nonneg (nn 5) (LVS.nn _))
  · exact Int.le_refl 0
theorem WTK.ge (nn : ∀ k : Nat, 0 ≤ w k) (P : PO) (z : Nat) : WT9 w P z ≤ WTK w P z := by
  have h0 := WTK.nn nn P z
  by_cases h1 : P.kd z = 17
  · rw [WT9.row h1]; unfold WTK; rw [if_pos (kc17 h1)]; exact Int.le_refl _
  by_cases h2 : P.kd z = 15
  · rw [WT9.phi h2]; unfold WTK; rw [if_neg (by rw [kc15 h2]; decide), if_pos (kc15 h2)]; exact Int.le_refl _
  by_cases h3 : P.kd z = 12
  · rw [WT9.blk h3]; unfold WTK; rw [if_neg (by rw [kc12 h3]; decide), if_neg (by rw [kc12 h3]; decide), if_pos (kc12 h3)]; exact Int.le_refl _
  by_cases h4 : P.kd z = 30
  · rw [WT9.list h4]; unfold WTK; rw [if_neg (by rw [kc30 h4]; decide), if_neg (by rw [kc30 h4]; decide), if_neg (by rw [kc30 h4]; decide), if_pos (kc30 h4)]; exact Int.le_refl _
  rw [WT9.no ⟨h1, h2, h3, h4⟩]; exact h0
theorem sumL_le9 {f g : Nat → Int} : ∀ l : List Nat, (∀ z : Nat, z ∈ l → f z ≤ g z) → sumL f l ≤ sumL g l
  | [], _ => Int.le_refl _
  | a :: l, h => Int.add_le_add (h a List.mem_cons_self) (sumL_le9 l (fun z m => h z (List.mem_cons_of_mem _ m)))
theorem PSI.pse (nn : ∀ k : Nat, 0 ≤ w k) (L : List Nat) (P : PO) : PSI w L P ≤ PSE w L P := sumL_le9 L (fun z _ => WTK.ge nn P z)
theorem PSE.kin {g : Nat → Nat} (e : pE (P.kin g) = pE P) : PSE w L (P.kin g) = PSE w L P := sumL_congr L (fun z _ => by unfold WTK; rw [kc_kin e z]; rfl)
theorem PSE.same (e : P'.2.1 = P.2.1) : PSE w L P' = PSE w L P := sumL_congr L (fun z _ => by unfold WTK PO.kc PO.kd PO.an PO.pp PO.cap PO.fl PO.le PO.an; rw [e])
theorem ATW.pse (h : ATW L P cO cI cZ ed la lb lr lp n p s c) : s ≤ PSE wSL L P ∧ c ≤ PSE wCE L P := by
  obtain ⟨g, e, _, v⟩ := h
  exact ⟨by rw [← PSE.kin e]; exact Int.le_trans v.2.2.2.2.1 (PSI.pse wSL.nn _ _), by rw [← PSE.kin e]; exact Int.le_trans v.2.2.2.2.2 (PSI.pse wCE.nn _ _)⟩
theorem ATT.pse (h : ATT L P cO cI cZ ed la lb lr lp n p s c) : s ≤ PSE wSL L P ∧ c ≤ PSE wCE L P := by
  obtain ⟨Q, F, rfl, fc, _, _, v⟩ := h
  have e : ∀ w : Nat → Int, PSE w L (Q.park F) = PSE w L Q := fun w => PSE.kin (funext (pE_park Q F))
  rw [e, e]
  exact ⟨Int.le_trans v.2.2.2.2.1 (PSI.pse wSL.nn _ _), Int.le_trans v.2.2.2.2.2 (PSI.pse wCE.nn _ _)⟩
theorem mix_nat (e : Po.2.1 = Pb.2.1) : (Po.mix Lt Pb).2.1 = Pb.2.1 := by
  funext f z
  show (if z ∈ Lt then Pb.2.1 f z else Po.2.1 f z) = Pb.2.1 f z
  rw [e]; split <;> rfl
theorem LMQ.drop {st aa : Int → Int} (h : LMQ Pb L Pb la lb lr lp) (tt : ATT L0 P0 cO cI cZ ed la lb lr lp n p s c) (k : KEG E L0 P0 L' P') (k0 : KEG E0 L0 P0 L Pb) (pm : L.Perm (Ls ++ Lt)) (hr : ∀ z : Nat, z ∈ Lt → 43 ≤ Pb.kd z) (e1 : L' = Ls ++ Lt) (e2 : P' = Po.mix Lt Pb) (na : Po.2.1 = Pb.2.1) (kd : KEG [la] Ls Pb Ls Po) (a : ALP Ls Po cO cI cZ ed la) (d : DRX Pb Po la st aa) (al : ALP L Pb cO cI cZ ed la) (kst : KST Pb la st) (f : FNE Po P' la) : LMQ P' L' P' la lb lr lp := by
  have ls : ∀ l : Nat, l = lb ∨ l = lr ∨ l = lp → P'.lz l = Pb.lz l ∧ ∀ i : Int, 0 ≤ i → i < Pb.lz l → P'.el l i = Pb.el l i := fun l q => by
    have a1 := tt.lists k l q
    have a2 := tt.lists k0 l q
    refine ⟨a1.1.trans a2.1.symm, fun i i0 i1 => ?_⟩
    rw [a2.1] at i1
    rw [a1.2 i i0 i1, a2.2 i i0 i1]
  have e : P'.2.1 = Pb.2.1 := by rw [e2]; exact mix_nat na
  have mm : ∀ z : Nat, z ∈ L' ↔ z ∈ L := fun z => by rw [e1]; exact pm.mem_iff.symm
  refine ⟨LMT.nat (h.1.mem mm) e ls (fun z m kz fl => ?_), LBQ.drx h.2 d al kst f (ls lb (Or.inl rfl))⟩
  have m0 := (mm z).mp m
  have kz9 : kcl (Pb.kd z) = 18 := kz
  have c := kcl_cases (Pb.kd z)
  have nt : z ∉ Lt := fun q => by have := hr z q; omega
  have ms : z ∈ Ls := (List.mem_append.mp (pm.mem_iff.mp m0)).elim id (fun q => absurd q nt)
  have lz9 : P'.lz z = Po.lz z := by rw [e2]; exact (mix_out nt).1 0
  rw [lz9]
  rcases Classical.em (Pb.kd z = 30) with k30 | k30
  · exact ((a.glf.owa z ms (by show Po.2.1 0 z = 30; rw [na]; exact k30)).1 (by show Po.2.1 7 z ≠ 1; rw [na]; exact fl)).1
  · have k3 : Pb.kd z = 3 := by omega
    have r := ((kd.1 z ms (by omega)).2.2.2.2 (by rw [k3]; unfold PKD; omega)).1 0
    show Po.1 0 z = 0
    rw [r]; exact (h.1.2.2.1.1 z m0 kz).2 fl
end LMT9G
/-- the dearest that blocks may be twice in one call -/
def TB2 (n : Nat) : Nat := TBC n + (if n < 90 then 33500 else 0)
theorem TB2.one (n : Nat) : (TBC n : Int) ≤ TB2 n := by unfold TB2; omega
theorem TB2.two {a b : Nat} {kc ks : Int} (h : TGR a b (8 + (b : Int) + ((b : Int) - a)) (8 * (b : Int) + 1 + (b : Int) * (b : Int) + 1002 * ((b : Int) - a)) kc ks) (t : ks ≤ (TBC a : Int)) : ks + TBC b ≤ TB2 a := by
  unfold TB2
  rcases h with ⟨e, _, z⟩ | ⟨l, d, u, _, z⟩
  · rw [e]; omega
  · by_cases b9 : b < 180
    · have ta := TBC.lt (n := a) (by omega)
      have tb := TBC.lt b9
      have a9 : a < 90 := by omega
      rw [if_pos a9]
      have m : (b : Int) * (b : Int) ≤ 179 * 179 := Int.mul_le_mul (by omega) (by omega) (by omega) (by decide)
      omega
    · rw [TBC.ge b9]; omega
