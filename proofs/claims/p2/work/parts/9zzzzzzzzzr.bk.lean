theorem GLF.cap40 {L : List Nat} {P : PO} {cO cI cZ : ClassId} {ed l k : Nat} (h : GLF L P cO cI cZ ed) (q : LOK L P cO k l) : P.cap l ≤ 40000 := by
  unfold PO.cap
  by_cases f : P.fl l = 1
  · rw [if_pos f]; exact h.adc40 q f
  · rw [if_neg f]; decide
/-- a function that was read, where no rule was broken -/
def PGD (rp : Int) (L : List Nat) (P : PO) (cO cI cZ : ClassId) (ed la : Nat) : Prop := rp < 0 → ALP L P cO cI cZ ed la ∧ CMP P la ∧ (1 ≤ P.lz la ∧ P.lz la ≤ 60 ∧ P.tot 2 la ≤ 200 ∧ P.tot 1 la = 0)
/-- goals that are blocks -/
def GCK (rp : Int) (g : Int → Int) (i z : Int) : Prop := rp < 0 → ∀ j : Int, 0 ≤ j → j < i → g j < z
theorem GCK.zero (rp : Int) (g : Int → Int) (z : Int) : GCK rp g 0 z := fun _ j j0 j1 => by omega
theorem GCK.step {rp : Int} {g : Int → Int} {i z : Int} (h : GCK rp g i z) (q : g i < z) : GCK rp g (i + 1) z := fun r j j0 j1 => by
  by_cases e : j = i
  · rw [e]; exact q
  · exact h r j j0 (by omega)
theorem GCK.brk {rp : Int} {g : Int → Int} {i z : Int} (q : 0 ≤ rp) : GCK rp g i z := fun r => by omega
theorem GCK.to {rp : Int} {g : Int → Int} {i i' z : Int} (h : GCK rp g i z) (l : i' ≤ i) : GCK rp g i' z := fun r j j0 j1 => h r j j0 (by omega)
theorem BRN.brk {rp z r : Int} (q : 0 ≤ rp) : BRN rp z r := fun h => by omega
theorem sumI_zero (n : Nat) : sumI (fun _ => 0) n = 0 := by
  induction n with
  | zero => rfl
  | succ n ih => show sumI (fun _ => 0) n + 0 = 0; rw [ih]; rfl
theorem tot_zero {P : PO} {f la : Nat} (z : P.lz la = 0) : P.tot f la = 0 := by unfold PO.tot; rw [z]; rfl
theorem BLS.none {P : PO} {la lb : Nat} {g : Int → Int} {n : Int} (d : DST P lb) (z : P.lz la = 0) : BLS P la lb g n := ⟨d, fun i i0 i1 => by omega⟩
theorem BLS.pgd {L : List Nat} {P : PO} {cO cI cZ : ClassId} {ed la lb : Nat} {g : Int → Int} {n rp r : Int} (b : BLS P la lb g n) (G : GLF L P cO cI cZ ed) (ca : la ∈ L ∧ P.kd la = 30 ∧ P.ek la = 12 ∧ P.ow la = la) (zz : P.lz la ≤ P.lz lb) (br : BRN rp (P.lz la) r) (z1 : 1 ≤ P.lz la) (tt : P.tot 2 la = r) (gk : GCK rp g n (P.lz la)) : PGD rp L P cO cI cZ ed la := fun q => by
  obtain ⟨z60, r200⟩ := br q
  have gk := gk q
  have gl : ∀ v : Int, GIN g n v → v < P.lz la := fun v h => by
    rcases h with h | ⟨k, k0, k1, e⟩
    · omega
    · rw [← e]; exact gk k k0 k1
  have ph : ∀ i : Int, 0 ≤ i → i < P.lz la → P.lz (P.bp (P.el la i)) = 0 := fun i i0 i1 => (b.2 i i0 i1).2.1
  refine ⟨G.alp ca.1 ca.2.1 ca.2.2.1 (by omega) (fun i i0 i1 => ⟨gl _ (b.2 i i0 i1).2.2.1, gl _ (b.2 i i0 i1).2.2.2.1⟩) (fun i j i0 ij j1 => ?_) (fun x h j j0 j1 => ?_), ⟨ph 0 (by omega) (by omega), fun c b0 b1 => ⟨by rw [ph _ b0 b1]; decide, (b.2 _ b0 b1).2.2.2.2⟩, fun p c _ _ b0 b1 _ _ i i0 i1 => ?_⟩, z1, z60, by omega, ?_⟩
  · rw [(b.2 i i0 (by omega)).1, (b.2 j (by omega) j1).1]; exact (b.1 i j i0 ij (by omega)).1
  · obtain ⟨k, k0, k1, e⟩ := h
    rw [e, ph k k0 k1] at j1; omega
  · rw [ph _ b0 b1] at i1; omega
  · unfold PO.tot
    exact (sumI_eq (g := fun _ => 0) (fun i i0 i1 => ph i i0 (by omega))).trans (sumI_zero _)
