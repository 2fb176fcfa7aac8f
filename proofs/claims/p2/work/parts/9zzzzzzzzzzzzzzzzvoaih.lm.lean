/-! where a PHI, a list of PHIs stops growing -/
section LMT9H
variable {L L' L0 Ls Lt Lo E E0 : List Nat} {P P' P0 P1 Q Q' Z Z' Po Pb R : PO} {F : Nat → Prop} {cO cI cZ : ClassId} {ed la lb lr lp x q z l : Nat} {n p n' p' s c s' c' t y o b d : Int} {w : Nat → Int}
def I6P (P : PO) (la : Nat) : Prop := I60 P la ∧ PR60 P la
theorem I6P.edy (h : I6P P la) (e : EDY P Q la) : I6P Q la := by
  refine ⟨fun b b0 b1 m => h.1 b b0 (by rw [← e.1]; exact b1) (MPR.edy e m), fun b f n b0 b1 g i => ?_⟩
  rw [e.1] at b1
  refine h.2 b f n b0 b1 (fun j j0 j1 => ?_) i
  have r := g j j0 j1
  rw [e.1] at r
  exact ⟨r.1, (e.2 _ r.1.1 r.1.2 b).mp r.2⟩
theorem I6P.drx {st aa : Int → Int} (h : I6P P la) (d : DRX P Q la st aa) (al : ALP L P cO cI cZ ed la) (aq : ALP L' Q cO cI cZ ed la) (ks : KST P la st) : I6P Q la := by
  obtain ⟨sm, m, d⟩ := d.dre al ks
  have w := WYR.dre d al aq ks
  exact ⟨h.1.wyr w, h.2.wyr w⟩
theorem I60.lt (h : I60 Q la) (b1 : b < Q.lz la) (m : MPR Q la b) : b < 60 := Int.not_le.mp (fun q => h b q b1 m)
theorem PHW.pn60 (h : PHW Q R la o b x d) (p : PR60 Q la) (b0 : 0 ≤ b) (b1 : b < Q.lz la) (d1 : d ≤ Q.lz la) : R.pn x ≤ 60 := by
  refine p b (fun i => R.ia (R.pp x) i) (R.pn x) b0 b1 (fun i i0 i1 => ?_) (fun i j i0 ij j1 e => ?_)
  · have r := h.2.1 i i0 i1
    exact ⟨⟨r.2.2.1.1, by have := r.2.2.1.2; show R.ia (R.pp x) i < Q.lz la; omega⟩, r.2.2.2⟩
  · have r := h.2.2.2.1 i j i0 ij j1
    have e' : R.ia (R.pp x) i = R.ia (R.pp x) j := e
    omega
theorem PHL.grow {a a' : Nat} {n : Int} (h : PHL a) (g : a' = a ∨ (a' = 2 * a ∧ n = a)) (n9 : n ≤ 60) : PHL a' := by
  unfold PHL at *
  omega
theorem LMT.capy (h : LMT L P la lb lr lp) {b : Nat} (mb : b ∈ L) (kb : P.kd b = 12) : P.cap (P.bp b) ≤ 823 := by
  obtain ⟨k, k0, k1, e⟩ := (h.1.1 b mb).2.2.1 (kc12 kb)
  rw [e]; exact (h.2.2.2.2 k k0 k1).2.1
theorem cap823 (v : LVC (P.cap l)) (v' : LVC (P'.cap l)) (c : P.cap l ≤ 823) (g : LGW l P P') (z : P.lz l ≤ 700) : P'.cap l ≤ 823 := by
  rcases g with e | e | ⟨e, e'⟩
  · omega
  · omega
  · unfold LVC at v v'; omega
theorem pxc_sl {a a' : Nat} {S S' ks : Int} (h : S' = S + wSL 2 * (((a' - 1 : Nat) : Int) - ((a - 1 : Nat) : Int))) (a4 : 4 ≤ a) (g : a' = a ∨ a' = 2 * a) (k : ks ≤ 6 * ((a' : Int) - a)) : ks ≤ S' - S ∧ S' - S = 6 * ((a' : Int) - a) := by
  have e : wSL 2 = 6 := rfl
  rw [e] at h
  rcases g with g | g <;> omega
theorem pxc_ce {a a' : Nat} {S S' kc : Int} (h : S' = S + wCE 2 * (((a' - 1 : Nat) : Int) - ((a - 1 : Nat) : Int))) (a4 : 4 ≤ a) (g : a' = a ∨ a' = 2 * a) (k : kc ≤ 3 * ((a' : Int) - a)) (k3 : kc ≤ 3) : 40 * kc ≤ S' - S ∧ S' - S = 30 * ((a' : Int) - a) := by
  have e : wCE 2 = 30 := rfl
  rw [e] at h
  rcases g with g | g <;> omega
end LMT9H
