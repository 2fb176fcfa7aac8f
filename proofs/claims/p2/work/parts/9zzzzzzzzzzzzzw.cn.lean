theorem CIV.to {P : PO} {la : Nat} {s0 m0 o0 g0 st nm op gn : Int → Int} {ch ch' i j k i' j' k' : Int} (h : CIV P la s0 m0 o0 g0 st nm op gn ch i j k) (ec : ch = ch') (e1 : i = i') (e2 : j = j') (e3 : k = k') : CIV P la s0 m0 o0 g0 st nm op gn ch' i' j' k' := by rw [← ec, ← e1, ← e2, ← e3]; exact h
theorem RND.mea {n ch : Int} {s0 m0 o0 g0 st nm op gn : Int → Int} (h : RND n s0 m0 o0 g0 st nm op gn ch) : 2 * MEA9 st op gn n + ch < 2 * MEA9 s0 o0 g0 n + 1 := by
  rcases h with ⟨a, b, _, c, d⟩ | ⟨a, b⟩
  · rw [b, c, d]; omega
  · omega
theorem ALP.ptr {L : List Nat} {P : PO} {cO cI cZ : ClassId} {ed la : Nat} (a : ALP L P cO cI cZ ed la) (b k : Int) (b0 : 0 ≤ b) (b1 : b < P.lz la) (k0 : 0 ≤ k) (k1 : k < P.lz (P.bp (P.el la b))) : 0 ≤ P.pt (P.el (P.bp (P.el la b)) k) ∧ P.pt (P.el (P.bp (P.el la b)) k) ≤ 1001 := by
  have kp := a.kphi b0 b1 k0 k1
  have t := (a.pik kp.1 kp.2).2.2.2.2.2.1
  exact ⟨t.1, t.2.1⟩
theorem ALP.rtr {L : List Nat} {P : PO} {cO cI cZ : ClassId} {ed la : Nat} (a : ALP L P cO cI cZ ed la) (b k : Int) (b0 : 0 ≤ b) (b1 : b < P.lz la) (k0 : 0 ≤ k) (k1 : k < P.lz (P.br (P.el la b))) : 0 ≤ P.rt (P.el (P.br (P.el la b)) k) ∧ P.rt (P.el (P.br (P.el la b)) k) ≤ 1001 := by
  have kp := a.krow b0 b1 k0 k1
  exact (a.1.1.2.2.2 _ kp.1 kp.2).2.1
