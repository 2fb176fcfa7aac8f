theorem CSR.len9 {P : PO} {y : Nat} : ∀ m : Nat, CSR P y m ≤ m
  | 0 => by rw [show ((0 : Nat) : Int) = 0 from rfl, CSR.zero]; exact Int.le_refl 0
  | m + 1 => by
    have ih := CSR.len9 (P := P) (y := y) m
    rw [show ((m + 1 : Nat) : Int) = (m : Int) + 1 from by omega, CSR.succ (by omega)]
    split <;> omega
theorem sumI_add9 (f g : Int → Int) : ∀ n : Nat, sumI (fun i => f i + g i) n = sumI f n + sumI g n
  | 0 => rfl
  | n + 1 => by
    show sumI (fun i => f i + g i) n + (f n + g n) = (sumI f n + f n) + (sumI g n + g n)
    rw [sumI_add9 f g n]
    omega
/-- a function has at most as many names as it has ROWS and PHIS -/
theorem NST.tot9 {L : List Nat} {P : PO} {cO cI cZ : ClassId} {ed la : Nat} (a : ALP L P cO cI cZ ed la) : NST P la ≤ P.tot 1 la + P.tot 2 la := by
  unfold NST PO.tot
  rw [← sumI_add9]
  refine sumI_le (fun i i0 i1 => ?_)
  have z := WSB.nn a i0 (by omega)
  have c := CSR.len9 (P := P) (y := P.el la i) (P.lz (P.br (P.el la i))).toNat
  rw [show (((P.lz (P.br (P.el la i))).toNat : Nat) : Int) = P.lz (P.br (P.el la i)) from by omega] at c
  show WSB P la i ≤ P.lz (P.bp (P.el la i)) + P.lz (P.br (P.el la i))
  unfold WSB
  omega
theorem sumI_toN9 (f : Int → Int) {d : Int} (h : 0 ≤ d) : sumI f (d + 1).toNat = sumI f d.toNat + f d := by
  rw [show (d + 1).toNat = d.toNat + 1 from by omega]
  show sumI f d.toNat + f ((d.toNat : Nat) : Int) = _
  rw [show ((d.toNat : Nat) : Int) = d from by omega]
theorem PLF.tot1 {P : PO} {la : Nat} (h : PLF P la) : P.tot 1 la = 0 := by
  show sumI (fun i => P.lz (P.bp (P.el la i))) (P.lz la).toNat = 0
  have z := h.1.1
  have key : ∀ n : Nat, (n : Int) ≤ P.lz la → sumI (fun i => P.lz (P.bp (P.el la i))) n = 0 := by
    intro n
    induction n with
    | zero => intro _; rfl
    | succ n ih =>
      intro k
      show sumI (fun i => P.lz (P.bp (P.el la i))) n + P.lz (P.bp (P.el la (n : Int))) = 0
      rw [ih (by omega), (h.1.2 n (by omega) (by omega)).1]
      rfl
  exact key _ (by omega)
