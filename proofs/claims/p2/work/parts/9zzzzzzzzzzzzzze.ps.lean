/-! one more in a list, told exactly: how long its row is then, and what that costs -/
def groX (z n : Int) : Nat := if z = n then (n + n / 2).toNat else 0
theorem groX_spec (z n : Int) : (z = n → 0 ≤ n → (groX z n : Int) = n + n / 2) ∧ (z ≠ n → groX z n = 0) := by
  unfold groX
  refine ⟨fun e h => ?_, fun e => if_neg e⟩
  rw [if_pos e]; omega
def PO.gx (P : PO) (x : Nat) : Nat := if P.fl x = 1 then groX (P.lz x) (P.an (P.le x)) else 10
theorem PO.gx_spec (P : PO) (x : Nat) : (P.fl x = 1 → P.gx x = groX (P.lz x) (P.an (P.le x)) ∧ P.gc x = groC (P.lz x) (P.an (P.le x))) ∧ (P.fl x ≠ 1 → P.gx x = 10 ∧ P.gc x = 1) := by
  unfold PO.gx PO.gc
  exact ⟨fun e => ⟨if_pos e, if_pos e⟩, fun e => ⟨if_neg e, if_neg e⟩⟩
theorem ADC.gl9 {L : List Nat} {P : PO} {cO : ClassId} {ed x : Nat} (h : ADC L P cO ed x) : P.gx x ≤ 60001 ∧ P.gc x ≤ 1 := by
  have g := ADC.gl h
  refine ⟨?_, g.2⟩
  have s := P.gx_spec x
  have t := groX_spec (P.lz x) (P.an (P.le x))
  unfold ADC at h
  rcases h with h | h
  · have e := (s.1 h.1).1
    by_cases q : P.lz x = P.an (P.le x)
    · have u := t.1 q (by omega)
      omega
    · have u := t.2 q
      omega
  · have e := (s.2 h.1).1
    omega
/-- all lists have rows of such lengths -/
def LVA (L : List Nat) (P : PO) : Prop := ∀ z : Nat, z ∈ L → P.kd z = 30 → LVC (P.cap z) ∧ P.cap z ≤ 6246
theorem LVC.ten {P : PO} {x : Nat} (h : LVC (P.cap x)) (f : P.fl x = 1) (p : 0 < P.an (P.le x)) : 10 ≤ P.an (P.le x) := by
  have c := (P.cap_spec x).1 f
  rw [c] at h
  unfold LVC at h
  omega
/-- the list's row behind it: a length of that kind, and just what it cost -/
theorem LVC.put {P P' : PO} {x : Nat} (h : LVC (P.cap x)) (c1 : P.cap x ≤ 4164) (f' : P'.fl x = 1) (g : P.fl x = 1 → (P'.an (P'.le x) = P.an (P.le x) ∧ P.lz x ≠ P.an (P.le x)) ∨ (P.lz x = P.an (P.le x) ∧ (P'.an (P'.le x) : Int) = P.an (P.le x) + (P.an (P.le x) : Int) / 2)) (p : P.fl x = 1 → 0 < P.an (P.le x)) (n : P.fl x ≠ 1 → P'.an (P'.le x) = 10) : LVC (P'.cap x) ∧ LVS (P'.cap x) = LVS (P.cap x) + P.gx x := by
  have c' := (P'.cap_spec x).1 f'
  have s := P.gx_spec x
  have t := groX_spec (P.lz x) (P.an (P.le x))
  by_cases f : P.fl x = 1
  · have c := (P.cap_spec x).1 f
    have e := (s.1 f).1
    rcases g f with ⟨q, k⟩ | ⟨q, k⟩
    · have z := t.2 k
      rw [c', q, ← c]
      exact ⟨h, by omega⟩
    · have z := t.1 q (by omega)
      have w := LVC.grow h (by rw [c]; have := p f; omega) c1
      rw [c', k, ← c]
      exact ⟨w.1, by rw [w.2, e]; omega⟩
  · have c := (P.cap_spec x).2 f
    have e := (s.2 f).1
    have k := n f
    rw [c', k, c]
    exact ⟨LVC.first.1, by rw [e]; exact LVC.first.2⟩
