/-! what the tables have cost in one call of toSsa -/
def TFS (a b : Nat) : Int := if b = a then 0 else 3 * (b : Int) + 1002 * ((b : Int) - a)
def TFZ (a b : Nat) : Int := if b = a then 0 else 3 + ((b : Int) - a)
theorem TGR.tfs {a b : Nat} {kc ks : Int} (h : TGR a b (3 + ((b : Int) - a)) (3 * (b : Int) + 1002 * ((b : Int) - a)) kc ks) : ks ≤ TFS a b ∧ kc ≤ TFZ a b ∧ TGD a b := by
  unfold TFS TFZ TGD
  rcases h with ⟨e, z, y⟩ | ⟨l, d, u, y, z⟩
  · rw [if_pos e, if_pos e]; exact ⟨by omega, by omega, Or.inl e⟩
  · rw [if_neg (show ¬ b = a from by omega), if_neg (show ¬ b = a from by omega)]; exact ⟨z, y, Or.inr ⟨l, d, u⟩⟩
/-- ways twice, flags, numbers: their lengths before and behind -/
def TTS (nv n7 nl n2 nm n0 : Nat) (t u : Int) : Prop := (∃ m : Nat, (TGD nv m ∧ TGD m n7) ∧ t ≤ TGS nv m + TGS m n7 + (TFS nl n2 + 2 * ((n0 : Int) - nm)) ∧ u ≤ TGZ nv m + TGZ m n7 + (TFZ nl n2 + ((n0 : Int) - nm))) ∧ TGD nl n2 ∧ GWX nm n0 360
