/-! no flag of gone is set -/
/-- all flags are 0 at first -/
def GN0 (P : PO) (la : Nat) : Prop := ∀ b : Int, 0 ≤ b → b < P.lz la → (∀ k : Int, 0 ≤ k → k < P.lz (P.bp (P.el la b)) → P.pg (P.el (P.bp (P.el la b)) k) = 0) ∧ ∀ k : Int, 0 ≤ k → k < P.lz (P.br (P.el la b)) → P.rg (P.el (P.br (P.el la b)) k) = 0
section GNZ9
variable {L : List Nat} {P Q Q' : PO} {cO cI cZ : ClassId} {ed la : Nat}
theorem GN0.fne (h : GN0 P la) (v : FNE P Q la) : GN0 Q la := fun b b0 b1 => by
  rw [v.1] at b1
  obtain ⟨eb, wb⟩ := v.2 b b0 b1
  rw [eb, wb.1.1, wb.1.2.1, wb.2.1.1, wb.2.2.1.1]
  refine ⟨fun k k0 k1 => ?_, fun k k0 k1 => ?_⟩
  · have q := wb.2.1.2 k k0 k1
    rw [q.1]; exact (q.2.1 2).trans ((h b b0 b1).1 k k0 k1)
  · have q := wb.2.2.1.2 k k0 k1
    rw [q.1]; exact (q.2 6).trans ((h b b0 b1).2 k k0 k1)
/-- what is left of gone, swept: nothing -/
theorem SWE.gn0 (s : SWE Q Q' la) (a : ALP L Q cO cI cZ ed la) : GN0 Q' la := by
  have w : SWG Q Q' la Q.pg Q.rg := s.swg ⟨rfl, rfl, fun _ _ _ _ _ => rfl⟩ rfl (fun _ _ => rfl) a
  intro b b0 b1
  rw [w.2.1.1] at b1
  obtain ⟨m, hm⟩ := w.ph b0 b1
  obtain ⟨m', hr⟩ := w.rw b0 b1
  refine ⟨fun k k0 k1 => ?_, fun k k0 k1 => ?_⟩
  · have u := hm.2.2.1 k k0 k1
    have kx := a.kphi b0 b1 u.1 u.2.1
    have e : Q'.pg (Q.el (Q.bp (Q.el la b)) (m k)) = Q.pg (Q.el (Q.bp (Q.el la b)) (m k)) := s.1.2.2 _ (by rw [kx.2]; decide) 2
    rw [u.2.2.1, e]; exact u.2.2.2
  · have u := hr.2.2.1 k k0 k1
    have kx := a.krow b0 b1 u.1 u.2.1
    have e : Q'.rg (Q.el (Q.br (Q.el la b)) (m' k)) = Q.rg (Q.el (Q.br (Q.el la b)) (m' k)) := s.1.2.2 _ (by rw [kx.2]; decide) 6
    rw [u.2.2.1, e]; exact u.2.2.2
end GNZ9
