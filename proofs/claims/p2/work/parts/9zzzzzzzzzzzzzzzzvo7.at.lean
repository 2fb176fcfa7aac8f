/-! what lives, told of another pool in which the function is as it was -/
section FNS9
variable {L L' : List Nat} {P Q : PO} {cO cI cZ : ClassId} {ed la x : Nat} {b c i k n r : Int} {lv : Int → Int → Int} {Z : Int → Prop}
theorem PVE.symm9 (h : PVE P Q x) : PVE Q P x := by
  obtain ⟨a, ⟨b1, b2, b3⟩, c1, c2, c3⟩ := h
  exact ⟨fun f => (a f).symm, ⟨b1.symm, b2.symm, b3.symm⟩, by rw [b1]; exact c1.symm, by rw [b2]; exact c2.symm, by rw [b3]; exact c3.symm⟩
theorem FNE.symm9 (f : FNE P Q la) : FNE Q P la := ⟨f.1.symm, fun b b0 b1 => by
  obtain ⟨e, ⟨a1, a2, a3, a4, a5⟩, ⟨p1, p2⟩, ⟨r1, r2⟩, w⟩ := f.2 b b0 (by rw [← f.1]; exact b1)
  rw [e]
  refine ⟨rfl, ⟨a1.symm, a2.symm, a3.symm, a4.symm, a5.symm⟩, ⟨by rw [a1]; exact p1.symm, fun k k0 k1 => ?_⟩, ⟨by rw [a2]; exact r1.symm, fun k k0 k1 => ?_⟩, fun q => by rw [a3]; exact (w q).symm⟩
  · rw [a1] at k1 ⊢
    have u := p2 k k0 (by rw [← p1]; exact k1)
    rw [u.1]
    exact ⟨rfl, u.2.symm9⟩
  · rw [a2] at k1 ⊢
    have u := r2 k k0 (by rw [← r1]; exact k1)
    rw [u.1]
    exact ⟨rfl, fun q => (u.2 q).symm⟩⟩
theorem SRW.fn9 (f : FNE P Q la) (b0 : 0 ≤ b) (b1 : b < P.lz la) (s : SRW P la b i r) : SRW Q la b i r := by
  obtain ⟨e, ⟨_, a2, _⟩, _, ⟨r1, r2⟩, _⟩ := f.2 b b0 b1
  obtain ⟨k, k0, k1, k2, s1, s2⟩ := s
  have u := r2 k k0 k2
  refine ⟨k, k0, k1, ?_, ?_, ?_⟩
  · rw [e, a2, r1]; exact k2
  · rw [e, a2, u.1, show Q.ro (P.el (P.br (P.el la b)) k) = P.ro (P.el (P.br (P.el la b)) k) from u.2 0]; exact s1
  · rw [e, a2, u.1, show Q.rt (P.el (P.br (P.el la b)) k) = P.rt (P.el (P.br (P.el la b)) k) from u.2 1]; exact s2
theorem PLF.tflq (hp : PLF P la) (hq : PLF Q la) (al : ALP L P cO cI cZ ed la) (aq : ALP L' Q cO cI cZ ed la) (f : FNE P Q la) (b0 : 0 ≤ b) (b1 : b < P.lz la) (t : TFL Q lv la b r) : TFL P lv la b r := by
  have z := f.1
  rw [hq.tfl aq b0 (by rw [z]; exact b1)] at t
  rw [hp.tfl al b0 b1]
  obtain ⟨e, ⟨_, a2, a3, _⟩, _, ⟨r1, r2⟩, w⟩ := f.2 b b0 b1
  rw [e, a2, a3, r1] at t
  have ns : ∀ i : Int, ¬ SRW Q la b i r → ¬ SRW P la b i r := fun i h s => h (s.fn9 f b0 b1)
  rcases t with ⟨i, i0, i1, u, v⟩ | ⟨u, v⟩
  · have q := r2 i i0 i1
    rw [q.1] at u
    exact Or.inl ⟨i, i0, i1, u.of q.2, ns i v⟩
  · refine Or.inr ⟨?_, ns _ v⟩
    rcases u with u | ⟨c, c1, c2⟩
    · exact Or.inl (u.of w)
    · exact Or.inr ⟨c, ((f.edy).2 b b0 b1 c).mp c1, c2⟩
theorem LUB.fne (u : LUB P lv la (P.lz la) (-1)) (hp : PLF P la) (hq : PLF Q la) (al : ALP L P cO cI cZ ed la) (aq : ALP L' Q cO cI cZ ed la) (f : FNE P Q la) : LUB Q lv la (Q.lz la) (-1) := fun b r b0 b1 r0 r1 t => u b r b0 (by rw [← f.1]; exact b1) r0 r1 (hp.tflq hq al aq f (by omega) (by rw [← f.1]; exact b1) t)
theorem LSM.fne (u : LSM P lv la (P.lz la)) (hp : PLF P la) (hq : PLF Q la) (al : ALP L P cO cI cZ ed la) (aq : ALP L' Q cO cI cZ ed la) (f : FNE P Q la) : LSM Q lv la (Q.lz la) := fun g h w => u g (by rw [← f.1]; exact h) (LUB.fne w hq hp aq al f.symm9)
theorem ZRI.edy (h : ZRI P Q la n Z) : EDY P Q la := ⟨h.1.1, fun b b0 b1 c => h.edg b0 b1⟩
theorem EDY.alr (e : EDY P Q la) (h : ALR P la) (a : ALP L P cO cI cZ ed la) (z : 0 < P.lz la) : ALR Q la := fun b b0 b1 => e.rch a z (h b b0 (by rw [← e.1]; exact b1))
theorem EDY.fro (e : EDY P Q la) (a : ALP L P cO cI cZ ed la) (z : 0 < P.lz la) : FRO Q la b c ↔ FRO P la b c := by
  have rg : ∀ p c : Int, DOM P la b p → 0 ≤ p ∧ p < P.lz la := fun p c d => RCH.rng a.1.1 (by omega) d.2.1
  constructor
  · rintro ⟨h1, h2, p, h3, h4⟩
    have d := (e.dom a z).mp h3
    have q := rg p c d
    exact ⟨e.rchr a z h1, fun w => h2 ⟨w.1, (e.dom a z).mpr w.2⟩, p, d, (e.2 p q.1 q.2 c).mp h4⟩
  · rintro ⟨h1, h2, p, h3, h4⟩
    have q := rg p c h3
    exact ⟨e.rch a z h1, fun w => h2 ⟨w.1, (e.dom a z).mp w.2⟩, p, (e.dom a z).mpr h3, (e.2 p q.1 q.2 c).mpr h4⟩
end FNS9
theorem TBC.top (n : Nat) : (TBC n : Int) ≤ 393301 := by
  by_cases q : n < 180
  · rw [TBC.lt q]; omega
  · rw [TBC.ge q]; decide
