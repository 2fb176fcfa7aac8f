section JMS9
variable {L : List Nat} {P Q : PO} {cO cI cZ : ClassId} {ed la x : Nat} {A : Int → Int → Prop} {b c d i j k p r v y : Int}
/-- what a row of block b uses is there in y -/
theorem AVT.jmb (t : AVT P la A b j v) (w : AVW P la A) (h : JMR P Q la b y) (g : JMA P la b y) (l0 : ∀ c : Int, 0 ≤ c → c < P.lz la → 0 ≤ P.lz (P.br (P.el la c))) (j0 : 0 ≤ j) : AVT Q la A y (P.lz (P.br (P.el la y)) + j) v := by
  have b0 : 0 ≤ b := by have := g.1.1; omega
  have y0 := g.1.2.2.1
  have y1 := g.1.2.2.2.1
  rcases t with t | ⟨k, k0, k1, _⟩ | t
  · rcases w.2 v y b y0 y1 g.eyb t with u | u | u
    · exact Or.inl u
    · exact Or.inr (Or.inl (u.jmr h y0 y1))
    · exact Or.inr (Or.inr ((u.jmr h l0 b0 g.1.2.1 y0 y1).mono (by omega)))
  · have := g.2.2.2; omega
  · exact Or.inr (Or.inr (t.jmb h b0 g.1.2.1 y0 y1 (l0 y y0 y1)))
theorem AVT.jmr (t : AVT P la A c j v) (h : JMR P Q la b y) (l0 : ∀ c : Int, 0 ≤ c → c < P.lz la → 0 ≤ P.lz (P.br (P.el la c))) (b0 : 0 ≤ b) (b1 : b < P.lz la) (c0 : 0 ≤ c) (c1 : c < P.lz la) : AVT Q la A c j v := t.imp id (fun q => q.imp (fun u => u.jmr h c0 c1) (fun u => u.jmr h l0 b0 b1 c0 c1))
theorem JMR.ssk {st : Int → Int} (h : JMR P Q la b y) (g : JMA P la b y) (T : ∀ k : Int, 0 ≤ k → k < P.lz la → (st k ≠ 0 ↔ k ≠ b)) (s : SSP P la) (g0 : GN0 P la) (al : ALP L P cO cI cZ ed la) : (SSK False Q la st ∧ OPK Q la st) ∧ GNK Q la st ∧ ∀ c k i : Int, 0 ≤ c → c < Q.lz la → st c ≠ 0 → 0 ≤ k → k < Q.lz (Q.bp (Q.el la c)) → 0 ≤ i → i < Q.pn (Q.el (Q.bp (Q.el la c)) k) → st (Q.ia (Q.pp (Q.el (Q.bp (Q.el la c)) k)) i) ≠ 0 → EDG Q la (Q.ia (Q.pp (Q.el (Q.bp (Q.el la c)) k)) i) c := by
  obtain ⟨A, aw, au⟩ := s.2.2.2.2.1
  have z : Q.lz la = P.lz la := h.1.1
  have en := s.2.2.2.2.2.2.2.1
  have ope := s.2.2.2.2.2.2.2.2.1
  have opd := s.2.2.2.2.2.2.2.2.2
  have cm := s.2.1
  have nd := s.2.2.1
  have sg := s.2.2.2.2.2.1
  have gb := g.1
  have b0 : 0 ≤ b := by omega
  have b1 := gb.2.1
  have y0 := gb.2.2.1
  have y1 := gb.2.2.2.1
  have yb := gb.2.2.2.2
  have l0 : ∀ c : Int, 0 ≤ c → c < P.lz la → 0 ≤ P.lz (P.br (P.el la c)) := fun c c0 c1 => (al.inb ⟨c, c0, c1, rfl⟩).2.1.2.2.1.1
  have nob : ∀ p : Int, 0 ≤ p → p < P.lz la → p ≠ y → ∀ c : Int, EDG P la p c → c ≠ b := fun p p0 p1 py c e q => py (g.2.2.1 p p0 p1 (by rw [← q]; exact e))
  have nbb : ∀ c : Int, EDG P la b c → c ≠ b := nob b b0 b1 (fun q => yb q.symm)
  -- where block c of the new function came from, as to its end
  have src : ∀ c : Int, 0 ≤ c → c < P.lz la → c ≠ b → ∃ d : Int, (0 ≤ d ∧ d < P.lz la ∧ d ≠ y) ∧ (c ≠ y → d = c) ∧ (c = y → d = b) ∧ Q.ro (P.be (P.el la c)) = P.ro (P.be (P.el la d)) ∧ Q.bf (P.el la c) = P.bf (P.el la d) ∧ Q.bs (P.el la c) = P.bs (P.el la d) := fun c c0 c1 cb => by
    by_cases cy : c = y
    · subst cy
      exact ⟨b, ⟨b0, b1, fun q => yb q.symm⟩, fun q => absurd rfl q, fun _ => rfl, h.2.2.2.2.1.2.1, h.2.2.2.2.2.1.2.1, h.2.2.2.2.2.1.2.2⟩
    · have t := h.2.2.2.2.2.1.1 c c0 c1 cy cb
      exact ⟨c, ⟨c0, c1, cy⟩, fun _ => rfl, fun q => absurd q cy, h.2.2.2.2.1.1 c c0 c1 cy _, t.1, t.2⟩
  have edq : ∀ p c : Int, 0 ≤ p → p < P.lz la → p ≠ b → EDG Q la p c → c ≠ b := fun p c p0 p1 pb e => by
    by_cases py : p = y
    · rw [py] at e; exact nbb c ((h.edy g).mp e)
    · exact nob p p0 p1 py c ((h.edg p0 p1 pb py).mp e)
  have phn : ∀ c k : Int, 0 ≤ c → c < P.lz la → 0 ≤ k → k < Q.lz (Q.bp (Q.el la c)) → k < P.lz (P.bp (P.el la c)) ∧ Q.el (Q.bp (Q.el la c)) k = P.el (P.bp (P.el la c)) k := fun c k c0 c1 k0 k1 => by
    have t := h.phi c0 c1
    rw [t.1] at k1
    exact ⟨k1, t.2 k k0 k1⟩
  have inj : ∀ c k c' k' d i d' i' : Int, c ≠ b → c' ≠ b → ((d = c ∧ i = k) ∨ (c = y ∧ d = b ∧ k = P.lz (P.br (P.el la y)) + i)) → ((d' = c' ∧ i' = k') ∨ (c' = y ∧ d' = b ∧ k' = P.lz (P.br (P.el la y)) + i')) → d = d' ∧ i = i' → c = c' ∧ k = k' := fun c k c' k' d i d' i' cb cb' u u' e => by omega
  refine ⟨⟨⟨⟨⟨by rw [z]; exact s.1, (T 0 (Int.le_refl 0) s.1).mpr (by omega)⟩, fun c c0 c1 sc => ?_, fun c d j k c0 c1 _ d0 d1 _ j0 j1 k0 k1 e => ?_⟩, ⟨?_, fun c c0 c1 sc => ?_, fun p c p0 p1 sp c0 c1 sc e i i0 i1 => ?_⟩, ⟨fun c d j k c0 c1 sc d0 d1 sd j0 j1 k0 k1 e => ?_, fun c d c0 c1 _ d0 d1 _ e => ?_⟩, fun c c0 c1 sc => ?_, ?_, ⟨fun c d j k c0 c1 _ d0 d1 _ j0 j1 k0 k1 e => ?_, fun c d j k c0 c1 sc d0 d1 sd j0 j1 k0 k1 s1 s2 e => ?_, fun c d j k c0 c1 _ d0 d1 sd j0 j1 k0 k1 s2 e => ?_⟩, ?_, fun p p0 p1 sp e => ?_, fun c c0 c1 sc o => ?_⟩, fun c k i j c0 c1 sc k0 k1 i0 ij j1 => ?_⟩, fun c c0 c1 sc => ⟨fun k k0 k1 => ?_, fun k k0 k1 => ?_⟩, fun c k i c0 c1 sc k0 k1 i0 i1 sp => ?_⟩
  · -- kept leads to kept
    rw [z] at c1
    have cb := (T c c0 (by omega)).mp sc
    have w := h.1.2 c c0 c1
    rw [w.1, w.2.2.2]
    obtain ⟨d, ⟨d0, d1, dy⟩, e1, e2, eo, ef, es⟩ := src c c0 c1 cb
    rw [eo, ef, es]
    have rg := (cm.2.1 d d0 d1).2
    have ee := en.2 d d0 d1
    refine ⟨fun q => ?_, fun q => ee.1 q⟩
    have t1 : P.bf (P.el la d) ≠ b := nob d d0 d1 dy _ (EDG.yaw q (Or.inl rfl))
    have gd := (al.inb ⟨d, d0, d1, rfl⟩).2.2.2.2
    refine ⟨(T _ gd.1 gd.2.1).mpr t1, (T _ gd.2.2.1 gd.2.2.2).mpr ?_⟩
    by_cases o : P.ro (P.be (P.el la d)) = 30
    · rw [ee.2 o]; exact t1
    · exact nob d d0 d1 dy _ (EDG.yaw q (Or.inr ⟨o, rfl⟩))
  · rw [z] at c1 d1
    obtain ⟨j2, ej⟩ := phn c j c0 c1 j0 j1
    obtain ⟨k2, ek⟩ := phn d k d0 d1 k0 k1
    rw [ej, ek] at e
    exact nd.2.1 c d j k c0 c1 d0 d1 j0 j2 k0 k2 e
  · rw [(h.phi (Int.le_refl 0) s.1).1]; exact cm.1
  · rw [z] at c1
    have cb := (T c c0 (by omega)).mp sc
    have w := h.1.2 c c0 c1
    rw [(h.phi c0 c1).1, w.1, w.2.2.2]
    obtain ⟨d, ⟨d0, d1, dy⟩, e1, e2, eo, ef, es⟩ := src c c0 c1 cb
    rw [eo]
    exact ⟨(cm.2.1 c c0 c1).1, (cm.2.1 d d0 d1).2⟩
  · rw [z] at p1 c1
    have pb := (T p p0 (by omega)).mp sp
    obtain ⟨i2, ei⟩ := phn c i c0 c1 i0 i1
    rw [ei]
    have ph := h.2.2.2.2.2.2 c i c0 c1 i0 i2
    by_cases py : p = y
    · rw [py] at e ⊢
      have w := ((h.edy g).mp e).way
      obtain ⟨q, q0, q1, qe⟩ := cm.2.2 b c b0 b1 c0 c1 w.1 w.2 i i0 i2
      exact ⟨q, q0, by rw [ph.1.1]; exact q1, by rw [ph.2.1.1]; exact (ph.2.2 q q0 q1).2.2 qe⟩
    · have w := ((h.edg p0 p1 pb py).mp e).way
      obtain ⟨q, q0, q1, qe⟩ := cm.2.2 p c p0 p1 c0 c1 w.1 w.2 i i0 i2
      exact ⟨q, q0, by rw [ph.1.1]; exact q1, by rw [ph.2.1.1, (ph.2.2 q q0 q1).2.1 (by rw [qe]; exact pb)]; exact qe⟩
  · rw [z] at c1 d1
    obtain ⟨c', j', cc, jj, ej, uj⟩ := h.row g c0 c1 j0 j1
    obtain ⟨d', k', dd, kk, ek, uk⟩ := h.row g d0 d1 k0 k1
    rw [ej, ek] at e
    exact inj c j d k c' j' d' k' ((T c c0 (by omega)).mp sc) ((T d d0 (by omega)).mp sd) uj uk (nd.1 c' d' j' k' cc.1 cc.2 dd.1 dd.2 jj.1 jj.2 kk.1 kk.2 e)
  · rw [z] at c1 d1
    have w := h.1.2 c c0 c1
    have u := h.1.2 d d0 d1
    rw [w.1, u.1, w.2.2.2, u.2.2.2] at e
    exact nd.2.2 c d c0 c1 d0 d1 e
  · rw [z] at c1
    have cb := (T c c0 (by omega)).mp sc
    intro S z0 f
    have r := s.2.2.2.1 c c0 c1 (fun d => (0 ≤ d ∧ d < P.lz la) ∧ (d ≠ b → S d) ∧ (d = b → S y)) (fun _ => ⟨⟨Int.le_refl 0, s.1⟩, fun _ => z0 (by decide), fun q => by omega⟩) (fun p d t e _ => by
      have rg := EDG.rng al t.1.1 t.1.2 e
      refine ⟨rg, fun db => ?_, fun db => ?_⟩
      · by_cases pb : p = b
        · rw [pb] at e
          exact f y d (t.2.2 pb) ((h.edy g).mpr e) (by omega)
        · by_cases py : p = y
          · rw [py] at e; exact absurd (g.yto e) db
          · exact f p d (t.2.1 pb) ((h.edg t.1.1 t.1.2 pb py).mpr e) (by omega)
      · have py := g.2.2.1 p t.1.1 t.1.2 (by rw [← db]; exact e)
        rw [py] at t
        exact t.2.1 yb)
    exact r.2.1 cb
  · -- what is used is there
    refine ⟨A, ⟨aw.1, fun r p c p0 p1 sp e q => ?_⟩, fun c c0 c1 sc => ⟨fun k k0 k1 i i0 i1 sp _ => ?_, fun k k0 k1 => ?_, ?_⟩⟩
    · rw [z] at p1
      have pb := (T p p0 (by omega)).mp sp
      by_cases py : p = y
      · rw [py] at e ⊢
        exact aw.jmb h g l0 (aw.2 r b c b0 b1 ((h.edy g).mp e) q)
      · exact (aw.2 r p c p0 p1 ((h.edg p0 p1 pb py).mp e) q).imp id (fun t => t.jmr h l0 b0 b1 p0 p1)
    · rw [z] at c1
      obtain ⟨k2, ek⟩ := phn c k c0 c1 k0 k1
      rw [ek] at i1 sp ⊢
      have ph := h.2.2.2.2.2.2 c k c0 c1 k0 k2
      rw [ph.1.1] at i1
      rw [ph.2.1.1, ph.2.1.2.1, ph.2.1.2.2]
      have q := ph.2.2 i i0 i1
      rw [q.1.1, q.1.2]
      have pr := al.prd c0 c1 k0 k2 i0 i1
      have u := (au c c0 c1).1 k k0 k2 i i0 i1
      by_cases pb : P.ia (P.pp (P.el (P.bp (P.el la c)) k)) i = b
      · rw [q.2.2 pb]
        rw [pb] at u
        exact u.imp id (fun t => aw.jmb h g l0 t)
      · rw [q.2.1 pb]
        exact u.imp id (fun t => t.imp id (fun m => m.jmr h l0 b0 b1 pr.1 pr.2))
    · rw [z] at c1
      have cb := (T c c0 (by omega)).mp sc
      obtain ⟨d, i, dd, ii, ei, ui⟩ := h.row g c0 c1 k0 k1
      rw [ei]
      have f := h.2.2.2.1 d i dd.1 dd.2 ii.1 ii.2
      have u := (au d dd.1 dd.2).2.1 i ii.1 ii.2
      unfold URA
      rw [show Q.ro (P.el (P.br (P.el la d)) i) = P.ro (P.el (P.br (P.el la d)) i) from f _, show Q.rA (P.el (P.br (P.el la d)) i) = P.rA (P.el (P.br (P.el la d)) i) from f _, show Q.rB (P.el (P.br (P.el la d)) i) = P.rB (P.el (P.br (P.el la d)) i) from f _, show Q.ra (P.el (P.br (P.el la d)) i) = P.ra (P.el (P.br (P.el la d)) i) from f _, show Q.rb (P.el (P.br (P.el la d)) i) = P.rb (P.el (P.br (P.el la d)) i) from f _]
      have mv : ∀ v : Int, AVT P la A d i v → AVT Q la A c k v := fun v t => by
        rcases ui with ⟨u1, u2⟩ | ⟨u1, u2, u3⟩
        · rw [u1, u2] at t; exact t.jmr h l0 b0 b1 c0 c1
        · rw [u2] at t
          rw [u1, u3]; exact t.jmb aw h g l0 ii.1
      exact ⟨u.1.imp id (mv _), u.2.imp id (mv _)⟩
    · rw [z] at c1
      have cb := (T c c0 (by omega)).mp sc
      have w := h.1.2 c c0 c1
      by_cases cy : c = y
      · subst cy
        have u := (au b b0 b1).2.2
        have e5 := h.2.2.2.2.1.2
        rw [w.1, w.2.2.2, w.2.2.1, h.2.2.1.1]
        unfold URA
        rw [e5.1, e5.2.1.1, e5.2.1.2, e5.2.2.1, e5.2.2.2]
        exact ⟨u.1.imp id (fun t => t.jmb aw h g l0 (l0 b b0 b1)), u.2.imp id (fun t => t.jmb aw h g l0 (l0 b b0 b1))⟩
      · have u := (au c c0 c1).2.2
        have f := h.2.2.2.2.1.1 c c0 c1 cy
        have ul := (h.2.1 c c0 c1).2 cy
        rw [w.1, w.2.2.2, w.2.2.1, ul.1]
        unfold URA
        rw [show Q.ro (P.be (P.el la c)) = P.ro (P.be (P.el la c)) from f _, show Q.rA (P.be (P.el la c)) = P.rA (P.be (P.el la c)) from f _, show Q.rB (P.be (P.el la c)) = P.rB (P.be (P.el la c)) from f _, show Q.ra (P.be (P.el la c)) = P.ra (P.be (P.el la c)) from f _, show Q.rb (P.be (P.el la c)) = P.rb (P.be (P.el la c)) from f _]
        exact ⟨u.1.imp id (fun t => t.jmr h l0 b0 b1 c0 c1), u.2.imp id (fun t => t.jmr h l0 b0 b1 c0 c1)⟩
  · rw [z] at c1 d1
    obtain ⟨j2, ej⟩ := phn c j c0 c1 j0 j1
    obtain ⟨k2, ek⟩ := phn d k d0 d1 k0 k1
    rw [ej, ek, (h.2.2.2.2.2.2 c j c0 c1 j0 j2).1.2.1, (h.2.2.2.2.2.2 d k d0 d1 k0 k2).1.2.1] at e
    exact sg.1 c d j k c0 c1 d0 d1 j0 j2 k0 k2 e
  · rw [z] at c1 d1
    obtain ⟨c', j', cc, jj, ej, uj⟩ := h.row g c0 c1 j0 j1
    obtain ⟨d', k', dd, kk, ek, uk⟩ := h.row g d0 d1 k0 k1
    have fj := h.2.2.2.1 c' j' cc.1 cc.2 jj.1 jj.2
    have fk := h.2.2.2.1 d' k' dd.1 dd.2 kk.1 kk.2
    rw [ej, show Q.ro (P.el (P.br (P.el la c')) j') = P.ro (P.el (P.br (P.el la c')) j') from fj _] at s1
    rw [ek, show Q.ro (P.el (P.br (P.el la d')) k') = P.ro (P.el (P.br (P.el la d')) k') from fk _] at s2
    rw [ej, ek, show Q.rt (P.el (P.br (P.el la c')) j') = P.rt (P.el (P.br (P.el la c')) j') from fj _, show Q.rt (P.el (P.br (P.el la d')) k') = P.rt (P.el (P.br (P.el la d')) k') from fk _] at e
    exact inj c j d k c' j' d' k' ((T c c0 (by omega)).mp sc) ((T d d0 (by omega)).mp sd) uj uk (sg.2.1 c' d' j' k' cc.1 cc.2 dd.1 dd.2 jj.1 jj.2 kk.1 kk.2 s1 s2 e)
  · rw [z] at c1 d1
    obtain ⟨j2, ej⟩ := phn c j c0 c1 j0 j1
    obtain ⟨d', k', dd, kk, ek, uk⟩ := h.row g d0 d1 k0 k1
    have fk := h.2.2.2.1 d' k' dd.1 dd.2 kk.1 kk.2
    rw [ek, show Q.ro (P.el (P.br (P.el la d')) k') = P.ro (P.el (P.br (P.el la d')) k') from fk _] at s2
    rw [ej, ek, (h.2.2.2.2.2.2 c j c0 c1 j0 j2).1.2.1, show Q.rt (P.el (P.br (P.el la d')) k') = P.rt (P.el (P.br (P.el la d')) k') from fk _] at e
    exact sg.2.2 c d' j k' c0 c1 dd.1 dd.2 j0 j2 kk.1 kk.2 s2 e
  · -- how many set a register
    refine Int.le_trans ?_ s.2.2.2.2.2.2.1
    unfold NSK NST
    rw [z]
    have cs : ∀ c : Int, 0 ≤ c → c < P.lz la → c ≠ y → WSB Q la c = WSB P la c := fun c c0 c1 cy => by
      have w := h.1.2 c c0 c1
      have ul := (h.2.1 c c0 c1).2 cy
      unfold WSB
      rw [(h.phi c0 c1).1, w.1, w.2.2.1, ul.1]
      have e : CSR Q (P.el la c) (P.lz (P.br (P.el la c))) = CSR P (P.el la c) (P.lz (P.br (P.el la c))) := sumI_eq (fun k k0 k1 => by
        have k2 : k < P.lz (P.br (P.el la c)) := by omega
        rw [w.2.2.1, ul.2 k k0 k2, show Q.ro (P.el (P.br (P.el la c)) k) = P.ro (P.el (P.br (P.el la c)) k) from h.2.2.2.1 c k c0 c1 k0 k2 _])
      rw [e]
    have ly := l0 y y0 y1
    have lb := l0 b b0 b1
    have wyq : WSB Q la y = WSB P la y + WSB P la b := by
      have w := h.1.2 y y0 y1
      unfold WSB
      rw [(h.phi y0 y1).1, w.1, w.2.2.1, h.2.2.1.1, g.2.2.2]
      have e : CSR Q (P.el la y) (P.lz (P.br (P.el la y)) + P.lz (P.br (P.el la b))) = CSR P (P.el la y) (P.lz (P.br (P.el la y))) + CSR P (P.el la b) (P.lz (P.br (P.el la b))) := by
        unfold CSR
        rw [show (P.lz (P.br (P.el la y)) + P.lz (P.br (P.el la b))).toNat = (P.lz (P.br (P.el la y))).toNat + (P.lz (P.br (P.el la b))).toNat from by omega, sumI_add]
        have e1 : sumI (fun k => if rSets (Q.ro (Q.el (Q.br (P.el la y)) k)) = 0 then 0 else 1) (P.lz (P.br (P.el la y))).toNat = sumI (fun k => if rSets (P.ro (P.el (P.br (P.el la y)) k)) = 0 then 0 else 1) (P.lz (P.br (P.el la y))).toNat := sumI_eq (fun k k0 k1 => by
          have k2 : k < P.lz (P.br (P.el la y)) := by omega
          rw [w.2.2.1, h.2.2.1.2.1 k k0 k2, show Q.ro (P.el (P.br (P.el la y)) k) = P.ro (P.el (P.br (P.el la y)) k) from h.2.2.2.1 y k y0 y1 k0 k2 _])
        have e2 : sumI (fun k => (fun k => if rSets (Q.ro (Q.el (Q.br (P.el la y)) k)) = 0 then (0 : Int) else 1) (((P.lz (P.br (P.el la y))).toNat : Int) + k)) (P.lz (P.br (P.el la b))).toNat = sumI (fun k => if rSets (P.ro (P.el (P.br (P.el la b)) k)) = 0 then 0 else 1) (P.lz (P.br (P.el la b))).toNat := sumI_eq (fun k k0 k1 => by
          have k2 : k < P.lz (P.br (P.el la b)) := by omega
          show (if rSets (Q.ro (Q.el (Q.br (P.el la y)) (((P.lz (P.br (P.el la y))).toNat : Int) + k))) = 0 then (0 : Int) else 1) = _
          rw [show (((P.lz (P.br (P.el la y))).toNat : Nat) : Int) = P.lz (P.br (P.el la y)) from by omega, w.2.2.1, h.2.2.1.2.2 k k0 k2, show Q.ro (P.el (P.br (P.el la b)) k) = P.ro (P.el (P.br (P.el la b)) k) from h.2.2.2.1 b k b0 b1 k0 k2 _])
        rw [e1, e2]
      rw [e]; omega
    have s1 : sumI (fun c => if c = b then 0 else WSB P la c) (P.lz la).toNat = sumI (fun c => WSB P la c) (P.lz la).toNat + (- WSB P la b) := sumI_one (k := b) b0 (by omega) (by show (if b = b then (0 : Int) else WSB P la b) = WSB P la b + -WSB P la b; rw [if_pos rfl]; omega) (fun i _ _ ne => if_neg ne)
    have s2 : sumI (fun c => if st c = 0 then 0 else WSB Q la c) (P.lz la).toNat = sumI (fun c => if c = b then 0 else WSB P la c) (P.lz la).toNat + WSB P la b := sumI_one (k := y) y0 (by omega) (by
      show (if st y = 0 then (0 : Int) else WSB Q la y) = (if y = b then 0 else WSB P la y) + WSB P la b
      rw [if_neg ((T y y0 y1).mpr yb), if_neg yb]; exact wyq) (fun i i0 i1 ne => by
      show (if st i = 0 then (0 : Int) else WSB Q la i) = if i = b then 0 else WSB P la i
      by_cases ib : i = b
      · rw [if_pos ib, if_pos (show st i = 0 from Classical.byContradiction fun q9 => (T i i0 (by omega)).mp q9 ib)]
      · rw [if_neg ib, if_neg ((T i i0 (by omega)).mpr ib)]; exact cs i i0 (by omega) ne)
    rw [s2, s1]; omega
  · rw [z] at p1
    have pb := (T p p0 (by omega)).mp sp
    by_cases py : p = y
    · rw [py] at e; exact en.1 b b0 b1 ((h.edy g).mp e)
    · exact en.1 p p0 p1 ((h.edg p0 p1 pb py).mp e)
  · rw [z] at c1
    have cb := (T c c0 (by omega)).mp sc
    have w := h.1.2 c c0 c1
    rw [w.1] at o ⊢
    rw [w.2.2.2] at o
    obtain ⟨d, ⟨d0, d1, dy⟩, e1, e2, eo, ef, es⟩ := src c c0 c1 cb
    rw [eo] at o
    rw [ef, es]; exact (en.2 d d0 d1).2 o
  · rw [z] at c1
    have cb := (T c c0 (by omega)).mp sc
    obtain ⟨k2, ek⟩ := phn c k c0 c1 k0 k1
    rw [ek] at j1 ⊢
    have ph := h.2.2.2.2.2.2 c k c0 c1 k0 k2
    rw [ph.1.1] at j1
    rw [ph.2.1.1]
    have i1 : i < P.pn (P.el (P.bp (P.el la c)) k) := by omega
    have q := ph.2.2 i i0 i1
    have q' := ph.2.2 j (by omega) j1
    have dd := opd c k i j c0 c1 k0 k2 i0 ij j1
    have ny : ∀ t : Int, 0 ≤ t → t < P.pn (P.el (P.bp (P.el la c)) k) → P.ia (P.pp (P.el (P.bp (P.el la c)) k)) t ≠ y := fun t t0 t1 e => cb (g.yto (by rw [← e]; exact ope c k t c0 c1 k0 k2 t0 t1))
    by_cases pb : P.ia (P.pp (P.el (P.bp (P.el la c)) k)) i = b
    · rw [q.2.2 pb, q'.2.1 (fun e => dd (by rw [pb, e]))]
      exact fun e => ny j (by omega) j1 e.symm
    · rw [q.2.1 pb]
      by_cases pb' : P.ia (P.pp (P.el (P.bp (P.el la c)) k)) j = b
      · rw [q'.2.2 pb']; exact ny i i0 i1
      · rw [q'.2.1 pb']; exact dd
  · rw [z] at c1
    obtain ⟨k2, ek⟩ := phn c k c0 c1 k0 k1
    rw [ek, (h.2.2.2.2.2.2 c k c0 c1 k0 k2).1.2.2]; exact (g0 c c0 c1).1 k k0 k2
  · rw [z] at c1
    obtain ⟨d, i, dd, ii, ei, ui⟩ := h.row g c0 c1 k0 k1
    rw [ei]
    exact (show Q.rg (P.el (P.br (P.el la d)) i) = P.rg (P.el (P.br (P.el la d)) i) from h.2.2.2.1 d i dd.1 dd.2 ii.1 ii.2 _).trans ((g0 d dd.1 dd.2).2 i ii.1 ii.2)
  · rw [z] at c1
    have cb := (T c c0 (by omega)).mp sc
    obtain ⟨k2, ek⟩ := phn c k c0 c1 k0 k1
    rw [ek] at i1 sp ⊢
    have ph := h.2.2.2.2.2.2 c k c0 c1 k0 k2
    rw [ph.1.1] at i1
    rw [ph.2.1.1]
    have q := ph.2.2 i i0 i1
    have pr := al.prd c0 c1 k0 k2 i0 i1
    have e := ope c k i c0 c1 k0 k2 i0 i1
    by_cases pb : P.ia (P.pp (P.el (P.bp (P.el la c)) k)) i = b
    · rw [q.2.2 pb, h.edy g]
      rw [pb] at e; exact e
    · rw [q.2.1 pb]
      have py : P.ia (P.pp (P.el (P.bp (P.el la c)) k)) i ≠ y := fun t => cb (g.yto (by rw [← t]; exact e))
      exact (h.edg pr.1 pr.2 pb py).mpr e
end JMS9
