/-! joins: an IF whose goals are one is a JUMP -/
section JMP9
variable {L : List Nat} {P Q : PO} {cO cI cZ : ClassId} {ed la x e : Nat} {A : Int → Int → Prop} {b c d i j k p r v y : Int}
/-- the end of block b is a JUMP now, all else is as it was -/
def JJM (P Q : PO) (la : Nat) (b : Int) : Prop := RW1 (P.be (P.el la b)) P Q ∧ (P.ro (P.be (P.el la b)) = 31 ∧ Q.ro (P.be (P.el la b)) = 30) ∧ P.bf (P.el la b) = P.bs (P.el la b)
theorem JJM.n (h : JJM P Q la b) (k : P.kd x ≠ 17) (al : ALP L P cO cI cZ ed la) (b0 : 0 ≤ b) (b1 : b < P.lz la) (f : Nat) : Q.1 f x = P.1 f x := h.1.2 x (fun q => k (by rw [q]; exact (al.kend b0 b1).2.1)) f
theorem JJM.row (h : JJM P Q la b) (al : ALP L P cO cI cZ ed la) (b0 : 0 ≤ b) (b1 : b < P.lz la) (c0 : 0 ≤ c) (c1 : c < P.lz la) (k0 : 0 ≤ k) (k1 : k < P.lz (P.br (P.el la c))) (f : Nat) : Q.1 f (P.el (P.br (P.el la c)) k) = P.1 f (P.el (P.br (P.el la c)) k) := h.1.2 _ (fun q => by
  have oc := al.2.1.2.2.1 _ (al.inb ⟨c, c0, c1, rfl⟩).1.1 (al.inb ⟨c, c0, c1, rfl⟩).1.2
  exact (al.2.2.2.1 _ oc.1.2.2.1 oc.1.2.2.2).2.2 oc.1.1 k k0 k1 (by rw [q]; exact (al.kend b0 b1).2.2)) f
theorem JJM.el (h : JJM P Q la b) (x : Nat) (k : Int) : Q.el x k = P.el x k := by unfold PO.el PO.oa PO.le; rw [h.1.1]
theorem JJM.bp (h : JJM P Q la b) (x : Nat) : Q.bp x = P.bp x := by unfold PO.bp; rw [h.1.1]
theorem JJM.br (h : JJM P Q la b) (x : Nat) : Q.br x = P.br x := by unfold PO.br; rw [h.1.1]
theorem JJM.be (h : JJM P Q la b) (x : Nat) : Q.be x = P.be x := by unfold PO.be; rw [h.1.1]
theorem JJM.lz (h : JJM P Q la b) (al : ALP L P cO cI cZ ed la) (b0 : 0 ≤ b) (b1 : b < P.lz la) (k : P.kd x = 30) : Q.lz x = P.lz x := h.n (by rw [k]; decide) al b0 b1 0
theorem JJM.end9 (h : JJM P Q la b) (nd : NDR P la) (b0 : 0 ≤ b) (b1 : b < P.lz la) (c0 : 0 ≤ c) (c1 : c < P.lz la) (cb : c ≠ b) (f : Nat) : Q.1 f (P.be (P.el la c)) = P.1 f (P.be (P.el la c)) := h.1.2 _ (fun q => cb (nd.2.2 c b c0 c1 b0 b1 q)) f
theorem JJM.edg (h : JJM P Q la b) (al : ALP L P cO cI cZ ed la) (nd : NDR P la) (b0 : 0 ≤ b) (b1 : b < P.lz la) (p0 : 0 ≤ p) (p1 : p < P.lz la) : EDG Q la p c ↔ EDG P la p c := by
  have kb := (al.inb ⟨p, p0, p1, rfl⟩).1.2
  have f1 : Q.bf (P.el la p) = P.bf (P.el la p) := h.n (by rw [kb]; decide) al b0 b1 0
  have f2 : Q.bs (P.el la p) = P.bs (P.el la p) := h.n (by rw [kb]; decide) al b0 b1 1
  by_cases pb : p = b
  · subst pb
    constructor
    · intro e
      have w := e.way
      rw [h.el, h.be, h.2.1.2, f1, f2] at w
      rcases w.2 with t | t
      · exact EDG.yaw (by rw [h.2.1.1]; decide) (Or.inl t)
      · exact absurd rfl t.1
    · intro e
      have w := e.way
      refine EDG.yaw ?_ (Or.inl ?_)
      · rw [h.el, h.be, h.2.1.2]; decide
      · rw [h.el, f1]
        rcases w.2 with t | t
        · exact t
        · rw [h.2.2]; exact t.2
  · have o : Q.ro (P.be (P.el la p)) = P.ro (P.be (P.el la p)) := h.end9 nd b0 b1 p0 p1 pb _
    unfold EDG
    rw [h.el, h.be, o, f1, f2]
theorem SSP.jjm (s : SSP P la) (h : JJM P Q la b) (al : ALP L P cO cI cZ ed la) (b0 : 0 ≤ b) (b1 : b < P.lz la) : SSP Q la := by
  obtain ⟨h0, cm, nd, ar, ⟨A, aw, au⟩, sg, ns, en, ope, opd⟩ := s
  have z : Q.lz la = P.lz la := h.lz al b0 b1 al.lok.2.1
  have lp : ∀ c : Int, 0 ≤ c → c < P.lz la → Q.lz (P.bp (P.el la c)) = P.lz (P.bp (P.el la c)) ∧ Q.lz (P.br (P.el la c)) = P.lz (P.br (P.el la c)) := fun c c0 c1 => by
    have ib := al.inb ⟨c, c0, c1, rfl⟩
    exact ⟨h.lz al b0 b1 ib.2.2.1.2.1, h.lz al b0 b1 ib.2.1.2.1⟩
  have ia : ∀ a : Nat, Q.ia a = P.ia a := fun a => by show Q.2.2.2.1 a = P.2.2.2.1 a; rw [h.1.1]
  have pp : ∀ a : Nat, Q.pp a = P.pp a := fun a => by unfold PO.pp; rw [h.1.1]
  have pu : ∀ a : Nat, Q.pu a = P.pu a := fun a => by unfold PO.pu; rw [h.1.1]
  have pr : ∀ a : Nat, Q.pr a = P.pr a := fun a => by unfold PO.pr; rw [h.1.1]
  have ph : ∀ c k : Int, 0 ≤ c → c < P.lz la → 0 ≤ k → k < P.lz (P.bp (P.el la c)) → ∀ f : Nat, Q.1 f (P.el (P.bp (P.el la c)) k) = P.1 f (P.el (P.bp (P.el la c)) k) := fun c k c0 c1 k0 k1 f => h.n (by rw [(al.kphi c0 c1 k0 k1).2]; decide) al b0 b1 f
  have ro := fun (c k : Int) (c0 : 0 ≤ c) (c1 : c < P.lz la) (k0 : 0 ≤ k) (k1 : k < P.lz (P.br (P.el la c))) => h.row al b0 b1 c0 c1 k0 k1
  have ed := fun (p c : Int) (p0 : 0 ≤ p) (p1 : p < P.lz la) => h.edg (c := c) al nd b0 b1 p0 p1
  have sph : ∀ c r : Int, 0 ≤ c → c < P.lz la → SPH P la c r → SPH Q la c r := fun c r c0 c1 ⟨k, k0, k1, e⟩ => ⟨k, k0, by rw [h.el, h.bp, (lp c c0 c1).1]; exact k1, by rw [h.el, h.bp, h.el]; exact (show Q.pt _ = P.pt _ from ph c k c0 c1 k0 k1 0).trans e⟩
  have srw : ∀ c j r : Int, 0 ≤ c → c < P.lz la → SRW P la c j r → SRW Q la c j r := fun c j r c0 c1 ⟨k, k0, kj, k1, t, e⟩ => ⟨k, k0, kj, by rw [h.el, h.br, (lp c c0 c1).2]; exact k1, by rw [h.el, h.br, h.el, show Q.ro (P.el (P.br (P.el la c)) k) = P.ro (P.el (P.br (P.el la c)) k) from ro c k c0 c1 k0 k1 _]; exact t, by rw [h.el, h.br, h.el]; exact (show Q.rt (P.el (P.br (P.el la c)) k) = P.rt (P.el (P.br (P.el la c)) k) from ro c k c0 c1 k0 k1 _).trans e⟩
  have sib : ∀ c r : Int, 0 ≤ c → c < P.lz la → SIB P la c r → SIB Q la c r := fun c r c0 c1 q => q.imp (sph c r c0 c1) (fun t => SRW.all (srw c _ r c0 c1 t))
  have avt : ∀ c j r : Int, 0 ≤ c → c < P.lz la → AVT P la A c j r → AVT Q la A c j r := fun c j r c0 c1 q => q.imp id (fun t => t.imp (sph c r c0 c1) (srw c j r c0 c1))
  refine ⟨by rw [z]; exact h0, ⟨by rw [h.el, h.bp, (lp 0 (Int.le_refl 0) h0).1]; exact cm.1, fun c c0 c1 => ?_, fun p c p0 p1 c0 c1 n t i i0 i1 => ?_⟩, ⟨fun c d j k c0 c1 d0 d1 j0 j1 k0 k1 e => ?_, fun c d j k c0 c1 d0 d1 j0 j1 k0 k1 e => ?_, fun c d c0 c1 d0 d1 e => ?_⟩, fun c c0 c1 => ?_, ⟨A, ⟨aw.1, fun r p c p0 p1 e q => ?_⟩, fun c c0 c1 => ⟨fun k k0 k1 i i0 i1 => ?_, fun k k0 k1 => ?_, ?_⟩⟩, ⟨fun c d j k c0 c1 d0 d1 j0 j1 k0 k1 e => ?_, fun c d j k c0 c1 d0 d1 j0 j1 k0 k1 s1 s2 e => ?_, fun c d j k c0 c1 d0 d1 j0 j1 k0 k1 s2 e => ?_⟩, ?_, ⟨fun p p0 p1 e => ?_, fun c c0 c1 => ?_⟩, fun c k i c0 c1 k0 k1 i0 i1 => ?_, fun c k i j c0 c1 k0 k1 i0 ij j1 => ?_⟩
  · rw [z] at c1
    rw [h.el, h.bp, (lp c c0 c1).1, h.be]
    refine ⟨(cm.2.1 c c0 c1).1, ?_⟩
    by_cases cb : c = b
    · rw [cb, h.2.1.2]; exact ⟨by decide, by decide⟩
    · rw [show Q.ro (P.be (P.el la c)) = P.ro (P.be (P.el la c)) from h.end9 nd b0 b1 c0 c1 cb _]; exact (cm.2.1 c c0 c1).2
  · rw [z] at p1 c1
    have w := ((ed p c p0 p1).mp (EDG.yaw n t)).way
    rw [h.el, h.bp, (lp c c0 c1).1] at i1
    obtain ⟨q, q0, q1, qe⟩ := cm.2.2 p c p0 p1 c0 c1 w.1 w.2 i i0 i1
    rw [h.el, h.bp, h.el]
    exact ⟨q, q0, by rw [show Q.pn (P.el (P.bp (P.el la c)) i) = P.pn (P.el (P.bp (P.el la c)) i) from ph c i c0 c1 i0 i1 1]; exact q1, by rw [pp, ia]; exact qe⟩
  · rw [z] at c1 d1
    rw [h.el, h.br, (lp c c0 c1).2] at j1
    rw [h.el, h.br, (lp d d0 d1).2] at k1
    simp only [h.el, h.br] at e
    exact nd.1 c d j k c0 c1 d0 d1 j0 j1 k0 k1 e
  · rw [z] at c1 d1
    rw [h.el, h.bp, (lp c c0 c1).1] at j1
    rw [h.el, h.bp, (lp d d0 d1).1] at k1
    simp only [h.el, h.bp] at e
    exact nd.2.1 c d j k c0 c1 d0 d1 j0 j1 k0 k1 e
  · rw [z] at c1 d1
    simp only [h.el, h.be] at e
    exact nd.2.2 c d c0 c1 d0 d1 e
  · rw [z] at c1
    intro S z0 f
    exact (ar c c0 c1 (fun d => (0 ≤ d ∧ d < P.lz la) ∧ S d) (fun q => ⟨⟨Int.le_refl 0, h0⟩, z0 q⟩) (fun p d t e n => ⟨EDG.rng al t.1.1 t.1.2 e, f p d t.2 ((ed p d t.1.1 t.1.2).mpr e) n⟩)).2
  · rw [z] at p1
    exact (aw.2 r p c p0 p1 ((ed p c p0 p1).mp e) q).imp id (sib p r p0 p1)
  · rw [z] at c1
    rw [h.el, h.bp, (lp c c0 c1).1] at k1
    rw [h.el, h.bp, h.el] at i1 ⊢
    rw [show Q.pn (P.el (P.bp (P.el la c)) k) = P.pn (P.el (P.bp (P.el la c)) k) from ph c k c0 c1 k0 k1 1] at i1
    rw [pp, pu, pr, ia, ia, ia]
    have rg := al.prd c0 c1 k0 k1 i0 i1
    exact ((au c c0 c1).1 k k0 k1 i i0 i1).imp id (fun q => q.imp id (sib _ _ rg.1 rg.2))
  · rw [z] at c1
    rw [h.el, h.br, (lp c c0 c1).2] at k1
    rw [h.el, h.br, h.el]
    have u := (au c c0 c1).2.1 k k0 k1
    have f := ro c k c0 c1 k0 k1
    unfold URA
    rw [show Q.ro (P.el (P.br (P.el la c)) k) = P.ro (P.el (P.br (P.el la c)) k) from f _, show Q.rA (P.el (P.br (P.el la c)) k) = P.rA (P.el (P.br (P.el la c)) k) from f _, show Q.rB (P.el (P.br (P.el la c)) k) = P.rB (P.el (P.br (P.el la c)) k) from f _, show Q.ra (P.el (P.br (P.el la c)) k) = P.ra (P.el (P.br (P.el la c)) k) from f _, show Q.rb (P.el (P.br (P.el la c)) k) = P.rb (P.el (P.br (P.el la c)) k) from f _]
    exact ⟨u.1.imp id (avt c _ _ c0 c1), u.2.imp id (avt c _ _ c0 c1)⟩
  · rw [z] at c1
    rw [h.el, h.br, (lp c c0 c1).2, h.be]
    by_cases cb : c = b
    · subst cb
      have s1 := rUsA_spec (Q.ro (P.be (P.el la c))) (Q.rA (P.be (P.el la c)))
      have s2 := rUsB_spec (Q.ro (P.be (P.el la c))) (Q.rB (P.be (P.el la c)))
      have o := h.2.1.2
      exact ⟨Or.inl (by omega), Or.inl (by omega)⟩
    · have u := (au c c0 c1).2.2
      have f := h.end9 nd b0 b1 c0 c1 cb
      unfold URA
      rw [show Q.ro (P.be (P.el la c)) = P.ro (P.be (P.el la c)) from f _, show Q.rA (P.be (P.el la c)) = P.rA (P.be (P.el la c)) from f _, show Q.rB (P.be (P.el la c)) = P.rB (P.be (P.el la c)) from f _, show Q.ra (P.be (P.el la c)) = P.ra (P.be (P.el la c)) from f _, show Q.rb (P.be (P.el la c)) = P.rb (P.be (P.el la c)) from f _]
      exact ⟨u.1.imp id (avt c _ _ c0 c1), u.2.imp id (avt c _ _ c0 c1)⟩
  · rw [z] at c1 d1
    rw [h.el, h.bp, (lp c c0 c1).1] at j1
    rw [h.el, h.bp, (lp d d0 d1).1] at k1
    simp only [h.el, h.bp] at e
    rw [show Q.pt (P.el (P.bp (P.el la c)) j) = P.pt (P.el (P.bp (P.el la c)) j) from ph c j c0 c1 j0 j1 0, show Q.pt (P.el (P.bp (P.el la d)) k) = P.pt (P.el (P.bp (P.el la d)) k) from ph d k d0 d1 k0 k1 0] at e
    exact sg.1 c d j k c0 c1 d0 d1 j0 j1 k0 k1 e
  · rw [z] at c1 d1
    rw [h.el, h.br, (lp c c0 c1).2] at j1
    rw [h.el, h.br, (lp d d0 d1).2] at k1
    simp only [h.el, h.br] at e s1 s2
    rw [show Q.ro (P.el (P.br (P.el la c)) j) = P.ro (P.el (P.br (P.el la c)) j) from ro c j c0 c1 j0 j1 _] at s1
    rw [show Q.ro (P.el (P.br (P.el la d)) k) = P.ro (P.el (P.br (P.el la d)) k) from ro d k d0 d1 k0 k1 _] at s2
    rw [show Q.rt (P.el (P.br (P.el la c)) j) = P.rt (P.el (P.br (P.el la c)) j) from ro c j c0 c1 j0 j1 _, show Q.rt (P.el (P.br (P.el la d)) k) = P.rt (P.el (P.br (P.el la d)) k) from ro d k d0 d1 k0 k1 _] at e
    exact sg.2.1 c d j k c0 c1 d0 d1 j0 j1 k0 k1 s1 s2 e
  · rw [z] at c1 d1
    rw [h.el, h.bp, (lp c c0 c1).1] at j1
    rw [h.el, h.br, (lp d d0 d1).2] at k1
    simp only [h.el, h.br, h.bp] at e s2
    rw [show Q.ro (P.el (P.br (P.el la d)) k) = P.ro (P.el (P.br (P.el la d)) k) from ro d k d0 d1 k0 k1 _] at s2
    rw [show Q.pt (P.el (P.bp (P.el la c)) j) = P.pt (P.el (P.bp (P.el la c)) j) from ph c j c0 c1 j0 j1 0, show Q.rt (P.el (P.br (P.el la d)) k) = P.rt (P.el (P.br (P.el la d)) k) from ro d k d0 d1 k0 k1 _] at e
    exact sg.2.2 c d j k c0 c1 d0 d1 j0 j1 k0 k1 s2 e
  · have e : NST Q la = NST P la := by
      unfold NST
      rw [z]
      refine sumI_eq (fun c c0 c1 => ?_)
      have c2 : c < P.lz la := by omega
      unfold WSB
      rw [h.el, h.bp, h.br, (lp c c0 c2).1, (lp c c0 c2).2]
      have e : CSR Q (P.el la c) (P.lz (P.br (P.el la c))) = CSR P (P.el la c) (P.lz (P.br (P.el la c))) := sumI_eq (fun k k0 k1 => by
        have k2 : k < P.lz (P.br (P.el la c)) := by omega
        rw [h.br, h.el, show Q.ro (P.el (P.br (P.el la c)) k) = P.ro (P.el (P.br (P.el la c)) k) from ro c k c0 c2 k0 k2 _])
      rw [e]
    rw [e]; exact ns
  · rw [z] at p1
    exact en.1 p p0 p1 ((ed p 0 p0 p1).mp e)
  · rw [z] at c1
    have kb := (al.inb ⟨c, c0, c1, rfl⟩).1.2
    have f1 : Q.bf (P.el la c) = P.bf (P.el la c) := h.n (by rw [kb]; decide) al b0 b1 0
    have f2 : Q.bs (P.el la c) = P.bs (P.el la c) := h.n (by rw [kb]; decide) al b0 b1 1
    rw [h.el, h.be, f1, f2]
    by_cases cb : c = b
    · subst cb
      rw [h.2.1.2]
      exact ⟨fun q => by omega, fun _ => h.2.2.symm⟩
    · rw [show Q.ro (P.be (P.el la c)) = P.ro (P.be (P.el la c)) from h.end9 nd b0 b1 c0 c1 cb _]; exact en.2 c c0 c1
  · rw [z] at c1
    rw [h.el, h.bp, (lp c c0 c1).1] at k1
    rw [h.el, h.bp, h.el] at i1 ⊢
    rw [show Q.pn (P.el (P.bp (P.el la c)) k) = P.pn (P.el (P.bp (P.el la c)) k) from ph c k c0 c1 k0 k1 1] at i1
    rw [pp, ia]
    have rg := al.prd c0 c1 k0 k1 i0 i1
    exact (ed _ c rg.1 rg.2).mpr (ope c k i c0 c1 k0 k1 i0 i1)
  · rw [z] at c1
    rw [h.el, h.bp, (lp c c0 c1).1] at k1
    rw [h.el, h.bp, h.el] at j1 ⊢
    rw [show Q.pn (P.el (P.bp (P.el la c)) k) = P.pn (P.el (P.bp (P.el la c)) k) from ph c k c0 c1 k0 k1 1] at j1
    rw [pp, ia]
    exact opd c k i j c0 c1 k0 k1 i0 ij j1
theorem GN0.jjm (g : GN0 P la) (h : JJM P Q la b) (al : ALP L P cO cI cZ ed la) (b0 : 0 ≤ b) (b1 : b < P.lz la) : GN0 Q la := fun c c0 c1 => by
  rw [h.lz al b0 b1 al.lok.2.1] at c1
  have ib := al.inb ⟨c, c0, c1, rfl⟩
  refine ⟨fun k k0 k1 => ?_, fun k k0 k1 => ?_⟩
  · rw [h.el, h.bp, h.lz al b0 b1 ib.2.2.1.2.1] at k1
    rw [h.el, h.bp, h.el]
    exact (show Q.pg _ = P.pg _ from h.n (by rw [(al.kphi c0 c1 k0 k1).2]; decide) al b0 b1 2).trans ((g c c0 c1).1 k k0 k1)
  · rw [h.el, h.br, h.lz al b0 b1 ib.2.1.2.1] at k1
    rw [h.el, h.br, h.el]
    exact (show Q.rg (P.el (P.br (P.el la c)) k) = P.rg (P.el (P.br (P.el la c)) k) from h.row al b0 b1 c0 c1 k0 k1 _).trans ((g c c0 c1).2 k k0 k1)
end JMP9
