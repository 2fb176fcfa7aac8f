/-! a call that has a part of the pool alone: the rest stays as it is -/
section SPL9
variable {D : va_G} {cl : List vw_C} {A0 : Nat → Prop} {X cx wr rx pl pl1 T W0 : va_W} {H H1 : Heap} {L L0 Lr L' : List Nat} {P P' : PO} {cO cI cZ : ClassId} {ed la : Nat} {E : List Nat}
theorem pl_left (h : va_P D cl (X ++ T) H) : va_P D cl X H := pl_P.mpr fun q hq => pl_P.mp h q (List.mem_append_left _ hq)
theorem pl_leftD (h : va_D A0 (X ++ T)) : va_D A0 X := by
  have d := pl_D.mp h
  rw [List.map_append] at d
  exact pl_D.mpr ⟨(List.nodup_append.mp d.1).1, fun q hq => d.2 q (List.mem_append_left _ hq)⟩
theorem pl_split {f : Nat → va_E} (h : L.Perm (L0 ++ Lr)) : (X ++ va_pl L f).Perm ((X ++ va_pl L0 f) ++ va_pl Lr f) := by
  rw [List.append_assoc]
  refine List.Perm.append_left X ?_
  have q := h.map (fun a => (a, f a))
  rw [List.map_append] at q
  exact q
theorem va_joinPT (hP : va_P D cl ((X ++ pl) ++ T) H) (hD : va_D A0 ((X ++ pl) ++ T)) (isC isR : List Nat) (hC : isC.map (fun i => X[i]?) = cx.map some) (hR : isR.map (fun i => X[i]?) = wr.map some) (hn : va_nd isR = true) (hdis : ∀ i ∈ isR, i ∉ isC)
    (hk : ∀ q : Nat, q < H.size → ¬ va_A (cx ++ pl) H.size q → H1[q]? = H[q]?) (hF : ∀ q, va_A (cx ++ pl) H.size q → A0 q) (hP1 : va_P D cl (rx ++ pl1) H1) (hD1 : va_D (va_A (cx ++ pl) H.size) (rx ++ pl1)) : va_P D cl (((wr ++ rx) ++ pl1) ++ T) H1 ∧ va_D A0 (((wr ++ rx) ++ pl1) ++ T) := by
  obtain ⟨j1, j2⟩ := va_joinP (pl_left hP) (pl_leftD hD) isC isR hC hR hn hdis hk hF hP1 hD1
  have d := pl_D.mp hD
  rw [List.map_append] at d
  have dd := List.nodup_append.mp d.1
  have ap : ∀ q ∈ T, q.1 < H.size ∧ ¬ va_A (cx ++ pl) H.size q.1 := fun q hq => by
    have lt := (pl_P.mp hP q (List.mem_append_right _ hq)).lt
    refine ⟨lt, fun h => ?_⟩
    rcases h with ⟨k, e, h⟩ | h
    · have h2 := va_part isC hC k _ h
      exact dd.2.2 q.1 (List.mem_map.mpr ⟨(q.1, e), List.mem_of_getElem? h2, rfl⟩) q.1 (List.mem_map.mpr ⟨q, hq, rfl⟩) rfl
    · exact absurd lt (by omega)
  have tP : va_P D cl T H := pl_P.mpr fun q hq => pl_P.mp hP q (List.mem_append_right _ hq)
  have tP1 : va_P D cl T H1 := tP.kept (fun k x hx => hk x.1 (ap x (List.mem_of_getElem? hx)).1 (ap x (List.mem_of_getElem? hx)).2)
  refine ⟨pl_P.mpr fun q hq => ?_, pl_D.mpr ⟨?_, fun q hq => ?_⟩⟩
  · rcases List.mem_append.mp hq with w | w
    · exact pl_P.mp j1 q w
    · exact pl_P.mp tP1 q w
  · rw [List.map_append]
    refine List.nodup_append.mpr ⟨(pl_D.mp j2).1, dd.2.1, fun y hy z hz e => ?_⟩
    obtain ⟨q1, m1, e1⟩ := List.mem_map.mp hy
    obtain ⟨q2, m2, e2⟩ := List.mem_map.mp hz
    have e3 : q1.1 = q2.1 := e1.trans (e.trans e2.symm)
    rw [List.append_assoc] at m1
    rcases List.mem_append.mp m1 with w | w
    · have w2 : some q1 ∈ isR.map (fun i => X[i]?) := by rw [hR]; exact List.mem_map.mpr ⟨q1, w, rfl⟩
      obtain ⟨i, _, w3⟩ := List.mem_map.mp w2
      have w4 : q1 ∈ X := List.mem_of_getElem? w3
      exact dd.2.2 q1.1 (List.mem_map.mpr ⟨q1, List.mem_append_left _ w4, rfl⟩) q2.1 (List.mem_map.mpr ⟨q2, m2, rfl⟩) e3
    · have w2 := (pl_D.mp hD1).2 q1 w
      rw [e3] at w2
      exact (ap q2 m2).2 w2
  · rcases List.mem_append.mp hq with w | w
    · exact (pl_D.mp j2).2 q w
    · exact d.2 q (List.mem_append_right _ w)
/-- two pools as one: Lr as in P, all else as in P' -/
def PO.mix (P' : PO) (Lr : List Nat) (P : PO) : PO := (fun f z => if z ∈ Lr then P.1 f z else P'.1 f z, fun f z => if z ∈ Lr then P.2.1 f z else P'.2.1 f z, fun z => if z ∈ Lr then P.2.2.1 z else P'.2.2.1 z, fun z => if z ∈ Lr then P.2.2.2.1 z else P'.2.2.2.1 z, fun z => if z ∈ Lr then P.2.2.2.2 z else P'.2.2.2.2 z)
theorem mix_in {z : Nat} (m : z ∈ Lr) : SM9 z P (P'.mix Lr P) := ⟨fun _ => if_pos m, fun _ => if_pos m, if_pos m, if_pos m, if_pos m⟩
theorem mix_out {z : Nat} (m : z ∉ Lr) : SM9 z P' (P'.mix Lr P) := ⟨fun _ => if_neg m, fun _ => if_neg m, if_neg m, if_neg m, if_neg m⟩
theorem SM9.sameE {y : Nat} (h : SM9 y P P') : pE P' y = pE P y := by
  obtain ⟨a, b, c, d, e⟩ := h
  have h_kd : P'.kd y = P.kd y := b 0
  have h_ro : P'.ro y = P.ro y := a 0
  have h_rt : P'.rt y = P.rt y := a 1
  have h_ra : P'.ra y = P.ra y := a 2
  have h_rb : P'.rb y = P.rb y := a 3
  have h_rA : P'.rA y = P.rA y := a 4
  have h_rB : P'.rB y = P.rB y := a 5
  have h_rg : P'.rg y = P.rg y := a 6
  have h_pt : P'.pt y = P.pt y := a 0
  have h_pn : P'.pn y = P.pn y := a 1
  have h_pp : P'.pp y = P.pp y := b 1
  have h_pu : P'.pu y = P.pu y := b 2
  have h_pr : P'.pr y = P.pr y := b 3
  have h_pg : P'.pg y = P.pg y := a 2
  have h_bp : P'.bp y = P.bp y := b 1
  have h_br : P'.br y = P.br y := b 2
  have h_be : P'.be y = P.be y := b 3
  have h_bf : P'.bf y = P.bf y := a 0
  have h_bs : P'.bs y = P.bs y := a 1
  have h_lm : P'.lm y = P.lm y := a 1
  have h_le : P'.le y = P.le y := b 1
  have h_lz : P'.lz y = P.lz y := a 0
  have h_an : P'.an y = P.an y := b 1
  unfold pE pK
  rw [h_kd, h_ro, h_rt, h_ra, h_rb, h_rA, h_rB, h_rg, h_pt, h_pn, h_pp, h_pu, h_pr, h_pg, h_bp, h_br, h_be, h_bf, h_bs, h_lm, h_le, h_lz, h_an, c, d, e]
theorem pl_dj {f g : Nat → va_E} (h : va_D A0 ((W0 ++ va_pl L' f) ++ va_pl Lr g)) : ∀ z : Nat, z ∈ L' → z ∉ Lr := fun z m n => by
  have d := (pl_D.mp h).1
  rw [List.map_append] at d
  exact (List.nodup_append.mp d).2.2 z (List.mem_map.mpr ⟨(z, f z), List.mem_append_right _ (List.mem_map.mpr ⟨z, m, rfl⟩), rfl⟩) z (List.mem_map.mpr ⟨(z, g z), List.mem_map.mpr ⟨z, n, rfl⟩, rfl⟩) rfl
theorem pl_merge (dj : ∀ z : Nat, z ∈ L' → z ∉ Lr) : (W0 ++ va_pl L' (pE P')) ++ va_pl Lr (pE P) = W0 ++ va_pl (L' ++ Lr) (pE (P'.mix Lr P)) := by
  rw [List.append_assoc]
  congr 1
  unfold va_pl
  rw [List.map_append]
  congr 1
  · exact List.map_congr_left fun a ha => by rw [(mix_out (P := P) (dj a ha)).sameE]
  · exact List.map_congr_left fun a ha => by rw [(mix_in (P' := P') ha).sameE]
theorem ext_mix (dj : ∀ z : Nat, z ∈ L' → z ∉ Lr) : EXT9 L' P' (L' ++ Lr) (P'.mix Lr P) := fun z m => ⟨List.mem_append_left _ m, mix_out (dj z m)⟩
theorem ALP.mix (a : ALP L' P' cO cI cZ ed la) (hr : ∀ z : Nat, z ∈ Lr → 43 ≤ P.kd z) (dj : ∀ z : Nat, z ∈ L' → z ∉ Lr) : ALP (L' ++ Lr) (P'.mix Lr P) cO cI cZ ed la := a.ext (ext_mix dj) (fun z m n => by
  have w : z ∈ Lr := (List.mem_append.mp m).elim (fun q => absurd q n) id
  have e : (P'.mix Lr P).kd z = P.kd z := (mix_in (P' := P') w).2.1 0
  have k := hr z w
  exact ⟨fun q => by omega, fun q => by omega, fun q => by omega, fun q => by omega⟩)
theorem KEP.mix (k : KEP E L0 P L' P' la) (a : ALP L' P' cO cI cZ ed la) (p : L.Perm (L0 ++ Lr)) (hr : ∀ z : Nat, z ∈ Lr → 43 ≤ P.kd z) (dj : ∀ z : Nat, z ∈ L' → z ∉ Lr) : KEP E L P (L' ++ Lr) (P'.mix Lr P) la := by
  have k2 : KEP E L0 P (L' ++ Lr) (P'.mix Lr P) la := k.trans ((ext_mix dj).kep a)
  refine ⟨fun y m q => ?_, fun y m q => ?_, k2.2.2⟩
  · rcases List.mem_append.mp (p.mem_iff.mp m) with w | w
    · exact k2.1 y w q
    · have s := mix_in (P := P) (P' := P') w
      exact ⟨List.mem_append_right _ w, s.2.1 0, s.2.1 8, fun q2 => absurd (hr y w) (by omega), fun _ => s.sma⟩
  · rcases List.mem_append.mp (p.mem_iff.mp m) with w | w
    · exact k2.2.1 y w q
    · exact absurd (hr y w) (by omega)
theorem TBK.mix {k : Nat} {c : ClassId} {f : Nat → Option Nat} {n len lo hi : Int} (h : TBK L P k c f n len lo hi) (hk : 43 ≤ k) (p : L.Perm (L0 ++ Lr)) (h0 : ∀ z : Nat, z ∈ L0 → P.kd z < 43) : TBK (L' ++ Lr) (P'.mix Lr P) k c f n len lo hi := fun j j0 j1 => by
  obtain ⟨y, e, ⟨a1, a2, a3⟩, a4, a5⟩ := h j j0 j1
  have w : y ∈ Lr := (List.mem_append.mp (p.mem_iff.mp a1)).elim (fun q => absurd (h0 y q) (by omega)) id
  obtain ⟨_, s2, _, s4, s5⟩ := mix_in (P := P) (P' := P') w
  have an : (P'.mix Lr P).an y = P.an y := s2 1
  exact ⟨y, e, ⟨List.mem_append_right _ w, (s2 0).trans a2, s5.trans a3⟩, by rw [an]; exact a4, fun i => by rw [s4]; exact a5 i⟩
/-- the pool without its tables -/
theorem low_perm (L : List Nat) (P : PO) : L.Perm (L.filter (fun z => decide (P.kd z < 43)) ++ L.filter (fun z => !decide (P.kd z < 43))) := (List.filter_append_perm _ L).symm
theorem low_in {z : Nat} (m : z ∈ L.filter (fun z => decide (P.kd z < 43))) : P.kd z < 43 := by simpa using (List.mem_filter.mp m).2
theorem low_out {z : Nat} (m : z ∈ L.filter (fun z => !decide (P.kd z < 43))) : 43 ≤ P.kd z := by simpa using (List.mem_filter.mp m).2
end SPL9
section TKP9
variable {L L0 Lr L' L2 : List Nat} {P P' P2 : PO} {k : Nat}
/-- the rows of the tables of kind k are as they were -/
def TKP (k : Nat) (L : List Nat) (P : PO) (L' : List Nat) (P' : PO) : Prop := ∀ z : Nat, z ∈ L → P.kd z = k → z ∈ L' ∧ SM9 z P P'
theorem TKP.refl (k : Nat) (L : List Nat) (P : PO) : TKP k L P L P := fun z m _ => ⟨m, SM9.refl z P⟩
theorem TKP.trans (h : TKP k L P L' P') (j : TKP k L' P' L2 P2) : TKP k L P L2 P2 := fun z m q => by
  obtain ⟨m1, s1⟩ := h z m q
  obtain ⟨m2, s2⟩ := j z m1 ((s1.2.1 0).trans q)
  exact ⟨m2, s1.trans s2⟩
theorem CHX.tkp {j : Nat} (h : CHX j L P L' P') (ne : k ≠ j) : TKP k L P L' P' := fun z m q => by
  obtain ⟨a0, a1, a2, a3, a4, a5⟩ := h.1 z m
  exact ⟨a0, a1, a2, a3, a5 (by rw [q]; exact ne), a4⟩
theorem TKP.mix (hk : 43 ≤ k) (p : L.Perm (L0 ++ Lr)) (h0 : ∀ z : Nat, z ∈ L0 → P.kd z < 43) : TKP k L P (L' ++ Lr) (P'.mix Lr P) := fun z m q => by
  have w : z ∈ Lr := (List.mem_append.mp (p.mem_iff.mp m)).elim (fun r => absurd (h0 z r) (by omega)) id
  exact ⟨List.mem_append_right _ w, mix_in w⟩
theorem TBK.tkp {c : ClassId} {f : Nat → Option Nat} {n len lo hi : Int} (h : TBK L P k c f n len lo hi) (t : TKP k L P L' P') : TBK L' P' k c f n len lo hi := fun j j0 j1 => by
  obtain ⟨y, e, ⟨a1, a2, a3⟩, a4, a5⟩ := h j j0 j1
  obtain ⟨m, s1, s2, s3, s4, s5⟩ := t y a1 a2
  have an : P'.an y = P.an y := s2 1
  exact ⟨y, e, ⟨m, (s2 0).trans a2, s5.trans a3⟩, by rw [an]; exact a4, fun i => by rw [s4]; exact a5 i⟩
end TKP9
theorem TBK.wkl {L : List Nat} {P : PO} {k : Nat} {c : ClassId} {f : Nat → Option Nat} {n len lo hi n2 len2 : Int} (h : TBK L P k c f n len lo hi) (m : n2 ≤ n) (l : len2 ≤ len) : TBK L P k c f n2 len2 lo hi := fun j j0 j1 => by
  obtain ⟨y, e, a, b, d⟩ := h j j0 (by omega)
  exact ⟨y, e, a, ⟨by omega, b.2⟩, d⟩
