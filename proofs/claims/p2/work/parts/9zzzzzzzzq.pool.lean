/-- a heap that has grown: by kc cells with ks slots at most; the old cells have as many slots as before -/
def RM (A B : Heap) (kc ks : Nat) : Prop := A.size ≤ B.size ∧ B.size ≤ A.size + kc ∧ mes A.size B ≤ ks ∧ ∀ (a : Nat) (c : Cell), A[a]? = some c → ∃ c' : Cell, B[a]? = some c' ∧ c'.slots.size = c.slots.size
theorem RM.refl (A : Heap) : RM A A 0 0 := by
  refine ⟨Nat.le_refl _, Nat.le_refl _, ?_, fun a c h => ⟨c, h, rfl⟩⟩
  unfold mes
  rw [List.drop_eq_nil_of_le (by simp)]
  simp
theorem RM.more {A B : Heap} {kc ks kc' ks' : Nat} (h : RM A B kc ks) (a : kc ≤ kc') (b : ks ≤ ks') : RM A B kc' ks' := ⟨h.1, by have := h.2.1; omega, by have := h.2.2.1; omega, h.2.2.2⟩
theorem RM.mesadd {A B C : Heap} (ab : A.size ≤ B.size) (bc : B.size ≤ C.size) (h : ∀ (a : Nat) (c : Cell), B[a]? = some c → ∃ c' : Cell, C[a]? = some c' ∧ c'.slots.size = c.slots.size) : mes A.size C = mes A.size B + mes B.size C := by
  unfold mes
  have e : C.toList.drop A.size = (C.toList.drop A.size).take (B.size - A.size) ++ C.toList.drop B.size := by
    have := (List.take_append_drop (B.size - A.size) (C.toList.drop A.size)).symm
    rw [List.drop_drop, show A.size + (B.size - A.size) = B.size by omega] at this
    exact this
  have f : ((C.toList.drop A.size).take (B.size - A.size)).map (fun x => x.slots.size) = (B.toList.drop A.size).map (fun x => x.slots.size) := by
    apply List.ext_getElem?
    intro i
    rw [List.getElem?_map, List.getElem?_map, List.getElem?_take, List.getElem?_drop, List.getElem?_drop]
    by_cases q : i < B.size - A.size
    · rw [if_pos q]
      have b : B.toList[A.size + i]? = some (B[A.size + i]'(by omega)) := by
        rw [Array.getElem?_toList, Array.getElem?_eq_getElem (by omega)]
      obtain ⟨c', h1, h2⟩ := h (A.size + i) _ (by rw [Array.getElem?_eq_getElem (by omega)])
      rw [b, Array.getElem?_toList, h1]
      simp only [Option.map_some]
      rw [h2]
    · rw [if_neg q]
      have b : B.toList[A.size + i]? = none := by
        rw [List.getElem?_eq_none_iff]; simp; omega
      rw [b]
  rw [e, List.map_append, List.sum_append, f]
theorem RM.trans {A B C : Heap} {k1 s1 k2 s2 : Nat} (h : RM A B k1 s1) (k : RM B C k2 s2) : RM A C (k1 + k2) (s1 + s2) := by
  obtain ⟨a1, a2, a3, a4⟩ := h
  obtain ⟨b1, b2, b3, b4⟩ := k
  refine ⟨by omega, by omega, ?_, fun a c q => ?_⟩
  · rw [RM.mesadd a1 b1 b4]; omega
  · obtain ⟨c', c1, c2⟩ := a4 a c q
    obtain ⟨c'', d1, d2⟩ := b4 a c' c1
    exact ⟨c'', d1, d2.trans c2⟩
section ROOM8
variable {p : Program} {l : Launch} {e : Env} {R : Room} {s : State} {m : MethodId} {args : Array Value} {below : List Frame} {meth : Method} {c : Code} {H : Heap} {locs : List Loc} {cells slots : Nat} {Q : State → Prop} {g : JFrame}
theorem W_knowS (k : RM s.heap H cells slots → W p l e R s m args below meth c H locs cells slots Q g) : W p l e R s m args below meth c H locs cells slots Q g := by
  intro T hT X
  obtain ⟨_, h1, h2, _, h4, h5⟩ := X.same
  have q : RM s.heap T.heap cells slots := ⟨h1, h2, h4, fun a c h => by
    obtain ⟨c', d1, _, d3, _⟩ := h5 a c h
    exact ⟨c', d1, d3⟩⟩
  rw [hT] at q
  exact k q T hT X
theorem W_tightS {kc ks : Nat} (h : RM s.heap H kc ks) (k : W p l e R s m args below meth c H locs kc ks Q g) : W p l e R s m args below meth c H locs cells slots Q g := W_tight h.2.1 h.2.2.1 k
end ROOM8
/-- how long a list's row is -/
def PO.cap (P : PO) (x : Nat) : Int := if P.fl x = 1 then P.an (P.le x) else 0
theorem PO.cap_spec (P : PO) (x : Nat) : (P.fl x = 1 → P.cap x = P.an (P.le x)) ∧ (P.fl x ≠ 1 → P.cap x = 0) := by
  unfold PO.cap
  exact ⟨fun e => if_pos e, fun e => if_neg e⟩
/-- .. of all blocks' lists: f = 2 rows, f = 1 PHIs -/
def PO.cat (P : PO) (f la : Nat) : Int := sumI (fun i => P.cap (P.2.1 f (P.el la i))) (P.lz la).toNat
section CAT9
variable {L : List Nat} {P P' : PO} {cO cI cZ : ClassId} {ed la x : Nat}
theorem KEP.cat {E : List Nat} {L' : List Nat} (ke : KEP E L P L' P' la) (e : P'.2.1 = P.2.1) (f : Nat) : P'.cat f la = P.cat f la := by
  unfold PO.cat
  rw [ke.2.2.1]
  refine sumI_eq (fun i a b => ?_)
  rw [ke.2.2.2 i a (by omega), e]
  unfold PO.cap PO.fl PO.le PO.an
  rw [e]
theorem GL1.cap {y q : Nat} {L' : List Nat} (h : ALP L P cO cI cZ ed la) (w : GL1 x q L P L' P') (mx : x ∈ L) (kx : P.kd x = 30) (fx : P.fl x = 1 ∨ P.le x ∉ L) (m : y ∈ L) (k : P.kd y = 30) (n : y ≠ x) : P'.cap y = P.cap y := by
  have s := w.sm y m n (h.nle mx kx fx m (by omega))
  have fl : P'.fl y = P.fl y := s.2.1 7
  have le : P'.le y = P.le y := s.2.1 1
  unfold PO.cap
  rw [fl, le]
  by_cases f : P.fl y = 1
  · rw [if_pos f, if_pos f]
    obtain ⟨a, b, c, _⟩ := (h.2.1.1 y m k).2 f
    have n3 : P.le y ≠ x := kd_ne b kx (by decide)
    have n4 : P.le y ≠ P.le x := fun e2 => by
      rcases fx with g | g
      · exact n (by rw [← c, e2, ((h.2.1.1 x mx kx).2 g).2.2.1])
      · exact g (by rw [← e2]; exact a)
    have s2 := w.sm _ a n3 n4
    have an : P'.an (P.le y) = P.an (P.le y) := s2.2.1 1
    rw [an]
  · rw [if_neg f, if_neg f]
/-- a number of a list changed by d: its block's, and no other's -/
theorem ALP.sums {E : List Nat} {g g' : Nat → Int} {d : Int} {L' : List Nat} {b l : Nat} (h : ALP L P cO cI cZ ed la) (ke : KEP E L P L' P' la) (i : INB P la b) (f : Nat) (hf : f = 1 ∨ f = 2) (el : P.2.1 f b = l) (z : g' l = g l + d) (o : ∀ y : Nat, y ∈ L → P.kd y = 30 → y ≠ l → g' y = g y) : sumI (fun i => g' (P'.2.1 f (P'.el la i))) (P'.lz la).toNat = sumI (fun i => g (P.2.1 f (P.el la i))) (P.lz la).toNat + d ∧ sumI (fun i => g' (P'.2.1 (3 - f) (P'.el la i))) (P'.lz la).toNat = sumI (fun i => g (P.2.1 (3 - f) (P.el la i))) (P.lz la).toNat := by
  obtain ⟨k, k0, k1, e⟩ := i
  subst e
  have bl := fun (i : Int) (a : 0 ≤ i) (b : i < P.lz la) => h.1.blk a b
  have ob := fun (i : Int) (a : 0 ≤ i) (b : i < P.lz la) => h.2.1.2.2.1 _ (bl i a b).1.1 (bl i a b).1.2
  have kb := fun (i : Int) (a : 0 ≤ i) (b : i < P.lz la) => ke.2.1 _ (bl i a b).1.1 (bl i a b).1.2
  have ne : ∀ i : Int, 0 ≤ i → i < P.lz la → i ≠ k → P.el la i ≠ P.el la k := fun i a b c => by
    rcases Int.lt_or_gt_of_ne c with q | q
    · exact h.2.1.2.2.2 i k a q k1
    · exact fun e => h.2.1.2.2.2 k i k0 q b e.symm
  rw [ke.2.2.1]
  rcases hf with rfl | rfl
  · constructor
    · refine sumI_one (k := k) k0 (by omega) ?_ (fun i a b c => ?_)
      · show g' (P'.2.1 1 (P'.el la k)) = g (P.2.1 1 (P.el la k)) + d
        have q : P'.2.1 1 (P.el la k) = P.2.1 1 (P.el la k) := (kb k k0 k1).1
        rw [ke.2.2.2 k k0 k1, q, el]; exact z
      · have i1 : i < P.lz la := by omega
        show g' (P'.2.1 1 (P'.el la i)) = g (P.2.1 1 (P.el la i))
        have q : P'.2.1 1 (P.el la i) = P.2.1 1 (P.el la i) := (kb i a i1).1
        rw [ke.2.2.2 i a i1, q]
        refine o _ (bl i a i1).2.2.1.1 (bl i a i1).2.2.1.2.1 (fun e => ne i a i1 c ?_)
        have q1 := (ob i a i1).2.2.1
        have q2 := (ob k k0 k1).2.2.1
        have q3 : P.bp (P.el la i) = P.bp (P.el la k) := e.trans el.symm
        rw [← q1, q3, q2]
    · refine sumI_eq (fun i a b => ?_)
      have i1 : i < P.lz la := by omega
      show g' (P'.2.1 2 (P'.el la i)) = g (P.2.1 2 (P.el la i))
      have q : P'.2.1 2 (P.el la i) = P.2.1 2 (P.el la i) := (kb i a i1).2.1
      rw [ke.2.2.2 i a i1, q]
      refine o _ (bl i a i1).2.1.1 (bl i a i1).2.1.2.1 (fun e => ?_)
      have q1 := (ob i a i1).1.1
      have q2 := (ob k k0 k1).2.1
      have q3 : P.br (P.el la i) = P.bp (P.el la k) := e.trans el.symm
      rw [q3, q2] at q1; omega
  · constructor
    · refine sumI_one (k := k) k0 (by omega) ?_ (fun i a b c => ?_)
      · show g' (P'.2.1 2 (P'.el la k)) = g (P.2.1 2 (P.el la k)) + d
        have q : P'.2.1 2 (P.el la k) = P.2.1 2 (P.el la k) := (kb k k0 k1).2.1
        rw [ke.2.2.2 k k0 k1, q, el]; exact z
      · have i1 : i < P.lz la := by omega
        show g' (P'.2.1 2 (P'.el la i)) = g (P.2.1 2 (P.el la i))
        have q : P'.2.1 2 (P.el la i) = P.2.1 2 (P.el la i) := (kb i a i1).2.1
        rw [ke.2.2.2 i a i1, q]
        refine o _ (bl i a i1).2.1.1 (bl i a i1).2.1.2.1 (fun e => ne i a i1 c ?_)
        have q1 := (ob i a i1).1.2.1
        have q2 := (ob k k0 k1).1.2.1
        have q3 : P.br (P.el la i) = P.br (P.el la k) := e.trans el.symm
        rw [← q1, q3, q2]
    · refine sumI_eq (fun i a b => ?_)
      have i1 : i < P.lz la := by omega
      show g' (P'.2.1 1 (P'.el la i)) = g (P.2.1 1 (P.el la i))
      have q : P'.2.1 1 (P.el la i) = P.2.1 1 (P.el la i) := (kb i a i1).1
      rw [ke.2.2.2 i a i1, q]
      refine o _ (bl i a i1).2.2.1.1 (bl i a i1).2.2.1.2.1 (fun e => ?_)
      have q1 := (ob i a i1).2.1
      have q2 := (ob k k0 k1).1.1
      have q3 : P.bp (P.el la i) = P.br (P.el la k) := e.trans el.symm
      rw [q3, q2] at q1; omega
theorem ALP.cats {E : List Nat} {d : Int} {L' : List Nat} {b l : Nat} (h : ALP L P cO cI cZ ed la) (ke : KEP E L P L' P' la) (i : INB P la b) (f : Nat) (hf : f = 1 ∨ f = 2) (el : P.2.1 f b = l) (z : P'.cap l = P.cap l + d) (o : ∀ y : Nat, y ∈ L → P.kd y = 30 → y ≠ l → P'.cap y = P.cap y) : P'.cat f la = P.cat f la + d ∧ P'.cat (3 - f) la = P.cat (3 - f) la := h.sums (g := P.cap) (g' := P'.cap) ke i f hf el z o
end CAT9
theorem ADC.gl {L : List Nat} {P : PO} {cO : ClassId} {ed x : Nat} (h : ADC L P cO ed x) : P.gs x ≤ 60001 ∧ P.gc x ≤ 1 := by
  rcases h with ⟨f, _, _, a, b, c⟩ | ⟨f, _⟩
  · obtain ⟨e1, e2⟩ := (P.gs_spec x).1 f
    rw [e1, e2]
    have q := groS_spec (P.lz x) (P.an (P.le x))
    have r := groC_spec (P.lz x) (P.an (P.le x))
    by_cases z : P.lz x = P.an (P.le x)
    · have := q.1 z (by omega); have := r.1 z; omega
    · have := q.2 z; have := r.2 z; omega
  · obtain ⟨e1, e2⟩ := (P.gs_spec x).2 f
    omega
/-- what the next of a list costs, by how its row grows -/
theorem gro_cap {L : List Nat} {P P' : PO} {cO : ClassId} {ed x : Nat} (h : ADC L P cO ed x) (f' : P'.fl x = 1) (h0 : P.lz x + 1 ≤ (P'.an (P'.le x) : Int)) (h1 : P.fl x = 1 → P'.an (P'.le x) = P.an (P.le x) ∨ (P.lz x = P.an (P.le x) ∧ 3 * (P.an (P.le x) : Int) ≤ 2 * P'.an (P'.le x) + 1)) (h2 : P.fl x ≠ 1 → P'.an (P'.le x) = 10) (h3 : (P'.an (P'.le x) : Int) ≤ 10 ∨ 2 * (P'.an (P'.le x) : Int) ≤ 3 * P.lz x + 2 ∨ (P.fl x = 1 ∧ P'.an (P'.le x) = P.an (P.le x))) : ((P.gs x : Int) ≤ 5 * (P'.cap x - P.cap x) ∧ (P.gc x : Int) ≤ P'.cap x - P.cap x) ∧ (P'.cap x ≤ P.cap x ∨ P'.cap x ≤ 10 ∨ 2 * P'.cap x ≤ 3 * P.lz x + 2) := by
  have c' := (P'.cap_spec x).1 f'
  rw [c']
  refine ⟨?_, ?_⟩
  rotate_left
  · rcases h3 with q | q | ⟨q, r⟩
    · exact Or.inr (Or.inl q)
    · exact Or.inr (Or.inr q)
    · rw [(P.cap_spec x).1 q, r]; exact Or.inl (Int.le_refl _)
  rcases h with ⟨f, _, _, a, b, c⟩ | ⟨f, _⟩
  · have c1 := (P.cap_spec x).1 f
    obtain ⟨e1, e2⟩ := (P.gs_spec x).1 f
    rw [e1, e2, c1]
    have q := groS_spec (P.lz x) (P.an (P.le x))
    have r := groC_spec (P.lz x) (P.an (P.le x))
    rcases h1 f with e | ⟨e, g⟩
    · have := q.2 (by omega); have := r.2 (by omega); omega
    · have := q.1 e (by omega); have := r.1 e; omega
  · have c1 := (P.cap_spec x).2 f
    obtain ⟨e1, e2⟩ := (P.gs_spec x).2 f
    have := h2 f
    rw [e1, e2, c1]; omega
