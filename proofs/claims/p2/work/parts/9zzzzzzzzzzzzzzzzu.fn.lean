/-! a function put down again: it is a function of the whole pool, and what the pool has cost is told alike -/
theorem sumL_add {f g : Nat → Int} : ∀ l : List Nat, sumL (fun z => f z + g z) l = sumL f l + sumL g l
  | [] => rfl
  | x :: l => by
    show f x + g x + sumL (fun z => f z + g z) l = f x + sumL f l + (g x + sumL g l)
    rw [sumL_add l]; omega
section FNQ9
variable {L L' E : List Nat} {P P' : PO} {F : Nat → Prop} {cO cI cZ : ClassId} {ed la x z : Nat} {w : Nat → Int}
theorem PIK.unp (k : KEG E L (P.park F) L' P') (h : PIK L' P' cI cZ z) : PIK L' (P'.unp P L F) cI cZ z := by
  obtain ⟨⟨a1, a2⟩, ⟨b1, b2, b3⟩, ⟨c1, c2, c3⟩, ⟨d1, d2, d3⟩, r⟩ := h
  exact ⟨⟨a1, (unp_out (k.unpk a2 (by unfold K89; omega))).trans a2⟩, ⟨b1, (unp_out (k.unpk b2 (by unfold K89; omega))).trans b2, b3⟩, ⟨c1, (unp_out (k.unpk c2 (by unfold K89; omega))).trans c2, c3⟩, ⟨d1, (unp_out (k.unpk d2 (by unfold K89; omega))).trans d2, d3⟩, r⟩
/-- a function that was in hand -/
theorem ALP.fok (a : ALP L' P' cO cI cZ ed la) (k : KEG E L (P.park F) L' P') (c : CLF L P la 12) (f : F la) : FOK L' (P'.unp P L F) cO cI cZ la := by
  have q := k.1 la c.1 (by rw [park_in f, c.2.1]; decide)
  have kl : P'.kd la = 30 := a.lok.2.1
  refine ⟨⟨a.lok.1, (unp_out (k.unpk kl (by unfold K89; omega))).trans kl, a.2.1.2.1, (q.2.2.2.1 (by rw [park_in f]; exact c.2.1) c.2.2.2).1⟩, a.1.1.2.1, fun i i0 i1 => ?_, a.2.1.2.2.2, a.2.2.1, fun b b0 b1 => ?_⟩
  · have ib := a.1.blk i0 i1
    exact ⟨ib.2.2.2.2.2.1, ib.2.2.2.2.2.2.2⟩
  · have ib := a.1.blk b0 b1
    refine ⟨a.rok ib.2.2.2.1.1 ib.2.2.2.1.2, fun j j0 j1 => ?_, fun j j0 j1 => ?_⟩
    · have e := ib.2.1.2.2.2.2 j j0 j1
      exact a.rok e.2.1 e.2.2
    · have e := ib.2.2.1.2.2.2.2 j j0 j1
      exact (a.pik e.2.1 e.2.2).unp k
theorem PSI.unp (n1 : L.Nodup) (n2 : L'.Nodup) (h : GLR L P cO cI cZ ed) (c : FCL L P F) (k : KEG E L (P.park F) L' P') : PSI w L' (P'.unp P L F) + PSI w L (P.park F) = PSI w L' P' + PSI w L P := by
  obtain ⟨g, hg⟩ : ∃ g : Nat → Int, g = fun z => @ite Int (z ∈ L ∧ ¬ F z) (Classical.propDecidable _) (WT9 w P z) 0 := ⟨_, rfl⟩
  have gi : ∀ z : Nat, z ∈ L ∧ ¬ F z → g z = WT9 w P z := fun z q => by rw [hg]; exact if_pos q
  have go : ∀ z : Nat, ¬ (z ∈ L ∧ ¬ F z) → g z = 0 := fun z q => by rw [hg]; exact if_neg q
  have zp : ∀ (Q : PO) (z j : Nat), Q.kd z = pkk j → WT9 w Q z = 0 := fun Q z j e => by
    have q := pkk_not j
    rw [← e] at q
    unfold K89 at q
    exact WT9.no ⟨by omega, by omega, by omega, by omega⟩
  have A : PSI w L P = PSI w L (P.park F) + sumL g L := by
    unfold PSI
    rw [← sumL_add]
    refine sumL_congr L (fun z m => ?_)
    by_cases f : F z
    · rw [go z (fun q => q.2 f)]
      have e : (P.park F).kd z = P.kd z := park_in f
      show WT9 w P z = WT9 w (P.park F) z + 0
      unfold WT9
      rw [e]
      show _ = (_ : Int) + 0
      rw [Int.add_zero]; rfl
    · rw [gi z ⟨m, f⟩, zp _ z _ (park_out f)]; omega
  have B : PSI w L' (P'.unp P L F) = PSI w L' P' + sumL g L' := by
    unfold PSI
    rw [← sumL_add]
    refine sumL_congr L' (fun z m => ?_)
    by_cases q : z ∈ L ∧ ¬ F z
    · have r := (k.1 z q.1 (fun v => pkk_not (P.kd z) (by rw [← park_out (P := P) q.2, v]; unfold K89; omega))).2.1
      rw [gi z q, zp P' z _ (r.trans (park_out q.2))]
      have e : (P'.unp P L F).kd z = P.kd z := unp_in q
      by_cases k1 : P.kd z = 17
      · rw [WT9.row (e.trans k1), WT9.row k1]; omega
      by_cases k2 : P.kd z = 15
      · rw [WT9.phi (e.trans k2), WT9.phi k2]
        have pk := h.2.2.1 z q.1 k2
        have nf : ¬ F (P.pp z) := fun fz => q.2 (by have := c.2.2.2.1 _ pk.2.1.1 fz (by rw [pk.2.1.2.1]; decide) (by rw [pk.2.1.2.1]; unfold K89; omega); rw [pk.2.1.2.2.2] at this; exact this)
        have s := k.unpd q.1 q.2 (by rw [k2]; unfold K89; omega)
        have t := k.unpd pk.2.1.1 nf (by rw [pk.2.1.2.1]; unfold K89; omega)
        have pp : (P'.unp P L F).pp z = P.pp z := s.2.1 1
        have an : (P'.unp P L F).an (P.pp z) = P.an (P.pp z) := t.2.1 1
        rw [pp, an]; omega
      by_cases k3 : P.kd z = 12
      · rw [WT9.blk (e.trans k3), WT9.blk k3]; omega
      by_cases k4 : P.kd z = 30
      · rw [WT9.list (e.trans k4), WT9.list k4]
        have s := k.unpd q.1 q.2 (by rw [k4]; unfold K89; omega)
        have fl : (P'.unp P L F).fl z = P.fl z := s.2.1 7
        have le : (P'.unp P L F).le z = P.le z := s.2.1 1
        have cp : (P'.unp P L F).cap z = P.cap z := by
          unfold PO.cap
          rw [fl, le]
          by_cases f1 : P.fl z = 1
          · rw [if_pos f1, if_pos f1]
            obtain ⟨o1, o2, o3, _⟩ := (h.2.2.2.1 z q.1 k4).2 f1
            have nf : ¬ F (P.le z) := fun fz => q.2 (by have := c.2.2.2.1 _ o1 fz (by rw [o2]; decide) (by rw [o2]; unfold K89; omega); rw [o3] at this; exact this)
            have t := k.unpd o1 nf (by rw [o2]; unfold K89; omega)
            have an : (P'.unp P L F).an (P.le z) = P.an (P.le z) := t.2.1 1
            rw [an]
          · rw [if_neg f1, if_neg f1]
        rw [cp]; omega
      rw [WT9.no ⟨by rw [e]; exact k1, by rw [e]; exact k2, by rw [e]; exact k3, by rw [e]; exact k4⟩, WT9.no ⟨k1, k2, k3, k4⟩]; omega
    · rw [go z q]
      have e : (P'.unp P L F).kd z = P'.kd z := unp_out q
      show WT9 w (P'.unp P L F) z = WT9 w P' z + 0
      unfold WT9
      rw [e, Int.add_zero]; rfl
  have C : sumL g L = sumL g L' := sumL_eq L L' n1 n2 (fun z m => by
    by_cases f : F z
    · exact Or.inl (go z (fun q => q.2 f))
    · exact Or.inr ⟨(k.unp m (Or.inr f)).1, rfl⟩) (fun z m => by
    by_cases q : z ∈ L ∧ ¬ F z
    · exact Or.inr ⟨q.1, rfl⟩
    · exact Or.inl (go z q))
  omega
theorem LVA.park (v : LVA L P) : LVA L (P.park F) := fun z m k => v z m (park_k k (by unfold K89; omega)).2
theorem LVA.unp (v : LVA L P) (v' : LVA L' P') (h : GLR L P cO cI cZ ed) (c : FCL L P F) (k : KEG E L (P.park F) L' P') : LVA L' (P'.unp P L F) := fun z m kz => by
  by_cases q : z ∈ L ∧ ¬ F z
  · rw [unp_in q] at kz
    have s := k.unpd q.1 q.2 (by rw [kz]; unfold K89; omega)
    have fl : (P'.unp P L F).fl z = P.fl z := s.2.1 7
    have le : (P'.unp P L F).le z = P.le z := s.2.1 1
    have cp : (P'.unp P L F).cap z = P.cap z := by
      unfold PO.cap
      rw [fl, le]
      by_cases f1 : P.fl z = 1
      · rw [if_pos f1, if_pos f1]
        obtain ⟨o1, o2, o3, _⟩ := (h.2.2.2.1 z q.1 kz).2 f1
        have nf : ¬ F (P.le z) := fun fz => q.2 (by have := c.2.2.2.1 _ o1 fz (by rw [o2]; decide) (by rw [o2]; unfold K89; omega); rw [o3] at this; exact this)
        have t := k.unpd o1 nf (by rw [o2]; unfold K89; omega)
        have an : (P'.unp P L F).an (P.le z) = P.an (P.le z) := t.2.1 1
        rw [an]
      · rw [if_neg f1, if_neg f1]
    rw [cp]; exact v z q.1 kz
  · rw [unp_out q] at kz
    exact v' z m kz
end FNQ9
