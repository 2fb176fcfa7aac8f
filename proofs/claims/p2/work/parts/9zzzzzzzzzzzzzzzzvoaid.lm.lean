/-! LMT of a whole pool: what its lists' kinds give; a row, a PHI of the Code taken -/
section LMT9D
variable {L L' E : List Nat} {P P' Q Q' : PO} {F : Nat → Prop} {cO cI cZ : ClassId} {ed la lb lr lp x q z : Nat} {n p n' p' s c s' c' t : Int} {w : Nat → Int}
/-- the kinds of what stands in a Code's lists -/
theorem COVC.kd (h : COVC L Q la lb lr lp) (G : GLR L Q cO cI cZ ed) (c0 : CLF L Q la 12) (c1 : CLF L Q lb 12) (c2 : CLF L Q lr 17) (c3 : CLF L Q lp 15) (m : z ∈ L) : (Q.kc z = 21 → Q.kd z = 17) ∧ (Q.kc z = 20 → Q.kd z = 15) ∧ (Q.kc z = 19 → Q.kd z = 12) ∧ (Q.kc z = 18 → Q.kd z = 30) := by
  refine ⟨fun k => ?_, fun k => ?_, fun k => ?_, fun k => ?_⟩
  · rcases (h z m).1 k with ⟨i, i0, i1, e⟩ | ⟨i, i0, i1, e⟩
    · rw [e]; exact ((G.lk c2).2.2.2.2 i i0 i1).2.2
    · have b := (G.lk c1).2.2.2.2 i i0 i1
      rw [e]; exact (G.gb b.2.1 b.2.2).1.2.1
  · obtain ⟨i, i0, i1, e⟩ := (h z m).2.1 k
    rw [e]; exact ((G.lk c3).2.2.2.2 i i0 i1).2.2
  · obtain ⟨i, i0, i1, e⟩ := (h z m).2.2.1 k
    rw [e]; exact ((G.lk c1).2.2.2.2 i i0 i1).2.2
  · rcases (h z m).2.2.2 k with (e | e | e | e) | ⟨i, i0, i1, e | e⟩
    · rw [e]; exact c0.2.1
    · rw [e]; exact c1.2.1
    · rw [e]; exact c2.2.1
    · rw [e]; exact c3.2.1
    · have b := (G.lk c1).2.2.2.2 i i0 i1
      rw [e]; exact (G.lbr b.2.1 b.2.2).2.1
    · have b := (G.lk c1).2.2.2.2 i i0 i1
      rw [e]; exact (G.lbp b.2.1 b.2.2).2.1
theorem LMT.of (G : GLR L Q cO cI cZ ed) (c0 : CLF L Q la 12) (c1 : CLF L Q lb 12) (c2 : CLF L Q lr 17) (c3 : CLF L Q lp 15) (ds : DST Q lb) (h : COVC L Q la lb lr lp) (a : ∀ i : Int, 0 ≤ i → i < Q.lz lp → PHL (Q.an (Q.pp (Q.el lp i)))) (k : LMC Q la lb lr lp) : LMT L Q la lb lr lp := by
  refine ⟨⟨h, ds⟩, ⟨fun l e => ?_, fun i i0 i1 => ?_, fun i i0 i1 => ?_, fun i i0 i1 => ?_⟩, ⟨fun z m kz => ?_, fun z m kz => ?_, fun z m kz => ?_, fun l e => ?_⟩, k⟩
  · rcases e with e | e | e | e <;> rw [e]
    · exact ⟨c0.1, kc30 c0.2.1⟩
    · exact ⟨c1.1, kc30 c1.2.1⟩
    · exact ⟨c2.1, kc30 c2.2.1⟩
    · exact ⟨c3.1, kc30 c3.2.1⟩
  · have b := (G.lk c2).2.2.2.2 i i0 i1; exact ⟨b.2.1, kc17 b.2.2⟩
  · have b := (G.lk c3).2.2.2.2 i i0 i1; exact ⟨b.2.1, kc15 b.2.2⟩
  · have b := (G.lk c1).2.2.2.2 i i0 i1
    have e := (G.gb b.2.1 b.2.2).1
    have r := G.lbr b.2.1 b.2.2
    have p := G.lbp b.2.1 b.2.2
    exact ⟨⟨b.2.1, kc12 b.2.2⟩, ⟨e.1, kc17 e.2.1⟩, ⟨r.1, kc30 r.2.1⟩, p.1, kc30 p.2.1⟩
  · have k30 := (h.kd G c0 c1 c2 c3 m).2.2.2 kz
    have o := G.owa z m k30
    exact ⟨fun f => ⟨(o.2 f).1, kc_hi9 (by rw [(o.2 f).2.1]; decide), (o.2 f).2.2.1⟩, fun f => (o.1 f).1⟩
  · have k15 := (h.kd G c0 c1 c2 c3 m).2.1 kz
    have o := G.pikR m k15
    refine ⟨o.2.1.1, kc_hi9 (by rw [o.2.1.2.1]; decide), o.2.1.2.2.2, ?_⟩
    obtain ⟨i, i0, i1, e⟩ := (h z m).2.1 kz
    rw [e]; exact a i i0 i1
  · have o := G.owc z m ((h.kd G c0 c1 c2 c3 m).2.2.1 kz)
    exact ⟨o.1.2.1, o.2.2.1, fun e => by have t := o.2.1; rw [← e, o.1.1] at t; omega⟩
  · rcases e with e | e | e | e <;> rw [e]
    · exact c0.2.2.2
    · exact c1.2.2.2
    · exact c2.2.2.2
    · exact c3.2.2.2
/-- the Code's lists, but one, behind a change of the whole pool -/
theorem KEG.list9 {l j : Nat} (k : KEG [lr] L Q L' Q') (c1 : CLF L Q l j) (ne : l ≠ lr) : Q'.lz l = Q.lz l ∧ ∀ i : Int, 0 ≤ i → i < Q.lz l → Q'.el l i = Q.el l i := ((k.1 l c1.1 (by rw [c1.2.1]; decide)).2.2.2.1 c1.2.1 c1.2.2.2).2 (fun m => ne (List.mem_singleton.mp m))
theorem LMT.row (h : LMT L Q la lb lr lp) (G : GLR L Q cO cI cZ ed) (G' : GLR L' Q' cO cI cZ ed) (c0 : CLF L Q la 12) (c1 : CLF L Q lb 12) (c2 : CLF L Q lr 17) (c3 : CLF L Q lp 15) (k : KEG [lr] L Q L' Q') (w : CRH lr x n L Q L' Q') (e : x = Q'.el lr n ∧ (∀ i : Int, 0 ≤ i → i < Q.lz lr → Q'.el lr i = Q.el lr i) ∧ (Q'.lz lr = Q.lz lr ∨ (Q'.lz lr = Q.lz lr + 1 ∧ n = Q.lz lr ∧ x ∉ L))) (nw : NWO x L Q L' Q') (n0 : 0 ≤ n) (n4 : n < 4164) : LMT L' Q' la lb lr lp := by
  have nab : lb ≠ lr := fun e => by have a := c1.2.2.1; rw [e, c2.2.2.1] at a; omega
  have naa : la ≠ lr := fun e => by have a := c0.2.2.1; rw [e, c2.2.2.1] at a; omega
  have nap : lp ≠ lr := fun e => by have a := c3.2.2.1; rw [e, c2.2.2.1] at a; omega
  have lb9 := k.list9 c1 nab
  have lp9 := k.list9 c3 nap
  have lzr : Q.lz lr ≤ Q'.lz lr := by rcases e.2.2 with q | q <;> omega
  have kd' : ∀ z : Nat, z ∈ L → z ∈ L' → Q'.kc z = Q.kc z := fun z m m' => by unfold PO.kc; rw [((nw z m').1 m)]
  have bk : ∀ i : Int, 0 ≤ i → i < Q.lz lb → (Q.el lb i ∈ L ∧ Q.kd (Q.el lb i) = 12) ∧ Q'.bp (Q.el lb i) = Q.bp (Q.el lb i) ∧ Q'.br (Q.el lb i) = Q.br (Q.el lb i) ∧ Q'.be (Q.el lb i) = Q.be (Q.el lb i) := fun i i0 i1 => by
    have b := (G.lk c1).2.2.2.2 i i0 i1
    exact ⟨⟨b.2.1, b.2.2⟩, k.2 _ b.2.1 b.2.2⟩
  have cap9 : ∀ l : Nat, l ∈ L → Q.kd l = 30 → l ≠ lr → Q'.cap l = Q.cap l := fun l m kl nl => w.2.2.2.2.1 l m kl nl
  have nbl : ∀ i : Int, 0 ≤ i → i < Q.lz lb → Q.br (Q.el lb i) ≠ lr ∧ Q.bp (Q.el lb i) ≠ lr := fun i i0 i1 => by
    have b := (bk i i0 i1).1
    have o := G.owc _ b.1 b.2
    constructor
    · intro q; have a := o.1.2.1; rw [q, c2.2.2.2] at a; have t := b.2; rw [← a, c2.2.1] at t; omega
    · intro q; have a := o.2.2.1; rw [q, c2.2.2.2] at a; have t := b.2; rw [← a, c2.2.1] at t; omega
  refine LMT.of G' (c0.kg9 k) (c1.kg9 k) (c2.kg9 k) (c3.kg9 k) (h.1.2.nb9 lb9 (fun i i0 i1 => (bk i i0 i1).2.2.2)) (fun z m => ?_) (fun i i0 i1 => ?_) ⟨⟨?_, ?_, ?_, ?_, ?_, ?_⟩, fun i i0 i1 => ?_⟩
  · by_cases m0 : z ∈ L
    · rw [kd' z m0 m]
      refine ⟨fun u => ?_, fun u => ?_, fun u => ?_, fun u => ?_⟩
      · rcases (h.1.1 z m0).1 u with ⟨i, i0, i1, e1⟩ | ⟨i, i0, i1, e1⟩
        · exact Or.inl ⟨i, i0, by omega, by rw [e.2.1 i i0 i1]; exact e1⟩
        · exact Or.inr ⟨i, i0, by rw [lb9.1]; exact i1, by rw [lb9.2 i i0 i1, (bk i i0 i1).2.2.2]; exact e1⟩
      · obtain ⟨i, i0, i1, e1⟩ := (h.1.1 z m0).2.1 u
        exact ⟨i, i0, by rw [lp9.1]; exact i1, by rw [lp9.2 i i0 i1]; exact e1⟩
      · obtain ⟨i, i0, i1, e1⟩ := (h.1.1 z m0).2.2.1 u
        exact ⟨i, i0, by rw [lb9.1]; exact i1, by rw [lb9.2 i i0 i1]; exact e1⟩
      · rcases (h.1.1 z m0).2.2.2 u with e1 | ⟨i, i0, i1, e1⟩
        · exact Or.inl e1
        · exact Or.inr ⟨i, i0, by rw [lb9.1]; exact i1, by rw [lb9.2 i i0 i1, (bk i i0 i1).2.2.1, (bk i i0 i1).2.1]; exact e1⟩
    · rcases (nw z m).2 m0 with ez | ez
      · have k17 : Q'.kc z = 21 := by rw [ez]; exact kc17 w.1.2.1
        exact ⟨fun _ => Or.inl ⟨n, n0, by have := w.2.1.1; omega, ez.trans e.1⟩, fun u => by omega, fun u => by omega, fun u => by omega⟩
      · have k0 := kc_hi9 ez
        exact ⟨fun u => by omega, fun u => by omega, fun u => by omega, fun u => by omega⟩
  · rw [lp9.1] at i1
    rw [lp9.2 i i0 i1]
    have b := (G.lk c3).2.2.2.2 i i0 i1
    have pk := G.pikR b.2.1 b.2.2
    have nx : ∀ z : Nat, z ∈ L → Q.kd z ≠ 17 → z ≠ x := fun z m kz q => kz (by rw [q]; exact (w.2.2.2.2.2 (by rw [← q]; exact m)).1)
    have s1 := w.2.2.2.1 _ b.2.1 (fun q => by
      rcases q with q | q | q
      · exact nx _ b.2.1 (by omega) q
      · have t := b.2.2; rw [q, c2.2.1] at t; omega
      · omega)
    have s2 := w.2.2.2.1 _ pk.2.1.1 (fun q => by
      rcases q with q | q | q
      · exact nx _ pk.2.1.1 (by have := pk.2.1.2.1; omega) q
      · have t := pk.2.1.2.1; rw [q, c2.2.1] at t; omega
      · have t := pk.2.1.2.1; omega)
    rw [show Q'.pp (Q.el lp i) = Q.pp (Q.el lp i) from s1.2.2.1 1, show Q'.an (Q.pp (Q.el lp i)) = Q.an (Q.pp (Q.el lp i)) from s2.2.2.1 1]
    exact (h.2.2.1.2.1 _ b.2.1 (kc15 b.2.2)).2.2.2
  · rw [lb9.1]; exact h.2.2.2.1.1
  · have l4 := h.2.2.2.1.2.1; have l5 := w.2.1.1; rcases e.2.2 with q | q <;> omega
  · rw [lp9.1]; exact h.2.2.2.1.2.2.1
  · rw [cap9 la c0.1 c0.2.1 naa]; exact h.2.2.2.1.2.2.2.1
  · rw [cap9 lb c1.1 c1.2.1 nab]; exact h.2.2.2.1.2.2.2.2.1
  · rw [cap9 lp c3.1 c3.2.1 nap]; exact h.2.2.2.1.2.2.2.2.2
  · rw [lb9.1] at i1
    have b := bk i i0 i1
    have r := G.lbr b.1.1 b.1.2
    have p := G.lbp b.1.1 b.1.2
    rw [lb9.2 i i0 i1, b.2.2.1, b.2.1, cap9 _ r.1 r.2.1 (nbl i i0 i1).1, cap9 _ p.1 p.2.1 (nbl i i0 i1).2]
    exact h.2.2.2.2 i i0 i1
theorem LMT.phi (h : LMT L Q la lb lr lp) (G : GLR L Q cO cI cZ ed) (G' : GLR L' Q' cO cI cZ ed) (v : LVA L' Q') (c0 : CLF L Q la 12) (c1 : CLF L Q lb 12) (c2 : CLF L Q lr 17) (c3 : CLF L Q lp 15) (k : KEG [lp] L Q L' Q') (w : CPQ lp x n t L Q L' Q') (nw : NWP x lp L Q L' Q') (n0 : 0 ≤ n) (n4 : n < 1936) : LMT L' Q' la lb lr lp := by
  have nab : lb ≠ lp := fun e => by have a := c1.2.2.1; rw [e, c3.2.2.1] at a; omega
  have naa : la ≠ lp := fun e => by have a := c0.2.2.1; rw [e, c3.2.2.1] at a; omega
  have nar : lr ≠ lp := fun e => by have a := c2.2.2.1; rw [e, c3.2.2.1] at a; omega
  have lb9 := k.list9 c1 nab
  have lr9 := k.list9 c2 nar
  have lzp : Q.lz lp ≤ Q'.lz lp := by rcases w.2.1.2 with q | q <;> omega
  have kd' : ∀ z : Nat, z ∈ L → z ∈ L' → Q'.kc z = Q.kc z := fun z m m' => by unfold PO.kc; rw [((nw.1 z m').1 m)]
  have bk : ∀ i : Int, 0 ≤ i → i < Q.lz lb → (Q.el lb i ∈ L ∧ Q.kd (Q.el lb i) = 12) ∧ Q'.bp (Q.el lb i) = Q.bp (Q.el lb i) ∧ Q'.br (Q.el lb i) = Q.br (Q.el lb i) ∧ Q'.be (Q.el lb i) = Q.be (Q.el lb i) := fun i i0 i1 => by
    have b := (G.lk c1).2.2.2.2 i i0 i1
    exact ⟨⟨b.2.1, b.2.2⟩, k.2 _ b.2.1 b.2.2⟩
  have xk : x ∈ L → Q.kd x = 15 := fun m => by rw [← (nw.1 x w.1.1).1 m]; exact w.1.2.1
  have nx : ∀ z : Nat, z ∈ L → Q.kd z ≠ 15 → z ≠ x := fun z m kz q => kz (by rw [q]; exact xk (by rw [← q]; exact m))
  have g9 := w.2.2.2.2
  have arr : ∀ y : Nat, y ∈ L → (Q.kd y = 31 ∨ Q.kd y = 40) → Q.ow y ≠ lp → y ∈ L' ∧ SM9 y Q Q' := fun y m ky oy => g9 y m (fun q => by
      rcases q with q | q | q
      · exact nx y m (by omega) q
      · rw [q, c3.2.1] at ky; omega
      · exact oy q.2)
  have cap9 : ∀ l : Nat, l ∈ L → Q.kd l = 30 → l ≠ lp → Q'.cap l = Q.cap l := fun l m kl nl => by
    have s1 := g9 l m (fun q => by
      rcases q with q | q | q
      · exact nx l m (by omega) q
      · exact nl q
      · omega)
    refine cap_sm9 (s1.2.2.1 7) (s1.2.2.1 1) (fun f => ?_)
    have o := (G.owa l m kl).2 f
    exact (arr _ o.1 (Or.inl o.2.1) (by rw [o.2.2.1]; exact nl)).2.2.1 1
  have nbl : ∀ i : Int, 0 ≤ i → i < Q.lz lb → Q.br (Q.el lb i) ≠ lp ∧ Q.bp (Q.el lb i) ≠ lp := fun i i0 i1 => by
    have b := (bk i i0 i1).1
    have o := G.owc _ b.1 b.2
    constructor
    · intro q; have a := o.1.2.1; rw [q, c3.2.2.2] at a; have t := b.2; rw [← a, c3.2.1] at t; omega
    · intro q; have a := o.2.2.1; rw [q, c3.2.2.2] at a; have t := b.2; rw [← a, c3.2.1] at t; omega
  refine LMT.of G' (c0.kg9 k) (c1.kg9 k) (c2.kg9 k) (c3.kg9 k) (h.1.2.nb9 lb9 (fun i i0 i1 => (bk i i0 i1).2.2.2)) (fun z m => ?_) (fun i i0 i1 => ?_) ⟨⟨?_, ?_, ?_, ?_, ?_, ?_⟩, fun i i0 i1 => ?_⟩
  · by_cases m0 : z ∈ L
    · rw [kd' z m0 m]
      refine ⟨fun u => ?_, fun u => ?_, fun u => ?_, fun u => ?_⟩
      · rcases (h.1.1 z m0).1 u with ⟨i, i0, i1, e1⟩ | ⟨i, i0, i1, e1⟩
        · exact Or.inl ⟨i, i0, by rw [lr9.1]; exact i1, by rw [lr9.2 i i0 i1]; exact e1⟩
        · exact Or.inr ⟨i, i0, by rw [lb9.1]; exact i1, by rw [lb9.2 i i0 i1, (bk i i0 i1).2.2.2]; exact e1⟩
      · obtain ⟨i, i0, i1, e1⟩ := (h.1.1 z m0).2.1 u
        exact ⟨i, i0, by omega, by rw [w.2.2.2.1 i i0 i1]; exact e1⟩
      · obtain ⟨i, i0, i1, e1⟩ := (h.1.1 z m0).2.2.1 u
        exact ⟨i, i0, by rw [lb9.1]; exact i1, by rw [lb9.2 i i0 i1]; exact e1⟩
      · rcases (h.1.1 z m0).2.2.2 u with e1 | ⟨i, i0, i1, e1⟩
        · exact Or.inl e1
        · exact Or.inr ⟨i, i0, by rw [lb9.1]; exact i1, by rw [lb9.2 i i0 i1, (bk i i0 i1).2.2.1, (bk i i0 i1).2.1]; exact e1⟩
    · rcases (nw.1 z m).2 m0 with ez | ez
      · have k15 : Q'.kc z = 20 := by rw [ez]; exact kc15 w.1.2.1
        exact ⟨fun u => by omega, fun _ => ⟨n, n0, by have := w.2.1.1; omega, ez.trans w.1.2.2⟩, fun u => by omega, fun u => by omega⟩
      · have k0 := kc_hi9 ez
        exact ⟨fun u => by omega, fun u => by omega, fun u => by omega, fun u => by omega⟩
  · by_cases i2 : i < Q.lz lp
    · rw [w.2.2.2.1 i i0 i2]
      have b := (G.lk c3).2.2.2.2 i i0 i2
      have pk := G.pikR b.2.1 b.2.2
      have s2 := arr _ pk.2.1.1 (Or.inr pk.2.1.2.1) (fun q => by rw [pk.2.1.2.2.2] at q; have t := b.2.2; rw [q, c3.2.1] at t; omega)
      have pq : Q'.pp (Q.el lp i) = Q.pp (Q.el lp i) := by
        by_cases ex : Q.el lp i = x
        · rw [ex]; exact nw.2.1 (by rw [← ex]; exact b.2.1)
        · exact (g9 _ b.2.1 (fun q => by
            rcases q with q | q | q
            · exact ex q
            · have t := b.2.2; rw [q, c3.2.1] at t; omega
            · omega)).2.2.1 1
      rw [pq, show Q'.an (Q.pp (Q.el lp i)) = Q.an (Q.pp (Q.el lp i)) from s2.2.2.1 1]
      exact (h.2.2.1.2.1 _ b.2.1 (kc15 b.2.2)).2.2.2
    · rcases w.2.1.2 with q | q
      · omega
      · have ei : i = n := by omega
        rw [ei, ← w.1.2.2, nw.2.2.1 q.2.2]; exact Or.inl rfl
  · rw [lb9.1]; exact h.2.2.2.1.1
  · rw [lr9.1]; exact h.2.2.2.1.2.1
  · have l4 := h.2.2.2.1.2.2.1; have l5 := w.2.1.1; rcases w.2.1.2 with q | q <;> omega
  · rw [cap9 la c0.1 c0.2.1 naa]; exact h.2.2.2.1.2.2.2.1
  · rw [cap9 lb c1.1 c1.2.1 nab]; exact h.2.2.2.1.2.2.2.2.1
  · have cp := h.2.2.2.1.2.2.2.2.2
    have l4 := h.2.2.2.1.2.2.1
    have v9 := (v lp (c3.kg9 k).1 (c3.kg9 k).2.1).1
    rcases nw.2.2.2 with a | a | ⟨a, a2⟩
    · rw [a]; exact cp
    · rw [a]; decide
    · unfold LVC at v9; omega
  · rw [lb9.1] at i1
    have b := bk i i0 i1
    have r := G.lbr b.1.1 b.1.2
    have p := G.lbp b.1.1 b.1.2
    rw [lb9.2 i i0 i1, b.2.2.1, b.2.1, cap9 _ r.1 r.2.1 (nbl i i0 i1).1, cap9 _ p.1 p.2.1 (nbl i i0 i1).2]
    exact h.2.2.2.2 i i0 i1
end LMT9D
