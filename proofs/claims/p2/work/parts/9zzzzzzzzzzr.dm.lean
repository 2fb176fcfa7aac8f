section DOM11
variable {P P' Q : PO} {la : Nat} {a b c d u n m : Int} {f g dp idm : Int → Int} {fd : Nat → Option Nat} {L : List Nat} {cO : ClassId}
theorem DPH.next (r : DPH P fd f n m) (w : f m = DPC P fd m n) : DPH P fd f n (m + 1) := fun b b0 b1 => by
  by_cases q : b = m
  · rw [q]; exact w
  · exact r b b0 (by omega)
theorem TBK.lvt {k : Nat} {cl : ClassId} {len lo hi : Int} (h : TBK L P k cl fd n len lo hi) : ∀ x z : Int, 0 ≤ x → x < n → lo ≤ LVT P fd x z ∧ LVT P fd x z ≤ hi := fun x z x0 x1 => by
  obtain ⟨y, e, _, _, r⟩ := h x x0 x1
  rw [LVT.at e]
  exact r z
theorem RCH.rng (cd : CDK L P cO la) (n1 : 1 ≤ P.lz la) (h : RCH P la u b) : 0 ≤ b ∧ b < P.lz la := h (fun b => 0 ≤ b ∧ b < P.lz la) (fun _ => ⟨by omega, by omega⟩) (fun p q s e _ => by
  have bk := (cd.2.2.1 p s.1 s.2).2.2.2.2
  obtain ⟨k, _, _, k2⟩ := e
  have rw9 := rWay_spec (P.bf (P.el la p)) (P.bs (P.el la p)) k
  exact ⟨by omega, by omega⟩)
/-- the tree of dominators -/
def IDT (P : PO) (la : Nat) (g idm : Int → Int) (n : Int) : Prop := ∀ b : Int, 0 < b → b < n → g b ≠ 0 → IDM P la (idm b) b ∧ 0 ≤ idm b ∧ idm b < n
theorem IDQ.idt {k : Nat} {cl : ClassId} {len : Int} (r : IDQ P fd dp g idm n n) (t : DRWE Q P fd la n n) (h : DPH P fd dp n n) (tb : TBK L P k cl fd n len 0 1) (rg : RCX Q la (-1) g n) (cd : CDK L Q cO la) (en : n = Q.lz la) (n1 : 1 ≤ n) : IDT Q la g idm n := fun b b0 b1 w => r.idm t h (fun x z x0 x1 => tb.lvt x z x0 x1) rg (fun c b k => by
  have := RCH.rng cd (by omega) k.1
  omega) b0 b1 w
theorem SMS.idt (h : SMS P P') (k : IDT P' la g idm n) : IDT P la g idm n := h.any (fun Q => IDT Q la g idm n) (fun _ _ _ _ _ _ q => q) k
theorem SMS.drw (h : SMS P P') {R : PO} (k : DRWE P' R fd la n m) : DRWE P R fd la n m := h.any (fun Q => DRWE Q R fd la n m) (fun _ _ _ _ _ _ q => q) k
theorem SMS.cdk (h : SMS P P') (k : CDK L P' cO la) : CDK L P cO la := h.any (fun Q => CDK L Q cO la) (fun _ _ _ _ _ _ q => q) k
theorem SMS.lz (h : SMS P P') (z : Nat) : P'.lz z = P.lz z := congrArg (fun q : Nat → Nat → Int => q 0 z) h.1
end DOM11
