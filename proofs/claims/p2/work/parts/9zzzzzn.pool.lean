/-- what the reference's objects in any number hold, by field and address: numbers, addresses, rows of objects, rows of numbers, classes of rows -/
abbrev PO : Type := (Nat → Nat → Int) × (Nat → Nat → Nat) × (Nat → Nat → Option Nat) × (Nat → Int → Int) × (Nat → ClassId)
/-- the kind of an address: 17 Row, 15 Phi, 12 Block, 30 list, 31 row of objects, 13 String, else a row of numbers -/
def PO.kd (P : PO) (x : Nat) : Nat := P.2.1 0 x
def PO.ro (P : PO) (x : Nat) : Int := P.1 0 x
def PO.rt (P : PO) (x : Nat) : Int := P.1 1 x
def PO.ra (P : PO) (x : Nat) : Int := P.1 2 x
def PO.rb (P : PO) (x : Nat) : Int := P.1 3 x
def PO.rA (P : PO) (x : Nat) : Int := P.1 4 x
def PO.rB (P : PO) (x : Nat) : Int := P.1 5 x
def PO.rg (P : PO) (x : Nat) : Int := P.1 6 x
def PO.pt (P : PO) (x : Nat) : Int := P.1 0 x
def PO.pn (P : PO) (x : Nat) : Int := P.1 1 x
def PO.pg (P : PO) (x : Nat) : Int := P.1 2 x
def PO.pp (P : PO) (x : Nat) : Nat := P.2.1 1 x
def PO.pu (P : PO) (x : Nat) : Nat := P.2.1 2 x
def PO.pr (P : PO) (x : Nat) : Nat := P.2.1 3 x
def PO.bf (P : PO) (x : Nat) : Int := P.1 0 x
def PO.bs (P : PO) (x : Nat) : Int := P.1 1 x
def PO.bp (P : PO) (x : Nat) : Nat := P.2.1 1 x
def PO.br (P : PO) (x : Nat) : Nat := P.2.1 2 x
def PO.be (P : PO) (x : Nat) : Nat := P.2.1 3 x
def PO.lz (P : PO) (x : Nat) : Int := P.1 0 x
def PO.lm (P : PO) (x : Nat) : Int := P.1 1 x
def PO.le (P : PO) (x : Nat) : Nat := P.2.1 1 x
def PO.an (P : PO) (x : Nat) : Nat := P.2.1 1 x
def PO.oa (P : PO) (x : Nat) : Nat → Option Nat := P.2.2.1 x
def PO.ia (P : PO) (x : Nat) : Int → Int := P.2.2.2.1 x
def PO.ac (P : PO) (x : Nat) : ClassId := P.2.2.2.2 x
def rowE (o t a b rA rB g : Int) : va_E := .inr (21, [.int (zI o), .int (zI t), .int (zI a), .int (zI b), .int (zI rA), .int (zI rB), .int (zI g)])
def phiE (t n : Int) (p u r : Nat) (g : Int) : va_E := .inr (20, [.int (zI t), .int (zI n), .ref p, .ref u, .ref r, .int (zI g)])
def blockE (p r e : Nat) (f s : Int) : va_E := .inr (19, [.ref p, .ref r, .ref e, .int (zI f), .int (zI s)])
def listE (m : Int) (e : Nat) (z : Int) : va_E := .inr (18, [.int (zI m), .ref e, .int (zI z)])
def objE (c : ClassId) (n : Nat) (f : Nat → Option Nat) : va_E := .inl (c, n, .inr (.inr (.inr (.inr f))))
def numE (c : ClassId) (n : Nat) (a : Int → Int) : va_E := .inl (c, n, .inl (fun j : Nat => zI (a (j : Int))))
def strE (v : Nat) : va_E := .inr (22, [.ref v, .int 0, .int 0, .int 0])
/-- what is parked: an object that no function has in hand bears another kind, its cell is the same -/
def PKD (k : Nat) : Prop := 1 ≤ k ∧ k ≤ 8
def pK (P : PO) (x : Nat) : va_E :=
  if P.kd x = 7 then rowE (P.ro x) (P.rt x) (P.ra x) (P.rb x) (P.rA x) (P.rB x) (P.rg x)
  else if P.kd x = 5 then phiE (P.pt x) (P.pn x) (P.pp x) (P.pu x) (P.pr x) (P.pg x)
  else if P.kd x = 2 then blockE (P.bp x) (P.br x) (P.be x) (P.bf x) (P.bs x)
  else if P.kd x = 3 then listE (P.lm x) (P.le x) (P.lz x)
  else if P.kd x = 1 then objE (P.ac x) (P.an x) (P.oa x)
  else numE (P.ac x) (P.an x) (P.ia x)
theorem pK_num {P : PO} {x : Nat} (h : 9 ≤ P.kd x) : pK P x = numE (P.ac x) (P.an x) (P.ia x) := by unfold pK; rw [if_neg (by omega), if_neg (by omega), if_neg (by omega), if_neg (by omega), if_neg (by omega)]
def pE (P : PO) (x : Nat) : va_E :=
  if P.kd x = 17 then rowE (P.ro x) (P.rt x) (P.ra x) (P.rb x) (P.rA x) (P.rB x) (P.rg x)
  else if P.kd x = 15 then phiE (P.pt x) (P.pn x) (P.pp x) (P.pu x) (P.pr x) (P.pg x)
  else if P.kd x = 12 then blockE (P.bp x) (P.br x) (P.be x) (P.bf x) (P.bs x)
  else if P.kd x = 30 then listE (P.lm x) (P.le x) (P.lz x)
  else if P.kd x = 31 then objE (P.ac x) (P.an x) (P.oa x)
  else if P.kd x = 13 then strE (P.le x)
  else pK P x
theorem pE_row {P : PO} {x : Nat} (h : P.kd x = 17) : pE P x = rowE (P.ro x) (P.rt x) (P.ra x) (P.rb x) (P.rA x) (P.rB x) (P.rg x) := by unfold pE; rw [if_pos h]
theorem pE_phi {P : PO} {x : Nat} (h : P.kd x = 15) : pE P x = phiE (P.pt x) (P.pn x) (P.pp x) (P.pu x) (P.pr x) (P.pg x) := by unfold pE; rw [if_neg (by omega), if_pos h]
theorem pE_block {P : PO} {x : Nat} (h : P.kd x = 12) : pE P x = blockE (P.bp x) (P.br x) (P.be x) (P.bf x) (P.bs x) := by unfold pE; rw [if_neg (by omega), if_neg (by omega), if_pos h]
theorem pE_list {P : PO} {x : Nat} (h : P.kd x = 30) : pE P x = listE (P.lm x) (P.le x) (P.lz x) := by unfold pE; rw [if_neg (by omega), if_neg (by omega), if_neg (by omega), if_pos h]
theorem pE_obj {P : PO} {x : Nat} (h : P.kd x = 31) : pE P x = objE (P.ac x) (P.an x) (P.oa x) := by unfold pE; rw [if_neg (by omega), if_neg (by omega), if_neg (by omega), if_neg (by omega), if_pos h]
theorem pE_num {P : PO} {x : Nat} (h : P.kd x = 40) : pE P x = numE (P.ac x) (P.an x) (P.ia x) := by unfold pE; rw [if_neg (by omega), if_neg (by omega), if_neg (by omega), if_neg (by omega), if_neg (by omega), if_neg (by omega), pK_num (by omega)]
/-- an address set anew: its kind, numbers, addresses, row of objects, row of numbers, class -/
def PO.at9 (P : PO) (x k : Nat) (i : Nat → Int) (n : Nat → Nat) (o : Nat → Option Nat) (a : Int → Int) (c : ClassId) : PO := (fun f y => if y = x then i f else P.1 f y, fun f y => if y = x then (if f = 0 then k else n f) else P.2.1 f y, fun y => if y = x then o else P.2.2.1 y, fun y => if y = x then a else P.2.2.2.1 y, fun y => if y = x then c else P.2.2.2.2 y)
theorem pE_at9 (P : PO) (x k : Nat) (i : Nat → Int) (n : Nat → Nat) (o : Nat → Option Nat) (a : Int → Int) (c : ClassId) : va_up (pE P) x (pE (P.at9 x k i n o a c) x) = pE (P.at9 x k i n o a c) := by
  funext y
  by_cases e : y = x
  · rw [e, va_up_self]
  · rw [va_up_ne _ _ e]
    simp only [pE, pK, PO.kd, PO.ro, PO.rt, PO.ra, PO.rb, PO.rA, PO.rB, PO.rg, PO.pt, PO.pn, PO.pg, PO.pp, PO.pu, PO.pr, PO.bf, PO.bs, PO.bp, PO.br, PO.be, PO.lz, PO.lm, PO.le, PO.an, PO.oa, PO.ia, PO.ac, PO.at9, if_neg e]
    rfl
theorem at9_kd (P : PO) (x k : Nat) (i : Nat → Int) (n : Nat → Nat) (o : Nat → Option Nat) (a : Int → Int) (c : ClassId) : (P.at9 x k i n o a c).kd x = k := by simp [PO.kd, PO.at9]
/-- a row set anew -/
def PO.row (P : PO) (x : Nat) (o t a b rA rB g : Int) : PO := P.at9 x 17 (fun f => if f = 0 then o else if f = 1 then t else if f = 2 then a else if f = 3 then b else if f = 4 then rA else if f = 5 then rB else g) (fun _ => 0) (fun _ => none) (fun _ => 0) (P.ac x)
theorem pE_setrow (P : PO) (x : Nat) (o t a b rA rB g : Int) : va_up (pE P) x (rowE o t a b rA rB g) = pE (P.row x o t a b rA rB g) := by
  have h := pE_at9 P x 17 (fun f => if f = 0 then o else if f = 1 then t else if f = 2 then a else if f = 3 then b else if f = 4 then rA else if f = 5 then rB else g) (fun _ => 0) (fun _ => none) (fun _ => 0) (P.ac x)
  rw [pE_row (at9_kd _ _ _ _ _ _ _ _)] at h
  have e : rowE ((P.row x o t a b rA rB g).ro x) ((P.row x o t a b rA rB g).rt x) ((P.row x o t a b rA rB g).ra x) ((P.row x o t a b rA rB g).rb x) ((P.row x o t a b rA rB g).rA x) ((P.row x o t a b rA rB g).rB x) ((P.row x o t a b rA rB g).rg x) = rowE o t a b rA rB g := by
    simp [PO.row, PO.at9, PO.ro, PO.rt, PO.ra, PO.rb, PO.rA, PO.rB, PO.rg]
  rw [← e]; exact h
def PO.block (P : PO) (x : Nat) (p r e : Nat) (f s : Int) : PO := P.at9 x 12 (fun k => if k = 0 then f else s) (fun k => if k = 1 then p else if k = 2 then r else e) (fun _ => none) (fun _ => 0) (P.ac x)
theorem pE_setblock (P : PO) (x p r e : Nat) (f s : Int) : va_up (pE P) x (blockE p r e f s) = pE (P.block x p r e f s) := by
  have h := pE_at9 P x 12 (fun k => if k = 0 then f else s) (fun k => if k = 1 then p else if k = 2 then r else e) (fun _ => none) (fun _ => 0) (P.ac x)
  rw [pE_block (at9_kd _ _ _ _ _ _ _ _)] at h
  have q : blockE ((P.block x p r e f s).bp x) ((P.block x p r e f s).br x) ((P.block x p r e f s).be x) ((P.block x p r e f s).bf x) ((P.block x p r e f s).bs x) = blockE p r e f s := by
    simp [PO.block, PO.at9, PO.bp, PO.br, PO.be, PO.bf, PO.bs]
  rw [← q]; exact h
def PO.phi (P : PO) (x : Nat) (t n : Int) (p u r : Nat) (g : Int) : PO := P.at9 x 15 (fun k => if k = 0 then t else if k = 1 then n else g) (fun k => if k = 1 then p else if k = 2 then u else r) (fun _ => none) (fun _ => 0) (P.ac x)
theorem pE_setphi (P : PO) (x : Nat) (t n : Int) (p u r : Nat) (g : Int) : va_up (pE P) x (phiE t n p u r g) = pE (P.phi x t n p u r g) := by
  have h := pE_at9 P x 15 (fun k => if k = 0 then t else if k = 1 then n else g) (fun k => if k = 1 then p else if k = 2 then u else r) (fun _ => none) (fun _ => 0) (P.ac x)
  rw [pE_phi (at9_kd _ _ _ _ _ _ _ _)] at h
  have q : phiE ((P.phi x t n p u r g).pt x) ((P.phi x t n p u r g).pn x) ((P.phi x t n p u r g).pp x) ((P.phi x t n p u r g).pu x) ((P.phi x t n p u r g).pr x) ((P.phi x t n p u r g).pg x) = phiE t n p u r g := by
    simp [PO.phi, PO.at9, PO.pt, PO.pn, PO.pp, PO.pu, PO.pr, PO.pg]
  rw [← q]; exact h
def PO.list (P : PO) (x : Nat) (m : Int) (e : Nat) (z : Int) : PO := P.at9 x 30 (fun k => if k = 0 then z else m) (fun _ => e) (fun _ => none) (fun _ => 0) (P.ac x)
theorem pE_setlist (P : PO) (x : Nat) (m : Int) (e : Nat) (z : Int) : va_up (pE P) x (listE m e z) = pE (P.list x m e z) := by
  have h := pE_at9 P x 30 (fun k => if k = 0 then z else m) (fun _ => e) (fun _ => none) (fun _ => 0) (P.ac x)
  rw [pE_list (at9_kd _ _ _ _ _ _ _ _)] at h
  have q : listE ((P.list x m e z).lm x) ((P.list x m e z).le x) ((P.list x m e z).lz x) = listE m e z := by
    simp [PO.list, PO.at9, PO.lm, PO.le, PO.lz]
  rw [← q]; exact h
def PO.objs (P : PO) (x : Nat) (c : ClassId) (n : Nat) (f : Nat → Option Nat) : PO := P.at9 x 31 (fun _ => 0) (fun _ => n) f (fun _ => 0) c
theorem pE_setobjs (P : PO) (x : Nat) (c : ClassId) (n : Nat) (f : Nat → Option Nat) : va_up (pE P) x (objE c n f) = pE (P.objs x c n f) := by
  have h := pE_at9 P x 31 (fun _ => 0) (fun _ => n) f (fun _ => 0) c
  rw [pE_obj (at9_kd _ _ _ _ _ _ _ _)] at h
  have q : objE ((P.objs x c n f).ac x) ((P.objs x c n f).an x) ((P.objs x c n f).oa x) = objE c n f := by
    simp [PO.objs, PO.at9, PO.ac, PO.an, PO.oa]
  rw [← q]; exact h
def PO.nums (P : PO) (x : Nat) (c : ClassId) (n : Nat) (a : Int → Int) : PO := P.at9 x 40 (fun _ => 0) (fun _ => n) (fun _ => none) a c
theorem pE_setnums (P : PO) (x : Nat) (c : ClassId) (n : Nat) (a : Int → Int) : va_up (pE P) x (numE c n a) = pE (P.nums x c n a) := by
  have h := pE_at9 P x 40 (fun _ => 0) (fun _ => n) (fun _ => none) a c
  rw [pE_num (at9_kd _ _ _ _ _ _ _ _)] at h
  have q : numE ((P.nums x c n a).ac x) ((P.nums x c n a).an x) ((P.nums x c n a).ia x) = numE c n a := by
    simp [PO.nums, PO.at9, PO.ac, PO.an, PO.ia]
  rw [← q]; exact h
/-- taken out of the pool -/
theorem pool_out {D : va_G} {cl : List vw_C} {A : Nat → Prop} {X : va_W} {L : List Nat} {P : PO} {H : Heap} {x : Nat} {e : va_E} (hx : x ∈ L) (he : pE P x = e) (hP : va_P D cl (X ++ va_pl L (pE P)) H) (hD : va_D A (X ++ va_pl L (pE P))) : va_P D cl ((X ++ [(x, e)]) ++ va_pl (L.erase x) (pE P)) H ∧ va_D A ((X ++ [(x, e)]) ++ va_pl (L.erase x) (pE P)) := by
  subst he
  exact ⟨pl_Pp (pl_out hx) hP, pl_Dp (pl_out hx) hD⟩
/-- put back: the pool's list is as before -/
theorem pool_in {D : va_G} {cl : List vw_C} {A : Nat → Prop} {X : va_W} {L : List Nat} {P P' : PO} {H : Heap} {x : Nat} {e : va_E} (hx : x ∈ L) (he : va_up (pE P) x e = pE P') (hP : va_P D cl ((X ++ [(x, e)]) ++ va_pl (L.erase x) (pE P)) H) (hD : va_D A ((X ++ [(x, e)]) ++ va_pl (L.erase x) (pE P))) : va_P D cl (X ++ va_pl L (pE P')) H ∧ va_D A (X ++ va_pl L (pE P')) := by
  have p1 := pl_in hD
  rw [he] at p1
  have p2 : (X ++ va_pl (x :: L.erase x) (pE P')).Perm (X ++ va_pl L (pE P')) := List.Perm.append_left X ((List.perm_cons_erase hx).symm.map _)
  exact ⟨pl_Pp (p1.trans p2) hP, pl_Dp (p1.trans p2) hD⟩
/-- a new cell joins it -/
theorem pool_new {D : va_G} {cl : List vw_C} {A : Nat → Prop} {X : va_W} {L : List Nat} {P P' : PO} {H : Heap} {x : Nat} {e : va_E} (he : va_up (pE P) x e = pE P') (hP : va_P D cl ((X ++ [(x, e)]) ++ va_pl L (pE P)) H) (hD : va_D A ((X ++ [(x, e)]) ++ va_pl L (pE P))) : va_P D cl (X ++ va_pl (x :: L) (pE P')) H ∧ va_D A (X ++ va_pl (x :: L) (pE P')) := by
  have p1 := pl_in hD
  rw [he] at p1
  exact ⟨pl_Pp p1 hP, pl_Dp p1 hD⟩
