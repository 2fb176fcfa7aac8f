/-! a throw that a row of the method's own table takes; rows ahead of it may be passed; the links of the rows cold or warm -/
section VYA
variable {p : Program} {l : Launch} {e : Env} {R : Room} {s : State} {m : MethodId} {args : Array Value} {below : List Frame} {meth : Method} {c : Code} {T : State} {locs : List Loc} {cells slots : Nat}
/-- a row of a table that lets an object of the kind k pass -/
def vy_Pass (e : Env) (s : State) (d : ClassId) (pc : Nat) (k : ClassId) (z : ExceptionTableEntry) : Prop := covers z pc = false ∨ (z.catchType ≠ 0 ∧ ∃ t, s.vm.ClassLinks e.platform d z.catchType t ∧ s.vm.assignable k t = false)
/-- a row that takes it -/
def vy_Take (e : Env) (s : State) (d : ClassId) (k : ClassId) (z : ExceptionTableEntry) : Prop := z.catchType = 0 ∨ (z.catchType ≠ 0 ∧ ∃ t, s.vm.ClassLinks e.platform d z.catchType t ∧ s.vm.assignable k t = true)
/-- one row that covers the place and names a kind: taken or passed, the row's link noted -/
theorem vy_row {Q : Handler → Pre} {E : CtlPost} {d : Bool} {acts : List Action} {S : State} {f : JFrame} {a : Addr} {x : ExceptionTableEntry} {t : List ExceptionTableEntry} {ct : ClassId} {cell : Cell} (b : Bool)
    (hx : covers x f.pc = true) (h0 : x.catchType ≠ 0) (hl : S.vm.ClassLinks e.platform f.method.cls x.catchType ct) (hcell : S.heap[a]? = some cell) (hobj : ∀ k, cell.vm ≠ .statics k)
    (hk : ∃ k, S.vm.classes[cell.cls]? = some k) (hc : ∃ k, S.vm.classes[ct]? = some k) (hb : S.vm.assignable cell.cls ct = b) :
    wp (findHandler.go f a (x :: t)) Q E e d acts S ↔ (if b = true then Q (.found x.handlerPc) d acts (S.setVm (S.vm.noted f.method.cls x.catchType (.cls ct))) else wp (findHandler.go f a t) Q E e d acts (S.setVm (S.vm.noted f.method.cls x.catchType (.cls ct)))) := by
  simp only [covers] at hx
  obtain ⟨ha, ht⟩ := (resolveClass_links e.toSetting hl).op (op := VmOp.resolveClass f.method.cls x.catchType) rfl
  have hal : S.vm.Alike (S.vm.noted f.method.cls x.catchType (.cls ct)) := (Vm.Alike.refl S.vm).noted _ _ _
  obtain ⟨k1, hk1⟩ := hk
  obtain ⟨k2, hk2⟩ := hc
  obtain ⟨k3, hk3, -⟩ := hal.2.2 _ _ hk1
  obtain ⟨k4, hk4, -⟩ := hal.2.2 _ _ hk2
  have hb' : (S.vm.noted f.method.cls x.catchType (.cls ct)).assignable cell.cls ct = b := by rw [hal.assignable]; exact hb
  cases b <;> simp [findHandler.go, hx, h0, ha, ht, hcell, hobj, hk3, hk4, hb', VmOp.dirties, VmOp.acts]
/-- the search comes to the row x -/
theorem vy_search {f : JFrame} {a : Addr} {cell : Cell} (hobj : ∀ k, cell.vm ≠ .statics k) (hk0 : ∃ k, s.vm.classes[cell.cls]? = some k) (x : ExceptionTableEntry) (suf : List ExceptionTableEntry) (hx : covers x f.pc = true)
    (hend : vy_Take e s f.method.cls cell.cls x) : ∀ (pre : List ExceptionTableEntry) (S : State), s.WarmedH S.vm → S.heap[a]? = some cell → (∀ z ∈ pre, vy_Pass e s f.method.cls f.pc cell.cls z) →
      ∃ v, s.WarmedH v ∧ ∀ (Q : Handler → Pre) (E : CtlPost) (d : Bool) (acts : List Action), wp (findHandler.go f a (pre ++ x :: suf)) Q E e d acts S ↔ Q (.found x.handlerPc) d acts (S.setVm v) := by
  obtain ⟨k0, hk0⟩ := hk0
  intro pre
  induction pre with
  | nil =>
    intro S hW hcell _
    rcases hend with h0 | ⟨h0, ct, hl, hfit⟩
    · exact ⟨S.vm, hW, fun Q E d acts => by rw [List.nil_append, W.findHandler_go_any hx h0, State.setVm_self]⟩
    · obtain ⟨k1, hk1, -⟩ := hW.alike.2.2 _ _ hk0
      obtain ⟨dk, _, _, kt, hd, _, _, _, _, hkt, _, hopen⟩ := hl.here
      obtain ⟨k2, hk2, -⟩ := hW.alike.2.2 _ _ hkt
      refine ⟨_, hW.noted hd hopen (State.rightAt_cls hl), fun Q E d acts => ?_⟩
      rw [List.nil_append, vy_row true hx h0 (hW.classLinks hl) hcell hobj ⟨k1, hk1⟩ ⟨k2, hk2⟩ (by rw [hW.alike.assignable]; exact hfit), if_pos rfl]
  | cons z zs ih =>
    intro S hW hcell hp
    have hzs : ∀ y ∈ zs, vy_Pass e s f.method.cls f.pc cell.cls y := fun y hy => hp y (List.mem_cons_of_mem _ hy)
    by_cases hcov : covers z f.pc = true
    · rcases hp z List.mem_cons_self with h | ⟨h0, ct, hl, hno⟩
      · rw [h] at hcov; cases hcov
      · obtain ⟨k1, hk1, -⟩ := hW.alike.2.2 _ _ hk0
        obtain ⟨dk, _, _, kt, hd, _, _, _, _, hkt, _, hopen⟩ := hl.here
        obtain ⟨k2, hk2, -⟩ := hW.alike.2.2 _ _ hkt
        obtain ⟨v, hv, hq⟩ := ih (S.setVm (S.vm.noted f.method.cls z.catchType (.cls ct))) (hW.noted hd hopen (State.rightAt_cls hl)) hcell hzs
        refine ⟨v, hv, fun Q E d acts => ?_⟩
        rw [List.cons_append, vy_row false hcov h0 (hW.classLinks hl) hcell hobj ⟨k1, hk1⟩ ⟨k2, hk2⟩ (by rw [hW.alike.assignable]; exact hno), if_neg (by decide)]
        exact hq Q E d acts
    · obtain ⟨v, hv, hq⟩ := ih S hW hcell hzs
      refine ⟨v, hv, fun Q E d acts => ?_⟩
      rw [List.cons_append, W.findHandler_go_skip (by simpa using hcov)]
      exact hq Q E d acts
/-- from the note over the frame to the handler -/
theorem vy_caught (X : Stand p l e R s m args below meth c T locs cells slots) (q : Addr) {g : JFrame} (hg : g.method = m) {cell : Cell} (hcell : T.heap[q]? = some cell) (hobj : cell.vm.isStatics = false) (hk0 : ∃ k, s.vm.classes[cell.cls]? = some k)
    (pre : List ExceptionTableEntry) (x : ExceptionTableEntry) (suf : List ExceptionTableEntry) (hsplit : c.exceptionTable.toList = pre ++ x :: suf)
    (hpass : ∀ z ∈ pre, vy_Pass e s m.cls g.pc cell.cls z) (hx : covers x g.pc = true) (hend : vy_Take e s m.cls cell.cls x) :
    ∃ v, Stand p l e R s m args below meth c (T.setVm v) locs cells slots ∧ Steps p.tables e below ((T.setTop g).pushFrame (.throwing q)) ((T.setVm v).setTop { g with pc := x.handlerPc, stack := [.ref q] }) := by
  subst hg
  obtain ⟨v, hv, hq⟩ := vy_search (e := e) (s := s) (f := g) (a := q) (VmData.ne_statics_of hobj) hk0 x suf hx hend pre ((T.setTop g).pushFrame (.throwing q)) X.warmed hcell hpass
  refine ⟨v, X.noted hv, ?_⟩
  obtain ⟨hgo, hw⟩ := X.here.throwing (g := g) q
  refine Steps.head hgo hw ?_
  have hstep : (stepThrowing e ((T.setTop g).pushFrame (.throwing q)) q (.java g :: T.frames.tail)).1 = (((T.setTop g).pushFrame (.throwing q)).setVm v).setFrames (.java { g with pc := x.handlerPc, stack := [.ref q] } :: T.frames.tail) := by
    simp only [stepThrowing, searchFrame, vmDo]
    generalize hr : Sem.go _ e false [] ((T.setTop g).pushFrame (.throwing q)) = res
    obtain ⟨as, rfl, ha⟩ := Sem.eq_ok_of hr (a := Handler.found x.handlerPc) (s' := ((T.setTop g).pushFrame (.throwing q)).setVm v) (acts' := []) (by
      have h9 := fun (Q : Handler → Pre) (E : CtlPost) (d : Bool) (acts : List Action) => (W.findHandler_eq (Q := Q) (E := E) (e := e) (d := d) (acts := acts) (a := q) (s := (T.setTop g).pushFrame (.throwing q)) (f := g) (meth := meth) (code := c) X.method' X.code)
      simp [h9, hsplit, hq])
    rfl
  rw [stepThread_throwing (frames_entered X.here.top _), hstep]
  obtain ⟨g₀, h0⟩ := Option.isSome_iff_exists.mp X.here.top
  obtain ⟨r, hr⟩ := State.topJava?_eq_some.mp h0
  have hr' : (T.setVm v).frames = .java g₀ :: r := hr
  have e1 : (((T.setTop g).pushFrame (.throwing q)).setVm v).setFrames (.java { g with pc := x.handlerPc, stack := [.ref q] } :: T.frames.tail) = (T.setVm v).setTop { g with pc := x.handlerPc, stack := [.ref q] } := by
    have c1 : ∀ (u : State) (F G : List Frame), ((u.setFrames F).setVm v).setFrames G = (u.setVm v).setFrames G := fun u F G => by
      rw [show (u.setFrames F).setVm v = (u.setVm v).setFrames F from rfl, State.setFrames_setFrames]
    rw [State.setTop_of_frames _ hr', hr, List.tail_cons, State.pushFrame, State.setTop_of_frames _ hr, c1, c1]
  rw [e1]
  exact Steps.refl _
end VYA
